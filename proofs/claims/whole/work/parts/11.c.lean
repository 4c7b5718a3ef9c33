def f_X8_empty (t_length : Int32) : Option (Int32) := some 0
theorem k_X8_empty : KV yX8_empty cX8_empty 1 none 0 := ⟨qc_yX8_empty, q4, ⟨by decide +kernel, by decide +kernel, by decide +kernel⟩, qi_yX8_empty, qs_yX8_empty⟩
abbrev RM_X8_empty : Room := { frames := 0, cells := 0, slots := 0, locals := 0 }
set_option maxHeartbeats 4000000 in
set_option maxRecDepth 100000 in
theorem c_X8_empty (l : Launch) (G : GP) (a_t : Nat) (a_t_codes : Nat) (t_length : Int32) (a_t_syntax : Nat) (w_t_length : Int32) (hf : f_X8_empty t_length = some w_t_length) : WM l yX8_empty cX8_empty 1 none 0 0 G [.ref a_t] [(a_t, .inr (4, [.ref a_t_codes, .int t_length, .ref a_t_syntax]))] none [(a_t, .inr (4, [.ref a_t_codes, .int w_t_length, .ref a_t_syntax]))] := by
  refine WM.ofW (C := RX8) (by decide) rfl (Nat.le_of_ble_eq_true rfl) ?_
  intro p e s m below meth c A hF hr hlk hG hA hP hD ls hl
  have hl : lv_has ls 1 [(0, .ref a_t)] := hl
  have hx := hF.1
  have hb := hF.2.1
  have hml := hF.2.2.1
  have hown := hF.2.2.2.1
  have hts := hF.2.2.2.2
  have hS : va_S A s.heap s.heap [] := va_S.rf
  unfold f_X8_empty at hf
  refine lv_aload_n hx hb dX8_empty_0 rfl (lv_at hl 0 rfl) ?_
  refine lv_iconst (v := 0) hx hb dX8_empty_1 (by decide) ?_
  refine pf (C := RX8) (T := TX8) (N := 3) (ci := 4) (v := .int 0) (ty := .int) hF hG hP hD hS inX8 tyX8 tyX8_ok nmX8 0 rfl rfl 1 (by decide) q146 rfl rfl (by decide +kernel) rfl rfl (Nat.le_of_ble_eq_true rfl) dX8_empty_2 (fun H locs hP hD hS => ?_)
  replace hP : va_P G.1 vwCl [(a_t, .inr (4, [.ref a_t_codes, .int 0, .ref a_t_syntax]))] H := hP
  replace hD : va_D A [(a_t, .inr (4, [.ref a_t_codes, .int 0, .ref a_t_syntax]))] := hD
  have hf : (some 0 : Option (Int32)) = some w_t_length := hf
  cases hf
  exact we_v hF hr hlk hP hD hS dX8_empty_5 rfl
def f_X11_clearBuffer (t_text_length : Int32) : Option (Int32 × Int32) := bd1 (f_X8_empty t_text_length) (fun (t_text_length_1 : Int32) => some (t_text_length, t_text_length_1))
theorem k_X11_clearBuffer : KV yX11_clearBuffer cX11_clearBuffer 2 (some .int) 0 := ⟨qc_yX11_clearBuffer, q1, ⟨by decide +kernel, by decide +kernel, by decide +kernel⟩, qi_yX11_clearBuffer, qs_yX11_clearBuffer⟩
abbrev RM_X11_clearBuffer : Room := { frames := 1, cells := 0, slots := 0, locals := 20 }
set_option maxHeartbeats 4000000 in
set_option maxRecDepth 100000 in
theorem c_X11_clearBuffer (l : Launch) (G : GP) (a_t : Nat) (a_t_now : Nat) (a_t_trial : Nat) (a_t_snapshot : Nat) (t_snapshotTaken : Int32) (a_t_history : Nat) (a_t_works : Nat) (a_t_highs : Nat) (a_t_trade : Nat) (a_t_text : Nat) (a_t_text_codes : Nat) (t_text_length : Int32) (a_t_text_syntax : Nat) (rr : Int32) (w_t_text_length : Int32) (hf : f_X11_clearBuffer t_text_length = some (rr, w_t_text_length)) : WM l yX11_clearBuffer cX11_clearBuffer 2 (some .int) 1 20 G [.ref a_t] [(a_t, .inr (7, [.ref a_t_now, .ref a_t_trial, .ref a_t_snapshot, .int t_snapshotTaken, .ref a_t_history, .ref a_t_text, .ref a_t_works, .ref a_t_highs, .ref a_t_trade])), (a_t_text, .inr (4, [.ref a_t_text_codes, .int t_text_length, .ref a_t_text_syntax]))] (some (.int rr)) [(a_t, .inr (7, [.ref a_t_now, .ref a_t_trial, .ref a_t_snapshot, .int t_snapshotTaken, .ref a_t_history, .ref a_t_text, .ref a_t_works, .ref a_t_highs, .ref a_t_trade])), (a_t_text, .inr (4, [.ref a_t_text_codes, .int w_t_text_length, .ref a_t_text_syntax]))] := by
  refine WM.ofW (C := RX11) (by decide) rfl (Nat.le_of_ble_eq_true rfl) ?_
  intro p e s m below meth c A hF hr hlk hG hA hP hD ls hl
  have hl : lv_has ls 2 [(0, .ref a_t)] := hl
  have hx := hF.1
  have hb := hF.2.1
  have hml := hF.2.2.1
  have hown := hF.2.2.2.1
  have hts := hF.2.2.2.2
  have hS : va_S A s.heap s.heap [] := va_S.rf
  unfold f_X11_clearBuffer at hf
  refine lv_aload_n hx hb dX11_clearBuffer_0 rfl (lv_at hl 0 rfl) ?_
  refine gf (C := RX11) (T := TX11) (N := 9) (ci := 7) (v := .ref a_t_text) hF hG hP inX11 0 rfl rfl 5 (by decide) q209 rfl rfl dX11_clearBuffer_1 ?_
  refine gfN (C := RX8) (T := TX8) (N := 3) (ci := 4) (v := .int t_text_length) hF hG hP inX8 1 rfl rfl 1 (by decide) n148 rfl rfl dX11_clearBuffer_4 ?_
  refine lv_istore_n (lv' := [(1, .int t_text_length), (0, .ref a_t)]) hx hb dX11_clearBuffer_7 rfl hl (by decide) rfl (fun ls hl => ?_)
  refine lv_aload_n hx hb dX11_clearBuffer_8 rfl (lv_at hl 1 rfl) ?_
  refine gf (C := RX11) (T := TX11) (N := 9) (ci := 7) (v := .ref a_t_text) hF hG hP inX11 0 rfl rfl 5 (by decide) q209 rfl rfl dX11_clearBuffer_9 ?_
  obtain ⟨t_text_length_1, hq, hf⟩ := bd1_some hf
  refine wrVN (As := []) (rest := []) (wn := [(a_t, .inr (7, [.ref a_t_now, .ref a_t_trial, .ref a_t_snapshot, .int t_snapshotTaken, .ref a_t_history, .ref a_t_text, .ref a_t_works, .ref a_t_highs, .ref a_t_trade])), (a_t_text, .inr (4, [.ref a_t_text_codes, .int t_text_length_1, .ref a_t_text_syntax]))]) hF hG hP hD hS hA hl.1 (c_X8_empty l G a_t_text a_t_text_codes t_text_length a_t_text_syntax t_text_length_1 hq) k_X8_empty n281 [1] [0] [0, 1] rfl rfl rfl rfl ⟨rfl, rfl⟩ (by decide) ⟨1, 4, _, _, rfl, rfl, rfl⟩ rfl rfl (Nat.le_of_ble_eq_true rfl) ⟨(Nat.le_of_ble_eq_true rfl), (Nat.le_of_ble_eq_true rfl)⟩ ⟨(Nat.le_of_ble_eq_true rfl), (Nat.le_of_ble_eq_true rfl)⟩ dX11_clearBuffer_12 (fun H locs hP hD hS => ?_)
  refine lv_iload_n hx hb dX11_clearBuffer_15 rfl (lv_at hl 0 rfl) ?_
  have hf : (some (t_text_length, t_text_length_1) : Option (Int32 × Int32)) = some (rr, w_t_text_length) := hf
  cases hf
  exact we_i hF hr hlk hP hD hS dX11_clearBuffer_16 rfl
def f_X7_startNumber (t_field : Int32) (t_digits : Int32) (t_value : Int32) (x1 : Int32) : Option (Int32 × Int32 × Int32) := some (x1, 0, 0)
theorem k_X7_startNumber : KV yX7_startNumber cX7_startNumber 2 none 1 := ⟨qc_yX7_startNumber, q5, ⟨by decide +kernel, by decide +kernel, by decide +kernel⟩, qi_yX7_startNumber, qs_yX7_startNumber⟩
abbrev RM_X7_startNumber : Room := { frames := 0, cells := 0, slots := 0, locals := 0 }
set_option maxHeartbeats 4000000 in
set_option maxRecDepth 100000 in
theorem c_X7_startNumber (l : Launch) (G : GP) (a_t : Nat) (t_letter : Int32) (t_field : Int32) (t_digits : Int32) (t_value : Int32) (x1 : Int32) (w_t_field : Int32) (w_t_digits : Int32) (w_t_value : Int32) (hf : f_X7_startNumber t_field t_digits t_value x1 = some (w_t_field, w_t_digits, w_t_value)) : WM l yX7_startNumber cX7_startNumber 2 none 0 0 G [.ref a_t, .int x1] [(a_t, .inr (3, [.int t_letter, .int t_field, .int t_digits, .int t_value]))] none [(a_t, .inr (3, [.int t_letter, .int w_t_field, .int w_t_digits, .int w_t_value]))] := by
  refine WM.ofW (C := RX7) (by decide) rfl (Nat.le_of_ble_eq_true rfl) ?_
  intro p e s m below meth c A hF hr hlk hG hA hP hD ls hl
  have hl : lv_has ls 2 [(0, .ref a_t), (1, .int x1)] := hl
  have hx := hF.1
  have hb := hF.2.1
  have hml := hF.2.2.1
  have hown := hF.2.2.2.1
  have hts := hF.2.2.2.2
  have hS : va_S A s.heap s.heap [] := va_S.rf
  unfold f_X7_startNumber at hf
  refine lv_aload_n hx hb dX7_startNumber_0 rfl (lv_at hl 0 rfl) ?_
  refine lv_iload_n hx hb dX7_startNumber_1 rfl (lv_at hl 1 rfl) ?_
  refine pf (C := RX7) (T := TX7) (N := 4) (ci := 3) (v := .int x1) (ty := .int) hF hG hP hD hS inX7 tyX7 tyX7_ok nmX7 0 rfl rfl 1 (by decide) q133 rfl rfl (by decide +kernel) rfl rfl (Nat.le_of_ble_eq_true rfl) dX7_startNumber_2 (fun H locs hP hD hS => ?_)
  replace hP : va_P G.1 vwCl [(a_t, .inr (3, [.int t_letter, .int x1, .int t_digits, .int t_value]))] H := hP
  replace hD : va_D A [(a_t, .inr (3, [.int t_letter, .int x1, .int t_digits, .int t_value]))] := hD
  refine lv_aload_n hx hb dX7_startNumber_5 rfl (lv_at hl 0 rfl) ?_
  refine lv_iconst (v := 0) hx hb dX7_startNumber_6 (by decide) ?_
  refine pf (C := RX7) (T := TX7) (N := 4) (ci := 3) (v := .int 0) (ty := .int) hF hG hP hD hS inX7 tyX7 tyX7_ok nmX7 0 rfl rfl 2 (by decide) q134 rfl rfl (by decide +kernel) rfl rfl (Nat.le_of_ble_eq_true rfl) dX7_startNumber_7 (fun H locs hP hD hS => ?_)
  replace hP : va_P G.1 vwCl [(a_t, .inr (3, [.int t_letter, .int x1, .int 0, .int t_value]))] H := hP
  replace hD : va_D A [(a_t, .inr (3, [.int t_letter, .int x1, .int 0, .int t_value]))] := hD
  refine lv_aload_n hx hb dX7_startNumber_10 rfl (lv_at hl 0 rfl) ?_
  refine lv_iconst (v := 0) hx hb dX7_startNumber_11 (by decide) ?_
  refine pf (C := RX7) (T := TX7) (N := 4) (ci := 3) (v := .int 0) (ty := .int) hF hG hP hD hS inX7 tyX7 tyX7_ok nmX7 0 rfl rfl 3 (by decide) q135 rfl rfl (by decide +kernel) rfl rfl (Nat.le_of_ble_eq_true rfl) dX7_startNumber_12 (fun H locs hP hD hS => ?_)
  replace hP : va_P G.1 vwCl [(a_t, .inr (3, [.int t_letter, .int x1, .int 0, .int 0]))] H := hP
  replace hD : va_D A [(a_t, .inr (3, [.int t_letter, .int x1, .int 0, .int 0]))] := hD
  have hf : (some (x1, 0, 0) : Option (Int32 × Int32 × Int32)) = some (w_t_field, w_t_digits, w_t_value) := hf
  cases hf
  exact we_v hF hr hlk hP hD hS dX7_startNumber_15 rfl
def f_X7_start (t_letter : Int32) (t_field : Int32) (t_digits : Int32) (t_value : Int32) : Option (Int32 × Int32 × Int32 × Int32) := bd3 (f_X7_startNumber t_field t_digits t_value 0) (fun (t_field_1 : Int32) (t_digits_2 : Int32) (t_value_3 : Int32) => some (0, t_field_1, t_digits_2, t_value_3))
theorem k_X7_start : KV yX7_start cX7_start 1 none 0 := ⟨qc_yX7_start, q5, ⟨by decide +kernel, by decide +kernel, by decide +kernel⟩, qi_yX7_start, qs_yX7_start⟩
abbrev RM_X7_start : Room := { frames := 1, cells := 0, slots := 0, locals := 21 }
set_option maxHeartbeats 4000000 in
set_option maxRecDepth 100000 in
theorem c_X7_start (l : Launch) (G : GP) (a_t : Nat) (t_letter : Int32) (t_field : Int32) (t_digits : Int32) (t_value : Int32) (w_t_letter : Int32) (w_t_field : Int32) (w_t_digits : Int32) (w_t_value : Int32) (hf : f_X7_start t_letter t_field t_digits t_value = some (w_t_letter, w_t_field, w_t_digits, w_t_value)) : WM l yX7_start cX7_start 1 none 1 21 G [.ref a_t] [(a_t, .inr (3, [.int t_letter, .int t_field, .int t_digits, .int t_value]))] none [(a_t, .inr (3, [.int w_t_letter, .int w_t_field, .int w_t_digits, .int w_t_value]))] := by
  refine WM.ofW (C := RX7) (by decide) rfl (Nat.le_of_ble_eq_true rfl) ?_
  intro p e s m below meth c A hF hr hlk hG hA hP hD ls hl
  have hl : lv_has ls 1 [(0, .ref a_t)] := hl
  have hx := hF.1
  have hb := hF.2.1
  have hml := hF.2.2.1
  have hown := hF.2.2.2.1
  have hts := hF.2.2.2.2
  have hS : va_S A s.heap s.heap [] := va_S.rf
  unfold f_X7_start at hf
  refine lv_aload_n hx hb dX7_start_0 rfl (lv_at hl 0 rfl) ?_
  refine lv_iconst (v := 0) hx hb dX7_start_1 (by decide) ?_
  refine pf (C := RX7) (T := TX7) (N := 4) (ci := 3) (v := .int 0) (ty := .int) hF hG hP hD hS inX7 tyX7 tyX7_ok nmX7 0 rfl rfl 0 (by decide) q132 rfl rfl (by decide +kernel) rfl rfl (Nat.le_of_ble_eq_true rfl) dX7_start_2 (fun H locs hP hD hS => ?_)
  replace hP : va_P G.1 vwCl [(a_t, .inr (3, [.int 0, .int t_field, .int t_digits, .int t_value]))] H := hP
  replace hD : va_D A [(a_t, .inr (3, [.int 0, .int t_field, .int t_digits, .int t_value]))] := hD
  refine lv_aload_n hx hb dX7_start_5 rfl (lv_at hl 0 rfl) ?_
  refine lv_iconst (v := 0) hx hb dX7_start_6 (by decide) ?_
  obtain ⟨t_field_1, t_digits_2, t_value_3, hq, hf⟩ := bd3_some hf
  refine wrV (As := [.int 0]) (rest := []) (wn := [(a_t, .inr (3, [.int 0, .int t_field_1, .int t_digits_2, .int t_value_3]))]) hF hG hP hD hS hA hl.1 (c_X7_startNumber l G a_t 0 t_field t_digits t_value 0 t_field_1 t_digits_2 t_value_3 hq) k_X7_startNumber q297 [0] [] [0] rfl rfl rfl rfl ⟨rfl, rfl⟩ (by decide) ⟨0, 3, _, _, rfl, rfl, rfl⟩ rfl rfl (Nat.le_of_ble_eq_true rfl) ⟨(Nat.le_of_ble_eq_true rfl), (Nat.le_of_ble_eq_true rfl)⟩ ⟨(Nat.le_of_ble_eq_true rfl), (Nat.le_of_ble_eq_true rfl)⟩ dX7_start_7 (fun H locs hP hD hS => ?_)
  have hf : (some (0, t_field_1, t_digits_2, t_value_3) : Option (Int32 × Int32 × Int32 × Int32)) = some (w_t_letter, w_t_field, w_t_digits, w_t_value) := hf
  cases hf
  exact we_v hF hr hlk hP hD hS dX7_start_10 rfl
def f_X8_codeAt (t_codes : Nat → Int32) (x1 : Int32) : Option (Int32) := (if x1 < 0 then some 0 else (if 60 ≤ x1 then some 0 else gd (¬ (x1 < 0 ∨ 60 ≤ Int32.toNatClampNeg x1)) (some (t_codes (Int32.toNatClampNeg x1)))))
theorem k_X8_codeAt : KV yX8_codeAt cX8_codeAt 2 (some .int) 1 := ⟨qc_yX8_codeAt, q4, ⟨by decide +kernel, by decide +kernel, by decide +kernel⟩, qi_yX8_codeAt, qs_yX8_codeAt⟩
abbrev RM_X8_codeAt : Room := { frames := 0, cells := 0, slots := 0, locals := 0 }
set_option maxHeartbeats 4000000 in
set_option maxRecDepth 100000 in
theorem c_X8_codeAt (l : Launch) (G : GP) (a_t : Nat) (t_length : Int32) (a_t_syntax : Nat) (a_t_codes : Nat) (t_codes : Nat → Int32) (x1 : Int32) (rr : Int32) (hf : f_X8_codeAt t_codes x1 = some rr) : RM l yX8_codeAt cX8_codeAt 2 (some .int) 0 0 G [.ref a_t, .int x1] [(a_t, .inr (4, [.ref a_t_codes, .int t_length, .ref a_t_syntax])), (a_t_codes, .inl (G.2.1, 60, .inl t_codes))] (some (.int rr)) := by
  refine RM.ofW (C := RX8) (by decide) rfl (Nat.le_of_ble_eq_true rfl) ?_
  intro p e s m below meth c hF hr hlk hG hP ls hl
  have hl : lv_has ls 2 [(0, .ref a_t), (1, .int x1)] := hl
  have hx := hF.1
  have hb := hF.2.1
  have hml := hF.2.2.1
  have hown := hF.2.2.2.1
  have hts := hF.2.2.2.2
  unfold f_X8_codeAt at hf
  refine lv_iload_n hx hb dX8_codeAt_0 rfl (lv_at hl 1 rfl) ?_
  refine lv_if_lt (tgt := 22) hx hb dX8_codeAt_1 (by decide) (fun c0 => ?_) (fun c0 => ?_)
  · have hf := (if_pos c0).symm.trans hf
    refine lv_iconst (v := 0) hx hb dX8_codeAt_22 (by decide) ?_
    have hf : (some 0 : Option (Int32)) = some rr := hf
    cases hf
    exact re_i hF hr hlk dX8_codeAt_23 rfl
  · have hf := (if_neg c0).symm.trans hf
    refine lv_iload_n hx hb dX8_codeAt_4 rfl (lv_at hl 1 rfl) ?_
    refine lv_aload_n hx hb dX8_codeAt_5 rfl (lv_at hl 0 rfl) ?_
    refine gf (C := RX8) (T := TX8) (N := 3) (ci := 4) (v := .ref a_t_codes) hF hG hP inX8 0 rfl rfl 0 (by decide) q145 rfl rfl dX8_codeAt_6 ?_
    refine va_alen (v := 60) hx hb hG.1 hP 1 0 rfl rfl rfl dX8_codeAt_9 ?_
    refine lv_icmp_ge (tgt := 22) hx hb dX8_codeAt_10 (by decide) (fun c0 => ?_) (fun c0 => ?_)
    · have hf := (if_pos c0).symm.trans hf
      refine lv_iconst (v := 0) hx hb dX8_codeAt_22 (by decide) ?_
      have hf : (some 0 : Option (Int32)) = some rr := hf
      cases hf
      exact re_i hF hr hlk dX8_codeAt_23 rfl
    · have hf := (if_neg c0).symm.trans hf
      refine lv_aload_n hx hb dX8_codeAt_13 rfl (lv_at hl 0 rfl) ?_
      refine gf (C := RX8) (T := TX8) (N := 3) (ci := 4) (v := .ref a_t_codes) hF hG hP inX8 0 rfl rfl 0 (by decide) q145 rfl rfl dX8_codeAt_14 ?_
      refine lv_iload_n hx hb dX8_codeAt_17 rfl (lv_at hl 1 rfl) ?_
      obtain ⟨hg, hf⟩ := gd_some hf
      refine ald_i (k := Int32.toNatClampNeg x1) hF hG hP 1 rfl rfl hg dX8_codeAt_18 ?_
      refine lv_goto (tgt := 23) hx hb dX8_codeAt_19 (by decide) ?_
      have hf : (some (t_codes (Int32.toNatClampNeg x1)) : Option (Int32)) = some rr := hf
      cases hf
      exact re_i hF hr hlk dX8_codeAt_23 rfl
def f_X7_takesLetter (t_letter : Int32) (t_field : Int32) (t_digits : Int32) (t_value : Int32) (x1 : Int32) : Option (Int32 × Int32 × Int32 × Int32 × Int32) := (if x1 = 97 then bd3 (f_X7_startNumber t_field t_digits t_value 0) (fun (t_field_1 : Int32) (t_digits_2 : Int32) (t_value_3 : Int32) => some (1, x1, t_field_1, t_digits_2, t_value_3)) else (if x1 = 108 then bd3 (f_X7_startNumber t_field t_digits t_value 0) (fun (t_field_4 : Int32) (t_digits_5 : Int32) (t_value_6 : Int32) => some (1, x1, t_field_4, t_digits_5, t_value_6)) else (if x1 = 109 then bd3 (f_X7_startNumber t_field t_digits t_value 0) (fun (t_field_7 : Int32) (t_digits_8 : Int32) (t_value_9 : Int32) => some (1, x1, t_field_7, t_digits_8, t_value_9)) else (if x1 = 112 then bd3 (f_X7_startNumber t_field t_digits t_value 0) (fun (t_field_10 : Int32) (t_digits_11 : Int32) (t_value_12 : Int32) => some (1, x1, t_field_10, t_digits_11, t_value_12)) else (if x1 = 119 then bd3 (f_X7_startNumber t_field t_digits t_value 0) (fun (t_field_13 : Int32) (t_digits_14 : Int32) (t_value_15 : Int32) => some (1, x1, t_field_13, t_digits_14, t_value_15)) else (if x1 = 120 then bd3 (f_X7_startNumber t_field t_digits t_value 0) (fun (t_field_16 : Int32) (t_digits_17 : Int32) (t_value_18 : Int32) => some (1, x1, t_field_16, t_digits_17, t_value_18)) else some (0, t_letter, t_field, t_digits, t_value)))))))
theorem k_X7_takesLetter : KV yX7_takesLetter cX7_takesLetter 2 (some .boolean) 1 := ⟨qc_yX7_takesLetter, q5, ⟨by decide +kernel, by decide +kernel, by decide +kernel⟩, qi_yX7_takesLetter, qs_yX7_takesLetter⟩
abbrev RM_X7_takesLetter : Room := { frames := 1, cells := 0, slots := 0, locals := 21 }
set_option maxHeartbeats 4000000 in
set_option maxRecDepth 100000 in
theorem c_X7_takesLetter (l : Launch) (G : GP) (a_t : Nat) (t_letter : Int32) (t_field : Int32) (t_digits : Int32) (t_value : Int32) (x1 : Int32) (rr : Int32) (w_t_letter : Int32) (w_t_field : Int32) (w_t_digits : Int32) (w_t_value : Int32) (hf : f_X7_takesLetter t_letter t_field t_digits t_value x1 = some (rr, w_t_letter, w_t_field, w_t_digits, w_t_value)) : WM l yX7_takesLetter cX7_takesLetter 2 (some .boolean) 1 21 G [.ref a_t, .int x1] [(a_t, .inr (3, [.int t_letter, .int t_field, .int t_digits, .int t_value]))] (some (.int rr)) [(a_t, .inr (3, [.int w_t_letter, .int w_t_field, .int w_t_digits, .int w_t_value]))] := by
  refine WM.ofW (C := RX7) (by decide) rfl (Nat.le_of_ble_eq_true rfl) ?_
  intro p e s m below meth c A hF hr hlk hG hA hP hD ls hl
  have hl : lv_has ls 2 [(0, .ref a_t), (1, .int x1)] := hl
  have hx := hF.1
  have hb := hF.2.1
  have hml := hF.2.2.1
  have hown := hF.2.2.2.1
  have hts := hF.2.2.2.2
  have hS : va_S A s.heap s.heap [] := va_S.rf
  unfold f_X7_takesLetter at hf
  refine lv_iload_n hx hb dX7_takesLetter_0 rfl (lv_at hl 1 rfl) ?_
  rcases Classical.em (x1 = (97 : Int32)) with c0 | c0
  · have hf := (if_pos c0).symm.trans hf
    refine lv_lookup (off := 59) (tgt := 60) hx hb dX7_takesLetter_1 (by decide) (by rw [c0] <;> rfl) (by decide) ?_
    refine lv_aload_n hx hb dX7_takesLetter_60 rfl (lv_at hl 0 rfl) ?_
    refine lv_iload_n hx hb dX7_takesLetter_61 rfl (lv_at hl 1 rfl) ?_
    refine pf (C := RX7) (T := TX7) (N := 4) (ci := 3) (v := .int x1) (ty := .int) hF hG hP hD hS inX7 tyX7 tyX7_ok nmX7 0 rfl rfl 0 (by decide) q132 rfl rfl (by decide +kernel) rfl rfl (Nat.le_of_ble_eq_true rfl) dX7_takesLetter_62 (fun H locs hP hD hS => ?_)
    replace hP : va_P G.1 vwCl [(a_t, .inr (3, [.int x1, .int t_field, .int t_digits, .int t_value]))] H := hP
    replace hD : va_D A [(a_t, .inr (3, [.int x1, .int t_field, .int t_digits, .int t_value]))] := hD
    refine lv_aload_n hx hb dX7_takesLetter_65 rfl (lv_at hl 0 rfl) ?_
    refine lv_iconst (v := 0) hx hb dX7_takesLetter_66 (by decide) ?_
    obtain ⟨t_field_1, t_digits_2, t_value_3, hq, hf⟩ := bd3_some hf
    refine wrV (As := [.int 0]) (rest := []) (wn := [(a_t, .inr (3, [.int x1, .int t_field_1, .int t_digits_2, .int t_value_3]))]) hF hG hP hD hS hA hl.1 (c_X7_startNumber l G a_t x1 t_field t_digits t_value 0 t_field_1 t_digits_2 t_value_3 hq) k_X7_startNumber q297 [0] [] [0] rfl rfl rfl rfl ⟨rfl, rfl⟩ (by decide) ⟨0, 3, _, _, rfl, rfl, rfl⟩ rfl rfl (Nat.le_of_ble_eq_true rfl) ⟨(Nat.le_of_ble_eq_true rfl), (Nat.le_of_ble_eq_true rfl)⟩ ⟨(Nat.le_of_ble_eq_true rfl), (Nat.le_of_ble_eq_true rfl)⟩ dX7_takesLetter_67 (fun H locs hP hD hS => ?_)
    refine lv_iconst (v := 1) hx hb dX7_takesLetter_70 (by decide) ?_
    have hf : (some (1, x1, t_field_1, t_digits_2, t_value_3) : Option (Int32 × Int32 × Int32 × Int32 × Int32)) = some (rr, w_t_letter, w_t_field, w_t_digits, w_t_value) := hf
    cases hf
    exact we_z hF hr hlk hP hD hS dX7_takesLetter_71 rfl rfl
  · have hf := (if_neg c0).symm.trans hf
    rcases Classical.em (x1 = (108 : Int32)) with c1 | c1
    · have hf := (if_pos c1).symm.trans hf
      refine lv_lookup (off := 59) (tgt := 60) hx hb dX7_takesLetter_1 (by decide) ((lv_osw c0 rfl).trans (by rw [c1] <;> rfl)) (by decide) ?_
      refine lv_aload_n hx hb dX7_takesLetter_60 rfl (lv_at hl 0 rfl) ?_
      refine lv_iload_n hx hb dX7_takesLetter_61 rfl (lv_at hl 1 rfl) ?_
      refine pf (C := RX7) (T := TX7) (N := 4) (ci := 3) (v := .int x1) (ty := .int) hF hG hP hD hS inX7 tyX7 tyX7_ok nmX7 0 rfl rfl 0 (by decide) q132 rfl rfl (by decide +kernel) rfl rfl (Nat.le_of_ble_eq_true rfl) dX7_takesLetter_62 (fun H locs hP hD hS => ?_)
      replace hP : va_P G.1 vwCl [(a_t, .inr (3, [.int x1, .int t_field, .int t_digits, .int t_value]))] H := hP
      replace hD : va_D A [(a_t, .inr (3, [.int x1, .int t_field, .int t_digits, .int t_value]))] := hD
      refine lv_aload_n hx hb dX7_takesLetter_65 rfl (lv_at hl 0 rfl) ?_
      refine lv_iconst (v := 0) hx hb dX7_takesLetter_66 (by decide) ?_
      obtain ⟨t_field_4, t_digits_5, t_value_6, hq, hf⟩ := bd3_some hf
      refine wrV (As := [.int 0]) (rest := []) (wn := [(a_t, .inr (3, [.int x1, .int t_field_4, .int t_digits_5, .int t_value_6]))]) hF hG hP hD hS hA hl.1 (c_X7_startNumber l G a_t x1 t_field t_digits t_value 0 t_field_4 t_digits_5 t_value_6 hq) k_X7_startNumber q297 [0] [] [0] rfl rfl rfl rfl ⟨rfl, rfl⟩ (by decide) ⟨0, 3, _, _, rfl, rfl, rfl⟩ rfl rfl (Nat.le_of_ble_eq_true rfl) ⟨(Nat.le_of_ble_eq_true rfl), (Nat.le_of_ble_eq_true rfl)⟩ ⟨(Nat.le_of_ble_eq_true rfl), (Nat.le_of_ble_eq_true rfl)⟩ dX7_takesLetter_67 (fun H locs hP hD hS => ?_)
      refine lv_iconst (v := 1) hx hb dX7_takesLetter_70 (by decide) ?_
      have hf : (some (1, x1, t_field_4, t_digits_5, t_value_6) : Option (Int32 × Int32 × Int32 × Int32 × Int32)) = some (rr, w_t_letter, w_t_field, w_t_digits, w_t_value) := hf
      cases hf
      exact we_z hF hr hlk hP hD hS dX7_takesLetter_71 rfl rfl
    · have hf := (if_neg c1).symm.trans hf
      rcases Classical.em (x1 = (109 : Int32)) with c2 | c2
      · have hf := (if_pos c2).symm.trans hf
        refine lv_lookup (off := 59) (tgt := 60) hx hb dX7_takesLetter_1 (by decide) ((lv_osw c0 rfl).trans ((lv_osw c1 rfl).trans (by rw [c2] <;> rfl))) (by decide) ?_
        refine lv_aload_n hx hb dX7_takesLetter_60 rfl (lv_at hl 0 rfl) ?_
        refine lv_iload_n hx hb dX7_takesLetter_61 rfl (lv_at hl 1 rfl) ?_
        refine pf (C := RX7) (T := TX7) (N := 4) (ci := 3) (v := .int x1) (ty := .int) hF hG hP hD hS inX7 tyX7 tyX7_ok nmX7 0 rfl rfl 0 (by decide) q132 rfl rfl (by decide +kernel) rfl rfl (Nat.le_of_ble_eq_true rfl) dX7_takesLetter_62 (fun H locs hP hD hS => ?_)
        replace hP : va_P G.1 vwCl [(a_t, .inr (3, [.int x1, .int t_field, .int t_digits, .int t_value]))] H := hP
        replace hD : va_D A [(a_t, .inr (3, [.int x1, .int t_field, .int t_digits, .int t_value]))] := hD
        refine lv_aload_n hx hb dX7_takesLetter_65 rfl (lv_at hl 0 rfl) ?_
        refine lv_iconst (v := 0) hx hb dX7_takesLetter_66 (by decide) ?_
        obtain ⟨t_field_7, t_digits_8, t_value_9, hq, hf⟩ := bd3_some hf
        refine wrV (As := [.int 0]) (rest := []) (wn := [(a_t, .inr (3, [.int x1, .int t_field_7, .int t_digits_8, .int t_value_9]))]) hF hG hP hD hS hA hl.1 (c_X7_startNumber l G a_t x1 t_field t_digits t_value 0 t_field_7 t_digits_8 t_value_9 hq) k_X7_startNumber q297 [0] [] [0] rfl rfl rfl rfl ⟨rfl, rfl⟩ (by decide) ⟨0, 3, _, _, rfl, rfl, rfl⟩ rfl rfl (Nat.le_of_ble_eq_true rfl) ⟨(Nat.le_of_ble_eq_true rfl), (Nat.le_of_ble_eq_true rfl)⟩ ⟨(Nat.le_of_ble_eq_true rfl), (Nat.le_of_ble_eq_true rfl)⟩ dX7_takesLetter_67 (fun H locs hP hD hS => ?_)
        refine lv_iconst (v := 1) hx hb dX7_takesLetter_70 (by decide) ?_
        have hf : (some (1, x1, t_field_7, t_digits_8, t_value_9) : Option (Int32 × Int32 × Int32 × Int32 × Int32)) = some (rr, w_t_letter, w_t_field, w_t_digits, w_t_value) := hf
        cases hf
        exact we_z hF hr hlk hP hD hS dX7_takesLetter_71 rfl rfl
      · have hf := (if_neg c2).symm.trans hf
        rcases Classical.em (x1 = (112 : Int32)) with c3 | c3
        · have hf := (if_pos c3).symm.trans hf
          refine lv_lookup (off := 59) (tgt := 60) hx hb dX7_takesLetter_1 (by decide) ((lv_osw c0 rfl).trans ((lv_osw c1 rfl).trans ((lv_osw c2 rfl).trans (by rw [c3] <;> rfl)))) (by decide) ?_
          refine lv_aload_n hx hb dX7_takesLetter_60 rfl (lv_at hl 0 rfl) ?_
          refine lv_iload_n hx hb dX7_takesLetter_61 rfl (lv_at hl 1 rfl) ?_
          refine pf (C := RX7) (T := TX7) (N := 4) (ci := 3) (v := .int x1) (ty := .int) hF hG hP hD hS inX7 tyX7 tyX7_ok nmX7 0 rfl rfl 0 (by decide) q132 rfl rfl (by decide +kernel) rfl rfl (Nat.le_of_ble_eq_true rfl) dX7_takesLetter_62 (fun H locs hP hD hS => ?_)
          replace hP : va_P G.1 vwCl [(a_t, .inr (3, [.int x1, .int t_field, .int t_digits, .int t_value]))] H := hP
          replace hD : va_D A [(a_t, .inr (3, [.int x1, .int t_field, .int t_digits, .int t_value]))] := hD
          refine lv_aload_n hx hb dX7_takesLetter_65 rfl (lv_at hl 0 rfl) ?_
          refine lv_iconst (v := 0) hx hb dX7_takesLetter_66 (by decide) ?_
          obtain ⟨t_field_10, t_digits_11, t_value_12, hq, hf⟩ := bd3_some hf
          refine wrV (As := [.int 0]) (rest := []) (wn := [(a_t, .inr (3, [.int x1, .int t_field_10, .int t_digits_11, .int t_value_12]))]) hF hG hP hD hS hA hl.1 (c_X7_startNumber l G a_t x1 t_field t_digits t_value 0 t_field_10 t_digits_11 t_value_12 hq) k_X7_startNumber q297 [0] [] [0] rfl rfl rfl rfl ⟨rfl, rfl⟩ (by decide) ⟨0, 3, _, _, rfl, rfl, rfl⟩ rfl rfl (Nat.le_of_ble_eq_true rfl) ⟨(Nat.le_of_ble_eq_true rfl), (Nat.le_of_ble_eq_true rfl)⟩ ⟨(Nat.le_of_ble_eq_true rfl), (Nat.le_of_ble_eq_true rfl)⟩ dX7_takesLetter_67 (fun H locs hP hD hS => ?_)
          refine lv_iconst (v := 1) hx hb dX7_takesLetter_70 (by decide) ?_
          have hf : (some (1, x1, t_field_10, t_digits_11, t_value_12) : Option (Int32 × Int32 × Int32 × Int32 × Int32)) = some (rr, w_t_letter, w_t_field, w_t_digits, w_t_value) := hf
          cases hf
          exact we_z hF hr hlk hP hD hS dX7_takesLetter_71 rfl rfl
        · have hf := (if_neg c3).symm.trans hf
          rcases Classical.em (x1 = (119 : Int32)) with c4 | c4
          · have hf := (if_pos c4).symm.trans hf
            refine lv_lookup (off := 59) (tgt := 60) hx hb dX7_takesLetter_1 (by decide) ((lv_osw c0 rfl).trans ((lv_osw c1 rfl).trans ((lv_osw c2 rfl).trans ((lv_osw c3 rfl).trans (by rw [c4] <;> rfl))))) (by decide) ?_
            refine lv_aload_n hx hb dX7_takesLetter_60 rfl (lv_at hl 0 rfl) ?_
            refine lv_iload_n hx hb dX7_takesLetter_61 rfl (lv_at hl 1 rfl) ?_
            refine pf (C := RX7) (T := TX7) (N := 4) (ci := 3) (v := .int x1) (ty := .int) hF hG hP hD hS inX7 tyX7 tyX7_ok nmX7 0 rfl rfl 0 (by decide) q132 rfl rfl (by decide +kernel) rfl rfl (Nat.le_of_ble_eq_true rfl) dX7_takesLetter_62 (fun H locs hP hD hS => ?_)
            replace hP : va_P G.1 vwCl [(a_t, .inr (3, [.int x1, .int t_field, .int t_digits, .int t_value]))] H := hP
            replace hD : va_D A [(a_t, .inr (3, [.int x1, .int t_field, .int t_digits, .int t_value]))] := hD
            refine lv_aload_n hx hb dX7_takesLetter_65 rfl (lv_at hl 0 rfl) ?_
            refine lv_iconst (v := 0) hx hb dX7_takesLetter_66 (by decide) ?_
            obtain ⟨t_field_13, t_digits_14, t_value_15, hq, hf⟩ := bd3_some hf
            refine wrV (As := [.int 0]) (rest := []) (wn := [(a_t, .inr (3, [.int x1, .int t_field_13, .int t_digits_14, .int t_value_15]))]) hF hG hP hD hS hA hl.1 (c_X7_startNumber l G a_t x1 t_field t_digits t_value 0 t_field_13 t_digits_14 t_value_15 hq) k_X7_startNumber q297 [0] [] [0] rfl rfl rfl rfl ⟨rfl, rfl⟩ (by decide) ⟨0, 3, _, _, rfl, rfl, rfl⟩ rfl rfl (Nat.le_of_ble_eq_true rfl) ⟨(Nat.le_of_ble_eq_true rfl), (Nat.le_of_ble_eq_true rfl)⟩ ⟨(Nat.le_of_ble_eq_true rfl), (Nat.le_of_ble_eq_true rfl)⟩ dX7_takesLetter_67 (fun H locs hP hD hS => ?_)
            refine lv_iconst (v := 1) hx hb dX7_takesLetter_70 (by decide) ?_
            have hf : (some (1, x1, t_field_13, t_digits_14, t_value_15) : Option (Int32 × Int32 × Int32 × Int32 × Int32)) = some (rr, w_t_letter, w_t_field, w_t_digits, w_t_value) := hf
            cases hf
            exact we_z hF hr hlk hP hD hS dX7_takesLetter_71 rfl rfl
          · have hf := (if_neg c4).symm.trans hf
            rcases Classical.em (x1 = (120 : Int32)) with c5 | c5
            · have hf := (if_pos c5).symm.trans hf
              refine lv_lookup (off := 59) (tgt := 60) hx hb dX7_takesLetter_1 (by decide) ((lv_osw c0 rfl).trans ((lv_osw c1 rfl).trans ((lv_osw c2 rfl).trans ((lv_osw c3 rfl).trans ((lv_osw c4 rfl).trans (by rw [c5] <;> rfl)))))) (by decide) ?_
              refine lv_aload_n hx hb dX7_takesLetter_60 rfl (lv_at hl 0 rfl) ?_
              refine lv_iload_n hx hb dX7_takesLetter_61 rfl (lv_at hl 1 rfl) ?_
              refine pf (C := RX7) (T := TX7) (N := 4) (ci := 3) (v := .int x1) (ty := .int) hF hG hP hD hS inX7 tyX7 tyX7_ok nmX7 0 rfl rfl 0 (by decide) q132 rfl rfl (by decide +kernel) rfl rfl (Nat.le_of_ble_eq_true rfl) dX7_takesLetter_62 (fun H locs hP hD hS => ?_)
              replace hP : va_P G.1 vwCl [(a_t, .inr (3, [.int x1, .int t_field, .int t_digits, .int t_value]))] H := hP
              replace hD : va_D A [(a_t, .inr (3, [.int x1, .int t_field, .int t_digits, .int t_value]))] := hD
              refine lv_aload_n hx hb dX7_takesLetter_65 rfl (lv_at hl 0 rfl) ?_
              refine lv_iconst (v := 0) hx hb dX7_takesLetter_66 (by decide) ?_
              obtain ⟨t_field_16, t_digits_17, t_value_18, hq, hf⟩ := bd3_some hf
              refine wrV (As := [.int 0]) (rest := []) (wn := [(a_t, .inr (3, [.int x1, .int t_field_16, .int t_digits_17, .int t_value_18]))]) hF hG hP hD hS hA hl.1 (c_X7_startNumber l G a_t x1 t_field t_digits t_value 0 t_field_16 t_digits_17 t_value_18 hq) k_X7_startNumber q297 [0] [] [0] rfl rfl rfl rfl ⟨rfl, rfl⟩ (by decide) ⟨0, 3, _, _, rfl, rfl, rfl⟩ rfl rfl (Nat.le_of_ble_eq_true rfl) ⟨(Nat.le_of_ble_eq_true rfl), (Nat.le_of_ble_eq_true rfl)⟩ ⟨(Nat.le_of_ble_eq_true rfl), (Nat.le_of_ble_eq_true rfl)⟩ dX7_takesLetter_67 (fun H locs hP hD hS => ?_)
              refine lv_iconst (v := 1) hx hb dX7_takesLetter_70 (by decide) ?_
              have hf : (some (1, x1, t_field_16, t_digits_17, t_value_18) : Option (Int32 × Int32 × Int32 × Int32 × Int32)) = some (rr, w_t_letter, w_t_field, w_t_digits, w_t_value) := hf
              cases hf
              exact we_z hF hr hlk hP hD hS dX7_takesLetter_71 rfl rfl
            · have hf := (if_neg c5).symm.trans hf
              refine lv_lookup (off := 71) (tgt := 72) hx hb dX7_takesLetter_1 (by decide) ((lv_osw c0 rfl).trans ((lv_osw c1 rfl).trans ((lv_osw c2 rfl).trans ((lv_osw c3 rfl).trans ((lv_osw c4 rfl).trans ((lv_osw c5 rfl).trans (rfl))))))) (by decide) ?_
              refine lv_iconst (v := 0) hx hb dX7_takesLetter_72 (by decide) ?_
              have hf : (some (0, t_letter, t_field, t_digits, t_value) : Option (Int32 × Int32 × Int32 × Int32 × Int32)) = some (rr, w_t_letter, w_t_field, w_t_digits, w_t_value) := hf
              cases hf
              exact we_z hF hr hlk hP hD hS dX7_takesLetter_73 rfl rfl
def f_X7_least (t_letter : Int32) (t_field : Int32) : Option (Int32) := (if t_letter = 112 then some 1 else (if t_letter = 119 then (if t_field = 0 then some 1 else some 2) else some 0))
theorem k_X7_least : KV yX7_least cX7_least 1 (some .int) 0 := ⟨qc_yX7_least, q5, ⟨by decide +kernel, by decide +kernel, by decide +kernel⟩, qi_yX7_least, qs_yX7_least⟩
abbrev RM_X7_least : Room := { frames := 0, cells := 0, slots := 0, locals := 0 }
set_option maxHeartbeats 4000000 in
set_option maxRecDepth 100000 in
theorem c_X7_least (l : Launch) (G : GP) (a_t : Nat) (t_letter : Int32) (t_field : Int32) (t_digits : Int32) (t_value : Int32) (rr : Int32) (hf : f_X7_least t_letter t_field = some rr) : RM l yX7_least cX7_least 1 (some .int) 0 0 G [.ref a_t] [(a_t, .inr (3, [.int t_letter, .int t_field, .int t_digits, .int t_value]))] (some (.int rr)) := by
  refine RM.ofW (C := RX7) (by decide) rfl (Nat.le_of_ble_eq_true rfl) ?_
  intro p e s m below meth c hF hr hlk hG hP ls hl
  have hl : lv_has ls 1 [(0, .ref a_t)] := hl
  have hx := hF.1
  have hb := hF.2.1
  have hml := hF.2.2.1
  have hown := hF.2.2.2.1
  have hts := hF.2.2.2.2
  unfold f_X7_least at hf
  refine lv_aload_n hx hb dX7_least_0 rfl (lv_at hl 0 rfl) ?_
  refine gf (C := RX7) (T := TX7) (N := 4) (ci := 3) (v := .int t_letter) hF hG hP inX7 0 rfl rfl 0 (by decide) q132 rfl rfl dX7_least_1 ?_
  rcases Classical.em (t_letter = (112 : Int32)) with c0 | c0
  · have hf := (if_pos c0).symm.trans hf
    refine lv_lookup (off := 28) (tgt := 32) hx hb dX7_least_4 (by decide) (by rw [c0] <;> rfl) (by decide) ?_
    refine lv_iconst (v := 1) hx hb dX7_least_32 (by decide) ?_
    have hf : (some 1 : Option (Int32)) = some rr := hf
    cases hf
    exact re_i hF hr hlk dX7_least_33 rfl
  · have hf := (if_neg c0).symm.trans hf
    rcases Classical.em (t_letter = (119 : Int32)) with c1 | c1
    · have hf := (if_pos c1).symm.trans hf
      refine lv_lookup (off := 30) (tgt := 34) hx hb dX7_least_4 (by decide) ((lv_osw c0 rfl).trans (by rw [c1] <;> rfl)) (by decide) ?_
      refine lv_aload_n hx hb dX7_least_34 rfl (lv_at hl 0 rfl) ?_
      refine gf (C := RX7) (T := TX7) (N := 4) (ci := 3) (v := .int t_field) hF hG hP inX7 0 rfl rfl 1 (by decide) q133 rfl rfl dX7_least_35 ?_
      refine lv_if_ne (tgt := 45) hx hb dX7_least_38 (by decide) (fun c0 => ?_) (fun c0 => ?_)
      · have hf := (if_neg c0).symm.trans hf
        refine lv_iconst (v := 2) hx hb dX7_least_45 (by decide) ?_
        have hf : (some 2 : Option (Int32)) = some rr := hf
        cases hf
        exact re_i hF hr hlk dX7_least_46 rfl
      · have hf := (if_pos c0).symm.trans hf
        refine lv_iconst (v := 1) hx hb dX7_least_41 (by decide) ?_
        refine lv_goto (tgt := 46) hx hb dX7_least_42 (by decide) ?_
        have hf : (some 1 : Option (Int32)) = some rr := hf
        cases hf
        exact re_i hF hr hlk dX7_least_46 rfl
    · have hf := (if_neg c1).symm.trans hf
      refine lv_lookup (off := 43) (tgt := 47) hx hb dX7_least_4 (by decide) ((lv_osw c0 rfl).trans ((lv_osw c1 rfl).trans (rfl))) (by decide) ?_
      refine lv_iconst (v := 0) hx hb dX7_least_47 (by decide) ?_
      have hf : (some 0 : Option (Int32)) = some rr := hf
      cases hf
      exact re_i hF hr hlk dX7_least_48 rfl
def f_X7_most (t_letter : Int32) (t_field : Int32) : Option (Int32) := (if t_letter = 108 then some 9999 else (if t_letter = 109 then some 9 else (if t_letter = 112 then some 9999 else (if t_letter = 119 then (if t_field = 0 then some 10 else some 20) else some 59))))
theorem k_X7_most : KV yX7_most cX7_most 1 (some .int) 0 := ⟨qc_yX7_most, q5, ⟨by decide +kernel, by decide +kernel, by decide +kernel⟩, qi_yX7_most, qs_yX7_most⟩
abbrev RM_X7_most : Room := { frames := 0, cells := 0, slots := 0, locals := 0 }
set_option maxHeartbeats 4000000 in
set_option maxRecDepth 100000 in
theorem c_X7_most (l : Launch) (G : GP) (a_t : Nat) (t_letter : Int32) (t_field : Int32) (t_digits : Int32) (t_value : Int32) (rr : Int32) (hf : f_X7_most t_letter t_field = some rr) : RM l yX7_most cX7_most 1 (some .int) 0 0 G [.ref a_t] [(a_t, .inr (3, [.int t_letter, .int t_field, .int t_digits, .int t_value]))] (some (.int rr)) := by
  refine RM.ofW (C := RX7) (by decide) rfl (Nat.le_of_ble_eq_true rfl) ?_
  intro p e s m below meth c hF hr hlk hG hP ls hl
  have hl : lv_has ls 1 [(0, .ref a_t)] := hl
  have hx := hF.1
  have hb := hF.2.1
  have hml := hF.2.2.1
  have hown := hF.2.2.2.1
  have hts := hF.2.2.2.2
  unfold f_X7_most at hf
  refine lv_aload_n hx hb dX7_most_0 rfl (lv_at hl 0 rfl) ?_
  refine gf (C := RX7) (T := TX7) (N := 4) (ci := 3) (v := .int t_letter) hF hG hP inX7 0 rfl rfl 0 (by decide) q132 rfl rfl dX7_most_1 ?_
  rcases Classical.em (t_letter = (108 : Int32)) with c0 | c0
  · have hf := (if_pos c0).symm.trans hf
    refine lv_lookup (off := 66) (tgt := 70) hx hb dX7_most_4 (by decide) (by rw [c0] <;> rfl) (by decide) ?_
    refine lv_sipush (v := 9999) hx hb dX7_most_70 (by decide) ?_
    have hf : (some 9999 : Option (Int32)) = some rr := hf
    cases hf
    exact re_i hF hr hlk dX7_most_73 rfl
  · have hf := (if_neg c0).symm.trans hf
    rcases Classical.em (t_letter = (109 : Int32)) with c1 | c1
    · have hf := (if_pos c1).symm.trans hf
      refine lv_lookup (off := 63) (tgt := 67) hx hb dX7_most_4 (by decide) ((lv_osw c0 rfl).trans (by rw [c1] <;> rfl)) (by decide) ?_
      refine lv_bipush (v := 9) hx hb dX7_most_67 (by decide) ?_
      have hf : (some 9 : Option (Int32)) = some rr := hf
      cases hf
      exact re_i hF hr hlk dX7_most_69 rfl
    · have hf := (if_neg c1).symm.trans hf
      rcases Classical.em (t_letter = (112 : Int32)) with c2 | c2
      · have hf := (if_pos c2).symm.trans hf
        refine lv_lookup (off := 44) (tgt := 48) hx hb dX7_most_4 (by decide) ((lv_osw c0 rfl).trans ((lv_osw c1 rfl).trans (by rw [c2] <;> rfl))) (by decide) ?_
        refine lv_sipush (v := 9999) hx hb dX7_most_48 (by decide) ?_
        have hf : (some 9999 : Option (Int32)) = some rr := hf
        cases hf
        exact re_i hF hr hlk dX7_most_51 rfl
      · have hf := (if_neg c2).symm.trans hf
        rcases Classical.em (t_letter = (119 : Int32)) with c3 | c3
        · have hf := (if_pos c3).symm.trans hf
          refine lv_lookup (off := 48) (tgt := 52) hx hb dX7_most_4 (by decide) ((lv_osw c0 rfl).trans ((lv_osw c1 rfl).trans ((lv_osw c2 rfl).trans (by rw [c3] <;> rfl)))) (by decide) ?_
          refine lv_aload_n hx hb dX7_most_52 rfl (lv_at hl 0 rfl) ?_
          refine gf (C := RX7) (T := TX7) (N := 4) (ci := 3) (v := .int t_field) hF hG hP inX7 0 rfl rfl 1 (by decide) q133 rfl rfl dX7_most_53 ?_
          refine lv_if_ne (tgt := 64) hx hb dX7_most_56 (by decide) (fun c0 => ?_) (fun c0 => ?_)
          · have hf := (if_neg c0).symm.trans hf
            refine lv_bipush (v := 20) hx hb dX7_most_64 (by decide) ?_
            have hf : (some 20 : Option (Int32)) = some rr := hf
            cases hf
            exact re_i hF hr hlk dX7_most_66 rfl
          · have hf := (if_pos c0).symm.trans hf
            refine lv_bipush (v := 10) hx hb dX7_most_59 (by decide) ?_
            refine lv_goto (tgt := 66) hx hb dX7_most_61 (by decide) ?_
            have hf : (some 10 : Option (Int32)) = some rr := hf
            cases hf
            exact re_i hF hr hlk dX7_most_66 rfl
        · have hf := (if_neg c3).symm.trans hf
          refine lv_lookup (off := 70) (tgt := 74) hx hb dX7_most_4 (by decide) ((lv_osw c0 rfl).trans ((lv_osw c1 rfl).trans ((lv_osw c2 rfl).trans ((lv_osw c3 rfl).trans (rfl))))) (by decide) ?_
          refine lv_bipush (v := 59) hx hb dX7_most_74 (by decide) ?_
          have hf : (some 59 : Option (Int32)) = some rr := hf
          cases hf
          exact re_i hF hr hlk dX7_most_76 rfl
def f_X7_canBecomeNumber (t_letter : Int32) (t_field : Int32) (x1 : Int32) : Option (Int32) := (if x1 = 0 then bd1 (f_X7_least t_letter t_field) (fun (r_4 : Int32) => (if r_4 = 0 then some 1 else some 0)) else bd1 (f_X7_least t_letter t_field) (fun (r_1 : Int32) => (if x1 < r_1 then bd1 (f_X7_most t_letter t_field) (fun (r_2 : Int32) => (if r_2 < (10 * x1) then some 0 else some 1)) else bd1 (f_X7_most t_letter t_field) (fun (r_3 : Int32) => (if r_3 < x1 then some 0 else some 1)))))
theorem k_X7_canBecomeNumber : KV yX7_canBecomeNumber cX7_canBecomeNumber 2 (some .boolean) 1 := ⟨qc_yX7_canBecomeNumber, q5, ⟨by decide +kernel, by decide +kernel, by decide +kernel⟩, qi_yX7_canBecomeNumber, qs_yX7_canBecomeNumber⟩
abbrev RM_X7_canBecomeNumber : Room := { frames := 1, cells := 0, slots := 0, locals := 20 }
set_option maxHeartbeats 4000000 in
set_option maxRecDepth 100000 in
theorem c_X7_canBecomeNumber (l : Launch) (G : GP) (a_t : Nat) (t_letter : Int32) (t_field : Int32) (t_digits : Int32) (t_value : Int32) (x1 : Int32) (rr : Int32) (hf : f_X7_canBecomeNumber t_letter t_field x1 = some rr) : RM l yX7_canBecomeNumber cX7_canBecomeNumber 2 (some .boolean) 1 20 G [.ref a_t, .int x1] [(a_t, .inr (3, [.int t_letter, .int t_field, .int t_digits, .int t_value]))] (some (.int rr)) := by
  refine RM.ofW (C := RX7) (by decide) rfl (Nat.le_of_ble_eq_true rfl) ?_
  intro p e s m below meth c hF hr hlk hG hP ls hl
  have hl : lv_has ls 2 [(0, .ref a_t), (1, .int x1)] := hl
  have hx := hF.1
  have hb := hF.2.1
  have hml := hF.2.2.1
  have hown := hF.2.2.2.1
  have hts := hF.2.2.2.2
  unfold f_X7_canBecomeNumber at hf
  refine lv_iload_n hx hb dX7_canBecomeNumber_0 rfl (lv_at hl 1 rfl) ?_
  refine lv_if_ne (tgt := 17) hx hb dX7_canBecomeNumber_1 (by decide) (fun c0 => ?_) (fun c0 => ?_)
  · have hf := (if_neg c0).symm.trans hf
    refine lv_iload_n hx hb dX7_canBecomeNumber_17 rfl (lv_at hl 1 rfl) ?_
    refine lv_aload_n hx hb dX7_canBecomeNumber_18 rfl (lv_at hl 0 rfl) ?_
    obtain ⟨r_1, hq, hf⟩ := bd1_some hf
    refine rdV (As := []) (rest := [.int x1]) hF hG hP hl.1 (c_X7_least l G a_t t_letter t_field t_digits t_value r_1 hq) k_X7_least q321 [0] rfl ⟨0, 3, _, _, rfl, rfl, rfl⟩ rfl rfl (Nat.le_of_ble_eq_true rfl) ⟨(Nat.le_of_ble_eq_true rfl), (Nat.le_of_ble_eq_true rfl)⟩ ⟨(Nat.zero_le _), (Nat.zero_le _)⟩ dX7_canBecomeNumber_19 ?_
    refine lv_icmp_lt (tgt := 41) hx hb dX7_canBecomeNumber_22 (by decide) (fun c0 => ?_) (fun c0 => ?_)
    · have hf := (if_pos c0).symm.trans hf
      refine lv_bipush (v := 10) hx hb dX7_canBecomeNumber_41 (by decide) ?_
      refine lv_iload_n hx hb dX7_canBecomeNumber_43 rfl (lv_at hl 1 rfl) ?_
      refine lv_imul hx hb dX7_canBecomeNumber_44 ?_
      refine lv_aload_n hx hb dX7_canBecomeNumber_45 rfl (lv_at hl 0 rfl) ?_
      obtain ⟨r_2, hq, hf⟩ := bd1_some hf
      refine rdV (As := []) (rest := [.int (10 * x1)]) hF hG hP hl.1 (c_X7_most l G a_t t_letter t_field t_digits t_value r_2 hq) k_X7_most q325 [0] rfl ⟨0, 3, _, _, rfl, rfl, rfl⟩ rfl rfl (Nat.le_of_ble_eq_true rfl) ⟨(Nat.le_of_ble_eq_true rfl), (Nat.le_of_ble_eq_true rfl)⟩ ⟨(Nat.zero_le _), (Nat.zero_le _)⟩ dX7_canBecomeNumber_46 ?_
      refine lv_icmp_gt (tgt := 56) hx hb dX7_canBecomeNumber_49 (by decide) (fun c0 => ?_) (fun c0 => ?_)
      · have hf := (if_pos c0).symm.trans hf
        refine lv_iconst (v := 0) hx hb dX7_canBecomeNumber_56 (by decide) ?_
        have hf : (some 0 : Option (Int32)) = some rr := hf
        cases hf
        exact re_z hF hr hlk dX7_canBecomeNumber_57 rfl rfl
      · have hf := (if_neg c0).symm.trans hf
        refine lv_iconst (v := 1) hx hb dX7_canBecomeNumber_52 (by decide) ?_
        refine lv_goto (tgt := 57) hx hb dX7_canBecomeNumber_53 (by decide) ?_
        have hf : (some 1 : Option (Int32)) = some rr := hf
        cases hf
        exact re_z hF hr hlk dX7_canBecomeNumber_57 rfl rfl
    · have hf := (if_neg c0).symm.trans hf
      refine lv_iload_n hx hb dX7_canBecomeNumber_25 rfl (lv_at hl 1 rfl) ?_
      refine lv_aload_n hx hb dX7_canBecomeNumber_26 rfl (lv_at hl 0 rfl) ?_
      obtain ⟨r_3, hq, hf⟩ := bd1_some hf
      refine rdV (As := []) (rest := [.int x1]) hF hG hP hl.1 (c_X7_most l G a_t t_letter t_field t_digits t_value r_3 hq) k_X7_most q325 [0] rfl ⟨0, 3, _, _, rfl, rfl, rfl⟩ rfl rfl (Nat.le_of_ble_eq_true rfl) ⟨(Nat.le_of_ble_eq_true rfl), (Nat.le_of_ble_eq_true rfl)⟩ ⟨(Nat.zero_le _), (Nat.zero_le _)⟩ dX7_canBecomeNumber_27 ?_
      refine lv_icmp_gt (tgt := 37) hx hb dX7_canBecomeNumber_30 (by decide) (fun c0 => ?_) (fun c0 => ?_)
      · have hf := (if_pos c0).symm.trans hf
        refine lv_iconst (v := 0) hx hb dX7_canBecomeNumber_37 (by decide) ?_
        refine lv_goto (tgt := 57) hx hb dX7_canBecomeNumber_38 (by decide) ?_
        have hf : (some 0 : Option (Int32)) = some rr := hf
        cases hf
        exact re_z hF hr hlk dX7_canBecomeNumber_57 rfl rfl
      · have hf := (if_neg c0).symm.trans hf
        refine lv_iconst (v := 1) hx hb dX7_canBecomeNumber_33 (by decide) ?_
        refine lv_goto (tgt := 57) hx hb dX7_canBecomeNumber_34 (by decide) ?_
        have hf : (some 1 : Option (Int32)) = some rr := hf
        cases hf
        exact re_z hF hr hlk dX7_canBecomeNumber_57 rfl rfl
  · have hf := (if_pos c0).symm.trans hf
    refine lv_aload_n hx hb dX7_canBecomeNumber_4 rfl (lv_at hl 0 rfl) ?_
    obtain ⟨r_4, hq, hf⟩ := bd1_some hf
    refine rdV (As := []) (rest := []) hF hG hP hl.1 (c_X7_least l G a_t t_letter t_field t_digits t_value r_4 hq) k_X7_least q321 [0] rfl ⟨0, 3, _, _, rfl, rfl, rfl⟩ rfl rfl (Nat.le_of_ble_eq_true rfl) ⟨(Nat.le_of_ble_eq_true rfl), (Nat.le_of_ble_eq_true rfl)⟩ ⟨(Nat.zero_le _), (Nat.zero_le _)⟩ dX7_canBecomeNumber_5 ?_
    refine lv_if_ne (tgt := 15) hx hb dX7_canBecomeNumber_8 (by decide) (fun c0 => ?_) (fun c0 => ?_)
    · have hf := (if_neg c0).symm.trans hf
      refine lv_iconst (v := 0) hx hb dX7_canBecomeNumber_15 (by decide) ?_
      have hf : (some 0 : Option (Int32)) = some rr := hf
      cases hf
      exact re_z hF hr hlk dX7_canBecomeNumber_16 rfl rfl
    · have hf := (if_pos c0).symm.trans hf
      refine lv_iconst (v := 1) hx hb dX7_canBecomeNumber_11 (by decide) ?_
      refine lv_goto (tgt := 16) hx hb dX7_canBecomeNumber_12 (by decide) ?_
      have hf : (some 1 : Option (Int32)) = some rr := hf
      cases hf
      exact re_z hF hr hlk dX7_canBecomeNumber_16 rfl rfl
def f_X7_takesDigit (t_letter : Int32) (t_field : Int32) (t_digits : Int32) (t_value : Int32) (x1 : Int32) : Option (Int32 × Int32 × Int32) := bd1 (if t_digits ≤ 0 then some 0 else (if t_value = 0 then some 1 else some 0)) (fun (j_1 : Int32) => (if t_letter = 97 then some (0, t_digits, t_value) else (if j_1 = 0 then bd1 (f_X7_canBecomeNumber t_letter t_field ((10 * t_value) + x1)) (fun (r_2 : Int32) => (if r_2 = 0 then some (0, t_digits, t_value) else some (1, (t_digits + 1), ((10 * t_value) + x1)))) else some (0, t_digits, t_value))))
theorem k_X7_takesDigit : KV yX7_takesDigit cX7_takesDigit 4 (some .boolean) 1 := ⟨qc_yX7_takesDigit, q5, ⟨by decide +kernel, by decide +kernel, by decide +kernel⟩, qi_yX7_takesDigit, qs_yX7_takesDigit⟩
abbrev RM_X7_takesDigit : Room := { frames := 2, cells := 0, slots := 0, locals := 41 }
set_option maxHeartbeats 4000000 in
set_option maxRecDepth 100000 in
theorem c_X7_takesDigit (l : Launch) (G : GP) (a_t : Nat) (t_letter : Int32) (t_field : Int32) (t_digits : Int32) (t_value : Int32) (x1 : Int32) (rr : Int32) (w_t_digits : Int32) (w_t_value : Int32) (hf : f_X7_takesDigit t_letter t_field t_digits t_value x1 = some (rr, w_t_digits, w_t_value)) : WM l yX7_takesDigit cX7_takesDigit 4 (some .boolean) 2 41 G [.ref a_t, .int x1] [(a_t, .inr (3, [.int t_letter, .int t_field, .int t_digits, .int t_value]))] (some (.int rr)) [(a_t, .inr (3, [.int t_letter, .int t_field, .int w_t_digits, .int w_t_value]))] := by
  refine WM.ofW (C := RX7) (by decide) rfl (Nat.le_of_ble_eq_true rfl) ?_
  intro p e s m below meth c A hF hr hlk hG hA hP hD ls hl
  have hl : lv_has ls 4 [(0, .ref a_t), (1, .int x1)] := hl
  have hx := hF.1
  have hb := hF.2.1
  have hml := hF.2.2.1
  have hown := hF.2.2.2.1
  have hts := hF.2.2.2.2
  have hS : va_S A s.heap s.heap [] := va_S.rf
  unfold f_X7_takesDigit at hf
  refine lv_aload_n hx hb dX7_takesDigit_0 rfl (lv_at hl 0 rfl) ?_
  refine gf (C := RX7) (T := TX7) (N := 4) (ci := 3) (v := .int t_digits) hF hG hP inX7 0 rfl rfl 2 (by decide) q134 rfl rfl dX7_takesDigit_1 ?_
  obtain ⟨j_1, hq, hf⟩ := bd1_some hf
  have J19 : ∀ (H : Heap) (locs : List Loc), va_P G.1 vwCl ([(a_t, .inr (3, [.int t_letter, .int t_field, .int t_digits, .int t_value]))] : va_W) H → va_D A ([(a_t, .inr (3, [.int t_letter, .int t_field, .int t_digits, .int t_value]))] : va_W) → va_S A s.heap H locs → ∀ ls : Array Slot, lv_has ls 4 [(0, .ref a_t), (1, .int x1)] → W p l e RM_X7_takesDigit s m [.ref a_t, .int x1].toArray below meth c H locs 0 0 (MQ below (wrQ (some (.int rr)) G [(a_t, .inr (3, [.int t_letter, .int t_field, .int w_t_digits, .int w_t_value]))] A) [.ref a_t, .int x1].toArray s 0 0 A) (F0 m 19 ls [.int j_1]) := by
    intro H locs hP hD hS ls hl
    refine lv_istore_n (lv' := [(2, .int j_1), (0, .ref a_t), (1, .int x1)]) hx hb dX7_takesDigit_19 rfl hl (by decide) rfl (fun ls hl => ?_)
    refine lv_aload_n hx hb dX7_takesDigit_20 rfl (lv_at hl 1 rfl) ?_
    refine gf (C := RX7) (T := TX7) (N := 4) (ci := 3) (v := .int t_letter) hF hG hP inX7 0 rfl rfl 0 (by decide) q132 rfl rfl dX7_takesDigit_21 ?_
    refine lv_bipush (v := 97) hx hb dX7_takesDigit_24 (by decide) ?_
    refine lv_icmp_eq (tgt := 33) hx hb dX7_takesDigit_26 (by decide) (fun c0 => ?_) (fun c0 => ?_)
    · have hf := (if_pos c0).symm.trans hf
      refine lv_iconst (v := 0) hx hb dX7_takesDigit_33 (by decide) ?_
      have hf : (some (0, t_digits, t_value) : Option (Int32 × Int32 × Int32)) = some (rr, w_t_digits, w_t_value) := hf
      cases hf
      exact we_z hF hr hlk hP hD hS dX7_takesDigit_34 rfl rfl
    · have hf := (if_neg c0).symm.trans hf
      refine lv_iload_n hx hb dX7_takesDigit_29 rfl (lv_at hl 0 rfl) ?_
      refine lv_if_eq (tgt := 35) hx hb dX7_takesDigit_30 (by decide) (fun c0 => ?_) (fun c0 => ?_)
      · have hf := (if_pos c0).symm.trans hf
        refine lv_bipush (v := 10) hx hb dX7_takesDigit_35 (by decide) ?_
        refine lv_aload_n hx hb dX7_takesDigit_37 rfl (lv_at hl 1 rfl) ?_
        refine gf (C := RX7) (T := TX7) (N := 4) (ci := 3) (v := .int t_value) hF hG hP inX7 0 rfl rfl 3 (by decide) q135 rfl rfl dX7_takesDigit_38 ?_
        refine lv_imul hx hb dX7_takesDigit_41 ?_
        refine lv_iload_n hx hb dX7_takesDigit_42 rfl (lv_at hl 2 rfl) ?_
        refine lv_iadd hx hb dX7_takesDigit_43 ?_
        refine lv_istore_n (lv' := [(3, .int ((10 * t_value) + x1)), (2, .int j_1), (0, .ref a_t), (1, .int x1)]) hx hb dX7_takesDigit_44 rfl hl (by decide) rfl (fun ls hl => ?_)
        refine lv_aload_n hx hb dX7_takesDigit_45 rfl (lv_at hl 2 rfl) ?_
        refine lv_iload_n hx hb dX7_takesDigit_46 rfl (lv_at hl 0 rfl) ?_
        obtain ⟨r_2, hq, hf⟩ := bd1_some hf
        refine rdV (As := [.int ((10 * t_value) + x1)]) (rest := []) hF hG hP hl.1 (c_X7_canBecomeNumber l G a_t t_letter t_field t_digits t_value ((10 * t_value) + x1) r_2 hq) k_X7_canBecomeNumber q317 [0] rfl ⟨0, 3, _, _, rfl, rfl, rfl⟩ rfl rfl (Nat.le_of_ble_eq_true rfl) ⟨(Nat.le_of_ble_eq_true rfl), (Nat.le_of_ble_eq_true rfl)⟩ ⟨(Nat.zero_le _), (Nat.zero_le _)⟩ dX7_takesDigit_47 ?_
        refine lv_if_ne (tgt := 55) hx hb dX7_takesDigit_50 (by decide) (fun c0 => ?_) (fun c0 => ?_)
        · have hf := (if_neg c0).symm.trans hf
          refine lv_aload_n hx hb dX7_takesDigit_55 rfl (lv_at hl 2 rfl) ?_
          refine lv_iload_n hx hb dX7_takesDigit_56 rfl (lv_at hl 0 rfl) ?_
          refine pf (C := RX7) (T := TX7) (N := 4) (ci := 3) (v := .int ((10 * t_value) + x1)) (ty := .int) hF hG hP hD hS inX7 tyX7 tyX7_ok nmX7 0 rfl rfl 3 (by decide) q135 rfl rfl (by decide +kernel) rfl rfl (Nat.le_of_ble_eq_true rfl) dX7_takesDigit_57 (fun H locs hP hD hS => ?_)
          replace hP : va_P G.1 vwCl [(a_t, .inr (3, [.int t_letter, .int t_field, .int t_digits, .int ((10 * t_value) + x1)]))] H := hP
          replace hD : va_D A [(a_t, .inr (3, [.int t_letter, .int t_field, .int t_digits, .int ((10 * t_value) + x1)]))] := hD
          refine lv_aload_n hx hb dX7_takesDigit_60 rfl (lv_at hl 2 rfl) ?_
          refine lv_dup hx hb dX7_takesDigit_61 rfl ?_
          refine gf (C := RX7) (T := TX7) (N := 4) (ci := 3) (v := .int t_digits) hF hG hP inX7 0 rfl rfl 2 (by decide) q134 rfl rfl dX7_takesDigit_62 ?_
          refine lv_iconst (v := 1) hx hb dX7_takesDigit_65 (by decide) ?_
          refine lv_iadd hx hb dX7_takesDigit_66 ?_
          refine pf (C := RX7) (T := TX7) (N := 4) (ci := 3) (v := .int (t_digits + 1)) (ty := .int) hF hG hP hD hS inX7 tyX7 tyX7_ok nmX7 0 rfl rfl 2 (by decide) q134 rfl rfl (by decide +kernel) rfl rfl (Nat.le_of_ble_eq_true rfl) dX7_takesDigit_67 (fun H locs hP hD hS => ?_)
          replace hP : va_P G.1 vwCl [(a_t, .inr (3, [.int t_letter, .int t_field, .int (t_digits + 1), .int ((10 * t_value) + x1)]))] H := hP
          replace hD : va_D A [(a_t, .inr (3, [.int t_letter, .int t_field, .int (t_digits + 1), .int ((10 * t_value) + x1)]))] := hD
          refine lv_iconst (v := 1) hx hb dX7_takesDigit_70 (by decide) ?_
          have hf : (some (1, (t_digits + 1), ((10 * t_value) + x1)) : Option (Int32 × Int32 × Int32)) = some (rr, w_t_digits, w_t_value) := hf
          cases hf
          exact we_z hF hr hlk hP hD hS dX7_takesDigit_71 rfl rfl
        · have hf := (if_pos c0).symm.trans hf
          refine lv_iconst (v := 0) hx hb dX7_takesDigit_53 (by decide) ?_
          have hf : (some (0, t_digits, t_value) : Option (Int32 × Int32 × Int32)) = some (rr, w_t_digits, w_t_value) := hf
          cases hf
          exact we_z hF hr hlk hP hD hS dX7_takesDigit_54 rfl rfl
      · have hf := (if_neg c0).symm.trans hf
        refine lv_iconst (v := 0) hx hb dX7_takesDigit_33 (by decide) ?_
        have hf : (some (0, t_digits, t_value) : Option (Int32 × Int32 × Int32)) = some (rr, w_t_digits, w_t_value) := hf
        cases hf
        exact we_z hF hr hlk hP hD hS dX7_takesDigit_34 rfl rfl
  clear hf
  have hf := hq
  clear hq
  refine lv_if_le (tgt := 18) hx hb dX7_takesDigit_4 (by decide) (fun c0 => ?_) (fun c0 => ?_)
  · have hf := (if_pos c0).symm.trans hf
    refine lv_iconst (v := 0) hx hb dX7_takesDigit_18 (by decide) ?_
    have hf : (some 0 : Option (Int32)) = some j_1 := hf
    cases hf
    exact J19 _ _ hP hD hS ls (lv_sub hl [0, 1] rfl)
  · have hf := (if_neg c0).symm.trans hf
    refine lv_aload_n hx hb dX7_takesDigit_7 rfl (lv_at hl 0 rfl) ?_
    refine gf (C := RX7) (T := TX7) (N := 4) (ci := 3) (v := .int t_value) hF hG hP inX7 0 rfl rfl 3 (by decide) q135 rfl rfl dX7_takesDigit_8 ?_
    refine lv_if_ne (tgt := 18) hx hb dX7_takesDigit_11 (by decide) (fun c0 => ?_) (fun c0 => ?_)
    · have hf := (if_neg c0).symm.trans hf
      refine lv_iconst (v := 0) hx hb dX7_takesDigit_18 (by decide) ?_
      have hf : (some 0 : Option (Int32)) = some j_1 := hf
      cases hf
      exact J19 _ _ hP hD hS ls (lv_sub hl [0, 1] rfl)
    · have hf := (if_pos c0).symm.trans hf
      refine lv_iconst (v := 1) hx hb dX7_takesDigit_14 (by decide) ?_
      refine lv_goto (tgt := 19) hx hb dX7_takesDigit_15 (by decide) ?_
      have hf : (some 1 : Option (Int32)) = some j_1 := hf
      cases hf
      exact J19 _ _ hP hD hS ls (lv_sub hl [0, 1] rfl)
def f_X7_numberStands (t_letter : Int32) (t_field : Int32) (t_digits : Int32) (t_value : Int32) : Option (Int32) := (if t_letter = 97 then some 1 else (if t_digits ≤ 0 then some 0 else bd1 (f_X7_least t_letter t_field) (fun (r_1 : Int32) => (if t_value < r_1 then some 0 else some 1))))
theorem k_X7_numberStands : KV yX7_numberStands cX7_numberStands 1 (some .boolean) 0 := ⟨qc_yX7_numberStands, q5, ⟨by decide +kernel, by decide +kernel, by decide +kernel⟩, qi_yX7_numberStands, qs_yX7_numberStands⟩
abbrev RM_X7_numberStands : Room := { frames := 1, cells := 0, slots := 0, locals := 20 }
set_option maxHeartbeats 4000000 in
set_option maxRecDepth 100000 in
theorem c_X7_numberStands (l : Launch) (G : GP) (a_t : Nat) (t_letter : Int32) (t_field : Int32) (t_digits : Int32) (t_value : Int32) (rr : Int32) (hf : f_X7_numberStands t_letter t_field t_digits t_value = some rr) : RM l yX7_numberStands cX7_numberStands 1 (some .boolean) 1 20 G [.ref a_t] [(a_t, .inr (3, [.int t_letter, .int t_field, .int t_digits, .int t_value]))] (some (.int rr)) := by
  refine RM.ofW (C := RX7) (by decide) rfl (Nat.le_of_ble_eq_true rfl) ?_
  intro p e s m below meth c hF hr hlk hG hP ls hl
  have hl : lv_has ls 1 [(0, .ref a_t)] := hl
  have hx := hF.1
  have hb := hF.2.1
  have hml := hF.2.2.1
  have hown := hF.2.2.2.1
  have hts := hF.2.2.2.2
  unfold f_X7_numberStands at hf
  refine lv_aload_n hx hb dX7_numberStands_0 rfl (lv_at hl 0 rfl) ?_
  refine gf (C := RX7) (T := TX7) (N := 4) (ci := 3) (v := .int t_letter) hF hG hP inX7 0 rfl rfl 0 (by decide) q132 rfl rfl dX7_numberStands_1 ?_
  refine lv_bipush (v := 97) hx hb dX7_numberStands_4 (by decide) ?_
  refine lv_icmp_eq (tgt := 27) hx hb dX7_numberStands_6 (by decide) (fun c0 => ?_) (fun c0 => ?_)
  · have hf := (if_pos c0).symm.trans hf
    refine lv_iconst (v := 1) hx hb dX7_numberStands_27 (by decide) ?_
    refine lv_goto (tgt := 32) hx hb dX7_numberStands_28 (by decide) ?_
    have hf : (some 1 : Option (Int32)) = some rr := hf
    cases hf
    exact re_z hF hr hlk dX7_numberStands_32 rfl rfl
  · have hf := (if_neg c0).symm.trans hf
    refine lv_aload_n hx hb dX7_numberStands_9 rfl (lv_at hl 0 rfl) ?_
    refine gf (C := RX7) (T := TX7) (N := 4) (ci := 3) (v := .int t_digits) hF hG hP inX7 0 rfl rfl 2 (by decide) q134 rfl rfl dX7_numberStands_10 ?_
    refine lv_if_le (tgt := 31) hx hb dX7_numberStands_13 (by decide) (fun c0 => ?_) (fun c0 => ?_)
    · have hf := (if_pos c0).symm.trans hf
      refine lv_iconst (v := 0) hx hb dX7_numberStands_31 (by decide) ?_
      have hf : (some 0 : Option (Int32)) = some rr := hf
      cases hf
      exact re_z hF hr hlk dX7_numberStands_32 rfl rfl
    · have hf := (if_neg c0).symm.trans hf
      refine lv_aload_n hx hb dX7_numberStands_16 rfl (lv_at hl 0 rfl) ?_
      refine gf (C := RX7) (T := TX7) (N := 4) (ci := 3) (v := .int t_value) hF hG hP inX7 0 rfl rfl 3 (by decide) q135 rfl rfl dX7_numberStands_17 ?_
      refine lv_aload_n hx hb dX7_numberStands_20 rfl (lv_at hl 0 rfl) ?_
      obtain ⟨r_1, hq, hf⟩ := bd1_some hf
      refine rdV (As := []) (rest := [.int t_value]) hF hG hP hl.1 (c_X7_least l G a_t t_letter t_field t_digits t_value r_1 hq) k_X7_least q321 [0] rfl ⟨0, 3, _, _, rfl, rfl, rfl⟩ rfl rfl (Nat.le_of_ble_eq_true rfl) ⟨(Nat.le_of_ble_eq_true rfl), (Nat.le_of_ble_eq_true rfl)⟩ ⟨(Nat.zero_le _), (Nat.zero_le _)⟩ dX7_numberStands_21 ?_
      refine lv_icmp_lt (tgt := 31) hx hb dX7_numberStands_24 (by decide) (fun c0 => ?_) (fun c0 => ?_)
      · have hf := (if_pos c0).symm.trans hf
        refine lv_iconst (v := 0) hx hb dX7_numberStands_31 (by decide) ?_
        have hf : (some 0 : Option (Int32)) = some rr := hf
        cases hf
        exact re_z hF hr hlk dX7_numberStands_32 rfl rfl
      · have hf := (if_neg c0).symm.trans hf
        refine lv_iconst (v := 1) hx hb dX7_numberStands_27 (by decide) ?_
        refine lv_goto (tgt := 32) hx hb dX7_numberStands_28 (by decide) ?_
        have hf : (some 1 : Option (Int32)) = some rr := hf
        cases hf
        exact re_z hF hr hlk dX7_numberStands_32 rfl rfl
def f_X7_wantsLonger (t_letter : Int32) (t_field : Int32) : Option (Int32) := (if t_letter = 119 then (if t_field = 0 then some 1 else some 0) else some 0)
theorem k_X7_wantsLonger : KV yX7_wantsLonger cX7_wantsLonger 1 (some .boolean) 0 := ⟨qc_yX7_wantsLonger, q5, ⟨by decide +kernel, by decide +kernel, by decide +kernel⟩, qi_yX7_wantsLonger, qs_yX7_wantsLonger⟩
abbrev RM_X7_wantsLonger : Room := { frames := 0, cells := 0, slots := 0, locals := 0 }
set_option maxHeartbeats 4000000 in
set_option maxRecDepth 100000 in
theorem c_X7_wantsLonger (l : Launch) (G : GP) (a_t : Nat) (t_letter : Int32) (t_field : Int32) (t_digits : Int32) (t_value : Int32) (rr : Int32) (hf : f_X7_wantsLonger t_letter t_field = some rr) : RM l yX7_wantsLonger cX7_wantsLonger 1 (some .boolean) 0 0 G [.ref a_t] [(a_t, .inr (3, [.int t_letter, .int t_field, .int t_digits, .int t_value]))] (some (.int rr)) := by
  refine RM.ofW (C := RX7) (by decide) rfl (Nat.le_of_ble_eq_true rfl) ?_
  intro p e s m below meth c hF hr hlk hG hP ls hl
  have hl : lv_has ls 1 [(0, .ref a_t)] := hl
  have hx := hF.1
  have hb := hF.2.1
  have hml := hF.2.2.1
  have hown := hF.2.2.2.1
  have hts := hF.2.2.2.2
  unfold f_X7_wantsLonger at hf
  refine lv_aload_n hx hb dX7_wantsLonger_0 rfl (lv_at hl 0 rfl) ?_
  refine gf (C := RX7) (T := TX7) (N := 4) (ci := 3) (v := .int t_letter) hF hG hP inX7 0 rfl rfl 0 (by decide) q132 rfl rfl dX7_wantsLonger_1 ?_
  refine lv_bipush (v := 119) hx hb dX7_wantsLonger_4 (by decide) ?_
  refine lv_icmp_ne (tgt := 20) hx hb dX7_wantsLonger_6 (by decide) (fun c0 => ?_) (fun c0 => ?_)
  · have hf := (if_neg c0).symm.trans hf
    refine lv_iconst (v := 0) hx hb dX7_wantsLonger_20 (by decide) ?_
    have hf : (some 0 : Option (Int32)) = some rr := hf
    cases hf
    exact re_z hF hr hlk dX7_wantsLonger_21 rfl rfl
  · have hf := (if_pos c0).symm.trans hf
    refine lv_aload_n hx hb dX7_wantsLonger_9 rfl (lv_at hl 0 rfl) ?_
    refine gf (C := RX7) (T := TX7) (N := 4) (ci := 3) (v := .int t_field) hF hG hP inX7 0 rfl rfl 1 (by decide) q133 rfl rfl dX7_wantsLonger_10 ?_
    refine lv_if_ne (tgt := 20) hx hb dX7_wantsLonger_13 (by decide) (fun c0 => ?_) (fun c0 => ?_)
    · have hf := (if_neg c0).symm.trans hf
      refine lv_iconst (v := 0) hx hb dX7_wantsLonger_20 (by decide) ?_
      have hf : (some 0 : Option (Int32)) = some rr := hf
      cases hf
      exact re_z hF hr hlk dX7_wantsLonger_21 rfl rfl
    · have hf := (if_pos c0).symm.trans hf
      refine lv_iconst (v := 1) hx hb dX7_wantsLonger_16 (by decide) ?_
      refine lv_goto (tgt := 21) hx hb dX7_wantsLonger_17 (by decide) ?_
      have hf : (some 1 : Option (Int32)) = some rr := hf
      cases hf
      exact re_z hF hr hlk dX7_wantsLonger_21 rfl rfl
def f_X7_takes (t_letter : Int32) (t_field : Int32) (t_digits : Int32) (t_value : Int32) (x1 : Int32) : Option (Int32 × Int32 × Int32 × Int32 × Int32) := (if t_letter = 0 then bd5 (f_X7_takesLetter t_letter t_field t_digits t_value x1) (fun (r_60 : Int32) (t_letter_61 : Int32) (t_field_62 : Int32) (t_digits_63 : Int32) (t_value_64 : Int32) => gd (r_60 &&& 1 = r_60) (some (r_60, t_letter_61, t_field_62, t_digits_63, t_value_64))) else (if x1 < 48 then bd1 (f_X7_numberStands t_letter t_field t_digits t_value) (fun (r_1 : Int32) => (if r_1 = 0 then some (0, t_letter, t_field, t_digits, t_value) else (if x1 = 59 then bd1 (f_X7_wantsLonger t_letter t_field) (fun (r_13 : Int32) => (if r_13 = 0 then bd4 (f_X7_start t_letter t_field t_digits t_value) (fun (t_letter_25 : Int32) (t_field_26 : Int32) (t_digits_27 : Int32) (t_value_28 : Int32) => some (1, t_letter_25, t_field_26, t_digits_27, t_value_28)) else (if x1 = 44 then (if t_letter = 112 then bd3 (f_X7_startNumber t_field t_digits t_value (t_field + 1)) (fun (t_field_18 : Int32) (t_digits_19 : Int32) (t_value_20 : Int32) => some (1, t_letter, t_field_18, t_digits_19, t_value_20)) else (if x1 = 58 then bd1 (f_X7_wantsLonger t_letter t_field) (fun (r_21 : Int32) => (if r_21 = 0 then some (0, t_letter, t_field, t_digits, t_value) else bd3 (f_X7_startNumber t_field t_digits t_value (t_field + 1)) (fun (t_field_22 : Int32) (t_digits_23 : Int32) (t_value_24 : Int32) => some (1, t_letter, t_field_22, t_digits_23, t_value_24)))) else some (0, t_letter, t_field, t_digits, t_value))) else (if x1 = 58 then bd1 (f_X7_wantsLonger t_letter t_field) (fun (r_14 : Int32) => (if r_14 = 0 then some (0, t_letter, t_field, t_digits, t_value) else bd3 (f_X7_startNumber t_field t_digits t_value (t_field + 1)) (fun (t_field_15 : Int32) (t_digits_16 : Int32) (t_value_17 : Int32) => some (1, t_letter, t_field_15, t_digits_16, t_value_17)))) else some (0, t_letter, t_field, t_digits, t_value))))) else (if x1 = 44 then (if t_letter = 112 then bd3 (f_X7_startNumber t_field t_digits t_value (t_field + 1)) (fun (t_field_6 : Int32) (t_digits_7 : Int32) (t_value_8 : Int32) => some (1, t_letter, t_field_6, t_digits_7, t_value_8)) else (if x1 = 58 then bd1 (f_X7_wantsLonger t_letter t_field) (fun (r_9 : Int32) => (if r_9 = 0 then some (0, t_letter, t_field, t_digits, t_value) else bd3 (f_X7_startNumber t_field t_digits t_value (t_field + 1)) (fun (t_field_10 : Int32) (t_digits_11 : Int32) (t_value_12 : Int32) => some (1, t_letter, t_field_10, t_digits_11, t_value_12)))) else some (0, t_letter, t_field, t_digits, t_value))) else (if x1 = 58 then bd1 (f_X7_wantsLonger t_letter t_field) (fun (r_2 : Int32) => (if r_2 = 0 then some (0, t_letter, t_field, t_digits, t_value) else bd3 (f_X7_startNumber t_field t_digits t_value (t_field + 1)) (fun (t_field_3 : Int32) (t_digits_4 : Int32) (t_value_5 : Int32) => some (1, t_letter, t_field_3, t_digits_4, t_value_5)))) else some (0, t_letter, t_field, t_digits, t_value)))))) else (if 57 < x1 then bd1 (f_X7_numberStands t_letter t_field t_digits t_value) (fun (r_29 : Int32) => (if r_29 = 0 then some (0, t_letter, t_field, t_digits, t_value) else (if x1 = 59 then bd1 (f_X7_wantsLonger t_letter t_field) (fun (r_41 : Int32) => (if r_41 = 0 then bd4 (f_X7_start t_letter t_field t_digits t_value) (fun (t_letter_53 : Int32) (t_field_54 : Int32) (t_digits_55 : Int32) (t_value_56 : Int32) => some (1, t_letter_53, t_field_54, t_digits_55, t_value_56)) else (if x1 = 44 then (if t_letter = 112 then bd3 (f_X7_startNumber t_field t_digits t_value (t_field + 1)) (fun (t_field_46 : Int32) (t_digits_47 : Int32) (t_value_48 : Int32) => some (1, t_letter, t_field_46, t_digits_47, t_value_48)) else (if x1 = 58 then bd1 (f_X7_wantsLonger t_letter t_field) (fun (r_49 : Int32) => (if r_49 = 0 then some (0, t_letter, t_field, t_digits, t_value) else bd3 (f_X7_startNumber t_field t_digits t_value (t_field + 1)) (fun (t_field_50 : Int32) (t_digits_51 : Int32) (t_value_52 : Int32) => some (1, t_letter, t_field_50, t_digits_51, t_value_52)))) else some (0, t_letter, t_field, t_digits, t_value))) else (if x1 = 58 then bd1 (f_X7_wantsLonger t_letter t_field) (fun (r_42 : Int32) => (if r_42 = 0 then some (0, t_letter, t_field, t_digits, t_value) else bd3 (f_X7_startNumber t_field t_digits t_value (t_field + 1)) (fun (t_field_43 : Int32) (t_digits_44 : Int32) (t_value_45 : Int32) => some (1, t_letter, t_field_43, t_digits_44, t_value_45)))) else some (0, t_letter, t_field, t_digits, t_value))))) else (if x1 = 44 then (if t_letter = 112 then bd3 (f_X7_startNumber t_field t_digits t_value (t_field + 1)) (fun (t_field_34 : Int32) (t_digits_35 : Int32) (t_value_36 : Int32) => some (1, t_letter, t_field_34, t_digits_35, t_value_36)) else (if x1 = 58 then bd1 (f_X7_wantsLonger t_letter t_field) (fun (r_37 : Int32) => (if r_37 = 0 then some (0, t_letter, t_field, t_digits, t_value) else bd3 (f_X7_startNumber t_field t_digits t_value (t_field + 1)) (fun (t_field_38 : Int32) (t_digits_39 : Int32) (t_value_40 : Int32) => some (1, t_letter, t_field_38, t_digits_39, t_value_40)))) else some (0, t_letter, t_field, t_digits, t_value))) else (if x1 = 58 then bd1 (f_X7_wantsLonger t_letter t_field) (fun (r_30 : Int32) => (if r_30 = 0 then some (0, t_letter, t_field, t_digits, t_value) else bd3 (f_X7_startNumber t_field t_digits t_value (t_field + 1)) (fun (t_field_31 : Int32) (t_digits_32 : Int32) (t_value_33 : Int32) => some (1, t_letter, t_field_31, t_digits_32, t_value_33)))) else some (0, t_letter, t_field, t_digits, t_value)))))) else bd3 (f_X7_takesDigit t_letter t_field t_digits t_value (x1 - 48)) (fun (r_57 : Int32) (t_digits_58 : Int32) (t_value_59 : Int32) => gd (r_57 &&& 1 = r_57) (some (r_57, t_letter, t_field, t_digits_58, t_value_59))))))
theorem k_X7_takes : KV yX7_takes cX7_takes 2 (some .boolean) 1 := ⟨qc_yX7_takes, q5, ⟨by decide +kernel, by decide +kernel, by decide +kernel⟩, qi_yX7_takes, qs_yX7_takes⟩
abbrev RM_X7_takes : Room := { frames := 3, cells := 0, slots := 0, locals := 64 }
set_option maxHeartbeats 4000000 in
set_option maxRecDepth 100000 in
theorem c_X7_takes (l : Launch) (G : GP) (a_t : Nat) (t_letter : Int32) (t_field : Int32) (t_digits : Int32) (t_value : Int32) (x1 : Int32) (rr : Int32) (w_t_letter : Int32) (w_t_field : Int32) (w_t_digits : Int32) (w_t_value : Int32) (hf : f_X7_takes t_letter t_field t_digits t_value x1 = some (rr, w_t_letter, w_t_field, w_t_digits, w_t_value)) : WM l yX7_takes cX7_takes 2 (some .boolean) 3 64 G [.ref a_t, .int x1] [(a_t, .inr (3, [.int t_letter, .int t_field, .int t_digits, .int t_value]))] (some (.int rr)) [(a_t, .inr (3, [.int w_t_letter, .int w_t_field, .int w_t_digits, .int w_t_value]))] := by
  refine WM.ofW (C := RX7) (by decide) rfl (Nat.le_of_ble_eq_true rfl) ?_
  intro p e s m below meth c A hF hr hlk hG hA hP hD ls hl
  have hl : lv_has ls 2 [(0, .ref a_t), (1, .int x1)] := hl
  have hx := hF.1
  have hb := hF.2.1
  have hml := hF.2.2.1
  have hown := hF.2.2.2.1
  have hts := hF.2.2.2.2
  have hS : va_S A s.heap s.heap [] := va_S.rf
  unfold f_X7_takes at hf
  refine lv_aload_n hx hb dX7_takes_0 rfl (lv_at hl 0 rfl) ?_
  refine gf (C := RX7) (T := TX7) (N := 4) (ci := 3) (v := .int t_letter) hF hG hP inX7 0 rfl rfl 0 (by decide) q132 rfl rfl dX7_takes_1 ?_
  refine lv_if_ne (tgt := 13) hx hb dX7_takes_4 (by decide) (fun c0 => ?_) (fun c0 => ?_)
  · have hf := (if_neg c0).symm.trans hf
    refine lv_iload_n hx hb dX7_takes_13 rfl (lv_at hl 1 rfl) ?_
    refine lv_bipush (v := 48) hx hb dX7_takes_14 (by decide) ?_
    refine lv_icmp_lt (tgt := 34) hx hb dX7_takes_16 (by decide) (fun c0 => ?_) (fun c0 => ?_)
    · have hf := (if_pos c0).symm.trans hf
      refine lv_aload_n hx hb dX7_takes_34 rfl (lv_at hl 0 rfl) ?_
      obtain ⟨r_1, hq, hf⟩ := bd1_some hf
      refine rdV (As := []) (rest := []) hF hG hP hl.1 (c_X7_numberStands l G a_t t_letter t_field t_digits t_value r_1 hq) k_X7_numberStands q329 [0] rfl ⟨0, 3, _, _, rfl, rfl, rfl⟩ rfl rfl (Nat.le_of_ble_eq_true rfl) ⟨(Nat.le_of_ble_eq_true rfl), (Nat.le_of_ble_eq_true rfl)⟩ ⟨(Nat.zero_le _), (Nat.zero_le _)⟩ dX7_takes_35 ?_
      refine lv_if_ne (tgt := 43) hx hb dX7_takes_38 (by decide) (fun c0 => ?_) (fun c0 => ?_)
      · have hf := (if_neg c0).symm.trans hf
        refine lv_iload_n hx hb dX7_takes_43 rfl (lv_at hl 1 rfl) ?_
        refine lv_bipush (v := 59) hx hb dX7_takes_44 (by decide) ?_
        refine lv_icmp_ne (tgt := 62) hx hb dX7_takes_46 (by decide) (fun c0 => ?_) (fun c0 => ?_)
        · have hf := (if_neg c0).symm.trans hf
          refine lv_iload_n hx hb dX7_takes_62 rfl (lv_at hl 1 rfl) ?_
          refine lv_bipush (v := 44) hx hb dX7_takes_63 (by decide) ?_
          refine lv_icmp_ne (tgt := 77) hx hb dX7_takes_65 (by decide) (fun c0 => ?_) (fun c0 => ?_)
          · have hf := (if_neg c0).symm.trans hf
            refine lv_iload_n hx hb dX7_takes_77 rfl (lv_at hl 1 rfl) ?_
            refine lv_bipush (v := 58) hx hb dX7_takes_78 (by decide) ?_
            refine lv_icmp_ne (tgt := 102) hx hb dX7_takes_80 (by decide) (fun c0 => ?_) (fun c0 => ?_)
            · have hf := (if_neg c0).symm.trans hf
              refine lv_iconst (v := 0) hx hb dX7_takes_102 (by decide) ?_
              have hf : (some (0, t_letter, t_field, t_digits, t_value) : Option (Int32 × Int32 × Int32 × Int32 × Int32)) = some (rr, w_t_letter, w_t_field, w_t_digits, w_t_value) := hf
              cases hf
              exact we_z hF hr hlk hP hD hS dX7_takes_103 rfl rfl
            · have hf := (if_pos c0).symm.trans hf
              refine lv_aload_n hx hb dX7_takes_83 rfl (lv_at hl 0 rfl) ?_
              obtain ⟨r_2, hq, hf⟩ := bd1_some hf
              refine rdV (As := []) (rest := []) hF hG hP hl.1 (c_X7_wantsLonger l G a_t t_letter t_field t_digits t_value r_2 hq) k_X7_wantsLonger q333 [0] rfl ⟨0, 3, _, _, rfl, rfl, rfl⟩ rfl rfl (Nat.le_of_ble_eq_true rfl) ⟨(Nat.le_of_ble_eq_true rfl), (Nat.le_of_ble_eq_true rfl)⟩ ⟨(Nat.zero_le _), (Nat.zero_le _)⟩ dX7_takes_84 ?_
              refine lv_if_eq (tgt := 102) hx hb dX7_takes_87 (by decide) (fun c0 => ?_) (fun c0 => ?_)
              · have hf := (if_pos c0).symm.trans hf
                refine lv_iconst (v := 0) hx hb dX7_takes_102 (by decide) ?_
                have hf : (some (0, t_letter, t_field, t_digits, t_value) : Option (Int32 × Int32 × Int32 × Int32 × Int32)) = some (rr, w_t_letter, w_t_field, w_t_digits, w_t_value) := hf
                cases hf
                exact we_z hF hr hlk hP hD hS dX7_takes_103 rfl rfl
              · have hf := (if_neg c0).symm.trans hf
                refine lv_aload_n hx hb dX7_takes_90 rfl (lv_at hl 0 rfl) ?_
                refine lv_aload_n hx hb dX7_takes_91 rfl (lv_at hl 0 rfl) ?_
                refine gf (C := RX7) (T := TX7) (N := 4) (ci := 3) (v := .int t_field) hF hG hP inX7 0 rfl rfl 1 (by decide) q133 rfl rfl dX7_takes_92 ?_
                refine lv_iconst (v := 1) hx hb dX7_takes_95 (by decide) ?_
                refine lv_iadd hx hb dX7_takes_96 ?_
                obtain ⟨t_field_3, t_digits_4, t_value_5, hq, hf⟩ := bd3_some hf
                refine wrV (As := [.int (t_field + 1)]) (rest := []) (wn := [(a_t, .inr (3, [.int t_letter, .int t_field_3, .int t_digits_4, .int t_value_5]))]) hF hG hP hD hS hA hl.1 (c_X7_startNumber l G a_t t_letter t_field t_digits t_value (t_field + 1) t_field_3 t_digits_4 t_value_5 hq) k_X7_startNumber q297 [0] [] [0] rfl rfl rfl rfl ⟨rfl, rfl⟩ (by decide) ⟨0, 3, _, _, rfl, rfl, rfl⟩ rfl rfl (Nat.le_of_ble_eq_true rfl) ⟨(Nat.le_of_ble_eq_true rfl), (Nat.le_of_ble_eq_true rfl)⟩ ⟨(Nat.le_of_ble_eq_true rfl), (Nat.le_of_ble_eq_true rfl)⟩ dX7_takes_97 (fun H locs hP hD hS => ?_)
                refine lv_iconst (v := 1) hx hb dX7_takes_100 (by decide) ?_
                have hf : (some (1, t_letter, t_field_3, t_digits_4, t_value_5) : Option (Int32 × Int32 × Int32 × Int32 × Int32)) = some (rr, w_t_letter, w_t_field, w_t_digits, w_t_value) := hf
                cases hf
                exact we_z hF hr hlk hP hD hS dX7_takes_101 rfl rfl
          · have hf := (if_pos c0).symm.trans hf
            refine lv_aload_n hx hb dX7_takes_68 rfl (lv_at hl 0 rfl) ?_
            refine gf (C := RX7) (T := TX7) (N := 4) (ci := 3) (v := .int t_letter) hF hG hP inX7 0 rfl rfl 0 (by decide) q132 rfl rfl dX7_takes_69 ?_
            refine lv_bipush (v := 112) hx hb dX7_takes_72 (by decide) ?_
            refine lv_icmp_eq (tgt := 90) hx hb dX7_takes_74 (by decide) (fun c0 => ?_) (fun c0 => ?_)
            · have hf := (if_pos c0).symm.trans hf
              refine lv_aload_n hx hb dX7_takes_90 rfl (lv_at hl 0 rfl) ?_
              refine lv_aload_n hx hb dX7_takes_91 rfl (lv_at hl 0 rfl) ?_
              refine gf (C := RX7) (T := TX7) (N := 4) (ci := 3) (v := .int t_field) hF hG hP inX7 0 rfl rfl 1 (by decide) q133 rfl rfl dX7_takes_92 ?_
              refine lv_iconst (v := 1) hx hb dX7_takes_95 (by decide) ?_
              refine lv_iadd hx hb dX7_takes_96 ?_
              obtain ⟨t_field_6, t_digits_7, t_value_8, hq, hf⟩ := bd3_some hf
              refine wrV (As := [.int (t_field + 1)]) (rest := []) (wn := [(a_t, .inr (3, [.int t_letter, .int t_field_6, .int t_digits_7, .int t_value_8]))]) hF hG hP hD hS hA hl.1 (c_X7_startNumber l G a_t t_letter t_field t_digits t_value (t_field + 1) t_field_6 t_digits_7 t_value_8 hq) k_X7_startNumber q297 [0] [] [0] rfl rfl rfl rfl ⟨rfl, rfl⟩ (by decide) ⟨0, 3, _, _, rfl, rfl, rfl⟩ rfl rfl (Nat.le_of_ble_eq_true rfl) ⟨(Nat.le_of_ble_eq_true rfl), (Nat.le_of_ble_eq_true rfl)⟩ ⟨(Nat.le_of_ble_eq_true rfl), (Nat.le_of_ble_eq_true rfl)⟩ dX7_takes_97 (fun H locs hP hD hS => ?_)
              refine lv_iconst (v := 1) hx hb dX7_takes_100 (by decide) ?_
              have hf : (some (1, t_letter, t_field_6, t_digits_7, t_value_8) : Option (Int32 × Int32 × Int32 × Int32 × Int32)) = some (rr, w_t_letter, w_t_field, w_t_digits, w_t_value) := hf
              cases hf
              exact we_z hF hr hlk hP hD hS dX7_takes_101 rfl rfl
            · have hf := (if_neg c0).symm.trans hf
              refine lv_iload_n hx hb dX7_takes_77 rfl (lv_at hl 1 rfl) ?_
              refine lv_bipush (v := 58) hx hb dX7_takes_78 (by decide) ?_
              refine lv_icmp_ne (tgt := 102) hx hb dX7_takes_80 (by decide) (fun c0 => ?_) (fun c0 => ?_)
              · have hf := (if_neg c0).symm.trans hf
                refine lv_iconst (v := 0) hx hb dX7_takes_102 (by decide) ?_
                have hf : (some (0, t_letter, t_field, t_digits, t_value) : Option (Int32 × Int32 × Int32 × Int32 × Int32)) = some (rr, w_t_letter, w_t_field, w_t_digits, w_t_value) := hf
                cases hf
                exact we_z hF hr hlk hP hD hS dX7_takes_103 rfl rfl
              · have hf := (if_pos c0).symm.trans hf
                refine lv_aload_n hx hb dX7_takes_83 rfl (lv_at hl 0 rfl) ?_
                obtain ⟨r_9, hq, hf⟩ := bd1_some hf
                refine rdV (As := []) (rest := []) hF hG hP hl.1 (c_X7_wantsLonger l G a_t t_letter t_field t_digits t_value r_9 hq) k_X7_wantsLonger q333 [0] rfl ⟨0, 3, _, _, rfl, rfl, rfl⟩ rfl rfl (Nat.le_of_ble_eq_true rfl) ⟨(Nat.le_of_ble_eq_true rfl), (Nat.le_of_ble_eq_true rfl)⟩ ⟨(Nat.zero_le _), (Nat.zero_le _)⟩ dX7_takes_84 ?_
                refine lv_if_eq (tgt := 102) hx hb dX7_takes_87 (by decide) (fun c0 => ?_) (fun c0 => ?_)
                · have hf := (if_pos c0).symm.trans hf
                  refine lv_iconst (v := 0) hx hb dX7_takes_102 (by decide) ?_
                  have hf : (some (0, t_letter, t_field, t_digits, t_value) : Option (Int32 × Int32 × Int32 × Int32 × Int32)) = some (rr, w_t_letter, w_t_field, w_t_digits, w_t_value) := hf
                  cases hf
                  exact we_z hF hr hlk hP hD hS dX7_takes_103 rfl rfl
                · have hf := (if_neg c0).symm.trans hf
                  refine lv_aload_n hx hb dX7_takes_90 rfl (lv_at hl 0 rfl) ?_
                  refine lv_aload_n hx hb dX7_takes_91 rfl (lv_at hl 0 rfl) ?_
                  refine gf (C := RX7) (T := TX7) (N := 4) (ci := 3) (v := .int t_field) hF hG hP inX7 0 rfl rfl 1 (by decide) q133 rfl rfl dX7_takes_92 ?_
                  refine lv_iconst (v := 1) hx hb dX7_takes_95 (by decide) ?_
                  refine lv_iadd hx hb dX7_takes_96 ?_
                  obtain ⟨t_field_10, t_digits_11, t_value_12, hq, hf⟩ := bd3_some hf
                  refine wrV (As := [.int (t_field + 1)]) (rest := []) (wn := [(a_t, .inr (3, [.int t_letter, .int t_field_10, .int t_digits_11, .int t_value_12]))]) hF hG hP hD hS hA hl.1 (c_X7_startNumber l G a_t t_letter t_field t_digits t_value (t_field + 1) t_field_10 t_digits_11 t_value_12 hq) k_X7_startNumber q297 [0] [] [0] rfl rfl rfl rfl ⟨rfl, rfl⟩ (by decide) ⟨0, 3, _, _, rfl, rfl, rfl⟩ rfl rfl (Nat.le_of_ble_eq_true rfl) ⟨(Nat.le_of_ble_eq_true rfl), (Nat.le_of_ble_eq_true rfl)⟩ ⟨(Nat.le_of_ble_eq_true rfl), (Nat.le_of_ble_eq_true rfl)⟩ dX7_takes_97 (fun H locs hP hD hS => ?_)
                  refine lv_iconst (v := 1) hx hb dX7_takes_100 (by decide) ?_
                  have hf : (some (1, t_letter, t_field_10, t_digits_11, t_value_12) : Option (Int32 × Int32 × Int32 × Int32 × Int32)) = some (rr, w_t_letter, w_t_field, w_t_digits, w_t_value) := hf
                  cases hf
                  exact we_z hF hr hlk hP hD hS dX7_takes_101 rfl rfl
        · have hf := (if_pos c0).symm.trans hf
          refine lv_aload_n hx hb dX7_takes_49 rfl (lv_at hl 0 rfl) ?_
          obtain ⟨r_13, hq, hf⟩ := bd1_some hf
          refine rdV (As := []) (rest := []) hF hG hP hl.1 (c_X7_wantsLonger l G a_t t_letter t_field t_digits t_value r_13 hq) k_X7_wantsLonger q333 [0] rfl ⟨0, 3, _, _, rfl, rfl, rfl⟩ rfl rfl (Nat.le_of_ble_eq_true rfl) ⟨(Nat.le_of_ble_eq_true rfl), (Nat.le_of_ble_eq_true rfl)⟩ ⟨(Nat.zero_le _), (Nat.zero_le _)⟩ dX7_takes_50 ?_
          refine lv_if_ne (tgt := 62) hx hb dX7_takes_53 (by decide) (fun c0 => ?_) (fun c0 => ?_)
          · have hf := (if_neg c0).symm.trans hf
            refine lv_iload_n hx hb dX7_takes_62 rfl (lv_at hl 1 rfl) ?_
            refine lv_bipush (v := 44) hx hb dX7_takes_63 (by decide) ?_
            refine lv_icmp_ne (tgt := 77) hx hb dX7_takes_65 (by decide) (fun c0 => ?_) (fun c0 => ?_)
            · have hf := (if_neg c0).symm.trans hf
              refine lv_iload_n hx hb dX7_takes_77 rfl (lv_at hl 1 rfl) ?_
              refine lv_bipush (v := 58) hx hb dX7_takes_78 (by decide) ?_
              refine lv_icmp_ne (tgt := 102) hx hb dX7_takes_80 (by decide) (fun c0 => ?_) (fun c0 => ?_)
              · have hf := (if_neg c0).symm.trans hf
                refine lv_iconst (v := 0) hx hb dX7_takes_102 (by decide) ?_
                have hf : (some (0, t_letter, t_field, t_digits, t_value) : Option (Int32 × Int32 × Int32 × Int32 × Int32)) = some (rr, w_t_letter, w_t_field, w_t_digits, w_t_value) := hf
                cases hf
                exact we_z hF hr hlk hP hD hS dX7_takes_103 rfl rfl
              · have hf := (if_pos c0).symm.trans hf
                refine lv_aload_n hx hb dX7_takes_83 rfl (lv_at hl 0 rfl) ?_
                obtain ⟨r_14, hq, hf⟩ := bd1_some hf
                refine rdV (As := []) (rest := []) hF hG hP hl.1 (c_X7_wantsLonger l G a_t t_letter t_field t_digits t_value r_14 hq) k_X7_wantsLonger q333 [0] rfl ⟨0, 3, _, _, rfl, rfl, rfl⟩ rfl rfl (Nat.le_of_ble_eq_true rfl) ⟨(Nat.le_of_ble_eq_true rfl), (Nat.le_of_ble_eq_true rfl)⟩ ⟨(Nat.zero_le _), (Nat.zero_le _)⟩ dX7_takes_84 ?_
                refine lv_if_eq (tgt := 102) hx hb dX7_takes_87 (by decide) (fun c0 => ?_) (fun c0 => ?_)
                · have hf := (if_pos c0).symm.trans hf
                  refine lv_iconst (v := 0) hx hb dX7_takes_102 (by decide) ?_
                  have hf : (some (0, t_letter, t_field, t_digits, t_value) : Option (Int32 × Int32 × Int32 × Int32 × Int32)) = some (rr, w_t_letter, w_t_field, w_t_digits, w_t_value) := hf
                  cases hf
                  exact we_z hF hr hlk hP hD hS dX7_takes_103 rfl rfl
                · have hf := (if_neg c0).symm.trans hf
                  refine lv_aload_n hx hb dX7_takes_90 rfl (lv_at hl 0 rfl) ?_
                  refine lv_aload_n hx hb dX7_takes_91 rfl (lv_at hl 0 rfl) ?_
                  refine gf (C := RX7) (T := TX7) (N := 4) (ci := 3) (v := .int t_field) hF hG hP inX7 0 rfl rfl 1 (by decide) q133 rfl rfl dX7_takes_92 ?_
                  refine lv_iconst (v := 1) hx hb dX7_takes_95 (by decide) ?_
                  refine lv_iadd hx hb dX7_takes_96 ?_
                  obtain ⟨t_field_15, t_digits_16, t_value_17, hq, hf⟩ := bd3_some hf
                  refine wrV (As := [.int (t_field + 1)]) (rest := []) (wn := [(a_t, .inr (3, [.int t_letter, .int t_field_15, .int t_digits_16, .int t_value_17]))]) hF hG hP hD hS hA hl.1 (c_X7_startNumber l G a_t t_letter t_field t_digits t_value (t_field + 1) t_field_15 t_digits_16 t_value_17 hq) k_X7_startNumber q297 [0] [] [0] rfl rfl rfl rfl ⟨rfl, rfl⟩ (by decide) ⟨0, 3, _, _, rfl, rfl, rfl⟩ rfl rfl (Nat.le_of_ble_eq_true rfl) ⟨(Nat.le_of_ble_eq_true rfl), (Nat.le_of_ble_eq_true rfl)⟩ ⟨(Nat.le_of_ble_eq_true rfl), (Nat.le_of_ble_eq_true rfl)⟩ dX7_takes_97 (fun H locs hP hD hS => ?_)
                  refine lv_iconst (v := 1) hx hb dX7_takes_100 (by decide) ?_
                  have hf : (some (1, t_letter, t_field_15, t_digits_16, t_value_17) : Option (Int32 × Int32 × Int32 × Int32 × Int32)) = some (rr, w_t_letter, w_t_field, w_t_digits, w_t_value) := hf
                  cases hf
                  exact we_z hF hr hlk hP hD hS dX7_takes_101 rfl rfl
            · have hf := (if_pos c0).symm.trans hf
              refine lv_aload_n hx hb dX7_takes_68 rfl (lv_at hl 0 rfl) ?_
              refine gf (C := RX7) (T := TX7) (N := 4) (ci := 3) (v := .int t_letter) hF hG hP inX7 0 rfl rfl 0 (by decide) q132 rfl rfl dX7_takes_69 ?_
              refine lv_bipush (v := 112) hx hb dX7_takes_72 (by decide) ?_
              refine lv_icmp_eq (tgt := 90) hx hb dX7_takes_74 (by decide) (fun c0 => ?_) (fun c0 => ?_)
              · have hf := (if_pos c0).symm.trans hf
                refine lv_aload_n hx hb dX7_takes_90 rfl (lv_at hl 0 rfl) ?_
                refine lv_aload_n hx hb dX7_takes_91 rfl (lv_at hl 0 rfl) ?_
                refine gf (C := RX7) (T := TX7) (N := 4) (ci := 3) (v := .int t_field) hF hG hP inX7 0 rfl rfl 1 (by decide) q133 rfl rfl dX7_takes_92 ?_
                refine lv_iconst (v := 1) hx hb dX7_takes_95 (by decide) ?_
                refine lv_iadd hx hb dX7_takes_96 ?_
                obtain ⟨t_field_18, t_digits_19, t_value_20, hq, hf⟩ := bd3_some hf
                refine wrV (As := [.int (t_field + 1)]) (rest := []) (wn := [(a_t, .inr (3, [.int t_letter, .int t_field_18, .int t_digits_19, .int t_value_20]))]) hF hG hP hD hS hA hl.1 (c_X7_startNumber l G a_t t_letter t_field t_digits t_value (t_field + 1) t_field_18 t_digits_19 t_value_20 hq) k_X7_startNumber q297 [0] [] [0] rfl rfl rfl rfl ⟨rfl, rfl⟩ (by decide) ⟨0, 3, _, _, rfl, rfl, rfl⟩ rfl rfl (Nat.le_of_ble_eq_true rfl) ⟨(Nat.le_of_ble_eq_true rfl), (Nat.le_of_ble_eq_true rfl)⟩ ⟨(Nat.le_of_ble_eq_true rfl), (Nat.le_of_ble_eq_true rfl)⟩ dX7_takes_97 (fun H locs hP hD hS => ?_)
                refine lv_iconst (v := 1) hx hb dX7_takes_100 (by decide) ?_
                have hf : (some (1, t_letter, t_field_18, t_digits_19, t_value_20) : Option (Int32 × Int32 × Int32 × Int32 × Int32)) = some (rr, w_t_letter, w_t_field, w_t_digits, w_t_value) := hf
                cases hf
                exact we_z hF hr hlk hP hD hS dX7_takes_101 rfl rfl
              · have hf := (if_neg c0).symm.trans hf
                refine lv_iload_n hx hb dX7_takes_77 rfl (lv_at hl 1 rfl) ?_
                refine lv_bipush (v := 58) hx hb dX7_takes_78 (by decide) ?_
                refine lv_icmp_ne (tgt := 102) hx hb dX7_takes_80 (by decide) (fun c0 => ?_) (fun c0 => ?_)
                · have hf := (if_neg c0).symm.trans hf
                  refine lv_iconst (v := 0) hx hb dX7_takes_102 (by decide) ?_
                  have hf : (some (0, t_letter, t_field, t_digits, t_value) : Option (Int32 × Int32 × Int32 × Int32 × Int32)) = some (rr, w_t_letter, w_t_field, w_t_digits, w_t_value) := hf
                  cases hf
                  exact we_z hF hr hlk hP hD hS dX7_takes_103 rfl rfl
                · have hf := (if_pos c0).symm.trans hf
                  refine lv_aload_n hx hb dX7_takes_83 rfl (lv_at hl 0 rfl) ?_
                  obtain ⟨r_21, hq, hf⟩ := bd1_some hf
                  refine rdV (As := []) (rest := []) hF hG hP hl.1 (c_X7_wantsLonger l G a_t t_letter t_field t_digits t_value r_21 hq) k_X7_wantsLonger q333 [0] rfl ⟨0, 3, _, _, rfl, rfl, rfl⟩ rfl rfl (Nat.le_of_ble_eq_true rfl) ⟨(Nat.le_of_ble_eq_true rfl), (Nat.le_of_ble_eq_true rfl)⟩ ⟨(Nat.zero_le _), (Nat.zero_le _)⟩ dX7_takes_84 ?_
                  refine lv_if_eq (tgt := 102) hx hb dX7_takes_87 (by decide) (fun c0 => ?_) (fun c0 => ?_)
                  · have hf := (if_pos c0).symm.trans hf
                    refine lv_iconst (v := 0) hx hb dX7_takes_102 (by decide) ?_
                    have hf : (some (0, t_letter, t_field, t_digits, t_value) : Option (Int32 × Int32 × Int32 × Int32 × Int32)) = some (rr, w_t_letter, w_t_field, w_t_digits, w_t_value) := hf
                    cases hf
                    exact we_z hF hr hlk hP hD hS dX7_takes_103 rfl rfl
                  · have hf := (if_neg c0).symm.trans hf
                    refine lv_aload_n hx hb dX7_takes_90 rfl (lv_at hl 0 rfl) ?_
                    refine lv_aload_n hx hb dX7_takes_91 rfl (lv_at hl 0 rfl) ?_
                    refine gf (C := RX7) (T := TX7) (N := 4) (ci := 3) (v := .int t_field) hF hG hP inX7 0 rfl rfl 1 (by decide) q133 rfl rfl dX7_takes_92 ?_
                    refine lv_iconst (v := 1) hx hb dX7_takes_95 (by decide) ?_
                    refine lv_iadd hx hb dX7_takes_96 ?_
                    obtain ⟨t_field_22, t_digits_23, t_value_24, hq, hf⟩ := bd3_some hf
                    refine wrV (As := [.int (t_field + 1)]) (rest := []) (wn := [(a_t, .inr (3, [.int t_letter, .int t_field_22, .int t_digits_23, .int t_value_24]))]) hF hG hP hD hS hA hl.1 (c_X7_startNumber l G a_t t_letter t_field t_digits t_value (t_field + 1) t_field_22 t_digits_23 t_value_24 hq) k_X7_startNumber q297 [0] [] [0] rfl rfl rfl rfl ⟨rfl, rfl⟩ (by decide) ⟨0, 3, _, _, rfl, rfl, rfl⟩ rfl rfl (Nat.le_of_ble_eq_true rfl) ⟨(Nat.le_of_ble_eq_true rfl), (Nat.le_of_ble_eq_true rfl)⟩ ⟨(Nat.le_of_ble_eq_true rfl), (Nat.le_of_ble_eq_true rfl)⟩ dX7_takes_97 (fun H locs hP hD hS => ?_)
                    refine lv_iconst (v := 1) hx hb dX7_takes_100 (by decide) ?_
                    have hf : (some (1, t_letter, t_field_22, t_digits_23, t_value_24) : Option (Int32 × Int32 × Int32 × Int32 × Int32)) = some (rr, w_t_letter, w_t_field, w_t_digits, w_t_value) := hf
                    cases hf
                    exact we_z hF hr hlk hP hD hS dX7_takes_101 rfl rfl
          · have hf := (if_pos c0).symm.trans hf
            refine lv_aload_n hx hb dX7_takes_56 rfl (lv_at hl 0 rfl) ?_
            obtain ⟨t_letter_25, t_field_26, t_digits_27, t_value_28, hq, hf⟩ := bd4_some hf
            refine wrV (As := []) (rest := []) (wn := [(a_t, .inr (3, [.int t_letter_25, .int t_field_26, .int t_digits_27, .int t_value_28]))]) hF hG hP hD hS hA hl.1 (c_X7_start l G a_t t_letter t_field t_digits t_value t_letter_25 t_field_26 t_digits_27 t_value_28 hq) k_X7_start q337 [0] [] [0] rfl rfl rfl rfl ⟨rfl, rfl⟩ (by decide) ⟨0, 3, _, _, rfl, rfl, rfl⟩ rfl rfl (Nat.le_of_ble_eq_true rfl) ⟨(Nat.le_of_ble_eq_true rfl), (Nat.le_of_ble_eq_true rfl)⟩ ⟨(Nat.le_of_ble_eq_true rfl), (Nat.le_of_ble_eq_true rfl)⟩ dX7_takes_57 (fun H locs hP hD hS => ?_)
            refine lv_iconst (v := 1) hx hb dX7_takes_60 (by decide) ?_
            have hf : (some (1, t_letter_25, t_field_26, t_digits_27, t_value_28) : Option (Int32 × Int32 × Int32 × Int32 × Int32)) = some (rr, w_t_letter, w_t_field, w_t_digits, w_t_value) := hf
            cases hf
            exact we_z hF hr hlk hP hD hS dX7_takes_61 rfl rfl
      · have hf := (if_pos c0).symm.trans hf
        refine lv_iconst (v := 0) hx hb dX7_takes_41 (by decide) ?_
        have hf : (some (0, t_letter, t_field, t_digits, t_value) : Option (Int32 × Int32 × Int32 × Int32 × Int32)) = some (rr, w_t_letter, w_t_field, w_t_digits, w_t_value) := hf
        cases hf
        exact we_z hF hr hlk hP hD hS dX7_takes_42 rfl rfl
    · have hf := (if_neg c0).symm.trans hf
      refine lv_iload_n hx hb dX7_takes_19 rfl (lv_at hl 1 rfl) ?_
      refine lv_bipush (v := 57) hx hb dX7_takes_20 (by decide) ?_
      refine lv_icmp_gt (tgt := 34) hx hb dX7_takes_22 (by decide) (fun c0 => ?_) (fun c0 => ?_)
      · have hf := (if_pos c0).symm.trans hf
        refine lv_aload_n hx hb dX7_takes_34 rfl (lv_at hl 0 rfl) ?_
        obtain ⟨r_29, hq, hf⟩ := bd1_some hf
        refine rdV (As := []) (rest := []) hF hG hP hl.1 (c_X7_numberStands l G a_t t_letter t_field t_digits t_value r_29 hq) k_X7_numberStands q329 [0] rfl ⟨0, 3, _, _, rfl, rfl, rfl⟩ rfl rfl (Nat.le_of_ble_eq_true rfl) ⟨(Nat.le_of_ble_eq_true rfl), (Nat.le_of_ble_eq_true rfl)⟩ ⟨(Nat.zero_le _), (Nat.zero_le _)⟩ dX7_takes_35 ?_
        refine lv_if_ne (tgt := 43) hx hb dX7_takes_38 (by decide) (fun c0 => ?_) (fun c0 => ?_)
        · have hf := (if_neg c0).symm.trans hf
          refine lv_iload_n hx hb dX7_takes_43 rfl (lv_at hl 1 rfl) ?_
          refine lv_bipush (v := 59) hx hb dX7_takes_44 (by decide) ?_
          refine lv_icmp_ne (tgt := 62) hx hb dX7_takes_46 (by decide) (fun c0 => ?_) (fun c0 => ?_)
          · have hf := (if_neg c0).symm.trans hf
            refine lv_iload_n hx hb dX7_takes_62 rfl (lv_at hl 1 rfl) ?_
            refine lv_bipush (v := 44) hx hb dX7_takes_63 (by decide) ?_
            refine lv_icmp_ne (tgt := 77) hx hb dX7_takes_65 (by decide) (fun c0 => ?_) (fun c0 => ?_)
            · have hf := (if_neg c0).symm.trans hf
              refine lv_iload_n hx hb dX7_takes_77 rfl (lv_at hl 1 rfl) ?_
              refine lv_bipush (v := 58) hx hb dX7_takes_78 (by decide) ?_
              refine lv_icmp_ne (tgt := 102) hx hb dX7_takes_80 (by decide) (fun c0 => ?_) (fun c0 => ?_)
              · have hf := (if_neg c0).symm.trans hf
                refine lv_iconst (v := 0) hx hb dX7_takes_102 (by decide) ?_
                have hf : (some (0, t_letter, t_field, t_digits, t_value) : Option (Int32 × Int32 × Int32 × Int32 × Int32)) = some (rr, w_t_letter, w_t_field, w_t_digits, w_t_value) := hf
                cases hf
                exact we_z hF hr hlk hP hD hS dX7_takes_103 rfl rfl
              · have hf := (if_pos c0).symm.trans hf
                refine lv_aload_n hx hb dX7_takes_83 rfl (lv_at hl 0 rfl) ?_
                obtain ⟨r_30, hq, hf⟩ := bd1_some hf
                refine rdV (As := []) (rest := []) hF hG hP hl.1 (c_X7_wantsLonger l G a_t t_letter t_field t_digits t_value r_30 hq) k_X7_wantsLonger q333 [0] rfl ⟨0, 3, _, _, rfl, rfl, rfl⟩ rfl rfl (Nat.le_of_ble_eq_true rfl) ⟨(Nat.le_of_ble_eq_true rfl), (Nat.le_of_ble_eq_true rfl)⟩ ⟨(Nat.zero_le _), (Nat.zero_le _)⟩ dX7_takes_84 ?_
                refine lv_if_eq (tgt := 102) hx hb dX7_takes_87 (by decide) (fun c0 => ?_) (fun c0 => ?_)
                · have hf := (if_pos c0).symm.trans hf
                  refine lv_iconst (v := 0) hx hb dX7_takes_102 (by decide) ?_
                  have hf : (some (0, t_letter, t_field, t_digits, t_value) : Option (Int32 × Int32 × Int32 × Int32 × Int32)) = some (rr, w_t_letter, w_t_field, w_t_digits, w_t_value) := hf
                  cases hf
                  exact we_z hF hr hlk hP hD hS dX7_takes_103 rfl rfl
                · have hf := (if_neg c0).symm.trans hf
                  refine lv_aload_n hx hb dX7_takes_90 rfl (lv_at hl 0 rfl) ?_
                  refine lv_aload_n hx hb dX7_takes_91 rfl (lv_at hl 0 rfl) ?_
                  refine gf (C := RX7) (T := TX7) (N := 4) (ci := 3) (v := .int t_field) hF hG hP inX7 0 rfl rfl 1 (by decide) q133 rfl rfl dX7_takes_92 ?_
                  refine lv_iconst (v := 1) hx hb dX7_takes_95 (by decide) ?_
                  refine lv_iadd hx hb dX7_takes_96 ?_
                  obtain ⟨t_field_31, t_digits_32, t_value_33, hq, hf⟩ := bd3_some hf
                  refine wrV (As := [.int (t_field + 1)]) (rest := []) (wn := [(a_t, .inr (3, [.int t_letter, .int t_field_31, .int t_digits_32, .int t_value_33]))]) hF hG hP hD hS hA hl.1 (c_X7_startNumber l G a_t t_letter t_field t_digits t_value (t_field + 1) t_field_31 t_digits_32 t_value_33 hq) k_X7_startNumber q297 [0] [] [0] rfl rfl rfl rfl ⟨rfl, rfl⟩ (by decide) ⟨0, 3, _, _, rfl, rfl, rfl⟩ rfl rfl (Nat.le_of_ble_eq_true rfl) ⟨(Nat.le_of_ble_eq_true rfl), (Nat.le_of_ble_eq_true rfl)⟩ ⟨(Nat.le_of_ble_eq_true rfl), (Nat.le_of_ble_eq_true rfl)⟩ dX7_takes_97 (fun H locs hP hD hS => ?_)
                  refine lv_iconst (v := 1) hx hb dX7_takes_100 (by decide) ?_
                  have hf : (some (1, t_letter, t_field_31, t_digits_32, t_value_33) : Option (Int32 × Int32 × Int32 × Int32 × Int32)) = some (rr, w_t_letter, w_t_field, w_t_digits, w_t_value) := hf
                  cases hf
                  exact we_z hF hr hlk hP hD hS dX7_takes_101 rfl rfl
            · have hf := (if_pos c0).symm.trans hf
              refine lv_aload_n hx hb dX7_takes_68 rfl (lv_at hl 0 rfl) ?_
              refine gf (C := RX7) (T := TX7) (N := 4) (ci := 3) (v := .int t_letter) hF hG hP inX7 0 rfl rfl 0 (by decide) q132 rfl rfl dX7_takes_69 ?_
              refine lv_bipush (v := 112) hx hb dX7_takes_72 (by decide) ?_
              refine lv_icmp_eq (tgt := 90) hx hb dX7_takes_74 (by decide) (fun c0 => ?_) (fun c0 => ?_)
              · have hf := (if_pos c0).symm.trans hf
                refine lv_aload_n hx hb dX7_takes_90 rfl (lv_at hl 0 rfl) ?_
                refine lv_aload_n hx hb dX7_takes_91 rfl (lv_at hl 0 rfl) ?_
                refine gf (C := RX7) (T := TX7) (N := 4) (ci := 3) (v := .int t_field) hF hG hP inX7 0 rfl rfl 1 (by decide) q133 rfl rfl dX7_takes_92 ?_
                refine lv_iconst (v := 1) hx hb dX7_takes_95 (by decide) ?_
                refine lv_iadd hx hb dX7_takes_96 ?_
                obtain ⟨t_field_34, t_digits_35, t_value_36, hq, hf⟩ := bd3_some hf
                refine wrV (As := [.int (t_field + 1)]) (rest := []) (wn := [(a_t, .inr (3, [.int t_letter, .int t_field_34, .int t_digits_35, .int t_value_36]))]) hF hG hP hD hS hA hl.1 (c_X7_startNumber l G a_t t_letter t_field t_digits t_value (t_field + 1) t_field_34 t_digits_35 t_value_36 hq) k_X7_startNumber q297 [0] [] [0] rfl rfl rfl rfl ⟨rfl, rfl⟩ (by decide) ⟨0, 3, _, _, rfl, rfl, rfl⟩ rfl rfl (Nat.le_of_ble_eq_true rfl) ⟨(Nat.le_of_ble_eq_true rfl), (Nat.le_of_ble_eq_true rfl)⟩ ⟨(Nat.le_of_ble_eq_true rfl), (Nat.le_of_ble_eq_true rfl)⟩ dX7_takes_97 (fun H locs hP hD hS => ?_)
                refine lv_iconst (v := 1) hx hb dX7_takes_100 (by decide) ?_
                have hf : (some (1, t_letter, t_field_34, t_digits_35, t_value_36) : Option (Int32 × Int32 × Int32 × Int32 × Int32)) = some (rr, w_t_letter, w_t_field, w_t_digits, w_t_value) := hf
                cases hf
                exact we_z hF hr hlk hP hD hS dX7_takes_101 rfl rfl
              · have hf := (if_neg c0).symm.trans hf
                refine lv_iload_n hx hb dX7_takes_77 rfl (lv_at hl 1 rfl) ?_
                refine lv_bipush (v := 58) hx hb dX7_takes_78 (by decide) ?_
                refine lv_icmp_ne (tgt := 102) hx hb dX7_takes_80 (by decide) (fun c0 => ?_) (fun c0 => ?_)
                · have hf := (if_neg c0).symm.trans hf
                  refine lv_iconst (v := 0) hx hb dX7_takes_102 (by decide) ?_
                  have hf : (some (0, t_letter, t_field, t_digits, t_value) : Option (Int32 × Int32 × Int32 × Int32 × Int32)) = some (rr, w_t_letter, w_t_field, w_t_digits, w_t_value) := hf
                  cases hf
                  exact we_z hF hr hlk hP hD hS dX7_takes_103 rfl rfl
                · have hf := (if_pos c0).symm.trans hf
                  refine lv_aload_n hx hb dX7_takes_83 rfl (lv_at hl 0 rfl) ?_
                  obtain ⟨r_37, hq, hf⟩ := bd1_some hf
                  refine rdV (As := []) (rest := []) hF hG hP hl.1 (c_X7_wantsLonger l G a_t t_letter t_field t_digits t_value r_37 hq) k_X7_wantsLonger q333 [0] rfl ⟨0, 3, _, _, rfl, rfl, rfl⟩ rfl rfl (Nat.le_of_ble_eq_true rfl) ⟨(Nat.le_of_ble_eq_true rfl), (Nat.le_of_ble_eq_true rfl)⟩ ⟨(Nat.zero_le _), (Nat.zero_le _)⟩ dX7_takes_84 ?_
                  refine lv_if_eq (tgt := 102) hx hb dX7_takes_87 (by decide) (fun c0 => ?_) (fun c0 => ?_)
                  · have hf := (if_pos c0).symm.trans hf
                    refine lv_iconst (v := 0) hx hb dX7_takes_102 (by decide) ?_
                    have hf : (some (0, t_letter, t_field, t_digits, t_value) : Option (Int32 × Int32 × Int32 × Int32 × Int32)) = some (rr, w_t_letter, w_t_field, w_t_digits, w_t_value) := hf
                    cases hf
                    exact we_z hF hr hlk hP hD hS dX7_takes_103 rfl rfl
                  · have hf := (if_neg c0).symm.trans hf
                    refine lv_aload_n hx hb dX7_takes_90 rfl (lv_at hl 0 rfl) ?_
                    refine lv_aload_n hx hb dX7_takes_91 rfl (lv_at hl 0 rfl) ?_
                    refine gf (C := RX7) (T := TX7) (N := 4) (ci := 3) (v := .int t_field) hF hG hP inX7 0 rfl rfl 1 (by decide) q133 rfl rfl dX7_takes_92 ?_
                    refine lv_iconst (v := 1) hx hb dX7_takes_95 (by decide) ?_
                    refine lv_iadd hx hb dX7_takes_96 ?_
                    obtain ⟨t_field_38, t_digits_39, t_value_40, hq, hf⟩ := bd3_some hf
                    refine wrV (As := [.int (t_field + 1)]) (rest := []) (wn := [(a_t, .inr (3, [.int t_letter, .int t_field_38, .int t_digits_39, .int t_value_40]))]) hF hG hP hD hS hA hl.1 (c_X7_startNumber l G a_t t_letter t_field t_digits t_value (t_field + 1) t_field_38 t_digits_39 t_value_40 hq) k_X7_startNumber q297 [0] [] [0] rfl rfl rfl rfl ⟨rfl, rfl⟩ (by decide) ⟨0, 3, _, _, rfl, rfl, rfl⟩ rfl rfl (Nat.le_of_ble_eq_true rfl) ⟨(Nat.le_of_ble_eq_true rfl), (Nat.le_of_ble_eq_true rfl)⟩ ⟨(Nat.le_of_ble_eq_true rfl), (Nat.le_of_ble_eq_true rfl)⟩ dX7_takes_97 (fun H locs hP hD hS => ?_)
                    refine lv_iconst (v := 1) hx hb dX7_takes_100 (by decide) ?_
                    have hf : (some (1, t_letter, t_field_38, t_digits_39, t_value_40) : Option (Int32 × Int32 × Int32 × Int32 × Int32)) = some (rr, w_t_letter, w_t_field, w_t_digits, w_t_value) := hf
                    cases hf
                    exact we_z hF hr hlk hP hD hS dX7_takes_101 rfl rfl
          · have hf := (if_pos c0).symm.trans hf
            refine lv_aload_n hx hb dX7_takes_49 rfl (lv_at hl 0 rfl) ?_
            obtain ⟨r_41, hq, hf⟩ := bd1_some hf
            refine rdV (As := []) (rest := []) hF hG hP hl.1 (c_X7_wantsLonger l G a_t t_letter t_field t_digits t_value r_41 hq) k_X7_wantsLonger q333 [0] rfl ⟨0, 3, _, _, rfl, rfl, rfl⟩ rfl rfl (Nat.le_of_ble_eq_true rfl) ⟨(Nat.le_of_ble_eq_true rfl), (Nat.le_of_ble_eq_true rfl)⟩ ⟨(Nat.zero_le _), (Nat.zero_le _)⟩ dX7_takes_50 ?_
            refine lv_if_ne (tgt := 62) hx hb dX7_takes_53 (by decide) (fun c0 => ?_) (fun c0 => ?_)
            · have hf := (if_neg c0).symm.trans hf
              refine lv_iload_n hx hb dX7_takes_62 rfl (lv_at hl 1 rfl) ?_
              refine lv_bipush (v := 44) hx hb dX7_takes_63 (by decide) ?_
              refine lv_icmp_ne (tgt := 77) hx hb dX7_takes_65 (by decide) (fun c0 => ?_) (fun c0 => ?_)
              · have hf := (if_neg c0).symm.trans hf
                refine lv_iload_n hx hb dX7_takes_77 rfl (lv_at hl 1 rfl) ?_
                refine lv_bipush (v := 58) hx hb dX7_takes_78 (by decide) ?_
                refine lv_icmp_ne (tgt := 102) hx hb dX7_takes_80 (by decide) (fun c0 => ?_) (fun c0 => ?_)
                · have hf := (if_neg c0).symm.trans hf
                  refine lv_iconst (v := 0) hx hb dX7_takes_102 (by decide) ?_
                  have hf : (some (0, t_letter, t_field, t_digits, t_value) : Option (Int32 × Int32 × Int32 × Int32 × Int32)) = some (rr, w_t_letter, w_t_field, w_t_digits, w_t_value) := hf
                  cases hf
                  exact we_z hF hr hlk hP hD hS dX7_takes_103 rfl rfl
                · have hf := (if_pos c0).symm.trans hf
                  refine lv_aload_n hx hb dX7_takes_83 rfl (lv_at hl 0 rfl) ?_
                  obtain ⟨r_42, hq, hf⟩ := bd1_some hf
                  refine rdV (As := []) (rest := []) hF hG hP hl.1 (c_X7_wantsLonger l G a_t t_letter t_field t_digits t_value r_42 hq) k_X7_wantsLonger q333 [0] rfl ⟨0, 3, _, _, rfl, rfl, rfl⟩ rfl rfl (Nat.le_of_ble_eq_true rfl) ⟨(Nat.le_of_ble_eq_true rfl), (Nat.le_of_ble_eq_true rfl)⟩ ⟨(Nat.zero_le _), (Nat.zero_le _)⟩ dX7_takes_84 ?_
                  refine lv_if_eq (tgt := 102) hx hb dX7_takes_87 (by decide) (fun c0 => ?_) (fun c0 => ?_)
                  · have hf := (if_pos c0).symm.trans hf
                    refine lv_iconst (v := 0) hx hb dX7_takes_102 (by decide) ?_
                    have hf : (some (0, t_letter, t_field, t_digits, t_value) : Option (Int32 × Int32 × Int32 × Int32 × Int32)) = some (rr, w_t_letter, w_t_field, w_t_digits, w_t_value) := hf
                    cases hf
                    exact we_z hF hr hlk hP hD hS dX7_takes_103 rfl rfl
                  · have hf := (if_neg c0).symm.trans hf
                    refine lv_aload_n hx hb dX7_takes_90 rfl (lv_at hl 0 rfl) ?_
                    refine lv_aload_n hx hb dX7_takes_91 rfl (lv_at hl 0 rfl) ?_
                    refine gf (C := RX7) (T := TX7) (N := 4) (ci := 3) (v := .int t_field) hF hG hP inX7 0 rfl rfl 1 (by decide) q133 rfl rfl dX7_takes_92 ?_
                    refine lv_iconst (v := 1) hx hb dX7_takes_95 (by decide) ?_
                    refine lv_iadd hx hb dX7_takes_96 ?_
                    obtain ⟨t_field_43, t_digits_44, t_value_45, hq, hf⟩ := bd3_some hf
                    refine wrV (As := [.int (t_field + 1)]) (rest := []) (wn := [(a_t, .inr (3, [.int t_letter, .int t_field_43, .int t_digits_44, .int t_value_45]))]) hF hG hP hD hS hA hl.1 (c_X7_startNumber l G a_t t_letter t_field t_digits t_value (t_field + 1) t_field_43 t_digits_44 t_value_45 hq) k_X7_startNumber q297 [0] [] [0] rfl rfl rfl rfl ⟨rfl, rfl⟩ (by decide) ⟨0, 3, _, _, rfl, rfl, rfl⟩ rfl rfl (Nat.le_of_ble_eq_true rfl) ⟨(Nat.le_of_ble_eq_true rfl), (Nat.le_of_ble_eq_true rfl)⟩ ⟨(Nat.le_of_ble_eq_true rfl), (Nat.le_of_ble_eq_true rfl)⟩ dX7_takes_97 (fun H locs hP hD hS => ?_)
                    refine lv_iconst (v := 1) hx hb dX7_takes_100 (by decide) ?_
                    have hf : (some (1, t_letter, t_field_43, t_digits_44, t_value_45) : Option (Int32 × Int32 × Int32 × Int32 × Int32)) = some (rr, w_t_letter, w_t_field, w_t_digits, w_t_value) := hf
                    cases hf
                    exact we_z hF hr hlk hP hD hS dX7_takes_101 rfl rfl
              · have hf := (if_pos c0).symm.trans hf
                refine lv_aload_n hx hb dX7_takes_68 rfl (lv_at hl 0 rfl) ?_
                refine gf (C := RX7) (T := TX7) (N := 4) (ci := 3) (v := .int t_letter) hF hG hP inX7 0 rfl rfl 0 (by decide) q132 rfl rfl dX7_takes_69 ?_
                refine lv_bipush (v := 112) hx hb dX7_takes_72 (by decide) ?_
                refine lv_icmp_eq (tgt := 90) hx hb dX7_takes_74 (by decide) (fun c0 => ?_) (fun c0 => ?_)
                · have hf := (if_pos c0).symm.trans hf
                  refine lv_aload_n hx hb dX7_takes_90 rfl (lv_at hl 0 rfl) ?_
                  refine lv_aload_n hx hb dX7_takes_91 rfl (lv_at hl 0 rfl) ?_
                  refine gf (C := RX7) (T := TX7) (N := 4) (ci := 3) (v := .int t_field) hF hG hP inX7 0 rfl rfl 1 (by decide) q133 rfl rfl dX7_takes_92 ?_
                  refine lv_iconst (v := 1) hx hb dX7_takes_95 (by decide) ?_
                  refine lv_iadd hx hb dX7_takes_96 ?_
                  obtain ⟨t_field_46, t_digits_47, t_value_48, hq, hf⟩ := bd3_some hf
                  refine wrV (As := [.int (t_field + 1)]) (rest := []) (wn := [(a_t, .inr (3, [.int t_letter, .int t_field_46, .int t_digits_47, .int t_value_48]))]) hF hG hP hD hS hA hl.1 (c_X7_startNumber l G a_t t_letter t_field t_digits t_value (t_field + 1) t_field_46 t_digits_47 t_value_48 hq) k_X7_startNumber q297 [0] [] [0] rfl rfl rfl rfl ⟨rfl, rfl⟩ (by decide) ⟨0, 3, _, _, rfl, rfl, rfl⟩ rfl rfl (Nat.le_of_ble_eq_true rfl) ⟨(Nat.le_of_ble_eq_true rfl), (Nat.le_of_ble_eq_true rfl)⟩ ⟨(Nat.le_of_ble_eq_true rfl), (Nat.le_of_ble_eq_true rfl)⟩ dX7_takes_97 (fun H locs hP hD hS => ?_)
                  refine lv_iconst (v := 1) hx hb dX7_takes_100 (by decide) ?_
                  have hf : (some (1, t_letter, t_field_46, t_digits_47, t_value_48) : Option (Int32 × Int32 × Int32 × Int32 × Int32)) = some (rr, w_t_letter, w_t_field, w_t_digits, w_t_value) := hf
                  cases hf
                  exact we_z hF hr hlk hP hD hS dX7_takes_101 rfl rfl
                · have hf := (if_neg c0).symm.trans hf
                  refine lv_iload_n hx hb dX7_takes_77 rfl (lv_at hl 1 rfl) ?_
                  refine lv_bipush (v := 58) hx hb dX7_takes_78 (by decide) ?_
                  refine lv_icmp_ne (tgt := 102) hx hb dX7_takes_80 (by decide) (fun c0 => ?_) (fun c0 => ?_)
                  · have hf := (if_neg c0).symm.trans hf
                    refine lv_iconst (v := 0) hx hb dX7_takes_102 (by decide) ?_
                    have hf : (some (0, t_letter, t_field, t_digits, t_value) : Option (Int32 × Int32 × Int32 × Int32 × Int32)) = some (rr, w_t_letter, w_t_field, w_t_digits, w_t_value) := hf
                    cases hf
                    exact we_z hF hr hlk hP hD hS dX7_takes_103 rfl rfl
                  · have hf := (if_pos c0).symm.trans hf
                    refine lv_aload_n hx hb dX7_takes_83 rfl (lv_at hl 0 rfl) ?_
                    obtain ⟨r_49, hq, hf⟩ := bd1_some hf
                    refine rdV (As := []) (rest := []) hF hG hP hl.1 (c_X7_wantsLonger l G a_t t_letter t_field t_digits t_value r_49 hq) k_X7_wantsLonger q333 [0] rfl ⟨0, 3, _, _, rfl, rfl, rfl⟩ rfl rfl (Nat.le_of_ble_eq_true rfl) ⟨(Nat.le_of_ble_eq_true rfl), (Nat.le_of_ble_eq_true rfl)⟩ ⟨(Nat.zero_le _), (Nat.zero_le _)⟩ dX7_takes_84 ?_
                    refine lv_if_eq (tgt := 102) hx hb dX7_takes_87 (by decide) (fun c0 => ?_) (fun c0 => ?_)
                    · have hf := (if_pos c0).symm.trans hf
                      refine lv_iconst (v := 0) hx hb dX7_takes_102 (by decide) ?_
                      have hf : (some (0, t_letter, t_field, t_digits, t_value) : Option (Int32 × Int32 × Int32 × Int32 × Int32)) = some (rr, w_t_letter, w_t_field, w_t_digits, w_t_value) := hf
                      cases hf
                      exact we_z hF hr hlk hP hD hS dX7_takes_103 rfl rfl
                    · have hf := (if_neg c0).symm.trans hf
                      refine lv_aload_n hx hb dX7_takes_90 rfl (lv_at hl 0 rfl) ?_
                      refine lv_aload_n hx hb dX7_takes_91 rfl (lv_at hl 0 rfl) ?_
                      refine gf (C := RX7) (T := TX7) (N := 4) (ci := 3) (v := .int t_field) hF hG hP inX7 0 rfl rfl 1 (by decide) q133 rfl rfl dX7_takes_92 ?_
                      refine lv_iconst (v := 1) hx hb dX7_takes_95 (by decide) ?_
                      refine lv_iadd hx hb dX7_takes_96 ?_
                      obtain ⟨t_field_50, t_digits_51, t_value_52, hq, hf⟩ := bd3_some hf
                      refine wrV (As := [.int (t_field + 1)]) (rest := []) (wn := [(a_t, .inr (3, [.int t_letter, .int t_field_50, .int t_digits_51, .int t_value_52]))]) hF hG hP hD hS hA hl.1 (c_X7_startNumber l G a_t t_letter t_field t_digits t_value (t_field + 1) t_field_50 t_digits_51 t_value_52 hq) k_X7_startNumber q297 [0] [] [0] rfl rfl rfl rfl ⟨rfl, rfl⟩ (by decide) ⟨0, 3, _, _, rfl, rfl, rfl⟩ rfl rfl (Nat.le_of_ble_eq_true rfl) ⟨(Nat.le_of_ble_eq_true rfl), (Nat.le_of_ble_eq_true rfl)⟩ ⟨(Nat.le_of_ble_eq_true rfl), (Nat.le_of_ble_eq_true rfl)⟩ dX7_takes_97 (fun H locs hP hD hS => ?_)
                      refine lv_iconst (v := 1) hx hb dX7_takes_100 (by decide) ?_
                      have hf : (some (1, t_letter, t_field_50, t_digits_51, t_value_52) : Option (Int32 × Int32 × Int32 × Int32 × Int32)) = some (rr, w_t_letter, w_t_field, w_t_digits, w_t_value) := hf
                      cases hf
                      exact we_z hF hr hlk hP hD hS dX7_takes_101 rfl rfl
            · have hf := (if_pos c0).symm.trans hf
              refine lv_aload_n hx hb dX7_takes_56 rfl (lv_at hl 0 rfl) ?_
              obtain ⟨t_letter_53, t_field_54, t_digits_55, t_value_56, hq, hf⟩ := bd4_some hf
              refine wrV (As := []) (rest := []) (wn := [(a_t, .inr (3, [.int t_letter_53, .int t_field_54, .int t_digits_55, .int t_value_56]))]) hF hG hP hD hS hA hl.1 (c_X7_start l G a_t t_letter t_field t_digits t_value t_letter_53 t_field_54 t_digits_55 t_value_56 hq) k_X7_start q337 [0] [] [0] rfl rfl rfl rfl ⟨rfl, rfl⟩ (by decide) ⟨0, 3, _, _, rfl, rfl, rfl⟩ rfl rfl (Nat.le_of_ble_eq_true rfl) ⟨(Nat.le_of_ble_eq_true rfl), (Nat.le_of_ble_eq_true rfl)⟩ ⟨(Nat.le_of_ble_eq_true rfl), (Nat.le_of_ble_eq_true rfl)⟩ dX7_takes_57 (fun H locs hP hD hS => ?_)
              refine lv_iconst (v := 1) hx hb dX7_takes_60 (by decide) ?_
              have hf : (some (1, t_letter_53, t_field_54, t_digits_55, t_value_56) : Option (Int32 × Int32 × Int32 × Int32 × Int32)) = some (rr, w_t_letter, w_t_field, w_t_digits, w_t_value) := hf
              cases hf
              exact we_z hF hr hlk hP hD hS dX7_takes_61 rfl rfl
        · have hf := (if_pos c0).symm.trans hf
          refine lv_iconst (v := 0) hx hb dX7_takes_41 (by decide) ?_
          have hf : (some (0, t_letter, t_field, t_digits, t_value) : Option (Int32 × Int32 × Int32 × Int32 × Int32)) = some (rr, w_t_letter, w_t_field, w_t_digits, w_t_value) := hf
          cases hf
          exact we_z hF hr hlk hP hD hS dX7_takes_42 rfl rfl
      · have hf := (if_neg c0).symm.trans hf
        refine lv_aload_n hx hb dX7_takes_25 rfl (lv_at hl 0 rfl) ?_
        refine lv_iload_n hx hb dX7_takes_26 rfl (lv_at hl 1 rfl) ?_
        refine lv_bipush (v := 48) hx hb dX7_takes_27 (by decide) ?_
        refine lv_isub hx hb dX7_takes_29 ?_
        obtain ⟨r_57, t_digits_58, t_value_59, hq, hf⟩ := bd3_some hf
        refine wrV (As := [.int (x1 - 48)]) (rest := []) (wn := [(a_t, .inr (3, [.int t_letter, .int t_field, .int t_digits_58, .int t_value_59]))]) hF hG hP hD hS hA hl.1 (c_X7_takesDigit l G a_t t_letter t_field t_digits t_value (x1 - 48) r_57 t_digits_58 t_value_59 hq) k_X7_takesDigit q313 [0] [] [0] rfl rfl rfl rfl ⟨rfl, rfl⟩ (by decide) ⟨0, 3, _, _, rfl, rfl, rfl⟩ rfl rfl (Nat.le_of_ble_eq_true rfl) ⟨(Nat.le_of_ble_eq_true rfl), (Nat.le_of_ble_eq_true rfl)⟩ ⟨(Nat.le_of_ble_eq_true rfl), (Nat.le_of_ble_eq_true rfl)⟩ dX7_takes_30 (fun H locs hP hD hS => ?_)
        obtain ⟨hz, hf⟩ := gd_some hf
        have hf : (some (r_57, t_letter, t_field, t_digits_58, t_value_59) : Option (Int32 × Int32 × Int32 × Int32 × Int32)) = some (rr, w_t_letter, w_t_field, w_t_digits, w_t_value) := hf
        cases hf
        exact we_z hF hr hlk hP hD hS dX7_takes_33 hz rfl
  · have hf := (if_pos c0).symm.trans hf
    refine lv_aload_n hx hb dX7_takes_7 rfl (lv_at hl 0 rfl) ?_
    refine lv_iload_n hx hb dX7_takes_8 rfl (lv_at hl 1 rfl) ?_
    obtain ⟨r_60, t_letter_61, t_field_62, t_digits_63, t_value_64, hq, hf⟩ := bd5_some hf
    refine wrV (As := [.int x1]) (rest := []) (wn := [(a_t, .inr (3, [.int t_letter_61, .int t_field_62, .int t_digits_63, .int t_value_64]))]) hF hG hP hD hS hA hl.1 (c_X7_takesLetter l G a_t t_letter t_field t_digits t_value x1 r_60 t_letter_61 t_field_62 t_digits_63 t_value_64 hq) k_X7_takesLetter q309 [0] [] [0] rfl rfl rfl rfl ⟨rfl, rfl⟩ (by decide) ⟨0, 3, _, _, rfl, rfl, rfl⟩ rfl rfl (Nat.le_of_ble_eq_true rfl) ⟨(Nat.le_of_ble_eq_true rfl), (Nat.le_of_ble_eq_true rfl)⟩ ⟨(Nat.le_of_ble_eq_true rfl), (Nat.le_of_ble_eq_true rfl)⟩ dX7_takes_9 (fun H locs hP hD hS => ?_)
    obtain ⟨hz, hf⟩ := gd_some hf
    have hf : (some (r_60, t_letter_61, t_field_62, t_digits_63, t_value_64) : Option (Int32 × Int32 × Int32 × Int32 × Int32)) = some (rr, w_t_letter, w_t_field, w_t_digits, w_t_value) := hf
    cases hf
    exact we_z hF hr hlk hP hD hS dX7_takes_12 hz rfl
def l_X8_firstRefused_9 (t_length : Int32) (t_codes : Nat → Int32) : Nat → Int32 → Int32 → Int32 → Int32 → Int32 → Option (Int32 × Int32 × Int32 × Int32 × Int32)
  | 0, _, _, _, _, _ => none
  | n + 1, i1_5, t_syntax_letter_6, t_syntax_field_7, t_syntax_digits_8, t_syntax_value_9 => (if t_length ≤ i1_5 then some (t_length, t_syntax_letter_6, t_syntax_field_7, t_syntax_digits_8, t_syntax_value_9) else bd1 (f_X8_codeAt t_codes i1_5) (fun (r_10 : Int32) => bd5 (f_X7_takes t_syntax_letter_6 t_syntax_field_7 t_syntax_digits_8 t_syntax_value_9 r_10) (fun (r_11 : Int32) (t_syntax_letter_12 : Int32) (t_syntax_field_13 : Int32) (t_syntax_digits_14 : Int32) (t_syntax_value_15 : Int32) => (if r_11 = 0 then some (i1_5, t_syntax_letter_12, t_syntax_field_13, t_syntax_digits_14, t_syntax_value_15) else l_X8_firstRefused_9 t_length t_codes n (i1_5 + 1) t_syntax_letter_12 t_syntax_field_13 t_syntax_digits_14 t_syntax_value_15))))
def f_X8_firstRefused (t_length : Int32) (t_codes : Nat → Int32) (t_syntax_letter : Int32) (t_syntax_field : Int32) (t_syntax_digits : Int32) (t_syntax_value : Int32) : Option (Int32 × Int32 × Int32 × Int32 × Int32) := bd4 (f_X7_start t_syntax_letter t_syntax_field t_syntax_digits t_syntax_value) (fun (t_syntax_letter_1 : Int32) (t_syntax_field_2 : Int32) (t_syntax_digits_3 : Int32) (t_syntax_value_4 : Int32) => l_X8_firstRefused_9 t_length t_codes 1000 0 t_syntax_letter_1 t_syntax_field_2 t_syntax_digits_3 t_syntax_value_4)
theorem k_X8_firstRefused : KV yX8_firstRefused cX8_firstRefused 2 (some .int) 0 := ⟨qc_yX8_firstRefused, q4, ⟨by decide +kernel, by decide +kernel, by decide +kernel⟩, qi_yX8_firstRefused, qs_yX8_firstRefused⟩
abbrev RM_X8_firstRefused : Room := { frames := 4, cells := 0, slots := 0, locals := 85 }
set_option maxHeartbeats 4000000 in
set_option maxRecDepth 100000 in
theorem c_X8_firstRefused (l : Launch) (G : GP) (a_t : Nat) (t_length : Int32) (a_t_codes : Nat) (t_codes : Nat → Int32) (a_t_syntax : Nat) (t_syntax_letter : Int32) (t_syntax_field : Int32) (t_syntax_digits : Int32) (t_syntax_value : Int32) (rr : Int32) (w_t_syntax_letter : Int32) (w_t_syntax_field : Int32) (w_t_syntax_digits : Int32) (w_t_syntax_value : Int32) (hf : f_X8_firstRefused t_length t_codes t_syntax_letter t_syntax_field t_syntax_digits t_syntax_value = some (rr, w_t_syntax_letter, w_t_syntax_field, w_t_syntax_digits, w_t_syntax_value)) : WM l yX8_firstRefused cX8_firstRefused 2 (some .int) 4 85 G [.ref a_t] [(a_t, .inr (4, [.ref a_t_codes, .int t_length, .ref a_t_syntax])), (a_t_codes, .inl (G.2.1, 60, .inl t_codes)), (a_t_syntax, .inr (3, [.int t_syntax_letter, .int t_syntax_field, .int t_syntax_digits, .int t_syntax_value]))] (some (.int rr)) [(a_t, .inr (4, [.ref a_t_codes, .int t_length, .ref a_t_syntax])), (a_t_codes, .inl (G.2.1, 60, .inl t_codes)), (a_t_syntax, .inr (3, [.int w_t_syntax_letter, .int w_t_syntax_field, .int w_t_syntax_digits, .int w_t_syntax_value]))] := by
  refine WM.ofW (C := RX8) (by decide) rfl (Nat.le_of_ble_eq_true rfl) ?_
  intro p e s m below meth c A hF hr hlk hG hA hP hD ls hl
  have hl : lv_has ls 2 [(0, .ref a_t)] := hl
  have hx := hF.1
  have hb := hF.2.1
  have hml := hF.2.2.1
  have hown := hF.2.2.2.1
  have hts := hF.2.2.2.2
  have hS : va_S A s.heap s.heap [] := va_S.rf
  unfold f_X8_firstRefused at hf
  refine lv_aload_n hx hb dX8_firstRefused_0 rfl (lv_at hl 0 rfl) ?_
  refine gf (C := RX8) (T := TX8) (N := 3) (ci := 4) (v := .ref a_t_syntax) hF hG hP inX8 0 rfl rfl 2 (by decide) q149 rfl rfl dX8_firstRefused_1 ?_
  obtain ⟨t_syntax_letter_1, t_syntax_field_2, t_syntax_digits_3, t_syntax_value_4, hq, hf⟩ := bd4_some hf
  refine wrVN (As := []) (rest := []) (wn := [(a_t, .inr (4, [.ref a_t_codes, .int t_length, .ref a_t_syntax])), (a_t_codes, .inl (G.2.1, 60, .inl t_codes)), (a_t_syntax, .inr (3, [.int t_syntax_letter_1, .int t_syntax_field_2, .int t_syntax_digits_3, .int t_syntax_value_4]))]) hF hG hP hD hS hA hl.1 (c_X7_start l G a_t_syntax t_syntax_letter t_syntax_field t_syntax_digits t_syntax_value t_syntax_letter_1 t_syntax_field_2 t_syntax_digits_3 t_syntax_value_4 hq) k_X7_start n293 [2] [0, 1] [0, 1, 2] rfl rfl rfl rfl ⟨rfl, rfl⟩ (by decide) ⟨2, 3, _, _, rfl, rfl, rfl⟩ rfl rfl (Nat.le_of_ble_eq_true rfl) ⟨(Nat.le_of_ble_eq_true rfl), (Nat.le_of_ble_eq_true rfl)⟩ ⟨(Nat.le_of_ble_eq_true rfl), (Nat.le_of_ble_eq_true rfl)⟩ dX8_firstRefused_4 (fun H locs hP hD hS => ?_)
  refine lv_iconst (v := 0) hx hb dX8_firstRefused_7 (by decide) ?_
  refine lv_istore_n (lv' := [(1, .int 0), (0, .ref a_t)]) hx hb dX8_firstRefused_8 rfl hl (by decide) rfl (fun ls hl => ?_)
  have L9 : ∀ (n : Nat) (i1_5 : Int32) (t_syntax_letter_6 : Int32) (t_syntax_field_7 : Int32) (t_syntax_digits_8 : Int32) (t_syntax_value_9 : Int32), l_X8_firstRefused_9 t_length t_codes n i1_5 t_syntax_letter_6 t_syntax_field_7 t_syntax_digits_8 t_syntax_value_9 = some (rr, w_t_syntax_letter, w_t_syntax_field, w_t_syntax_digits, w_t_syntax_value) → ∀ (H : Heap) (locs : List Loc), va_P G.1 vwCl ([(a_t, .inr (4, [.ref a_t_codes, .int t_length, .ref a_t_syntax])), (a_t_codes, .inl (G.2.1, 60, .inl t_codes)), (a_t_syntax, .inr (3, [.int t_syntax_letter_6, .int t_syntax_field_7, .int t_syntax_digits_8, .int t_syntax_value_9]))] : va_W) H → va_D A ([(a_t, .inr (4, [.ref a_t_codes, .int t_length, .ref a_t_syntax])), (a_t_codes, .inl (G.2.1, 60, .inl t_codes)), (a_t_syntax, .inr (3, [.int t_syntax_letter_6, .int t_syntax_field_7, .int t_syntax_digits_8, .int t_syntax_value_9]))] : va_W) → va_S A s.heap H locs → ∀ ls : Array Slot, lv_has ls 2 [(0, .ref a_t), (1, .int i1_5)] → W p l e RM_X8_firstRefused s m [.ref a_t].toArray below meth c H locs 0 0 (MQ below (wrQ (some (.int rr)) G [(a_t, .inr (4, [.ref a_t_codes, .int t_length, .ref a_t_syntax])), (a_t_codes, .inl (G.2.1, 60, .inl t_codes)), (a_t_syntax, .inr (3, [.int w_t_syntax_letter, .int w_t_syntax_field, .int w_t_syntax_digits, .int w_t_syntax_value]))] A) [.ref a_t].toArray s 0 0 A) (F0 m 9 ls []) := by
    intro n
    induction n with
    | zero =>
      intro i1_5 t_syntax_letter_6 t_syntax_field_7 t_syntax_digits_8 t_syntax_value_9 hf
      exact nomatch (show none = some (rr, w_t_syntax_letter, w_t_syntax_field, w_t_syntax_digits, w_t_syntax_value) from hf)
    | succ n ih =>
      intro i1_5 t_syntax_letter_6 t_syntax_field_7 t_syntax_digits_8 t_syntax_value_9 hf H locs hP hD hS ls hl
      rw [l_X8_firstRefused_9] at hf
      refine lv_iload_n hx hb dX8_firstRefused_9 rfl (lv_at hl 1 rfl) ?_
      refine lv_aload_n hx hb dX8_firstRefused_10 rfl (lv_at hl 0 rfl) ?_
      refine gf (C := RX8) (T := TX8) (N := 3) (ci := 4) (v := .int t_length) hF hG hP inX8 0 rfl rfl 1 (by decide) q146 rfl rfl dX8_firstRefused_11 ?_
      refine lv_icmp_ge (tgt := 40) hx hb dX8_firstRefused_14 (by decide) (fun c0 => ?_) (fun c0 => ?_)
      · have hf := (if_pos c0).symm.trans hf
        refine lv_aload_n hx hb dX8_firstRefused_40 rfl (lv_at hl 0 rfl) ?_
        refine gf (C := RX8) (T := TX8) (N := 3) (ci := 4) (v := .int t_length) hF hG hP inX8 0 rfl rfl 1 (by decide) q146 rfl rfl dX8_firstRefused_41 ?_
        have hf : (some (t_length, t_syntax_letter_6, t_syntax_field_7, t_syntax_digits_8, t_syntax_value_9) : Option (Int32 × Int32 × Int32 × Int32 × Int32)) = some (rr, w_t_syntax_letter, w_t_syntax_field, w_t_syntax_digits, w_t_syntax_value) := hf
        cases hf
        exact we_i hF hr hlk hP hD hS dX8_firstRefused_44 rfl
      · have hf := (if_neg c0).symm.trans hf
        refine lv_aload_n hx hb dX8_firstRefused_17 rfl (lv_at hl 0 rfl) ?_
        refine gf (C := RX8) (T := TX8) (N := 3) (ci := 4) (v := .ref a_t_syntax) hF hG hP inX8 0 rfl rfl 2 (by decide) q149 rfl rfl dX8_firstRefused_18 ?_
        refine lv_aload_n hx hb dX8_firstRefused_21 rfl (lv_at hl 0 rfl) ?_
        refine lv_iload_n hx hb dX8_firstRefused_22 rfl (lv_at hl 1 rfl) ?_
        obtain ⟨r_10, hq, hf⟩ := bd1_some hf
        refine rdV (As := [.int i1_5]) (rest := [.ref a_t_syntax]) hF hG hP hl.1 (c_X8_codeAt l G a_t t_length a_t_syntax a_t_codes t_codes i1_5 r_10 hq) k_X8_codeAt q301 [0, 1] rfl ⟨0, 4, _, _, rfl, rfl, rfl⟩ rfl rfl (Nat.le_of_ble_eq_true rfl) ⟨(Nat.le_of_ble_eq_true rfl), (Nat.le_of_ble_eq_true rfl)⟩ ⟨(Nat.zero_le _), (Nat.zero_le _)⟩ dX8_firstRefused_23 ?_
        obtain ⟨r_11, t_syntax_letter_12, t_syntax_field_13, t_syntax_digits_14, t_syntax_value_15, hq, hf⟩ := bd5_some hf
        refine wrVN (As := [.int r_10]) (rest := []) (wn := [(a_t, .inr (4, [.ref a_t_codes, .int t_length, .ref a_t_syntax])), (a_t_codes, .inl (G.2.1, 60, .inl t_codes)), (a_t_syntax, .inr (3, [.int t_syntax_letter_12, .int t_syntax_field_13, .int t_syntax_digits_14, .int t_syntax_value_15]))]) hF hG hP hD hS hA hl.1 (c_X7_takes l G a_t_syntax t_syntax_letter_6 t_syntax_field_7 t_syntax_digits_8 t_syntax_value_9 r_10 r_11 t_syntax_letter_12 t_syntax_field_13 t_syntax_digits_14 t_syntax_value_15 hq) k_X7_takes n305 [2] [0, 1] [0, 1, 2] rfl rfl rfl rfl ⟨rfl, rfl⟩ (by decide) ⟨2, 3, _, _, rfl, rfl, rfl⟩ rfl rfl (Nat.le_of_ble_eq_true rfl) ⟨(Nat.le_of_ble_eq_true rfl), (Nat.le_of_ble_eq_true rfl)⟩ ⟨(Nat.le_of_ble_eq_true rfl), (Nat.le_of_ble_eq_true rfl)⟩ dX8_firstRefused_26 (fun H locs hP hD hS => ?_)
        refine lv_if_ne (tgt := 34) hx hb dX8_firstRefused_29 (by decide) (fun c0 => ?_) (fun c0 => ?_)
        · have hf := (if_neg c0).symm.trans hf
          refine lv_iinc (v := (i1_5 + 1)) (lv' := [(1, .int (i1_5 + 1)), (0, .ref a_t)]) hx hb dX8_firstRefused_34 hl (k := 1) rfl rfl (by decide) rfl (fun ls hl => ?_)
          refine lv_goto (tgt := 9) hx hb dX8_firstRefused_37 (by decide) ?_
          exact ih (i1_5 + 1) t_syntax_letter_12 t_syntax_field_13 t_syntax_digits_14 t_syntax_value_15 hf _ _ hP hD hS ls (lv_sub hl [1, 0] rfl)
        · have hf := (if_pos c0).symm.trans hf
          refine lv_iload_n hx hb dX8_firstRefused_32 rfl (lv_at hl 1 rfl) ?_
          have hf : (some (i1_5, t_syntax_letter_12, t_syntax_field_13, t_syntax_digits_14, t_syntax_value_15) : Option (Int32 × Int32 × Int32 × Int32 × Int32)) = some (rr, w_t_syntax_letter, w_t_syntax_field, w_t_syntax_digits, w_t_syntax_value) := hf
          cases hf
          exact we_i hF hr hlk hP hD hS dX8_firstRefused_33 rfl
  exact L9 1000 0 t_syntax_letter_1 t_syntax_field_2 t_syntax_digits_3 t_syntax_value_4 hf _ _ hP hD hS ls (lv_sub hl [1, 0] rfl)
def f_X11_firstError (t_text_length : Int32) (t_text_codes : Nat → Int32) (t_text_syntax_letter : Int32) (t_text_syntax_field : Int32) (t_text_syntax_digits : Int32) (t_text_syntax_value : Int32) : Option (Int32 × Int32 × Int32 × Int32 × Int32) := bd5 (f_X8_firstRefused t_text_length t_text_codes t_text_syntax_letter t_text_syntax_field t_text_syntax_digits t_text_syntax_value) (fun (r_1 : Int32) (t_text_syntax_letter_2 : Int32) (t_text_syntax_field_3 : Int32) (t_text_syntax_digits_4 : Int32) (t_text_syntax_value_5 : Int32) => some (r_1, t_text_syntax_letter_2, t_text_syntax_field_3, t_text_syntax_digits_4, t_text_syntax_value_5))
theorem k_X11_firstError : KV yX11_firstError cX11_firstError 1 (some .int) 0 := ⟨qc_yX11_firstError, q1, ⟨by decide +kernel, by decide +kernel, by decide +kernel⟩, qi_yX11_firstError, qs_yX11_firstError⟩
abbrev RM_X11_firstError : Room := { frames := 5, cells := 0, slots := 0, locals := 106 }
set_option maxHeartbeats 4000000 in
set_option maxRecDepth 100000 in
theorem c_X11_firstError (l : Launch) (G : GP) (a_t : Nat) (a_t_now : Nat) (a_t_trial : Nat) (a_t_snapshot : Nat) (t_snapshotTaken : Int32) (a_t_history : Nat) (a_t_works : Nat) (a_t_highs : Nat) (a_t_trade : Nat) (a_t_text : Nat) (t_text_length : Int32) (a_t_text_codes : Nat) (t_text_codes : Nat → Int32) (a_t_text_syntax : Nat) (t_text_syntax_letter : Int32) (t_text_syntax_field : Int32) (t_text_syntax_digits : Int32) (t_text_syntax_value : Int32) (rr : Int32) (w_t_text_syntax_letter : Int32) (w_t_text_syntax_field : Int32) (w_t_text_syntax_digits : Int32) (w_t_text_syntax_value : Int32) (hf : f_X11_firstError t_text_length t_text_codes t_text_syntax_letter t_text_syntax_field t_text_syntax_digits t_text_syntax_value = some (rr, w_t_text_syntax_letter, w_t_text_syntax_field, w_t_text_syntax_digits, w_t_text_syntax_value)) : WM l yX11_firstError cX11_firstError 1 (some .int) 5 106 G [.ref a_t] [(a_t, .inr (7, [.ref a_t_now, .ref a_t_trial, .ref a_t_snapshot, .int t_snapshotTaken, .ref a_t_history, .ref a_t_text, .ref a_t_works, .ref a_t_highs, .ref a_t_trade])), (a_t_text, .inr (4, [.ref a_t_text_codes, .int t_text_length, .ref a_t_text_syntax])), (a_t_text_codes, .inl (G.2.1, 60, .inl t_text_codes)), (a_t_text_syntax, .inr (3, [.int t_text_syntax_letter, .int t_text_syntax_field, .int t_text_syntax_digits, .int t_text_syntax_value]))] (some (.int rr)) [(a_t, .inr (7, [.ref a_t_now, .ref a_t_trial, .ref a_t_snapshot, .int t_snapshotTaken, .ref a_t_history, .ref a_t_text, .ref a_t_works, .ref a_t_highs, .ref a_t_trade])), (a_t_text, .inr (4, [.ref a_t_text_codes, .int t_text_length, .ref a_t_text_syntax])), (a_t_text_codes, .inl (G.2.1, 60, .inl t_text_codes)), (a_t_text_syntax, .inr (3, [.int w_t_text_syntax_letter, .int w_t_text_syntax_field, .int w_t_text_syntax_digits, .int w_t_text_syntax_value]))] := by
  refine WM.ofW (C := RX11) (by decide) rfl (Nat.le_of_ble_eq_true rfl) ?_
  intro p e s m below meth c A hF hr hlk hG hA hP hD ls hl
  have hl : lv_has ls 1 [(0, .ref a_t)] := hl
  have hx := hF.1
  have hb := hF.2.1
  have hml := hF.2.2.1
  have hown := hF.2.2.2.1
  have hts := hF.2.2.2.2
  have hS : va_S A s.heap s.heap [] := va_S.rf
  unfold f_X11_firstError at hf
  refine lv_aload_n hx hb dX11_firstError_0 rfl (lv_at hl 0 rfl) ?_
  refine gf (C := RX11) (T := TX11) (N := 9) (ci := 7) (v := .ref a_t_text) hF hG hP inX11 0 rfl rfl 5 (by decide) q209 rfl rfl dX11_firstError_1 ?_
  obtain ⟨r_1, t_text_syntax_letter_2, t_text_syntax_field_3, t_text_syntax_digits_4, t_text_syntax_value_5, hq, hf⟩ := bd5_some hf
  refine wrVN (As := []) (rest := []) (wn := [(a_t, .inr (7, [.ref a_t_now, .ref a_t_trial, .ref a_t_snapshot, .int t_snapshotTaken, .ref a_t_history, .ref a_t_text, .ref a_t_works, .ref a_t_highs, .ref a_t_trade])), (a_t_text, .inr (4, [.ref a_t_text_codes, .int t_text_length, .ref a_t_text_syntax])), (a_t_text_codes, .inl (G.2.1, 60, .inl t_text_codes)), (a_t_text_syntax, .inr (3, [.int t_text_syntax_letter_2, .int t_text_syntax_field_3, .int t_text_syntax_digits_4, .int t_text_syntax_value_5]))]) hF hG hP hD hS hA hl.1 (c_X8_firstRefused l G a_t_text t_text_length a_t_text_codes t_text_codes a_t_text_syntax t_text_syntax_letter t_text_syntax_field t_text_syntax_digits t_text_syntax_value r_1 t_text_syntax_letter_2 t_text_syntax_field_3 t_text_syntax_digits_4 t_text_syntax_value_5 hq) k_X8_firstRefused n289 [1, 2, 3] [0] [0, 1, 2, 3] rfl rfl rfl rfl ⟨rfl, rfl⟩ (by decide) ⟨1, 4, _, _, rfl, rfl, rfl⟩ rfl rfl (Nat.le_of_ble_eq_true rfl) ⟨(Nat.le_of_ble_eq_true rfl), (Nat.le_of_ble_eq_true rfl)⟩ ⟨(Nat.le_of_ble_eq_true rfl), (Nat.le_of_ble_eq_true rfl)⟩ dX11_firstError_4 (fun H locs hP hD hS => ?_)
  have hf : (some (r_1, t_text_syntax_letter_2, t_text_syntax_field_3, t_text_syntax_digits_4, t_text_syntax_value_5) : Option (Int32 × Int32 × Int32 × Int32 × Int32)) = some (rr, w_t_text_syntax_letter, w_t_text_syntax_field, w_t_text_syntax_digits, w_t_text_syntax_value) := hf
  cases hf
  exact we_i hF hr hlk hP hD hS dX11_firstError_7 rfl
def f_X11_hasStopped (t_now_stopped : Int32) : Option (Int32) := gd (t_now_stopped &&& 1 = t_now_stopped) (some t_now_stopped)
theorem k_X11_hasStopped : KV yX11_hasStopped cX11_hasStopped 1 (some .boolean) 0 := ⟨qc_yX11_hasStopped, q1, ⟨by decide +kernel, by decide +kernel, by decide +kernel⟩, qi_yX11_hasStopped, qs_yX11_hasStopped⟩
abbrev RM_X11_hasStopped : Room := { frames := 0, cells := 0, slots := 0, locals := 0 }
set_option maxHeartbeats 4000000 in
set_option maxRecDepth 100000 in
theorem c_X11_hasStopped (l : Launch) (G : GP) (a_t : Nat) (a_t_trial : Nat) (a_t_snapshot : Nat) (t_snapshotTaken : Int32) (a_t_history : Nat) (a_t_text : Nat) (a_t_works : Nat) (a_t_highs : Nat) (a_t_trade : Nat) (a_t_now : Nat) (a_t_now_row : Nat) (t_now_length : Int32) (t_now_shorter : Int32) (t_now_longer : Int32) (t_now_memory : Int32) (t_now_limit : Int32) (t_now_seasonDays : Int32) (t_now_stopped : Int32) (t_now_stopPart : Int32) (t_now_stopReason : Int32) (rr : Int32) (hf : f_X11_hasStopped t_now_stopped = some rr) : RM l yX11_hasStopped cX11_hasStopped 1 (some .boolean) 0 0 G [.ref a_t] [(a_t, .inr (7, [.ref a_t_now, .ref a_t_trial, .ref a_t_snapshot, .int t_snapshotTaken, .ref a_t_history, .ref a_t_text, .ref a_t_works, .ref a_t_highs, .ref a_t_trade])), (a_t_now, .inr (2, [.ref a_t_now_row, .int t_now_length, .int t_now_shorter, .int t_now_longer, .int t_now_memory, .int t_now_limit, .int t_now_seasonDays, .int t_now_stopped, .int t_now_stopPart, .int t_now_stopReason]))] (some (.int rr)) := by
  refine RM.ofW (C := RX11) (by decide) rfl (Nat.le_of_ble_eq_true rfl) ?_
  intro p e s m below meth c hF hr hlk hG hP ls hl
  have hl : lv_has ls 1 [(0, .ref a_t)] := hl
  have hx := hF.1
  have hb := hF.2.1
  have hml := hF.2.2.1
  have hown := hF.2.2.2.1
  have hts := hF.2.2.2.2
  unfold f_X11_hasStopped at hf
  refine lv_aload_n hx hb dX11_hasStopped_0 rfl (lv_at hl 0 rfl) ?_
  refine gf (C := RX11) (T := TX11) (N := 9) (ci := 7) (v := .ref a_t_now) hF hG hP inX11 0 rfl rfl 0 (by decide) q204 rfl rfl dX11_hasStopped_1 ?_
  refine gfN (C := RX6) (T := TX6) (N := 10) (ci := 2) (v := .int t_now_stopped) hF hG hP inX6 1 rfl rfl 7 (by decide) n71 rfl rfl dX11_hasStopped_4 ?_
  obtain ⟨hz, hf⟩ := gd_some hf
  have hf : (some t_now_stopped : Option (Int32)) = some rr := hf
  cases hf
  exact re_z hF hr hlk dX11_hasStopped_7 hz rfl
def f_X11_keep (t_snapshotTaken : Int32) (t_now_length : Int32) (t_now_shorter : Int32) (t_now_longer : Int32) (t_now_memory : Int32) (t_now_limit : Int32) (t_now_seasonDays : Int32) (t_now_stopped : Int32) (t_now_stopPart : Int32) (t_now_stopReason : Int32) (t_now_row : Nat → Int32) (t_snapshot_length : Int32) (t_snapshot_shorter : Int32) (t_snapshot_longer : Int32) (t_snapshot_memory : Int32) (t_snapshot_limit : Int32) (t_snapshot_seasonDays : Int32) (t_snapshot_stopped : Int32) (t_snapshot_stopPart : Int32) (t_snapshot_stopReason : Int32) (t_snapshot_row : Nat → Int32) : Option (Int32 × Int32 × Int32 × Int32 × Int32 × Int32 × Int32 × Int32 × Int32 × Int32 × Int32 × (Nat → Int32)) := bd10 (f_X6_copyFrom t_snapshot_length t_snapshot_shorter t_snapshot_longer t_snapshot_memory t_snapshot_limit t_snapshot_seasonDays t_snapshot_stopped t_snapshot_stopPart t_snapshot_stopReason t_snapshot_row t_now_length t_now_shorter t_now_longer t_now_memory t_now_limit t_now_seasonDays t_now_stopped t_now_stopPart t_now_stopReason t_now_row) (fun (t_snapshot_length_1 : Int32) (t_snapshot_shorter_2 : Int32) (t_snapshot_longer_3 : Int32) (t_snapshot_memory_4 : Int32) (t_snapshot_limit_5 : Int32) (t_snapshot_seasonDays_6 : Int32) (t_snapshot_stopped_7 : Int32) (t_snapshot_stopPart_8 : Int32) (t_snapshot_stopReason_9 : Int32) (t_snapshot_row_10 : Nat → Int32) => some (t_now_length, 1, t_snapshot_length_1, t_snapshot_shorter_2, t_snapshot_longer_3, t_snapshot_memory_4, t_snapshot_limit_5, t_snapshot_seasonDays_6, t_snapshot_stopped_7, t_snapshot_stopPart_8, t_snapshot_stopReason_9, t_snapshot_row_10))
theorem k_X11_keep : KV yX11_keep cX11_keep 1 (some .int) 0 := ⟨qc_yX11_keep, q1, ⟨by decide +kernel, by decide +kernel, by decide +kernel⟩, qi_yX11_keep, qs_yX11_keep⟩
abbrev RM_X11_keep : Room := { frames := 2, cells := 0, slots := 0, locals := 61 }
set_option maxHeartbeats 4000000 in
set_option maxRecDepth 100000 in
theorem c_X11_keep (l : Launch) (G : GP) (a_t : Nat) (a_t_trial : Nat) (t_snapshotTaken : Int32) (a_t_history : Nat) (a_t_text : Nat) (a_t_works : Nat) (a_t_highs : Nat) (a_t_trade : Nat) (a_t_now : Nat) (t_now_length : Int32) (t_now_shorter : Int32) (t_now_longer : Int32) (t_now_memory : Int32) (t_now_limit : Int32) (t_now_seasonDays : Int32) (t_now_stopped : Int32) (t_now_stopPart : Int32) (t_now_stopReason : Int32) (a_t_now_row : Nat) (t_now_row : Nat → Int32) (a_t_snapshot : Nat) (t_snapshot_length : Int32) (t_snapshot_shorter : Int32) (t_snapshot_longer : Int32) (t_snapshot_memory : Int32) (t_snapshot_limit : Int32) (t_snapshot_seasonDays : Int32) (t_snapshot_stopped : Int32) (t_snapshot_stopPart : Int32) (t_snapshot_stopReason : Int32) (a_t_snapshot_row : Nat) (t_snapshot_row : Nat → Int32) (rr : Int32) (w_t_snapshotTaken : Int32) (w_t_snapshot_length : Int32) (w_t_snapshot_shorter : Int32) (w_t_snapshot_longer : Int32) (w_t_snapshot_memory : Int32) (w_t_snapshot_limit : Int32) (w_t_snapshot_seasonDays : Int32) (w_t_snapshot_stopped : Int32) (w_t_snapshot_stopPart : Int32) (w_t_snapshot_stopReason : Int32) (w_t_snapshot_row : Nat → Int32) (hf : f_X11_keep t_snapshotTaken t_now_length t_now_shorter t_now_longer t_now_memory t_now_limit t_now_seasonDays t_now_stopped t_now_stopPart t_now_stopReason t_now_row t_snapshot_length t_snapshot_shorter t_snapshot_longer t_snapshot_memory t_snapshot_limit t_snapshot_seasonDays t_snapshot_stopped t_snapshot_stopPart t_snapshot_stopReason t_snapshot_row = some (rr, w_t_snapshotTaken, w_t_snapshot_length, w_t_snapshot_shorter, w_t_snapshot_longer, w_t_snapshot_memory, w_t_snapshot_limit, w_t_snapshot_seasonDays, w_t_snapshot_stopped, w_t_snapshot_stopPart, w_t_snapshot_stopReason, w_t_snapshot_row)) : WM l yX11_keep cX11_keep 1 (some .int) 2 61 G [.ref a_t] [(a_t, .inr (7, [.ref a_t_now, .ref a_t_trial, .ref a_t_snapshot, .int t_snapshotTaken, .ref a_t_history, .ref a_t_text, .ref a_t_works, .ref a_t_highs, .ref a_t_trade])), (a_t_now, .inr (2, [.ref a_t_now_row, .int t_now_length, .int t_now_shorter, .int t_now_longer, .int t_now_memory, .int t_now_limit, .int t_now_seasonDays, .int t_now_stopped, .int t_now_stopPart, .int t_now_stopReason])), (a_t_now_row, .inl (G.2.1, 60, .inl t_now_row)), (a_t_snapshot, .inr (2, [.ref a_t_snapshot_row, .int t_snapshot_length, .int t_snapshot_shorter, .int t_snapshot_longer, .int t_snapshot_memory, .int t_snapshot_limit, .int t_snapshot_seasonDays, .int t_snapshot_stopped, .int t_snapshot_stopPart, .int t_snapshot_stopReason])), (a_t_snapshot_row, .inl (G.2.1, 60, .inl t_snapshot_row))] (some (.int rr)) [(a_t, .inr (7, [.ref a_t_now, .ref a_t_trial, .ref a_t_snapshot, .int w_t_snapshotTaken, .ref a_t_history, .ref a_t_text, .ref a_t_works, .ref a_t_highs, .ref a_t_trade])), (a_t_now, .inr (2, [.ref a_t_now_row, .int t_now_length, .int t_now_shorter, .int t_now_longer, .int t_now_memory, .int t_now_limit, .int t_now_seasonDays, .int t_now_stopped, .int t_now_stopPart, .int t_now_stopReason])), (a_t_now_row, .inl (G.2.1, 60, .inl t_now_row)), (a_t_snapshot, .inr (2, [.ref a_t_snapshot_row, .int w_t_snapshot_length, .int w_t_snapshot_shorter, .int w_t_snapshot_longer, .int w_t_snapshot_memory, .int w_t_snapshot_limit, .int w_t_snapshot_seasonDays, .int w_t_snapshot_stopped, .int w_t_snapshot_stopPart, .int w_t_snapshot_stopReason])), (a_t_snapshot_row, .inl (G.2.1, 60, .inl w_t_snapshot_row))] := by
  refine WM.ofW (C := RX11) (by decide) rfl (Nat.le_of_ble_eq_true rfl) ?_
  intro p e s m below meth c A hF hr hlk hG hA hP hD ls hl
  have hl : lv_has ls 1 [(0, .ref a_t)] := hl
  have hx := hF.1
  have hb := hF.2.1
  have hml := hF.2.2.1
  have hown := hF.2.2.2.1
  have hts := hF.2.2.2.2
  have hS : va_S A s.heap s.heap [] := va_S.rf
  unfold f_X11_keep at hf
  refine lv_aload_n hx hb dX11_keep_0 rfl (lv_at hl 0 rfl) ?_
  refine gf (C := RX11) (T := TX11) (N := 9) (ci := 7) (v := .ref a_t_snapshot) hF hG hP inX11 0 rfl rfl 2 (by decide) q206 rfl rfl dX11_keep_1 ?_
  refine lv_aload_n hx hb dX11_keep_4 rfl (lv_at hl 0 rfl) ?_
  refine gf (C := RX11) (T := TX11) (N := 9) (ci := 7) (v := .ref a_t_now) hF hG hP inX11 0 rfl rfl 0 (by decide) q204 rfl rfl dX11_keep_5 ?_
  obtain ⟨t_snapshot_length_1, t_snapshot_shorter_2, t_snapshot_longer_3, t_snapshot_memory_4, t_snapshot_limit_5, t_snapshot_seasonDays_6, t_snapshot_stopped_7, t_snapshot_stopPart_8, t_snapshot_stopReason_9, t_snapshot_row_10, hq, hf⟩ := bd10_some hf
  refine wrVN (As := [.ref a_t_now]) (rest := []) (wn := [(a_t, .inr (7, [.ref a_t_now, .ref a_t_trial, .ref a_t_snapshot, .int t_snapshotTaken, .ref a_t_history, .ref a_t_text, .ref a_t_works, .ref a_t_highs, .ref a_t_trade])), (a_t_now, .inr (2, [.ref a_t_now_row, .int t_now_length, .int t_now_shorter, .int t_now_longer, .int t_now_memory, .int t_now_limit, .int t_now_seasonDays, .int t_now_stopped, .int t_now_stopPart, .int t_now_stopReason])), (a_t_now_row, .inl (G.2.1, 60, .inl t_now_row)), (a_t_snapshot, .inr (2, [.ref a_t_snapshot_row, .int t_snapshot_length_1, .int t_snapshot_shorter_2, .int t_snapshot_longer_3, .int t_snapshot_memory_4, .int t_snapshot_limit_5, .int t_snapshot_seasonDays_6, .int t_snapshot_stopped_7, .int t_snapshot_stopPart_8, .int t_snapshot_stopReason_9])), (a_t_snapshot_row, .inl (G.2.1, 60, .inl t_snapshot_row_10))]) hF hG hP hD hS hA hl.1 (c_X6_copyFrom l G a_t_snapshot t_snapshot_length t_snapshot_shorter t_snapshot_longer t_snapshot_memory t_snapshot_limit t_snapshot_seasonDays t_snapshot_stopped t_snapshot_stopPart t_snapshot_stopReason a_t_snapshot_row t_snapshot_row a_t_now t_now_length t_now_shorter t_now_longer t_now_memory t_now_limit t_now_seasonDays t_now_stopped t_now_stopPart t_now_stopReason a_t_now_row t_now_row t_snapshot_length_1 t_snapshot_shorter_2 t_snapshot_longer_3 t_snapshot_memory_4 t_snapshot_limit_5 t_snapshot_seasonDays_6 t_snapshot_stopped_7 t_snapshot_stopPart_8 t_snapshot_stopReason_9 t_snapshot_row_10 hq) k_X6_copyFrom n346 [3, 4, 1, 2] [0] [0, 3, 4, 1, 2] rfl rfl rfl rfl ⟨rfl, rfl⟩ (by decide) ⟨3, 2, _, _, rfl, rfl, rfl⟩ rfl rfl (Nat.le_of_ble_eq_true rfl) ⟨(Nat.le_of_ble_eq_true rfl), (Nat.le_of_ble_eq_true rfl)⟩ ⟨(Nat.le_of_ble_eq_true rfl), (Nat.le_of_ble_eq_true rfl)⟩ dX11_keep_8 (fun H locs hP hD hS => ?_)
  refine lv_aload_n hx hb dX11_keep_11 rfl (lv_at hl 0 rfl) ?_
  refine lv_iconst (v := 1) hx hb dX11_keep_12 (by decide) ?_
  refine pf (C := RX11) (T := TX11) (N := 9) (ci := 7) (v := .int 1) (ty := .boolean) hF hG hP hD hS inX11 tyX11 tyX11_ok nmX11 0 rfl rfl 3 (by decide) q207 rfl rfl (by decide +kernel) rfl rfl (Nat.le_of_ble_eq_true rfl) dX11_keep_13 (fun H locs hP hD hS => ?_)
  replace hP : va_P G.1 vwCl [(a_t, .inr (7, [.ref a_t_now, .ref a_t_trial, .ref a_t_snapshot, .int 1, .ref a_t_history, .ref a_t_text, .ref a_t_works, .ref a_t_highs, .ref a_t_trade])), (a_t_now, .inr (2, [.ref a_t_now_row, .int t_now_length, .int t_now_shorter, .int t_now_longer, .int t_now_memory, .int t_now_limit, .int t_now_seasonDays, .int t_now_stopped, .int t_now_stopPart, .int t_now_stopReason])), (a_t_now_row, .inl (G.2.1, 60, .inl t_now_row)), (a_t_snapshot, .inr (2, [.ref a_t_snapshot_row, .int t_snapshot_length_1, .int t_snapshot_shorter_2, .int t_snapshot_longer_3, .int t_snapshot_memory_4, .int t_snapshot_limit_5, .int t_snapshot_seasonDays_6, .int t_snapshot_stopped_7, .int t_snapshot_stopPart_8, .int t_snapshot_stopReason_9])), (a_t_snapshot_row, .inl (G.2.1, 60, .inl t_snapshot_row_10))] H := hP
  replace hD : va_D A [(a_t, .inr (7, [.ref a_t_now, .ref a_t_trial, .ref a_t_snapshot, .int 1, .ref a_t_history, .ref a_t_text, .ref a_t_works, .ref a_t_highs, .ref a_t_trade])), (a_t_now, .inr (2, [.ref a_t_now_row, .int t_now_length, .int t_now_shorter, .int t_now_longer, .int t_now_memory, .int t_now_limit, .int t_now_seasonDays, .int t_now_stopped, .int t_now_stopPart, .int t_now_stopReason])), (a_t_now_row, .inl (G.2.1, 60, .inl t_now_row)), (a_t_snapshot, .inr (2, [.ref a_t_snapshot_row, .int t_snapshot_length_1, .int t_snapshot_shorter_2, .int t_snapshot_longer_3, .int t_snapshot_memory_4, .int t_snapshot_limit_5, .int t_snapshot_seasonDays_6, .int t_snapshot_stopped_7, .int t_snapshot_stopPart_8, .int t_snapshot_stopReason_9])), (a_t_snapshot_row, .inl (G.2.1, 60, .inl t_snapshot_row_10))] := hD
  refine lv_aload_n hx hb dX11_keep_16 rfl (lv_at hl 0 rfl) ?_
  refine gf (C := RX11) (T := TX11) (N := 9) (ci := 7) (v := .ref a_t_now) hF hG hP inX11 0 rfl rfl 0 (by decide) q204 rfl rfl dX11_keep_17 ?_
  refine gfN (C := RX6) (T := TX6) (N := 10) (ci := 2) (v := .int t_now_length) hF hG hP inX6 1 rfl rfl 1 (by decide) n39 rfl rfl dX11_keep_20 ?_
  have hf : (some (t_now_length, 1, t_snapshot_length_1, t_snapshot_shorter_2, t_snapshot_longer_3, t_snapshot_memory_4, t_snapshot_limit_5, t_snapshot_seasonDays_6, t_snapshot_stopped_7, t_snapshot_stopPart_8, t_snapshot_stopReason_9, t_snapshot_row_10) : Option (Int32 × Int32 × Int32 × Int32 × Int32 × Int32 × Int32 × Int32 × Int32 × Int32 × Int32 × (Nat → Int32))) = some (rr, w_t_snapshotTaken, w_t_snapshot_length, w_t_snapshot_shorter, w_t_snapshot_longer, w_t_snapshot_memory, w_t_snapshot_limit, w_t_snapshot_seasonDays, w_t_snapshot_stopped, w_t_snapshot_stopPart, w_t_snapshot_stopReason, w_t_snapshot_row) := hf
  cases hf
  exact we_i hF hr hlk hP hD hS dX11_keep_23 rfl
def f_X11_savedStates (t_history_count : Int32) : Option (Int32) := some t_history_count
theorem k_X11_savedStates : KV yX11_savedStates cX11_savedStates 1 (some .int) 0 := ⟨qc_yX11_savedStates, q1, ⟨by decide +kernel, by decide +kernel, by decide +kernel⟩, qi_yX11_savedStates, qs_yX11_savedStates⟩
abbrev RM_X11_savedStates : Room := { frames := 0, cells := 0, slots := 0, locals := 0 }
set_option maxHeartbeats 4000000 in
set_option maxRecDepth 100000 in
theorem c_X11_savedStates (l : Launch) (G : GP) (a_t : Nat) (a_t_now : Nat) (a_t_trial : Nat) (a_t_snapshot : Nat) (t_snapshotTaken : Int32) (a_t_text : Nat) (a_t_works : Nat) (a_t_highs : Nat) (a_t_trade : Nat) (a_t_history : Nat) (a_t_history_ring : Nat) (t_history_oldest : Int32) (t_history_count : Int32) (rr : Int32) (hf : f_X11_savedStates t_history_count = some rr) : RM l yX11_savedStates cX11_savedStates 1 (some .int) 0 0 G [.ref a_t] [(a_t, .inr (7, [.ref a_t_now, .ref a_t_trial, .ref a_t_snapshot, .int t_snapshotTaken, .ref a_t_history, .ref a_t_text, .ref a_t_works, .ref a_t_highs, .ref a_t_trade])), (a_t_history, .inr (1, [.ref a_t_history_ring, .int t_history_oldest, .int t_history_count]))] (some (.int rr)) := by
  refine RM.ofW (C := RX11) (by decide) rfl (Nat.le_of_ble_eq_true rfl) ?_
  intro p e s m below meth c hF hr hlk hG hP ls hl
  have hl : lv_has ls 1 [(0, .ref a_t)] := hl
  have hx := hF.1
  have hb := hF.2.1
  have hml := hF.2.2.1
  have hown := hF.2.2.2.1
  have hts := hF.2.2.2.2
  unfold f_X11_savedStates at hf
  refine lv_aload_n hx hb dX11_savedStates_0 rfl (lv_at hl 0 rfl) ?_
  refine gf (C := RX11) (T := TX11) (N := 9) (ci := 7) (v := .ref a_t_history) hF hG hP inX11 0 rfl rfl 4 (by decide) q208 rfl rfl dX11_savedStates_1 ?_
  refine gfN (C := RX3) (T := TX3) (N := 3) (ci := 1) (v := .int t_history_count) hF hG hP inX3 1 rfl rfl 2 (by decide) n112 rfl rfl dX11_savedStates_4 ?_
  have hf : (some t_history_count : Option (Int32)) = some rr := hf
  cases hf
  exact re_i hF hr hlk dX11_savedStates_7 rfl
def f_X11_days (t_now_length : Int32) : Option (Int32) := some t_now_length
theorem k_X11_days : KV yX11_days cX11_days 1 (some .int) 0 := ⟨qc_yX11_days, q1, ⟨by decide +kernel, by decide +kernel, by decide +kernel⟩, qi_yX11_days, qs_yX11_days⟩
abbrev RM_X11_days : Room := { frames := 0, cells := 0, slots := 0, locals := 0 }
set_option maxHeartbeats 4000000 in
set_option maxRecDepth 100000 in
theorem c_X11_days (l : Launch) (G : GP) (a_t : Nat) (a_t_trial : Nat) (a_t_snapshot : Nat) (t_snapshotTaken : Int32) (a_t_history : Nat) (a_t_text : Nat) (a_t_works : Nat) (a_t_highs : Nat) (a_t_trade : Nat) (a_t_now : Nat) (a_t_now_row : Nat) (t_now_length : Int32) (t_now_shorter : Int32) (t_now_longer : Int32) (t_now_memory : Int32) (t_now_limit : Int32) (t_now_seasonDays : Int32) (t_now_stopped : Int32) (t_now_stopPart : Int32) (t_now_stopReason : Int32) (rr : Int32) (hf : f_X11_days t_now_length = some rr) : RM l yX11_days cX11_days 1 (some .int) 0 0 G [.ref a_t] [(a_t, .inr (7, [.ref a_t_now, .ref a_t_trial, .ref a_t_snapshot, .int t_snapshotTaken, .ref a_t_history, .ref a_t_text, .ref a_t_works, .ref a_t_highs, .ref a_t_trade])), (a_t_now, .inr (2, [.ref a_t_now_row, .int t_now_length, .int t_now_shorter, .int t_now_longer, .int t_now_memory, .int t_now_limit, .int t_now_seasonDays, .int t_now_stopped, .int t_now_stopPart, .int t_now_stopReason]))] (some (.int rr)) := by
  refine RM.ofW (C := RX11) (by decide) rfl (Nat.le_of_ble_eq_true rfl) ?_
  intro p e s m below meth c hF hr hlk hG hP ls hl
  have hl : lv_has ls 1 [(0, .ref a_t)] := hl
  have hx := hF.1
  have hb := hF.2.1
  have hml := hF.2.2.1
  have hown := hF.2.2.2.1
  have hts := hF.2.2.2.2
  unfold f_X11_days at hf
  refine lv_aload_n hx hb dX11_days_0 rfl (lv_at hl 0 rfl) ?_
  refine gf (C := RX11) (T := TX11) (N := 9) (ci := 7) (v := .ref a_t_now) hF hG hP inX11 0 rfl rfl 0 (by decide) q204 rfl rfl dX11_days_1 ?_
  refine gfN (C := RX6) (T := TX6) (N := 10) (ci := 2) (v := .int t_now_length) hF hG hP inX6 1 rfl rfl 1 (by decide) n39 rfl rfl dX11_days_4 ?_
  have hf : (some t_now_length : Option (Int32)) = some rr := hf
  cases hf
  exact re_i hF hr hlk dX11_days_7 rfl
def f_X11_shortWindow (t_now_shorter : Int32) : Option (Int32) := some t_now_shorter
theorem k_X11_shortWindow : KV yX11_shortWindow cX11_shortWindow 1 (some .int) 0 := ⟨qc_yX11_shortWindow, q1, ⟨by decide +kernel, by decide +kernel, by decide +kernel⟩, qi_yX11_shortWindow, qs_yX11_shortWindow⟩
abbrev RM_X11_shortWindow : Room := { frames := 0, cells := 0, slots := 0, locals := 0 }
set_option maxHeartbeats 4000000 in
set_option maxRecDepth 100000 in
theorem c_X11_shortWindow (l : Launch) (G : GP) (a_t : Nat) (a_t_trial : Nat) (a_t_snapshot : Nat) (t_snapshotTaken : Int32) (a_t_history : Nat) (a_t_text : Nat) (a_t_works : Nat) (a_t_highs : Nat) (a_t_trade : Nat) (a_t_now : Nat) (a_t_now_row : Nat) (t_now_length : Int32) (t_now_shorter : Int32) (t_now_longer : Int32) (t_now_memory : Int32) (t_now_limit : Int32) (t_now_seasonDays : Int32) (t_now_stopped : Int32) (t_now_stopPart : Int32) (t_now_stopReason : Int32) (rr : Int32) (hf : f_X11_shortWindow t_now_shorter = some rr) : RM l yX11_shortWindow cX11_shortWindow 1 (some .int) 0 0 G [.ref a_t] [(a_t, .inr (7, [.ref a_t_now, .ref a_t_trial, .ref a_t_snapshot, .int t_snapshotTaken, .ref a_t_history, .ref a_t_text, .ref a_t_works, .ref a_t_highs, .ref a_t_trade])), (a_t_now, .inr (2, [.ref a_t_now_row, .int t_now_length, .int t_now_shorter, .int t_now_longer, .int t_now_memory, .int t_now_limit, .int t_now_seasonDays, .int t_now_stopped, .int t_now_stopPart, .int t_now_stopReason]))] (some (.int rr)) := by
  refine RM.ofW (C := RX11) (by decide) rfl (Nat.le_of_ble_eq_true rfl) ?_
  intro p e s m below meth c hF hr hlk hG hP ls hl
  have hl : lv_has ls 1 [(0, .ref a_t)] := hl
  have hx := hF.1
  have hb := hF.2.1
  have hml := hF.2.2.1
  have hown := hF.2.2.2.1
  have hts := hF.2.2.2.2
  unfold f_X11_shortWindow at hf
  refine lv_aload_n hx hb dX11_shortWindow_0 rfl (lv_at hl 0 rfl) ?_
  refine gf (C := RX11) (T := TX11) (N := 9) (ci := 7) (v := .ref a_t_now) hF hG hP inX11 0 rfl rfl 0 (by decide) q204 rfl rfl dX11_shortWindow_1 ?_
  refine gfN (C := RX6) (T := TX6) (N := 10) (ci := 2) (v := .int t_now_shorter) hF hG hP inX6 1 rfl rfl 2 (by decide) n50 rfl rfl dX11_shortWindow_4 ?_
  have hf : (some t_now_shorter : Option (Int32)) = some rr := hf
  cases hf
  exact re_i hF hr hlk dX11_shortWindow_7 rfl
def f_X11_longWindow (t_now_longer : Int32) : Option (Int32) := some t_now_longer
theorem k_X11_longWindow : KV yX11_longWindow cX11_longWindow 1 (some .int) 0 := ⟨qc_yX11_longWindow, q1, ⟨by decide +kernel, by decide +kernel, by decide +kernel⟩, qi_yX11_longWindow, qs_yX11_longWindow⟩
abbrev RM_X11_longWindow : Room := { frames := 0, cells := 0, slots := 0, locals := 0 }
set_option maxHeartbeats 4000000 in
set_option maxRecDepth 100000 in
theorem c_X11_longWindow (l : Launch) (G : GP) (a_t : Nat) (a_t_trial : Nat) (a_t_snapshot : Nat) (t_snapshotTaken : Int32) (a_t_history : Nat) (a_t_text : Nat) (a_t_works : Nat) (a_t_highs : Nat) (a_t_trade : Nat) (a_t_now : Nat) (a_t_now_row : Nat) (t_now_length : Int32) (t_now_shorter : Int32) (t_now_longer : Int32) (t_now_memory : Int32) (t_now_limit : Int32) (t_now_seasonDays : Int32) (t_now_stopped : Int32) (t_now_stopPart : Int32) (t_now_stopReason : Int32) (rr : Int32) (hf : f_X11_longWindow t_now_longer = some rr) : RM l yX11_longWindow cX11_longWindow 1 (some .int) 0 0 G [.ref a_t] [(a_t, .inr (7, [.ref a_t_now, .ref a_t_trial, .ref a_t_snapshot, .int t_snapshotTaken, .ref a_t_history, .ref a_t_text, .ref a_t_works, .ref a_t_highs, .ref a_t_trade])), (a_t_now, .inr (2, [.ref a_t_now_row, .int t_now_length, .int t_now_shorter, .int t_now_longer, .int t_now_memory, .int t_now_limit, .int t_now_seasonDays, .int t_now_stopped, .int t_now_stopPart, .int t_now_stopReason]))] (some (.int rr)) := by
  refine RM.ofW (C := RX11) (by decide) rfl (Nat.le_of_ble_eq_true rfl) ?_
  intro p e s m below meth c hF hr hlk hG hP ls hl
  have hl : lv_has ls 1 [(0, .ref a_t)] := hl
  have hx := hF.1
  have hb := hF.2.1
  have hml := hF.2.2.1
  have hown := hF.2.2.2.1
  have hts := hF.2.2.2.2
  unfold f_X11_longWindow at hf
  refine lv_aload_n hx hb dX11_longWindow_0 rfl (lv_at hl 0 rfl) ?_
  refine gf (C := RX11) (T := TX11) (N := 9) (ci := 7) (v := .ref a_t_now) hF hG hP inX11 0 rfl rfl 0 (by decide) q204 rfl rfl dX11_longWindow_1 ?_
  refine gfN (C := RX6) (T := TX6) (N := 10) (ci := 2) (v := .int t_now_longer) hF hG hP inX6 1 rfl rfl 3 (by decide) n57 rfl rfl dX11_longWindow_4 ?_
  have hf : (some t_now_longer : Option (Int32)) = some rr := hf
  cases hf
  exact re_i hF hr hlk dX11_longWindow_7 rfl
