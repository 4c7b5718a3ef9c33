def f_X8_add (t_length : Int32) (t_codes : Nat → Int32) (x1 : Int32) : Option (Int32 × (Nat → Int32)) := (if t_length < 0 then some (t_length, t_codes) else (if 60 ≤ t_length then some (t_length, t_codes) else gd (¬ (t_length < 0 ∨ 60 ≤ Int32.toNatClampNeg t_length)) (some ((t_length + 1), (upd t_codes (Int32.toNatClampNeg t_length) x1)))))
theorem k_X8_add : KV yX8_add cX8_add 2 none 1 := ⟨qc_yX8_add, q4, ⟨by decide +kernel, by decide +kernel, by decide +kernel⟩, qi_yX8_add, qs_yX8_add⟩
abbrev RM_X8_add : Room := { frames := 0, cells := 0, slots := 0, locals := 0 }
set_option maxHeartbeats 4000000 in
set_option maxRecDepth 100000 in
theorem c_X8_add (l : Launch) (G : GP) (a_t : Nat) (t_length : Int32) (a_t_syntax : Nat) (a_t_codes : Nat) (t_codes : Nat → Int32) (x1 : Int32) (w_t_length : Int32) (w_t_codes : Nat → Int32) (hf : f_X8_add t_length t_codes x1 = some (w_t_length, w_t_codes)) : WM l yX8_add cX8_add 2 none 0 0 G [.ref a_t, .int x1] [(a_t, .inr (4, [.ref a_t_codes, .int t_length, .ref a_t_syntax])), (a_t_codes, .inl (G.2.1, 60, .inl t_codes))] none [(a_t, .inr (4, [.ref a_t_codes, .int w_t_length, .ref a_t_syntax])), (a_t_codes, .inl (G.2.1, 60, .inl w_t_codes))] := by
  refine WM.ofW (C := RX8) (by decide) rfl (Nat.le_of_ble_eq_true rfl) ?_
  intro p e s m below meth c A hF hr hlk hG hA hP hD ls hl
  have hl : lv_has ls 2 [(0, .ref a_t), (1, .int x1)] := hl
  have hx := hF.1
  have hb := hF.2.1
  have hml := hF.2.2.1
  have hown := hF.2.2.2.1
  have hts := hF.2.2.2.2
  have hS : va_S A s.heap s.heap [] := va_S.rf
  unfold f_X8_add at hf
  refine lv_aload_n hx hb dX8_add_0 rfl (lv_at hl 0 rfl) ?_
  refine gf (C := RX8) (T := TX8) (N := 3) (ci := 4) (v := .int t_length) hF hG hP inX8 0 rfl rfl 1 (by decide) q146 rfl rfl dX8_add_1 ?_
  refine lv_if_lt (tgt := 39) hx hb dX8_add_4 (by decide) (fun c0 => ?_) (fun c0 => ?_)
  · have hf := (if_pos c0).symm.trans hf
    have hf : (some (t_length, t_codes) : Option (Int32 × (Nat → Int32))) = some (w_t_length, w_t_codes) := hf
    cases hf
    exact we_v hF hr hlk hP hD hS dX8_add_39 rfl
  · have hf := (if_neg c0).symm.trans hf
    refine lv_aload_n hx hb dX8_add_7 rfl (lv_at hl 0 rfl) ?_
    refine gf (C := RX8) (T := TX8) (N := 3) (ci := 4) (v := .int t_length) hF hG hP inX8 0 rfl rfl 1 (by decide) q146 rfl rfl dX8_add_8 ?_
    refine lv_aload_n hx hb dX8_add_11 rfl (lv_at hl 0 rfl) ?_
    refine gf (C := RX8) (T := TX8) (N := 3) (ci := 4) (v := .ref a_t_codes) hF hG hP inX8 0 rfl rfl 0 (by decide) q145 rfl rfl dX8_add_12 ?_
    refine va_alen (v := 60) hx hb hG.1 hP 1 0 rfl rfl rfl dX8_add_15 ?_
    refine lv_icmp_ge (tgt := 39) hx hb dX8_add_16 (by decide) (fun c0 => ?_) (fun c0 => ?_)
    · have hf := (if_pos c0).symm.trans hf
      have hf : (some (t_length, t_codes) : Option (Int32 × (Nat → Int32))) = some (w_t_length, w_t_codes) := hf
      cases hf
      exact we_v hF hr hlk hP hD hS dX8_add_39 rfl
    · have hf := (if_neg c0).symm.trans hf
      refine lv_aload_n hx hb dX8_add_19 rfl (lv_at hl 0 rfl) ?_
      refine gf (C := RX8) (T := TX8) (N := 3) (ci := 4) (v := .ref a_t_codes) hF hG hP inX8 0 rfl rfl 0 (by decide) q145 rfl rfl dX8_add_20 ?_
      refine lv_aload_n hx hb dX8_add_23 rfl (lv_at hl 0 rfl) ?_
      refine gf (C := RX8) (T := TX8) (N := 3) (ci := 4) (v := .int t_length) hF hG hP inX8 0 rfl rfl 1 (by decide) q146 rfl rfl dX8_add_24 ?_
      refine lv_iload_n hx hb dX8_add_27 rfl (lv_at hl 1 rfl) ?_
      obtain ⟨hg, hf⟩ := gd_some hf
      refine ast_i (k := Int32.toNatClampNeg t_length) hF hG hP hD hS 1 rfl rfl hg dX8_add_28 (fun H locs hP hD hS => ?_)
      replace hP : va_P G.1 vwCl [(a_t, .inr (4, [.ref a_t_codes, .int t_length, .ref a_t_syntax])), (a_t_codes, .inl (G.2.1, 60, .inl (upd t_codes (Int32.toNatClampNeg t_length) x1)))] H := hP
      replace hD : va_D A [(a_t, .inr (4, [.ref a_t_codes, .int t_length, .ref a_t_syntax])), (a_t_codes, .inl (G.2.1, 60, .inl (upd t_codes (Int32.toNatClampNeg t_length) x1)))] := hD
      refine lv_aload_n hx hb dX8_add_29 rfl (lv_at hl 0 rfl) ?_
      refine lv_dup hx hb dX8_add_30 rfl ?_
      refine gf (C := RX8) (T := TX8) (N := 3) (ci := 4) (v := .int t_length) hF hG hP inX8 0 rfl rfl 1 (by decide) q146 rfl rfl dX8_add_31 ?_
      refine lv_iconst (v := 1) hx hb dX8_add_34 (by decide) ?_
      refine lv_iadd hx hb dX8_add_35 ?_
      refine pf (C := RX8) (T := TX8) (N := 3) (ci := 4) (v := .int (t_length + 1)) (ty := .int) hF hG hP hD hS inX8 tyX8 tyX8_ok nmX8 0 rfl rfl 1 (by decide) q146 rfl rfl (by decide +kernel) rfl rfl (Nat.le_of_ble_eq_true rfl) dX8_add_36 (fun H locs hP hD hS => ?_)
      replace hP : va_P G.1 vwCl [(a_t, .inr (4, [.ref a_t_codes, .int (t_length + 1), .ref a_t_syntax])), (a_t_codes, .inl (G.2.1, 60, .inl (upd t_codes (Int32.toNatClampNeg t_length) x1)))] H := hP
      replace hD : va_D A [(a_t, .inr (4, [.ref a_t_codes, .int (t_length + 1), .ref a_t_syntax])), (a_t_codes, .inl (G.2.1, 60, .inl (upd t_codes (Int32.toNatClampNeg t_length) x1)))] := hD
      have hf : (some ((t_length + 1), (upd t_codes (Int32.toNatClampNeg t_length) x1)) : Option (Int32 × (Nat → Int32))) = some (w_t_length, w_t_codes) := hf
      cases hf
      exact we_v hF hr hlk hP hD hS dX8_add_39 rfl
def f_X11_append (t_text_length : Int32) (t_text_codes : Nat → Int32) (x1 : Int32) : Option (String × Int32 × Int32 × (Nat → Int32)) := bd1 (f_X11_requireRange x1 33 126) (fun (e_1 : String) => if e_1 = "" then ((if t_text_length < 60 then bd2 (f_X8_add t_text_length t_text_codes x1) (fun (t_text_length_2 : Int32) (t_text_codes_3 : Nat → Int32) => some ("", t_text_length_2, t_text_length_2, t_text_codes_3)) else some ("java/lang/IllegalStateException", 0, t_text_length, t_text_codes))) else some (e_1, 0, t_text_length, t_text_codes))
theorem k_X11_append : KV yX11_append cX11_append 2 (some .int) 1 := ⟨qc_yX11_append, q1, ⟨by decide +kernel, by decide +kernel, by decide +kernel⟩, qi_yX11_append, qs_yX11_append⟩
abbrev mc_X11_append : Nat := 2
abbrev ms_X11_append : Nat := 12
abbrev RM_X11_append : Room := { frames := 9, cells := 2, slots := 12, locals := 142 }
set_option maxHeartbeats 4000000 in
set_option maxRecDepth 100000 in
theorem c_X11_append (l : Launch) (G : GP) (a_t : Nat) (a_t_now : Nat) (a_t_trial : Nat) (a_t_snapshot : Nat) (t_snapshotTaken : Int32) (a_t_history : Nat) (a_t_works : Nat) (a_t_highs : Nat) (a_t_trade : Nat) (a_t_text : Nat) (t_text_length : Int32) (a_t_text_syntax : Nat) (a_t_text_codes : Nat) (t_text_codes : Nat → Int32) (x1 : Int32) (rE : String) (rr : Int32) (w_t_text_length : Int32) (w_t_text_codes : Nat → Int32) (hf : f_X11_append t_text_length t_text_codes x1 = some (rE, rr, w_t_text_length, w_t_text_codes)) (hst : l.stackTraces = false) : XM l yX11_append cX11_append 2 (some .int) 9 142 2 12 G [.ref a_t, .int x1] [(a_t, .inr (7, [.ref a_t_now, .ref a_t_trial, .ref a_t_snapshot, .int t_snapshotTaken, .ref a_t_history, .ref a_t_text, .ref a_t_works, .ref a_t_highs, .ref a_t_trade])), (a_t_text, .inr (4, [.ref a_t_text_codes, .int t_text_length, .ref a_t_text_syntax])), (a_t_text_codes, .inl (G.2.1, 60, .inl t_text_codes))] rE (some (.int rr)) [(a_t, .inr (7, [.ref a_t_now, .ref a_t_trial, .ref a_t_snapshot, .int t_snapshotTaken, .ref a_t_history, .ref a_t_text, .ref a_t_works, .ref a_t_highs, .ref a_t_trade])), (a_t_text, .inr (4, [.ref a_t_text_codes, .int w_t_text_length, .ref a_t_text_syntax])), (a_t_text_codes, .inl (G.2.1, 60, .inl w_t_text_codes))] := by
  refine XM.ofW (C := RX11) (by decide) rfl (Nat.le_of_ble_eq_true rfl) ?_
  intro p e s m below meth c A hF hr hlk hG hA hP hD hZ hout ls hl
  have hl : lv_has ls 2 [(0, .ref a_t), (1, .int x1)] := hl
  have hx := hF.1
  have hb := hF.2.1
  have hml := hF.2.2.1
  have hown := hF.2.2.2.1
  have hts := hF.2.2.2.2
  have hS : va_S A s.heap s.heap [] := va_S.rf
  unfold f_X11_append at hf
  refine lv_iload_n hx hb dX11_append_0 rfl (lv_at hl 1 rfl) ?_
  refine lv_bipush (v := 33) hx hb dX11_append_1 (by decide) ?_
  refine lv_bipush (v := 126) hx hb dX11_append_3 (by decide) ?_
  obtain ⟨e_1, hq, hf⟩ := bd1_some hf
  refine xwS (As := [.int x1, .int 33, .int 126]) (rest := []) (wn := [(a_t, .inr (7, [.ref a_t_now, .ref a_t_trial, .ref a_t_snapshot, .int t_snapshotTaken, .ref a_t_history, .ref a_t_text, .ref a_t_works, .ref a_t_highs, .ref a_t_trade])), (a_t_text, .inr (4, [.ref a_t_text_codes, .int t_text_length, .ref a_t_text_syntax])), (a_t_text_codes, .inl (G.2.1, 60, .inl t_text_codes))]) hF hG hP hD hS hA hZ hl.1 (c_X11_requireRange l G x1 33 126 e_1 hq hst) k_X11_requireRange q581 [] [0, 1, 2] [0, 1, 2] rfl rfl rfl rfl ⟨rfl, rfl⟩ (by decide) rfl rfl (Nat.le_of_ble_eq_true rfl) ⟨(Nat.le_of_ble_eq_true rfl), (Nat.le_of_ble_eq_true rfl)⟩ ⟨(Nat.le_of_ble_eq_true rfl), (Nat.le_of_ble_eq_true rfl)⟩ dX11_append_5 (fun hE ce q9 H locs hP hD hS hce hcv hcl => ?_) (fun hE H locs hP hD hS => ?_)
  · have hf := (if_neg hE).symm.trans hf
    have hf : (some (e_1, 0, t_text_length, t_text_codes) : Option (String × Int32 × Int32 × (Nat → Int32))) = some (rE, rr, w_t_text_length, w_t_text_codes) := hf
    cases hf
    exact xo hout hlk hE hP hD hS hce hcv hcl (Nat.le_of_ble_eq_true rfl) (Nat.le_of_ble_eq_true rfl)
  have hf := (if_pos hE).symm.trans hf
  refine lv_aload_n hx hb dX11_append_8 rfl (lv_at hl 0 rfl) ?_
  refine gf (C := RX11) (T := TX11) (N := 9) (ci := 7) (v := .ref a_t_text) hF hG hP inX11 0 rfl rfl 5 (by decide) q209 rfl rfl dX11_append_9 ?_
  refine gfN (C := RX8) (T := TX8) (N := 3) (ci := 4) (v := .int t_text_length) hF hG hP inX8 1 rfl rfl 1 (by decide) n148 rfl rfl dX11_append_12 ?_
  refine lv_bipush (v := 60) hx hb dX11_append_15 (by decide) ?_
  refine lv_icmp_lt (tgt := 30) hx hb dX11_append_17 (by decide) (fun c0 => ?_) (fun c0 => ?_)
  · have hf := (if_pos c0).symm.trans hf
    refine lv_aload_n hx hb dX11_append_30 rfl (lv_at hl 0 rfl) ?_
    refine gf (C := RX11) (T := TX11) (N := 9) (ci := 7) (v := .ref a_t_text) hF hG hP inX11 0 rfl rfl 5 (by decide) q209 rfl rfl dX11_append_31 ?_
    refine lv_iload_n hx hb dX11_append_34 rfl (lv_at hl 1 rfl) ?_
    obtain ⟨t_text_length_2, t_text_codes_3, hq, hf⟩ := bd2_some hf
    refine wrVN (As := [.int x1]) (rest := []) (wn := [(a_t, .inr (7, [.ref a_t_now, .ref a_t_trial, .ref a_t_snapshot, .int t_snapshotTaken, .ref a_t_history, .ref a_t_text, .ref a_t_works, .ref a_t_highs, .ref a_t_trade])), (a_t_text, .inr (4, [.ref a_t_text_codes, .int t_text_length_2, .ref a_t_text_syntax])), (a_t_text_codes, .inl (G.2.1, 60, .inl t_text_codes_3))]) hF hG hP hD hS hA hl.1 (c_X8_add l G a_t_text t_text_length a_t_text_syntax a_t_text_codes t_text_codes x1 t_text_length_2 t_text_codes_3 hq) k_X8_add n765 [1, 2] [0] [0, 1, 2] rfl rfl rfl rfl ⟨rfl, rfl⟩ (by decide) ⟨1, 4, _, _, rfl, rfl, rfl⟩ rfl rfl (Nat.le_of_ble_eq_true rfl) ⟨(Nat.le_of_ble_eq_true rfl), (Nat.le_of_ble_eq_true rfl)⟩ ⟨(Nat.le_of_ble_eq_true rfl), (Nat.le_of_ble_eq_true rfl)⟩ dX11_append_35 (fun H locs hP hD hS => ?_)
    refine lv_aload_n hx hb dX11_append_38 rfl (lv_at hl 0 rfl) ?_
    refine gf (C := RX11) (T := TX11) (N := 9) (ci := 7) (v := .ref a_t_text) hF hG hP inX11 0 rfl rfl 5 (by decide) q209 rfl rfl dX11_append_39 ?_
    refine gfN (C := RX8) (T := TX8) (N := 3) (ci := 4) (v := .int t_text_length_2) hF hG hP inX8 1 rfl rfl 1 (by decide) n148 rfl rfl dX11_append_42 ?_
    have hf : (some ("", t_text_length_2, t_text_length_2, t_text_codes_3) : Option (String × Int32 × Int32 × (Nat → Int32))) = some (rE, rr, w_t_text_length, w_t_text_codes) := hf
    cases hf
    exact xe_i hF hr hlk hP hD hS (Nat.le_of_ble_eq_true rfl) (Nat.le_of_ble_eq_true rfl) dX11_append_45 rfl
  · have hf := (if_neg c0).symm.trans hf
    have hf : (some ("java/lang/IllegalStateException", 0, t_text_length, t_text_codes) : Option (String × Int32 × Int32 × (Nat → Int32))) = some (rE, rr, w_t_text_length, w_t_text_codes) := hf
    cases hf
    exact thS (is := 137) hF hG hst (by decide +kernel) hP hD hS hA hZ hl.1 hout hlk dX11_append_20 dX11_append_23 dX11_append_24 dX11_append_26 dX11_append_29 (Nat.le_of_ble_eq_true rfl) (Nat.le_of_ble_eq_true rfl) (Nat.le_of_ble_eq_true rfl) (Nat.le_of_ble_eq_true rfl) (Nat.le_of_ble_eq_true rfl) (Nat.le_of_ble_eq_true rfl)
def f_X7_mayEnd (t_letter : Int32) (t_field : Int32) (t_digits : Int32) (t_value : Int32) : Option (Int32) := (if t_letter = 0 then some 0 else bd1 (f_X7_numberStands t_letter t_field t_digits t_value) (fun (r_1 : Int32) => (if r_1 = 0 then some 0 else bd1 (f_X7_wantsLonger t_letter t_field) (fun (r_2 : Int32) => (if r_2 = 0 then some 1 else some 0)))))
theorem k_X7_mayEnd : KV yX7_mayEnd cX7_mayEnd 1 (some .boolean) 0 := ⟨qc_yX7_mayEnd, q5, ⟨by decide +kernel, by decide +kernel, by decide +kernel⟩, qi_yX7_mayEnd, qs_yX7_mayEnd⟩
abbrev RM_X7_mayEnd : Room := { frames := 2, cells := 0, slots := 0, locals := 40 }
set_option maxHeartbeats 4000000 in
set_option maxRecDepth 100000 in
theorem c_X7_mayEnd (l : Launch) (G : GP) (a_t : Nat) (t_letter : Int32) (t_field : Int32) (t_digits : Int32) (t_value : Int32) (rr : Int32) (hf : f_X7_mayEnd t_letter t_field t_digits t_value = some rr) : RM l yX7_mayEnd cX7_mayEnd 1 (some .boolean) 2 40 G [.ref a_t] [(a_t, .inr (3, [.int t_letter, .int t_field, .int t_digits, .int t_value]))] (some (.int rr)) := by
  refine RM.ofW (C := RX7) (by decide) rfl (Nat.le_of_ble_eq_true rfl) ?_
  intro p e s m below meth c hF hr hlk hG hP ls hl
  have hl : lv_has ls 1 [(0, .ref a_t)] := hl
  have hx := hF.1
  have hb := hF.2.1
  have hml := hF.2.2.1
  have hown := hF.2.2.2.1
  have hts := hF.2.2.2.2
  unfold f_X7_mayEnd at hf
  refine lv_aload_n hx hb dX7_mayEnd_0 rfl (lv_at hl 0 rfl) ?_
  refine gf (C := RX7) (T := TX7) (N := 4) (ci := 3) (v := .int t_letter) hF hG hP inX7 0 rfl rfl 0 (by decide) q132 rfl rfl dX7_mayEnd_1 ?_
  refine lv_if_eq (tgt := 25) hx hb dX7_mayEnd_4 (by decide) (fun c0 => ?_) (fun c0 => ?_)
  · have hf := (if_pos c0).symm.trans hf
    refine lv_iconst (v := 0) hx hb dX7_mayEnd_25 (by decide) ?_
    have hf : (some 0 : Option (Int32)) = some rr := hf
    cases hf
    exact re_z hF hr hlk dX7_mayEnd_26 rfl rfl
  · have hf := (if_neg c0).symm.trans hf
    refine lv_aload_n hx hb dX7_mayEnd_7 rfl (lv_at hl 0 rfl) ?_
    obtain ⟨r_1, hq, hf⟩ := bd1_some hf
    refine rdV (As := []) (rest := []) hF hG hP hl.1 (c_X7_numberStands l G a_t t_letter t_field t_digits t_value r_1 hq) k_X7_numberStands q329 [0] rfl ⟨0, 3, _, _, rfl, rfl, rfl⟩ rfl rfl (Nat.le_of_ble_eq_true rfl) ⟨(Nat.le_of_ble_eq_true rfl), (Nat.le_of_ble_eq_true rfl)⟩ ⟨(Nat.zero_le _), (Nat.zero_le _)⟩ dX7_mayEnd_8 ?_
    refine lv_if_eq (tgt := 25) hx hb dX7_mayEnd_11 (by decide) (fun c0 => ?_) (fun c0 => ?_)
    · have hf := (if_pos c0).symm.trans hf
      refine lv_iconst (v := 0) hx hb dX7_mayEnd_25 (by decide) ?_
      have hf : (some 0 : Option (Int32)) = some rr := hf
      cases hf
      exact re_z hF hr hlk dX7_mayEnd_26 rfl rfl
    · have hf := (if_neg c0).symm.trans hf
      refine lv_aload_n hx hb dX7_mayEnd_14 rfl (lv_at hl 0 rfl) ?_
      obtain ⟨r_2, hq, hf⟩ := bd1_some hf
      refine rdV (As := []) (rest := []) hF hG hP hl.1 (c_X7_wantsLonger l G a_t t_letter t_field t_digits t_value r_2 hq) k_X7_wantsLonger q333 [0] rfl ⟨0, 3, _, _, rfl, rfl, rfl⟩ rfl rfl (Nat.le_of_ble_eq_true rfl) ⟨(Nat.le_of_ble_eq_true rfl), (Nat.le_of_ble_eq_true rfl)⟩ ⟨(Nat.zero_le _), (Nat.zero_le _)⟩ dX7_mayEnd_15 ?_
      refine lv_if_ne (tgt := 25) hx hb dX7_mayEnd_18 (by decide) (fun c0 => ?_) (fun c0 => ?_)
      · have hf := (if_neg c0).symm.trans hf
        refine lv_iconst (v := 0) hx hb dX7_mayEnd_25 (by decide) ?_
        have hf : (some 0 : Option (Int32)) = some rr := hf
        cases hf
        exact re_z hF hr hlk dX7_mayEnd_26 rfl rfl
      · have hf := (if_pos c0).symm.trans hf
        refine lv_iconst (v := 1) hx hb dX7_mayEnd_21 (by decide) ?_
        refine lv_goto (tgt := 26) hx hb dX7_mayEnd_22 (by decide) ?_
        have hf : (some 1 : Option (Int32)) = some rr := hf
        cases hf
        exact re_z hF hr hlk dX7_mayEnd_26 rfl rfl
def f_X8_isWhole (t_length : Int32) (t_codes : Nat → Int32) (t_syntax_letter : Int32) (t_syntax_field : Int32) (t_syntax_digits : Int32) (t_syntax_value : Int32) : Option (Int32 × Int32 × Int32 × Int32 × Int32) := bd5 (f_X8_firstRefused t_length t_codes t_syntax_letter t_syntax_field t_syntax_digits t_syntax_value) (fun (r_1 : Int32) (t_syntax_letter_2 : Int32) (t_syntax_field_3 : Int32) (t_syntax_digits_4 : Int32) (t_syntax_value_5 : Int32) => (if r_1 = t_length then bd1 (f_X7_mayEnd t_syntax_letter_2 t_syntax_field_3 t_syntax_digits_4 t_syntax_value_5) (fun (r_6 : Int32) => (if r_6 = 0 then some (0, t_syntax_letter_2, t_syntax_field_3, t_syntax_digits_4, t_syntax_value_5) else some (1, t_syntax_letter_2, t_syntax_field_3, t_syntax_digits_4, t_syntax_value_5))) else some (0, t_syntax_letter_2, t_syntax_field_3, t_syntax_digits_4, t_syntax_value_5)))
theorem k_X8_isWhole : KV yX8_isWhole cX8_isWhole 1 (some .boolean) 0 := ⟨qc_yX8_isWhole, q4, ⟨by decide +kernel, by decide +kernel, by decide +kernel⟩, qi_yX8_isWhole, qs_yX8_isWhole⟩
abbrev RM_X8_isWhole : Room := { frames := 5, cells := 0, slots := 0, locals := 106 }
set_option maxHeartbeats 4000000 in
set_option maxRecDepth 100000 in
theorem c_X8_isWhole (l : Launch) (G : GP) (a_t : Nat) (t_length : Int32) (a_t_codes : Nat) (t_codes : Nat → Int32) (a_t_syntax : Nat) (t_syntax_letter : Int32) (t_syntax_field : Int32) (t_syntax_digits : Int32) (t_syntax_value : Int32) (rr : Int32) (w_t_syntax_letter : Int32) (w_t_syntax_field : Int32) (w_t_syntax_digits : Int32) (w_t_syntax_value : Int32) (hf : f_X8_isWhole t_length t_codes t_syntax_letter t_syntax_field t_syntax_digits t_syntax_value = some (rr, w_t_syntax_letter, w_t_syntax_field, w_t_syntax_digits, w_t_syntax_value)) : WM l yX8_isWhole cX8_isWhole 1 (some .boolean) 5 106 G [.ref a_t] [(a_t, .inr (4, [.ref a_t_codes, .int t_length, .ref a_t_syntax])), (a_t_codes, .inl (G.2.1, 60, .inl t_codes)), (a_t_syntax, .inr (3, [.int t_syntax_letter, .int t_syntax_field, .int t_syntax_digits, .int t_syntax_value]))] (some (.int rr)) [(a_t, .inr (4, [.ref a_t_codes, .int t_length, .ref a_t_syntax])), (a_t_codes, .inl (G.2.1, 60, .inl t_codes)), (a_t_syntax, .inr (3, [.int w_t_syntax_letter, .int w_t_syntax_field, .int w_t_syntax_digits, .int w_t_syntax_value]))] := by
  refine WM.ofW (C := RX8) (by decide) rfl (Nat.le_of_ble_eq_true rfl) ?_
  intro p e s m below meth c A hF hr hlk hG hA hP hD ls hl
  have hl : lv_has ls 1 [(0, .ref a_t)] := hl
  have hx := hF.1
  have hb := hF.2.1
  have hml := hF.2.2.1
  have hown := hF.2.2.2.1
  have hts := hF.2.2.2.2
  have hS : va_S A s.heap s.heap [] := va_S.rf
  unfold f_X8_isWhole at hf
  refine lv_aload_n hx hb dX8_isWhole_0 rfl (lv_at hl 0 rfl) ?_
  obtain ⟨r_1, t_syntax_letter_2, t_syntax_field_3, t_syntax_digits_4, t_syntax_value_5, hq, hf⟩ := bd5_some hf
  refine wrV (As := []) (rest := []) (wn := [(a_t, .inr (4, [.ref a_t_codes, .int t_length, .ref a_t_syntax])), (a_t_codes, .inl (G.2.1, 60, .inl t_codes)), (a_t_syntax, .inr (3, [.int t_syntax_letter_2, .int t_syntax_field_3, .int t_syntax_digits_4, .int t_syntax_value_5]))]) hF hG hP hD hS hA hl.1 (c_X8_firstRefused l G a_t t_length a_t_codes t_codes a_t_syntax t_syntax_letter t_syntax_field t_syntax_digits t_syntax_value r_1 t_syntax_letter_2 t_syntax_field_3 t_syntax_digits_4 t_syntax_value_5 hq) k_X8_firstRefused q780 [0, 1, 2] [] [0, 1, 2] rfl rfl rfl rfl ⟨rfl, rfl⟩ (by decide) ⟨0, 4, _, _, rfl, rfl, rfl⟩ rfl rfl (Nat.le_of_ble_eq_true rfl) ⟨(Nat.le_of_ble_eq_true rfl), (Nat.le_of_ble_eq_true rfl)⟩ ⟨(Nat.le_of_ble_eq_true rfl), (Nat.le_of_ble_eq_true rfl)⟩ dX8_isWhole_1 (fun H locs hP hD hS => ?_)
  refine lv_aload_n hx hb dX8_isWhole_4 rfl (lv_at hl 0 rfl) ?_
  refine gf (C := RX8) (T := TX8) (N := 3) (ci := 4) (v := .int t_length) hF hG hP inX8 0 rfl rfl 1 (by decide) q146 rfl rfl dX8_isWhole_5 ?_
  refine lv_icmp_ne (tgt := 25) hx hb dX8_isWhole_8 (by decide) (fun c0 => ?_) (fun c0 => ?_)
  · have hf := (if_neg c0).symm.trans hf
    refine lv_iconst (v := 0) hx hb dX8_isWhole_25 (by decide) ?_
    have hf : (some (0, t_syntax_letter_2, t_syntax_field_3, t_syntax_digits_4, t_syntax_value_5) : Option (Int32 × Int32 × Int32 × Int32 × Int32)) = some (rr, w_t_syntax_letter, w_t_syntax_field, w_t_syntax_digits, w_t_syntax_value) := hf
    cases hf
    exact we_z hF hr hlk hP hD hS dX8_isWhole_26 rfl rfl
  · have hf := (if_pos c0).symm.trans hf
    refine lv_aload_n hx hb dX8_isWhole_11 rfl (lv_at hl 0 rfl) ?_
    refine gf (C := RX8) (T := TX8) (N := 3) (ci := 4) (v := .ref a_t_syntax) hF hG hP inX8 0 rfl rfl 2 (by decide) q149 rfl rfl dX8_isWhole_12 ?_
    obtain ⟨r_6, hq, hf⟩ := bd1_some hf
    refine rdVN (As := []) (rest := []) hF hG hP hl.1 (c_X7_mayEnd l G a_t_syntax t_syntax_letter_2 t_syntax_field_3 t_syntax_digits_4 t_syntax_value_5 r_6 hq) k_X7_mayEnd n781 [2] rfl ⟨2, 3, _, _, rfl, rfl, rfl⟩ rfl rfl (Nat.le_of_ble_eq_true rfl) ⟨(Nat.le_of_ble_eq_true rfl), (Nat.le_of_ble_eq_true rfl)⟩ ⟨(Nat.zero_le _), (Nat.zero_le _)⟩ dX8_isWhole_15 ?_
    refine lv_if_eq (tgt := 25) hx hb dX8_isWhole_18 (by decide) (fun c0 => ?_) (fun c0 => ?_)
    · have hf := (if_pos c0).symm.trans hf
      refine lv_iconst (v := 0) hx hb dX8_isWhole_25 (by decide) ?_
      have hf : (some (0, t_syntax_letter_2, t_syntax_field_3, t_syntax_digits_4, t_syntax_value_5) : Option (Int32 × Int32 × Int32 × Int32 × Int32)) = some (rr, w_t_syntax_letter, w_t_syntax_field, w_t_syntax_digits, w_t_syntax_value) := hf
      cases hf
      exact we_z hF hr hlk hP hD hS dX8_isWhole_26 rfl rfl
    · have hf := (if_neg c0).symm.trans hf
      refine lv_iconst (v := 1) hx hb dX8_isWhole_21 (by decide) ?_
      refine lv_goto (tgt := 26) hx hb dX8_isWhole_22 (by decide) ?_
      have hf : (some (1, t_syntax_letter_2, t_syntax_field_3, t_syntax_digits_4, t_syntax_value_5) : Option (Int32 × Int32 × Int32 × Int32 × Int32)) = some (rr, w_t_syntax_letter, w_t_syntax_field, w_t_syntax_digits, w_t_syntax_value) := hf
      cases hf
      exact we_z hF hr hlk hP hD hS dX8_isWhole_26 rfl rfl
def f_X10_startNumber (t_count : Int32) (t_numbers : Nat → Int32) : Option (Int32 × (Nat → Int32)) := (if t_count < 0 then some (t_count, t_numbers) else (if 60 ≤ t_count then some (t_count, t_numbers) else gd (¬ (t_count < 0 ∨ 60 ≤ Int32.toNatClampNeg t_count)) (some ((t_count + 1), (upd t_numbers (Int32.toNatClampNeg t_count) 0)))))
theorem k_X10_startNumber : KV yX10_startNumber cX10_startNumber 1 none 0 := ⟨qc_yX10_startNumber, q6, ⟨by decide +kernel, by decide +kernel, by decide +kernel⟩, qi_yX10_startNumber, qs_yX10_startNumber⟩
abbrev RM_X10_startNumber : Room := { frames := 0, cells := 0, slots := 0, locals := 0 }
set_option maxHeartbeats 4000000 in
set_option maxRecDepth 100000 in
theorem c_X10_startNumber (l : Launch) (G : GP) (a_t : Nat) (t_letter : Int32) (t_count : Int32) (a_t_numbers : Nat) (t_numbers : Nat → Int32) (w_t_count : Int32) (w_t_numbers : Nat → Int32) (hf : f_X10_startNumber t_count t_numbers = some (w_t_count, w_t_numbers)) : WM l yX10_startNumber cX10_startNumber 1 none 0 0 G [.ref a_t] [(a_t, .inr (6, [.int t_letter, .ref a_t_numbers, .int t_count])), (a_t_numbers, .inl (G.2.1, 60, .inl t_numbers))] none [(a_t, .inr (6, [.int t_letter, .ref a_t_numbers, .int w_t_count])), (a_t_numbers, .inl (G.2.1, 60, .inl w_t_numbers))] := by
  refine WM.ofW (C := RX10) (by decide) rfl (Nat.le_of_ble_eq_true rfl) ?_
  intro p e s m below meth c A hF hr hlk hG hA hP hD ls hl
  have hl : lv_has ls 1 [(0, .ref a_t)] := hl
  have hx := hF.1
  have hb := hF.2.1
  have hml := hF.2.2.1
  have hown := hF.2.2.2.1
  have hts := hF.2.2.2.2
  have hS : va_S A s.heap s.heap [] := va_S.rf
  unfold f_X10_startNumber at hf
  refine lv_aload_n hx hb dX10_startNumber_0 rfl (lv_at hl 0 rfl) ?_
  refine gf (C := RX10) (T := TX10) (N := 3) (ci := 6) (v := .int t_count) hF hG hP inX10 0 rfl rfl 2 (by decide) q165 rfl rfl dX10_startNumber_1 ?_
  refine lv_if_lt (tgt := 39) hx hb dX10_startNumber_4 (by decide) (fun c0 => ?_) (fun c0 => ?_)
  · have hf := (if_pos c0).symm.trans hf
    have hf : (some (t_count, t_numbers) : Option (Int32 × (Nat → Int32))) = some (w_t_count, w_t_numbers) := hf
    cases hf
    exact we_v hF hr hlk hP hD hS dX10_startNumber_39 rfl
  · have hf := (if_neg c0).symm.trans hf
    refine lv_aload_n hx hb dX10_startNumber_7 rfl (lv_at hl 0 rfl) ?_
    refine gf (C := RX10) (T := TX10) (N := 3) (ci := 6) (v := .int t_count) hF hG hP inX10 0 rfl rfl 2 (by decide) q165 rfl rfl dX10_startNumber_8 ?_
    refine lv_aload_n hx hb dX10_startNumber_11 rfl (lv_at hl 0 rfl) ?_
    refine gf (C := RX10) (T := TX10) (N := 3) (ci := 6) (v := .ref a_t_numbers) hF hG hP inX10 0 rfl rfl 1 (by decide) q164 rfl rfl dX10_startNumber_12 ?_
    refine va_alen (v := 60) hx hb hG.1 hP 1 0 rfl rfl rfl dX10_startNumber_15 ?_
    refine lv_icmp_ge (tgt := 39) hx hb dX10_startNumber_16 (by decide) (fun c0 => ?_) (fun c0 => ?_)
    · have hf := (if_pos c0).symm.trans hf
      have hf : (some (t_count, t_numbers) : Option (Int32 × (Nat → Int32))) = some (w_t_count, w_t_numbers) := hf
      cases hf
      exact we_v hF hr hlk hP hD hS dX10_startNumber_39 rfl
    · have hf := (if_neg c0).symm.trans hf
      refine lv_aload_n hx hb dX10_startNumber_19 rfl (lv_at hl 0 rfl) ?_
      refine gf (C := RX10) (T := TX10) (N := 3) (ci := 6) (v := .ref a_t_numbers) hF hG hP inX10 0 rfl rfl 1 (by decide) q164 rfl rfl dX10_startNumber_20 ?_
      refine lv_aload_n hx hb dX10_startNumber_23 rfl (lv_at hl 0 rfl) ?_
      refine gf (C := RX10) (T := TX10) (N := 3) (ci := 6) (v := .int t_count) hF hG hP inX10 0 rfl rfl 2 (by decide) q165 rfl rfl dX10_startNumber_24 ?_
      refine lv_iconst (v := 0) hx hb dX10_startNumber_27 (by decide) ?_
      obtain ⟨hg, hf⟩ := gd_some hf
      refine ast_i (k := Int32.toNatClampNeg t_count) hF hG hP hD hS 1 rfl rfl hg dX10_startNumber_28 (fun H locs hP hD hS => ?_)
      replace hP : va_P G.1 vwCl [(a_t, .inr (6, [.int t_letter, .ref a_t_numbers, .int t_count])), (a_t_numbers, .inl (G.2.1, 60, .inl (upd t_numbers (Int32.toNatClampNeg t_count) 0)))] H := hP
      replace hD : va_D A [(a_t, .inr (6, [.int t_letter, .ref a_t_numbers, .int t_count])), (a_t_numbers, .inl (G.2.1, 60, .inl (upd t_numbers (Int32.toNatClampNeg t_count) 0)))] := hD
      refine lv_aload_n hx hb dX10_startNumber_29 rfl (lv_at hl 0 rfl) ?_
      refine lv_dup hx hb dX10_startNumber_30 rfl ?_
      refine gf (C := RX10) (T := TX10) (N := 3) (ci := 6) (v := .int t_count) hF hG hP inX10 0 rfl rfl 2 (by decide) q165 rfl rfl dX10_startNumber_31 ?_
      refine lv_iconst (v := 1) hx hb dX10_startNumber_34 (by decide) ?_
      refine lv_iadd hx hb dX10_startNumber_35 ?_
      refine pf (C := RX10) (T := TX10) (N := 3) (ci := 6) (v := .int (t_count + 1)) (ty := .int) hF hG hP hD hS inX10 tyX10 tyX10_ok nmX10 0 rfl rfl 2 (by decide) q165 rfl rfl (by decide +kernel) rfl rfl (Nat.le_of_ble_eq_true rfl) dX10_startNumber_36 (fun H locs hP hD hS => ?_)
      replace hP : va_P G.1 vwCl [(a_t, .inr (6, [.int t_letter, .ref a_t_numbers, .int (t_count + 1)])), (a_t_numbers, .inl (G.2.1, 60, .inl (upd t_numbers (Int32.toNatClampNeg t_count) 0)))] H := hP
      replace hD : va_D A [(a_t, .inr (6, [.int t_letter, .ref a_t_numbers, .int (t_count + 1)])), (a_t_numbers, .inl (G.2.1, 60, .inl (upd t_numbers (Int32.toNatClampNeg t_count) 0)))] := hD
      have hf : (some ((t_count + 1), (upd t_numbers (Int32.toNatClampNeg t_count) 0)) : Option (Int32 × (Nat → Int32))) = some (w_t_count, w_t_numbers) := hf
      cases hf
      exact we_v hF hr hlk hP hD hS dX10_startNumber_39 rfl
def f_X10_growNumber (t_count : Int32) (t_numbers : Nat → Int32) (x1 : Int32) : Option ((Nat → Int32)) := (if t_count ≤ 0 then some t_numbers else (if 60 < t_count then some t_numbers else gd (¬ ((t_count - 1) < 0 ∨ 60 ≤ Int32.toNatClampNeg (t_count - 1))) (gd (¬ ((t_count - 1) < 0 ∨ 60 ≤ Int32.toNatClampNeg (t_count - 1))) (some (upd t_numbers (Int32.toNatClampNeg (t_count - 1)) ((10 * (t_numbers (Int32.toNatClampNeg (t_count - 1)))) + x1))))))
theorem k_X10_growNumber : KV yX10_growNumber cX10_growNumber 2 none 1 := ⟨qc_yX10_growNumber, q6, ⟨by decide +kernel, by decide +kernel, by decide +kernel⟩, qi_yX10_growNumber, qs_yX10_growNumber⟩
abbrev RM_X10_growNumber : Room := { frames := 0, cells := 0, slots := 0, locals := 0 }
set_option maxHeartbeats 4000000 in
set_option maxRecDepth 100000 in
theorem c_X10_growNumber (l : Launch) (G : GP) (a_t : Nat) (t_letter : Int32) (t_count : Int32) (a_t_numbers : Nat) (t_numbers : Nat → Int32) (x1 : Int32) (w_t_numbers : Nat → Int32) (hf : f_X10_growNumber t_count t_numbers x1 = some w_t_numbers) : WM l yX10_growNumber cX10_growNumber 2 none 0 0 G [.ref a_t, .int x1] [(a_t, .inr (6, [.int t_letter, .ref a_t_numbers, .int t_count])), (a_t_numbers, .inl (G.2.1, 60, .inl t_numbers))] none [(a_t, .inr (6, [.int t_letter, .ref a_t_numbers, .int t_count])), (a_t_numbers, .inl (G.2.1, 60, .inl w_t_numbers))] := by
  refine WM.ofW (C := RX10) (by decide) rfl (Nat.le_of_ble_eq_true rfl) ?_
  intro p e s m below meth c A hF hr hlk hG hA hP hD ls hl
  have hl : lv_has ls 2 [(0, .ref a_t), (1, .int x1)] := hl
  have hx := hF.1
  have hb := hF.2.1
  have hml := hF.2.2.1
  have hown := hF.2.2.2.1
  have hts := hF.2.2.2.2
  have hS : va_S A s.heap s.heap [] := va_S.rf
  unfold f_X10_growNumber at hf
  refine lv_aload_n hx hb dX10_growNumber_0 rfl (lv_at hl 0 rfl) ?_
  refine gf (C := RX10) (T := TX10) (N := 3) (ci := 6) (v := .int t_count) hF hG hP inX10 0 rfl rfl 2 (by decide) q165 rfl rfl dX10_growNumber_1 ?_
  refine lv_if_le (tgt := 46) hx hb dX10_growNumber_4 (by decide) (fun c0 => ?_) (fun c0 => ?_)
  · have hf := (if_pos c0).symm.trans hf
    have hf : (some t_numbers : Option ((Nat → Int32))) = some w_t_numbers := hf
    cases hf
    exact we_v hF hr hlk hP hD hS dX10_growNumber_46 rfl
  · have hf := (if_neg c0).symm.trans hf
    refine lv_aload_n hx hb dX10_growNumber_7 rfl (lv_at hl 0 rfl) ?_
    refine gf (C := RX10) (T := TX10) (N := 3) (ci := 6) (v := .int t_count) hF hG hP inX10 0 rfl rfl 2 (by decide) q165 rfl rfl dX10_growNumber_8 ?_
    refine lv_aload_n hx hb dX10_growNumber_11 rfl (lv_at hl 0 rfl) ?_
    refine gf (C := RX10) (T := TX10) (N := 3) (ci := 6) (v := .ref a_t_numbers) hF hG hP inX10 0 rfl rfl 1 (by decide) q164 rfl rfl dX10_growNumber_12 ?_
    refine va_alen (v := 60) hx hb hG.1 hP 1 0 rfl rfl rfl dX10_growNumber_15 ?_
    refine lv_icmp_gt (tgt := 46) hx hb dX10_growNumber_16 (by decide) (fun c0 => ?_) (fun c0 => ?_)
    · have hf := (if_pos c0).symm.trans hf
      have hf : (some t_numbers : Option ((Nat → Int32))) = some w_t_numbers := hf
      cases hf
      exact we_v hF hr hlk hP hD hS dX10_growNumber_46 rfl
    · have hf := (if_neg c0).symm.trans hf
      refine lv_aload_n hx hb dX10_growNumber_19 rfl (lv_at hl 0 rfl) ?_
      refine gf (C := RX10) (T := TX10) (N := 3) (ci := 6) (v := .ref a_t_numbers) hF hG hP inX10 0 rfl rfl 1 (by decide) q164 rfl rfl dX10_growNumber_20 ?_
      refine lv_aload_n hx hb dX10_growNumber_23 rfl (lv_at hl 0 rfl) ?_
      refine gf (C := RX10) (T := TX10) (N := 3) (ci := 6) (v := .int t_count) hF hG hP inX10 0 rfl rfl 2 (by decide) q165 rfl rfl dX10_growNumber_24 ?_
      refine lv_iconst (v := 1) hx hb dX10_growNumber_27 (by decide) ?_
      refine lv_isub hx hb dX10_growNumber_28 ?_
      refine lv_bipush (v := 10) hx hb dX10_growNumber_29 (by decide) ?_
      refine lv_aload_n hx hb dX10_growNumber_31 rfl (lv_at hl 0 rfl) ?_
      refine gf (C := RX10) (T := TX10) (N := 3) (ci := 6) (v := .ref a_t_numbers) hF hG hP inX10 0 rfl rfl 1 (by decide) q164 rfl rfl dX10_growNumber_32 ?_
      refine lv_aload_n hx hb dX10_growNumber_35 rfl (lv_at hl 0 rfl) ?_
      refine gf (C := RX10) (T := TX10) (N := 3) (ci := 6) (v := .int t_count) hF hG hP inX10 0 rfl rfl 2 (by decide) q165 rfl rfl dX10_growNumber_36 ?_
      refine lv_iconst (v := 1) hx hb dX10_growNumber_39 (by decide) ?_
      refine lv_isub hx hb dX10_growNumber_40 ?_
      obtain ⟨hg, hf⟩ := gd_some hf
      refine ald_i (k := Int32.toNatClampNeg (t_count - 1)) hF hG hP 1 rfl rfl hg dX10_growNumber_41 ?_
      refine lv_imul hx hb dX10_growNumber_42 ?_
      refine lv_iload_n hx hb dX10_growNumber_43 rfl (lv_at hl 1 rfl) ?_
      refine lv_iadd hx hb dX10_growNumber_44 ?_
      obtain ⟨hg, hf⟩ := gd_some hf
      refine ast_i (k := Int32.toNatClampNeg (t_count - 1)) hF hG hP hD hS 1 rfl rfl hg dX10_growNumber_45 (fun H locs hP hD hS => ?_)
      replace hP : va_P G.1 vwCl [(a_t, .inr (6, [.int t_letter, .ref a_t_numbers, .int t_count])), (a_t_numbers, .inl (G.2.1, 60, .inl (upd t_numbers (Int32.toNatClampNeg (t_count - 1)) ((10 * (t_numbers (Int32.toNatClampNeg (t_count - 1)))) + x1))))] H := hP
      replace hD : va_D A [(a_t, .inr (6, [.int t_letter, .ref a_t_numbers, .int t_count])), (a_t_numbers, .inl (G.2.1, 60, .inl (upd t_numbers (Int32.toNatClampNeg (t_count - 1)) ((10 * (t_numbers (Int32.toNatClampNeg (t_count - 1)))) + x1))))] := hD
      have hf : (some (upd t_numbers (Int32.toNatClampNeg (t_count - 1)) ((10 * (t_numbers (Int32.toNatClampNeg (t_count - 1)))) + x1)) : Option ((Nat → Int32))) = some w_t_numbers := hf
      cases hf
      exact we_v hF hr hlk hP hD hS dX10_growNumber_46 rfl
def l_X10_readPart_21 (p1_length : Int32) (p1_codes : Nat → Int32) : Nat → Int32 → Int32 → Int32 → (Nat → Int32) → Option (Int32 × Int32 × (Nat → Int32))
  | 0, _, _, _, _ => none
  | n + 1, i3_2, i4_3, t_count_4, t_numbers_5 => (if p1_length ≤ i4_3 then some (i4_3, t_count_4, t_numbers_5) else bd1 (f_X8_codeAt p1_codes i4_3) (fun (r_9 : Int32) => (if r_9 = 59 then some (i4_3, t_count_4, t_numbers_5) else bd1 (f_X8_codeAt p1_codes i4_3) (fun (r_10 : Int32) => (if r_10 < 48 then (if (0 : Int32) = 0 then (if (0 : Int32) = 0 then l_X10_readPart_21 p1_length p1_codes n 0 (i4_3 + 1) t_count_4 t_numbers_5 else bd1 (f_X10_growNumber t_count_4 t_numbers_5 (r_10 - 48)) (fun (t_numbers_11 : Nat → Int32) => l_X10_readPart_21 p1_length p1_codes n 0 (i4_3 + 1) t_count_4 t_numbers_11)) else (if i3_2 = 0 then bd2 (f_X10_startNumber t_count_4 t_numbers_5) (fun (t_count_13 : Int32) (t_numbers_14 : Nat → Int32) => (if (0 : Int32) = 0 then l_X10_readPart_21 p1_length p1_codes n 0 (i4_3 + 1) t_count_13 t_numbers_14 else bd1 (f_X10_growNumber t_count_13 t_numbers_14 (r_10 - 48)) (fun (t_numbers_15 : Nat → Int32) => l_X10_readPart_21 p1_length p1_codes n 0 (i4_3 + 1) t_count_13 t_numbers_15))) else (if (0 : Int32) = 0 then l_X10_readPart_21 p1_length p1_codes n 0 (i4_3 + 1) t_count_4 t_numbers_5 else bd1 (f_X10_growNumber t_count_4 t_numbers_5 (r_10 - 48)) (fun (t_numbers_12 : Nat → Int32) => l_X10_readPart_21 p1_length p1_codes n 0 (i4_3 + 1) t_count_4 t_numbers_12)))) else (if 57 < r_10 then (if (0 : Int32) = 0 then (if (0 : Int32) = 0 then l_X10_readPart_21 p1_length p1_codes n 0 (i4_3 + 1) t_count_4 t_numbers_5 else bd1 (f_X10_growNumber t_count_4 t_numbers_5 (r_10 - 48)) (fun (t_numbers_16 : Nat → Int32) => l_X10_readPart_21 p1_length p1_codes n 0 (i4_3 + 1) t_count_4 t_numbers_16)) else (if i3_2 = 0 then bd2 (f_X10_startNumber t_count_4 t_numbers_5) (fun (t_count_18 : Int32) (t_numbers_19 : Nat → Int32) => (if (0 : Int32) = 0 then l_X10_readPart_21 p1_length p1_codes n 0 (i4_3 + 1) t_count_18 t_numbers_19 else bd1 (f_X10_growNumber t_count_18 t_numbers_19 (r_10 - 48)) (fun (t_numbers_20 : Nat → Int32) => l_X10_readPart_21 p1_length p1_codes n 0 (i4_3 + 1) t_count_18 t_numbers_20))) else (if (0 : Int32) = 0 then l_X10_readPart_21 p1_length p1_codes n 0 (i4_3 + 1) t_count_4 t_numbers_5 else bd1 (f_X10_growNumber t_count_4 t_numbers_5 (r_10 - 48)) (fun (t_numbers_17 : Nat → Int32) => l_X10_readPart_21 p1_length p1_codes n 0 (i4_3 + 1) t_count_4 t_numbers_17)))) else (if (1 : Int32) = 0 then (if (1 : Int32) = 0 then l_X10_readPart_21 p1_length p1_codes n 1 (i4_3 + 1) t_count_4 t_numbers_5 else bd1 (f_X10_growNumber t_count_4 t_numbers_5 (r_10 - 48)) (fun (t_numbers_21 : Nat → Int32) => l_X10_readPart_21 p1_length p1_codes n 1 (i4_3 + 1) t_count_4 t_numbers_21)) else (if i3_2 = 0 then bd2 (f_X10_startNumber t_count_4 t_numbers_5) (fun (t_count_23 : Int32) (t_numbers_24 : Nat → Int32) => (if (1 : Int32) = 0 then l_X10_readPart_21 p1_length p1_codes n 1 (i4_3 + 1) t_count_23 t_numbers_24 else bd1 (f_X10_growNumber t_count_23 t_numbers_24 (r_10 - 48)) (fun (t_numbers_25 : Nat → Int32) => l_X10_readPart_21 p1_length p1_codes n 1 (i4_3 + 1) t_count_23 t_numbers_25))) else (if (1 : Int32) = 0 then l_X10_readPart_21 p1_length p1_codes n 1 (i4_3 + 1) t_count_4 t_numbers_5 else bd1 (f_X10_growNumber t_count_4 t_numbers_5 (r_10 - 48)) (fun (t_numbers_22 : Nat → Int32) => l_X10_readPart_21 p1_length p1_codes n 1 (i4_3 + 1) t_count_4 t_numbers_22))))))))))
def f_X10_readPart (t_letter : Int32) (t_count : Int32) (t_numbers : Nat → Int32) (p1_length : Int32) (p1_codes : Nat → Int32) (x2 : Int32) : Option (Int32 × Int32 × Int32 × (Nat → Int32)) := bd1 (f_X8_codeAt p1_codes x2) (fun (r_1 : Int32) => bd3 (l_X10_readPart_21 p1_length p1_codes 1000 0 (x2 + 1) 0 t_numbers) (fun (o4_6 : Int32) (t_count_7 : Int32) (t_numbers_8 : Nat → Int32) => some ((o4_6 + 1), r_1, t_count_7, t_numbers_8)))
theorem k_X10_readPart : KV yX10_readPart cX10_readPart 7 (some .int) 2 := ⟨qc_yX10_readPart, q6, ⟨by decide +kernel, by decide +kernel, by decide +kernel⟩, qi_yX10_readPart, qs_yX10_readPart⟩
abbrev RM_X10_readPart : Room := { frames := 1, cells := 0, slots := 0, locals := 21 }
set_option maxHeartbeats 4000000 in
set_option maxRecDepth 100000 in
theorem c_X10_readPart (l : Launch) (G : GP) (a_t : Nat) (t_letter : Int32) (t_count : Int32) (a_t_numbers : Nat) (t_numbers : Nat → Int32) (a_p1 : Nat) (p1_length : Int32) (a_p1_syntax : Nat) (a_p1_codes : Nat) (p1_codes : Nat → Int32) (x2 : Int32) (rr : Int32) (w_t_letter : Int32) (w_t_count : Int32) (w_t_numbers : Nat → Int32) (hf : f_X10_readPart t_letter t_count t_numbers p1_length p1_codes x2 = some (rr, w_t_letter, w_t_count, w_t_numbers)) : WM l yX10_readPart cX10_readPart 7 (some .int) 1 21 G [.ref a_t, .ref a_p1, .int x2] [(a_t, .inr (6, [.int t_letter, .ref a_t_numbers, .int t_count])), (a_t_numbers, .inl (G.2.1, 60, .inl t_numbers)), (a_p1, .inr (4, [.ref a_p1_codes, .int p1_length, .ref a_p1_syntax])), (a_p1_codes, .inl (G.2.1, 60, .inl p1_codes))] (some (.int rr)) [(a_t, .inr (6, [.int w_t_letter, .ref a_t_numbers, .int w_t_count])), (a_t_numbers, .inl (G.2.1, 60, .inl w_t_numbers)), (a_p1, .inr (4, [.ref a_p1_codes, .int p1_length, .ref a_p1_syntax])), (a_p1_codes, .inl (G.2.1, 60, .inl p1_codes))] := by
  refine WM.ofW (C := RX10) (by decide) rfl (Nat.le_of_ble_eq_true rfl) ?_
  intro p e s m below meth c A hF hr hlk hG hA hP hD ls hl
  have hl : lv_has ls 7 [(0, .ref a_t), (1, .ref a_p1), (2, .int x2)] := hl
  have hx := hF.1
  have hb := hF.2.1
  have hml := hF.2.2.1
  have hown := hF.2.2.2.1
  have hts := hF.2.2.2.2
  have hS : va_S A s.heap s.heap [] := va_S.rf
  unfold f_X10_readPart at hf
  refine lv_aload_n hx hb dX10_readPart_0 rfl (lv_at hl 0 rfl) ?_
  refine lv_aload_n hx hb dX10_readPart_1 rfl (lv_at hl 1 rfl) ?_
  refine lv_iload_n hx hb dX10_readPart_2 rfl (lv_at hl 2 rfl) ?_
  obtain ⟨r_1, hq, hf⟩ := bd1_some hf
  refine rdVN (As := [.int x2]) (rest := [.ref a_t]) hF hG hP hl.1 (c_X8_codeAt l G a_p1 p1_length a_p1_syntax a_p1_codes p1_codes x2 r_1 hq) k_X8_codeAt n794 [2, 3] rfl ⟨2, 4, _, _, rfl, rfl, rfl⟩ rfl rfl (Nat.le_of_ble_eq_true rfl) ⟨(Nat.le_of_ble_eq_true rfl), (Nat.le_of_ble_eq_true rfl)⟩ ⟨(Nat.zero_le _), (Nat.zero_le _)⟩ dX10_readPart_3 ?_
  refine pf (C := RX10) (T := TX10) (N := 3) (ci := 6) (v := .int r_1) (ty := .int) hF hG hP hD hS inX10 tyX10 tyX10_ok nmX10 0 rfl rfl 0 (by decide) q163 rfl rfl (by decide +kernel) rfl rfl (Nat.le_of_ble_eq_true rfl) dX10_readPart_6 (fun H locs hP hD hS => ?_)
  replace hP : va_P G.1 vwCl [(a_t, .inr (6, [.int r_1, .ref a_t_numbers, .int t_count])), (a_t_numbers, .inl (G.2.1, 60, .inl t_numbers)), (a_p1, .inr (4, [.ref a_p1_codes, .int p1_length, .ref a_p1_syntax])), (a_p1_codes, .inl (G.2.1, 60, .inl p1_codes))] H := hP
  replace hD : va_D A [(a_t, .inr (6, [.int r_1, .ref a_t_numbers, .int t_count])), (a_t_numbers, .inl (G.2.1, 60, .inl t_numbers)), (a_p1, .inr (4, [.ref a_p1_codes, .int p1_length, .ref a_p1_syntax])), (a_p1_codes, .inl (G.2.1, 60, .inl p1_codes))] := hD
  refine lv_aload_n hx hb dX10_readPart_9 rfl (lv_at hl 0 rfl) ?_
  refine lv_iconst (v := 0) hx hb dX10_readPart_10 (by decide) ?_
  refine pf (C := RX10) (T := TX10) (N := 3) (ci := 6) (v := .int 0) (ty := .int) hF hG hP hD hS inX10 tyX10 tyX10_ok nmX10 0 rfl rfl 2 (by decide) q165 rfl rfl (by decide +kernel) rfl rfl (Nat.le_of_ble_eq_true rfl) dX10_readPart_11 (fun H locs hP hD hS => ?_)
  replace hP : va_P G.1 vwCl [(a_t, .inr (6, [.int r_1, .ref a_t_numbers, .int 0])), (a_t_numbers, .inl (G.2.1, 60, .inl t_numbers)), (a_p1, .inr (4, [.ref a_p1_codes, .int p1_length, .ref a_p1_syntax])), (a_p1_codes, .inl (G.2.1, 60, .inl p1_codes))] H := hP
  replace hD : va_D A [(a_t, .inr (6, [.int r_1, .ref a_t_numbers, .int 0])), (a_t_numbers, .inl (G.2.1, 60, .inl t_numbers)), (a_p1, .inr (4, [.ref a_p1_codes, .int p1_length, .ref a_p1_syntax])), (a_p1_codes, .inl (G.2.1, 60, .inl p1_codes))] := hD
  refine lv_iconst (v := 0) hx hb dX10_readPart_14 (by decide) ?_
  refine lv_istore_n (lv' := [(3, .int 0), (0, .ref a_t), (1, .ref a_p1), (2, .int x2)]) hx hb dX10_readPart_15 rfl hl (by decide) rfl (fun ls hl => ?_)
  refine lv_iload_n hx hb dX10_readPart_16 rfl (lv_at hl 3 rfl) ?_
  refine lv_iconst (v := 1) hx hb dX10_readPart_17 (by decide) ?_
  refine lv_iadd hx hb dX10_readPart_18 ?_
  refine lv_istore (lv' := [(4, .int (x2 + 1)), (3, .int 0), (0, .ref a_t), (1, .ref a_p1), (2, .int x2)]) hx hb dX10_readPart_19 hl (by decide) rfl (fun ls hl => ?_)
  obtain ⟨o4_6, t_count_7, t_numbers_8, hq, hf⟩ := bd3_some hf
  have K21 : ∀ (H : Heap) (locs : List Loc), va_P G.1 vwCl ([(a_t, .inr (6, [.int r_1, .ref a_t_numbers, .int t_count_7])), (a_t_numbers, .inl (G.2.1, 60, .inl t_numbers_8)), (a_p1, .inr (4, [.ref a_p1_codes, .int p1_length, .ref a_p1_syntax])), (a_p1_codes, .inl (G.2.1, 60, .inl p1_codes))] : va_W) H → va_D A ([(a_t, .inr (6, [.int r_1, .ref a_t_numbers, .int t_count_7])), (a_t_numbers, .inl (G.2.1, 60, .inl t_numbers_8)), (a_p1, .inr (4, [.ref a_p1_codes, .int p1_length, .ref a_p1_syntax])), (a_p1_codes, .inl (G.2.1, 60, .inl p1_codes))] : va_W) → va_S A s.heap H locs → ∀ ls : Array Slot, lv_has ls 7 [(4, .int o4_6)] → W p l e RM_X10_readPart s m [.ref a_t, .ref a_p1, .int x2].toArray below meth c H locs 0 0 (MQ below (wrQ (some (.int rr)) G [(a_t, .inr (6, [.int w_t_letter, .ref a_t_numbers, .int w_t_count])), (a_t_numbers, .inl (G.2.1, 60, .inl w_t_numbers)), (a_p1, .inr (4, [.ref a_p1_codes, .int p1_length, .ref a_p1_syntax])), (a_p1_codes, .inl (G.2.1, 60, .inl p1_codes))] A) [.ref a_t, .ref a_p1, .int x2].toArray s 0 0 A) (F0 m 106 ls []) := by
    intro H locs hP hD hS ls hl
    refine lv_iload hx hb dX10_readPart_106 (lv_at hl 0 rfl) ?_
    refine lv_iconst (v := 1) hx hb dX10_readPart_108 (by decide) ?_
    refine lv_iadd hx hb dX10_readPart_109 ?_
    have hf : (some ((o4_6 + 1), r_1, t_count_7, t_numbers_8) : Option (Int32 × Int32 × Int32 × (Nat → Int32))) = some (rr, w_t_letter, w_t_count, w_t_numbers) := hf
    cases hf
    exact we_i hF hr hlk hP hD hS dX10_readPart_110 rfl
  clear hf
  have L21 : ∀ (n : Nat) (i3_2 : Int32) (i4_3 : Int32) (t_count_4 : Int32) (t_numbers_5 : Nat → Int32), l_X10_readPart_21 p1_length p1_codes n i3_2 i4_3 t_count_4 t_numbers_5 = some (o4_6, t_count_7, t_numbers_8) → ∀ (H : Heap) (locs : List Loc), va_P G.1 vwCl ([(a_t, .inr (6, [.int r_1, .ref a_t_numbers, .int t_count_4])), (a_t_numbers, .inl (G.2.1, 60, .inl t_numbers_5)), (a_p1, .inr (4, [.ref a_p1_codes, .int p1_length, .ref a_p1_syntax])), (a_p1_codes, .inl (G.2.1, 60, .inl p1_codes))] : va_W) H → va_D A ([(a_t, .inr (6, [.int r_1, .ref a_t_numbers, .int t_count_4])), (a_t_numbers, .inl (G.2.1, 60, .inl t_numbers_5)), (a_p1, .inr (4, [.ref a_p1_codes, .int p1_length, .ref a_p1_syntax])), (a_p1_codes, .inl (G.2.1, 60, .inl p1_codes))] : va_W) → va_S A s.heap H locs → ∀ ls : Array Slot, lv_has ls 7 [(0, .ref a_t), (1, .ref a_p1), (3, .int i3_2), (4, .int i4_3)] → W p l e RM_X10_readPart s m [.ref a_t, .ref a_p1, .int x2].toArray below meth c H locs 0 0 (MQ below (wrQ (some (.int rr)) G [(a_t, .inr (6, [.int w_t_letter, .ref a_t_numbers, .int w_t_count])), (a_t_numbers, .inl (G.2.1, 60, .inl w_t_numbers)), (a_p1, .inr (4, [.ref a_p1_codes, .int p1_length, .ref a_p1_syntax])), (a_p1_codes, .inl (G.2.1, 60, .inl p1_codes))] A) [.ref a_t, .ref a_p1, .int x2].toArray s 0 0 A) (F0 m 21 ls []) := by
    intro n
    induction n with
    | zero =>
      intro i3_2 i4_3 t_count_4 t_numbers_5 hf
      exact nomatch (show none = some (o4_6, t_count_7, t_numbers_8) from hf)
    | succ n ih =>
      intro i3_2 i4_3 t_count_4 t_numbers_5 hf H locs hP hD hS ls hl
      rw [l_X10_readPart_21] at hf
      refine lv_iload hx hb dX10_readPart_21 (lv_at hl 3 rfl) ?_
      refine lv_aload_n hx hb dX10_readPart_23 rfl (lv_at hl 1 rfl) ?_
      refine gfN (C := RX8) (T := TX8) (N := 3) (ci := 4) (v := .int p1_length) hF hG hP inX8 2 rfl rfl 1 (by decide) n147 rfl rfl dX10_readPart_24 ?_
      refine lv_icmp_ge (tgt := 106) hx hb dX10_readPart_27 (by decide) (fun c0 => ?_) (fun c0 => ?_)
      · have hf := (if_pos c0).symm.trans hf
        have hf : (some (i4_3, t_count_4, t_numbers_5) : Option (Int32 × Int32 × (Nat → Int32))) = some (o4_6, t_count_7, t_numbers_8) := hf
        cases hf
        exact K21 _ _ hP hD hS ls (lv_sub hl [3] rfl)
      · have hf := (if_neg c0).symm.trans hf
        refine lv_aload_n hx hb dX10_readPart_30 rfl (lv_at hl 1 rfl) ?_
        refine lv_iload hx hb dX10_readPart_31 (lv_at hl 3 rfl) ?_
        obtain ⟨r_9, hq, hf⟩ := bd1_some hf
        refine rdVN (As := [.int i4_3]) (rest := []) hF hG hP hl.1 (c_X8_codeAt l G a_p1 p1_length a_p1_syntax a_p1_codes p1_codes i4_3 r_9 hq) k_X8_codeAt n794 [2, 3] rfl ⟨2, 4, _, _, rfl, rfl, rfl⟩ rfl rfl (Nat.le_of_ble_eq_true rfl) ⟨(Nat.le_of_ble_eq_true rfl), (Nat.le_of_ble_eq_true rfl)⟩ ⟨(Nat.zero_le _), (Nat.zero_le _)⟩ dX10_readPart_33 ?_
        refine lv_bipush (v := 59) hx hb dX10_readPart_36 (by decide) ?_
        refine lv_icmp_eq (tgt := 106) hx hb dX10_readPart_38 (by decide) (fun c0 => ?_) (fun c0 => ?_)
        · have hf := (if_pos c0).symm.trans hf
          have hf : (some (i4_3, t_count_4, t_numbers_5) : Option (Int32 × Int32 × (Nat → Int32))) = some (o4_6, t_count_7, t_numbers_8) := hf
          cases hf
          exact K21 _ _ hP hD hS ls (lv_sub hl [3] rfl)
        · have hf := (if_neg c0).symm.trans hf
          refine lv_aload_n hx hb dX10_readPart_41 rfl (lv_at hl 1 rfl) ?_
          refine lv_iload hx hb dX10_readPart_42 (lv_at hl 3 rfl) ?_
          obtain ⟨r_10, hq, hf⟩ := bd1_some hf
          refine rdVN (As := [.int i4_3]) (rest := []) hF hG hP hl.1 (c_X8_codeAt l G a_p1 p1_length a_p1_syntax a_p1_codes p1_codes i4_3 r_10 hq) k_X8_codeAt n794 [2, 3] rfl ⟨2, 4, _, _, rfl, rfl, rfl⟩ rfl rfl (Nat.le_of_ble_eq_true rfl) ⟨(Nat.le_of_ble_eq_true rfl), (Nat.le_of_ble_eq_true rfl)⟩ ⟨(Nat.zero_le _), (Nat.zero_le _)⟩ dX10_readPart_44 ?_
          refine lv_istore (lv' := [(5, .int r_10), (0, .ref a_t), (1, .ref a_p1), (3, .int i3_2), (4, .int i4_3)]) hx hb dX10_readPart_47 hl (by decide) rfl (fun ls hl => ?_)
          refine lv_iload hx hb dX10_readPart_49 (lv_at hl 0 rfl) ?_
          refine lv_bipush (v := 48) hx hb dX10_readPart_51 (by decide) ?_
          refine lv_icmp_lt (tgt := 67) hx hb dX10_readPart_53 (by decide) (fun c0 => ?_) (fun c0 => ?_)
          · have hf := (if_pos c0).symm.trans hf
            refine lv_iconst (v := 0) hx hb dX10_readPart_67 (by decide) ?_
            refine lv_istore (lv' := [(6, .int 0), (5, .int r_10), (0, .ref a_t), (1, .ref a_p1), (3, .int i3_2), (4, .int i4_3)]) hx hb dX10_readPart_68 hl (by decide) rfl (fun ls hl => ?_)
            refine lv_iload hx hb dX10_readPart_70 (lv_at hl 0 rfl) ?_
            refine lv_if_eq (tgt := 83) hx hb dX10_readPart_72 (by decide) (fun c0 => ?_) (fun c0 => ?_)
            · have hf := (if_pos c0).symm.trans hf
              refine lv_iload hx hb dX10_readPart_83 (lv_at hl 0 rfl) ?_
              refine lv_if_eq (tgt := 97) hx hb dX10_readPart_85 (by decide) (fun c0 => ?_) (fun c0 => ?_)
              · have hf := (if_pos c0).symm.trans hf
                refine lv_iload hx hb dX10_readPart_97 (lv_at hl 0 rfl) ?_
                refine lv_istore_n (lv' := [(3, .int 0), (6, .int 0), (5, .int r_10), (0, .ref a_t), (1, .ref a_p1), (4, .int i4_3)]) hx hb dX10_readPart_99 rfl hl (by decide) rfl (fun ls hl => ?_)
                refine lv_iinc (v := (i4_3 + 1)) (lv' := [(4, .int (i4_3 + 1)), (3, .int 0), (6, .int 0), (5, .int r_10), (0, .ref a_t), (1, .ref a_p1)]) hx hb dX10_readPart_100 hl (k := 5) rfl rfl (by decide) rfl (fun ls hl => ?_)
                refine lv_goto (tgt := 21) hx hb dX10_readPart_103 (by decide) ?_
                exact ih 0 (i4_3 + 1) t_count_4 t_numbers_5 hf _ _ hP hD hS ls (lv_sub hl [4, 5, 1, 0] rfl)
              · have hf := (if_neg c0).symm.trans hf
                refine lv_aload_n hx hb dX10_readPart_88 rfl (lv_at hl 2 rfl) ?_
                refine lv_iload hx hb dX10_readPart_89 (lv_at hl 1 rfl) ?_
                refine lv_bipush (v := 48) hx hb dX10_readPart_91 (by decide) ?_
                refine lv_isub hx hb dX10_readPart_93 ?_
                obtain ⟨t_numbers_11, hq, hf⟩ := bd1_some hf
                refine wrV (As := [.int (r_10 - 48)]) (rest := []) (wn := [(a_t, .inr (6, [.int r_1, .ref a_t_numbers, .int t_count_4])), (a_t_numbers, .inl (G.2.1, 60, .inl t_numbers_11)), (a_p1, .inr (4, [.ref a_p1_codes, .int p1_length, .ref a_p1_syntax])), (a_p1_codes, .inl (G.2.1, 60, .inl p1_codes))]) hF hG hP hD hS hA hl.1 (c_X10_growNumber l G a_t r_1 t_count_4 a_t_numbers t_numbers_5 (r_10 - 48) t_numbers_11 hq) k_X10_growNumber q799 [0, 1] [2, 3] [2, 3, 0, 1] rfl rfl rfl rfl ⟨rfl, rfl⟩ (by decide) ⟨0, 6, _, _, rfl, rfl, rfl⟩ rfl rfl (Nat.le_of_ble_eq_true rfl) ⟨(Nat.le_of_ble_eq_true rfl), (Nat.le_of_ble_eq_true rfl)⟩ ⟨(Nat.le_of_ble_eq_true rfl), (Nat.le_of_ble_eq_true rfl)⟩ dX10_readPart_94 (fun H locs hP hD hS => ?_)
                refine lv_iload hx hb dX10_readPart_97 (lv_at hl 0 rfl) ?_
                refine lv_istore_n (lv' := [(3, .int 0), (6, .int 0), (5, .int r_10), (0, .ref a_t), (1, .ref a_p1), (4, .int i4_3)]) hx hb dX10_readPart_99 rfl hl (by decide) rfl (fun ls hl => ?_)
                refine lv_iinc (v := (i4_3 + 1)) (lv' := [(4, .int (i4_3 + 1)), (3, .int 0), (6, .int 0), (5, .int r_10), (0, .ref a_t), (1, .ref a_p1)]) hx hb dX10_readPart_100 hl (k := 5) rfl rfl (by decide) rfl (fun ls hl => ?_)
                refine lv_goto (tgt := 21) hx hb dX10_readPart_103 (by decide) ?_
                exact ih 0 (i4_3 + 1) t_count_4 t_numbers_11 hf _ _ hP hD hS ls (lv_sub hl [4, 5, 1, 0] rfl)
            · have hf := (if_neg c0).symm.trans hf
              refine lv_iload_n hx hb dX10_readPart_75 rfl (lv_at hl 4 rfl) ?_
              refine lv_if_ne (tgt := 83) hx hb dX10_readPart_76 (by decide) (fun c0 => ?_) (fun c0 => ?_)
              · have hf := (if_neg c0).symm.trans hf
                refine lv_iload hx hb dX10_readPart_83 (lv_at hl 0 rfl) ?_
                refine lv_if_eq (tgt := 97) hx hb dX10_readPart_85 (by decide) (fun c0 => ?_) (fun c0 => ?_)
                · have hf := (if_pos c0).symm.trans hf
                  refine lv_iload hx hb dX10_readPart_97 (lv_at hl 0 rfl) ?_
                  refine lv_istore_n (lv' := [(3, .int 0), (6, .int 0), (5, .int r_10), (0, .ref a_t), (1, .ref a_p1), (4, .int i4_3)]) hx hb dX10_readPart_99 rfl hl (by decide) rfl (fun ls hl => ?_)
                  refine lv_iinc (v := (i4_3 + 1)) (lv' := [(4, .int (i4_3 + 1)), (3, .int 0), (6, .int 0), (5, .int r_10), (0, .ref a_t), (1, .ref a_p1)]) hx hb dX10_readPart_100 hl (k := 5) rfl rfl (by decide) rfl (fun ls hl => ?_)
                  refine lv_goto (tgt := 21) hx hb dX10_readPart_103 (by decide) ?_
                  exact ih 0 (i4_3 + 1) t_count_4 t_numbers_5 hf _ _ hP hD hS ls (lv_sub hl [4, 5, 1, 0] rfl)
                · have hf := (if_neg c0).symm.trans hf
                  refine lv_aload_n hx hb dX10_readPart_88 rfl (lv_at hl 2 rfl) ?_
                  refine lv_iload hx hb dX10_readPart_89 (lv_at hl 1 rfl) ?_
                  refine lv_bipush (v := 48) hx hb dX10_readPart_91 (by decide) ?_
                  refine lv_isub hx hb dX10_readPart_93 ?_
                  obtain ⟨t_numbers_12, hq, hf⟩ := bd1_some hf
                  refine wrV (As := [.int (r_10 - 48)]) (rest := []) (wn := [(a_t, .inr (6, [.int r_1, .ref a_t_numbers, .int t_count_4])), (a_t_numbers, .inl (G.2.1, 60, .inl t_numbers_12)), (a_p1, .inr (4, [.ref a_p1_codes, .int p1_length, .ref a_p1_syntax])), (a_p1_codes, .inl (G.2.1, 60, .inl p1_codes))]) hF hG hP hD hS hA hl.1 (c_X10_growNumber l G a_t r_1 t_count_4 a_t_numbers t_numbers_5 (r_10 - 48) t_numbers_12 hq) k_X10_growNumber q799 [0, 1] [2, 3] [2, 3, 0, 1] rfl rfl rfl rfl ⟨rfl, rfl⟩ (by decide) ⟨0, 6, _, _, rfl, rfl, rfl⟩ rfl rfl (Nat.le_of_ble_eq_true rfl) ⟨(Nat.le_of_ble_eq_true rfl), (Nat.le_of_ble_eq_true rfl)⟩ ⟨(Nat.le_of_ble_eq_true rfl), (Nat.le_of_ble_eq_true rfl)⟩ dX10_readPart_94 (fun H locs hP hD hS => ?_)
                  refine lv_iload hx hb dX10_readPart_97 (lv_at hl 0 rfl) ?_
                  refine lv_istore_n (lv' := [(3, .int 0), (6, .int 0), (5, .int r_10), (0, .ref a_t), (1, .ref a_p1), (4, .int i4_3)]) hx hb dX10_readPart_99 rfl hl (by decide) rfl (fun ls hl => ?_)
                  refine lv_iinc (v := (i4_3 + 1)) (lv' := [(4, .int (i4_3 + 1)), (3, .int 0), (6, .int 0), (5, .int r_10), (0, .ref a_t), (1, .ref a_p1)]) hx hb dX10_readPart_100 hl (k := 5) rfl rfl (by decide) rfl (fun ls hl => ?_)
                  refine lv_goto (tgt := 21) hx hb dX10_readPart_103 (by decide) ?_
                  exact ih 0 (i4_3 + 1) t_count_4 t_numbers_12 hf _ _ hP hD hS ls (lv_sub hl [4, 5, 1, 0] rfl)
              · have hf := (if_pos c0).symm.trans hf
                refine lv_aload_n hx hb dX10_readPart_79 rfl (lv_at hl 2 rfl) ?_
                obtain ⟨t_count_13, t_numbers_14, hq, hf⟩ := bd2_some hf
                refine wrV (As := []) (rest := []) (wn := [(a_t, .inr (6, [.int r_1, .ref a_t_numbers, .int t_count_13])), (a_t_numbers, .inl (G.2.1, 60, .inl t_numbers_14)), (a_p1, .inr (4, [.ref a_p1_codes, .int p1_length, .ref a_p1_syntax])), (a_p1_codes, .inl (G.2.1, 60, .inl p1_codes))]) hF hG hP hD hS hA hl.1 (c_X10_startNumber l G a_t r_1 t_count_4 a_t_numbers t_numbers_5 t_count_13 t_numbers_14 hq) k_X10_startNumber q795 [0, 1] [2, 3] [2, 3, 0, 1] rfl rfl rfl rfl ⟨rfl, rfl⟩ (by decide) ⟨0, 6, _, _, rfl, rfl, rfl⟩ rfl rfl (Nat.le_of_ble_eq_true rfl) ⟨(Nat.le_of_ble_eq_true rfl), (Nat.le_of_ble_eq_true rfl)⟩ ⟨(Nat.le_of_ble_eq_true rfl), (Nat.le_of_ble_eq_true rfl)⟩ dX10_readPart_80 (fun H locs hP hD hS => ?_)
                refine lv_iload hx hb dX10_readPart_83 (lv_at hl 0 rfl) ?_
                refine lv_if_eq (tgt := 97) hx hb dX10_readPart_85 (by decide) (fun c0 => ?_) (fun c0 => ?_)
                · have hf := (if_pos c0).symm.trans hf
                  refine lv_iload hx hb dX10_readPart_97 (lv_at hl 0 rfl) ?_
                  refine lv_istore_n (lv' := [(3, .int 0), (6, .int 0), (5, .int r_10), (0, .ref a_t), (1, .ref a_p1), (4, .int i4_3)]) hx hb dX10_readPart_99 rfl hl (by decide) rfl (fun ls hl => ?_)
                  refine lv_iinc (v := (i4_3 + 1)) (lv' := [(4, .int (i4_3 + 1)), (3, .int 0), (6, .int 0), (5, .int r_10), (0, .ref a_t), (1, .ref a_p1)]) hx hb dX10_readPart_100 hl (k := 5) rfl rfl (by decide) rfl (fun ls hl => ?_)
                  refine lv_goto (tgt := 21) hx hb dX10_readPart_103 (by decide) ?_
                  exact ih 0 (i4_3 + 1) t_count_13 t_numbers_14 hf _ _ hP hD hS ls (lv_sub hl [4, 5, 1, 0] rfl)
                · have hf := (if_neg c0).symm.trans hf
                  refine lv_aload_n hx hb dX10_readPart_88 rfl (lv_at hl 2 rfl) ?_
                  refine lv_iload hx hb dX10_readPart_89 (lv_at hl 1 rfl) ?_
                  refine lv_bipush (v := 48) hx hb dX10_readPart_91 (by decide) ?_
                  refine lv_isub hx hb dX10_readPart_93 ?_
                  obtain ⟨t_numbers_15, hq, hf⟩ := bd1_some hf
                  refine wrV (As := [.int (r_10 - 48)]) (rest := []) (wn := [(a_t, .inr (6, [.int r_1, .ref a_t_numbers, .int t_count_13])), (a_t_numbers, .inl (G.2.1, 60, .inl t_numbers_15)), (a_p1, .inr (4, [.ref a_p1_codes, .int p1_length, .ref a_p1_syntax])), (a_p1_codes, .inl (G.2.1, 60, .inl p1_codes))]) hF hG hP hD hS hA hl.1 (c_X10_growNumber l G a_t r_1 t_count_13 a_t_numbers t_numbers_14 (r_10 - 48) t_numbers_15 hq) k_X10_growNumber q799 [0, 1] [2, 3] [2, 3, 0, 1] rfl rfl rfl rfl ⟨rfl, rfl⟩ (by decide) ⟨0, 6, _, _, rfl, rfl, rfl⟩ rfl rfl (Nat.le_of_ble_eq_true rfl) ⟨(Nat.le_of_ble_eq_true rfl), (Nat.le_of_ble_eq_true rfl)⟩ ⟨(Nat.le_of_ble_eq_true rfl), (Nat.le_of_ble_eq_true rfl)⟩ dX10_readPart_94 (fun H locs hP hD hS => ?_)
                  refine lv_iload hx hb dX10_readPart_97 (lv_at hl 0 rfl) ?_
                  refine lv_istore_n (lv' := [(3, .int 0), (6, .int 0), (5, .int r_10), (0, .ref a_t), (1, .ref a_p1), (4, .int i4_3)]) hx hb dX10_readPart_99 rfl hl (by decide) rfl (fun ls hl => ?_)
                  refine lv_iinc (v := (i4_3 + 1)) (lv' := [(4, .int (i4_3 + 1)), (3, .int 0), (6, .int 0), (5, .int r_10), (0, .ref a_t), (1, .ref a_p1)]) hx hb dX10_readPart_100 hl (k := 5) rfl rfl (by decide) rfl (fun ls hl => ?_)
                  refine lv_goto (tgt := 21) hx hb dX10_readPart_103 (by decide) ?_
                  exact ih 0 (i4_3 + 1) t_count_13 t_numbers_15 hf _ _ hP hD hS ls (lv_sub hl [4, 5, 1, 0] rfl)
          · have hf := (if_neg c0).symm.trans hf
            refine lv_iload hx hb dX10_readPart_56 (lv_at hl 0 rfl) ?_
            refine lv_bipush (v := 57) hx hb dX10_readPart_58 (by decide) ?_
            refine lv_icmp_gt (tgt := 67) hx hb dX10_readPart_60 (by decide) (fun c0 => ?_) (fun c0 => ?_)
            · have hf := (if_pos c0).symm.trans hf
              refine lv_iconst (v := 0) hx hb dX10_readPart_67 (by decide) ?_
              refine lv_istore (lv' := [(6, .int 0), (5, .int r_10), (0, .ref a_t), (1, .ref a_p1), (3, .int i3_2), (4, .int i4_3)]) hx hb dX10_readPart_68 hl (by decide) rfl (fun ls hl => ?_)
              refine lv_iload hx hb dX10_readPart_70 (lv_at hl 0 rfl) ?_
              refine lv_if_eq (tgt := 83) hx hb dX10_readPart_72 (by decide) (fun c0 => ?_) (fun c0 => ?_)
              · have hf := (if_pos c0).symm.trans hf
                refine lv_iload hx hb dX10_readPart_83 (lv_at hl 0 rfl) ?_
                refine lv_if_eq (tgt := 97) hx hb dX10_readPart_85 (by decide) (fun c0 => ?_) (fun c0 => ?_)
                · have hf := (if_pos c0).symm.trans hf
                  refine lv_iload hx hb dX10_readPart_97 (lv_at hl 0 rfl) ?_
                  refine lv_istore_n (lv' := [(3, .int 0), (6, .int 0), (5, .int r_10), (0, .ref a_t), (1, .ref a_p1), (4, .int i4_3)]) hx hb dX10_readPart_99 rfl hl (by decide) rfl (fun ls hl => ?_)
                  refine lv_iinc (v := (i4_3 + 1)) (lv' := [(4, .int (i4_3 + 1)), (3, .int 0), (6, .int 0), (5, .int r_10), (0, .ref a_t), (1, .ref a_p1)]) hx hb dX10_readPart_100 hl (k := 5) rfl rfl (by decide) rfl (fun ls hl => ?_)
                  refine lv_goto (tgt := 21) hx hb dX10_readPart_103 (by decide) ?_
                  exact ih 0 (i4_3 + 1) t_count_4 t_numbers_5 hf _ _ hP hD hS ls (lv_sub hl [4, 5, 1, 0] rfl)
                · have hf := (if_neg c0).symm.trans hf
                  refine lv_aload_n hx hb dX10_readPart_88 rfl (lv_at hl 2 rfl) ?_
                  refine lv_iload hx hb dX10_readPart_89 (lv_at hl 1 rfl) ?_
                  refine lv_bipush (v := 48) hx hb dX10_readPart_91 (by decide) ?_
                  refine lv_isub hx hb dX10_readPart_93 ?_
                  obtain ⟨t_numbers_16, hq, hf⟩ := bd1_some hf
                  refine wrV (As := [.int (r_10 - 48)]) (rest := []) (wn := [(a_t, .inr (6, [.int r_1, .ref a_t_numbers, .int t_count_4])), (a_t_numbers, .inl (G.2.1, 60, .inl t_numbers_16)), (a_p1, .inr (4, [.ref a_p1_codes, .int p1_length, .ref a_p1_syntax])), (a_p1_codes, .inl (G.2.1, 60, .inl p1_codes))]) hF hG hP hD hS hA hl.1 (c_X10_growNumber l G a_t r_1 t_count_4 a_t_numbers t_numbers_5 (r_10 - 48) t_numbers_16 hq) k_X10_growNumber q799 [0, 1] [2, 3] [2, 3, 0, 1] rfl rfl rfl rfl ⟨rfl, rfl⟩ (by decide) ⟨0, 6, _, _, rfl, rfl, rfl⟩ rfl rfl (Nat.le_of_ble_eq_true rfl) ⟨(Nat.le_of_ble_eq_true rfl), (Nat.le_of_ble_eq_true rfl)⟩ ⟨(Nat.le_of_ble_eq_true rfl), (Nat.le_of_ble_eq_true rfl)⟩ dX10_readPart_94 (fun H locs hP hD hS => ?_)
                  refine lv_iload hx hb dX10_readPart_97 (lv_at hl 0 rfl) ?_
                  refine lv_istore_n (lv' := [(3, .int 0), (6, .int 0), (5, .int r_10), (0, .ref a_t), (1, .ref a_p1), (4, .int i4_3)]) hx hb dX10_readPart_99 rfl hl (by decide) rfl (fun ls hl => ?_)
                  refine lv_iinc (v := (i4_3 + 1)) (lv' := [(4, .int (i4_3 + 1)), (3, .int 0), (6, .int 0), (5, .int r_10), (0, .ref a_t), (1, .ref a_p1)]) hx hb dX10_readPart_100 hl (k := 5) rfl rfl (by decide) rfl (fun ls hl => ?_)
                  refine lv_goto (tgt := 21) hx hb dX10_readPart_103 (by decide) ?_
                  exact ih 0 (i4_3 + 1) t_count_4 t_numbers_16 hf _ _ hP hD hS ls (lv_sub hl [4, 5, 1, 0] rfl)
              · have hf := (if_neg c0).symm.trans hf
                refine lv_iload_n hx hb dX10_readPart_75 rfl (lv_at hl 4 rfl) ?_
                refine lv_if_ne (tgt := 83) hx hb dX10_readPart_76 (by decide) (fun c0 => ?_) (fun c0 => ?_)
                · have hf := (if_neg c0).symm.trans hf
                  refine lv_iload hx hb dX10_readPart_83 (lv_at hl 0 rfl) ?_
                  refine lv_if_eq (tgt := 97) hx hb dX10_readPart_85 (by decide) (fun c0 => ?_) (fun c0 => ?_)
                  · have hf := (if_pos c0).symm.trans hf
                    refine lv_iload hx hb dX10_readPart_97 (lv_at hl 0 rfl) ?_
                    refine lv_istore_n (lv' := [(3, .int 0), (6, .int 0), (5, .int r_10), (0, .ref a_t), (1, .ref a_p1), (4, .int i4_3)]) hx hb dX10_readPart_99 rfl hl (by decide) rfl (fun ls hl => ?_)
                    refine lv_iinc (v := (i4_3 + 1)) (lv' := [(4, .int (i4_3 + 1)), (3, .int 0), (6, .int 0), (5, .int r_10), (0, .ref a_t), (1, .ref a_p1)]) hx hb dX10_readPart_100 hl (k := 5) rfl rfl (by decide) rfl (fun ls hl => ?_)
                    refine lv_goto (tgt := 21) hx hb dX10_readPart_103 (by decide) ?_
                    exact ih 0 (i4_3 + 1) t_count_4 t_numbers_5 hf _ _ hP hD hS ls (lv_sub hl [4, 5, 1, 0] rfl)
                  · have hf := (if_neg c0).symm.trans hf
                    refine lv_aload_n hx hb dX10_readPart_88 rfl (lv_at hl 2 rfl) ?_
                    refine lv_iload hx hb dX10_readPart_89 (lv_at hl 1 rfl) ?_
                    refine lv_bipush (v := 48) hx hb dX10_readPart_91 (by decide) ?_
                    refine lv_isub hx hb dX10_readPart_93 ?_
                    obtain ⟨t_numbers_17, hq, hf⟩ := bd1_some hf
                    refine wrV (As := [.int (r_10 - 48)]) (rest := []) (wn := [(a_t, .inr (6, [.int r_1, .ref a_t_numbers, .int t_count_4])), (a_t_numbers, .inl (G.2.1, 60, .inl t_numbers_17)), (a_p1, .inr (4, [.ref a_p1_codes, .int p1_length, .ref a_p1_syntax])), (a_p1_codes, .inl (G.2.1, 60, .inl p1_codes))]) hF hG hP hD hS hA hl.1 (c_X10_growNumber l G a_t r_1 t_count_4 a_t_numbers t_numbers_5 (r_10 - 48) t_numbers_17 hq) k_X10_growNumber q799 [0, 1] [2, 3] [2, 3, 0, 1] rfl rfl rfl rfl ⟨rfl, rfl⟩ (by decide) ⟨0, 6, _, _, rfl, rfl, rfl⟩ rfl rfl (Nat.le_of_ble_eq_true rfl) ⟨(Nat.le_of_ble_eq_true rfl), (Nat.le_of_ble_eq_true rfl)⟩ ⟨(Nat.le_of_ble_eq_true rfl), (Nat.le_of_ble_eq_true rfl)⟩ dX10_readPart_94 (fun H locs hP hD hS => ?_)
                    refine lv_iload hx hb dX10_readPart_97 (lv_at hl 0 rfl) ?_
                    refine lv_istore_n (lv' := [(3, .int 0), (6, .int 0), (5, .int r_10), (0, .ref a_t), (1, .ref a_p1), (4, .int i4_3)]) hx hb dX10_readPart_99 rfl hl (by decide) rfl (fun ls hl => ?_)
                    refine lv_iinc (v := (i4_3 + 1)) (lv' := [(4, .int (i4_3 + 1)), (3, .int 0), (6, .int 0), (5, .int r_10), (0, .ref a_t), (1, .ref a_p1)]) hx hb dX10_readPart_100 hl (k := 5) rfl rfl (by decide) rfl (fun ls hl => ?_)
                    refine lv_goto (tgt := 21) hx hb dX10_readPart_103 (by decide) ?_
                    exact ih 0 (i4_3 + 1) t_count_4 t_numbers_17 hf _ _ hP hD hS ls (lv_sub hl [4, 5, 1, 0] rfl)
                · have hf := (if_pos c0).symm.trans hf
                  refine lv_aload_n hx hb dX10_readPart_79 rfl (lv_at hl 2 rfl) ?_
                  obtain ⟨t_count_18, t_numbers_19, hq, hf⟩ := bd2_some hf
                  refine wrV (As := []) (rest := []) (wn := [(a_t, .inr (6, [.int r_1, .ref a_t_numbers, .int t_count_18])), (a_t_numbers, .inl (G.2.1, 60, .inl t_numbers_19)), (a_p1, .inr (4, [.ref a_p1_codes, .int p1_length, .ref a_p1_syntax])), (a_p1_codes, .inl (G.2.1, 60, .inl p1_codes))]) hF hG hP hD hS hA hl.1 (c_X10_startNumber l G a_t r_1 t_count_4 a_t_numbers t_numbers_5 t_count_18 t_numbers_19 hq) k_X10_startNumber q795 [0, 1] [2, 3] [2, 3, 0, 1] rfl rfl rfl rfl ⟨rfl, rfl⟩ (by decide) ⟨0, 6, _, _, rfl, rfl, rfl⟩ rfl rfl (Nat.le_of_ble_eq_true rfl) ⟨(Nat.le_of_ble_eq_true rfl), (Nat.le_of_ble_eq_true rfl)⟩ ⟨(Nat.le_of_ble_eq_true rfl), (Nat.le_of_ble_eq_true rfl)⟩ dX10_readPart_80 (fun H locs hP hD hS => ?_)
                  refine lv_iload hx hb dX10_readPart_83 (lv_at hl 0 rfl) ?_
                  refine lv_if_eq (tgt := 97) hx hb dX10_readPart_85 (by decide) (fun c0 => ?_) (fun c0 => ?_)
                  · have hf := (if_pos c0).symm.trans hf
                    refine lv_iload hx hb dX10_readPart_97 (lv_at hl 0 rfl) ?_
                    refine lv_istore_n (lv' := [(3, .int 0), (6, .int 0), (5, .int r_10), (0, .ref a_t), (1, .ref a_p1), (4, .int i4_3)]) hx hb dX10_readPart_99 rfl hl (by decide) rfl (fun ls hl => ?_)
                    refine lv_iinc (v := (i4_3 + 1)) (lv' := [(4, .int (i4_3 + 1)), (3, .int 0), (6, .int 0), (5, .int r_10), (0, .ref a_t), (1, .ref a_p1)]) hx hb dX10_readPart_100 hl (k := 5) rfl rfl (by decide) rfl (fun ls hl => ?_)
                    refine lv_goto (tgt := 21) hx hb dX10_readPart_103 (by decide) ?_
                    exact ih 0 (i4_3 + 1) t_count_18 t_numbers_19 hf _ _ hP hD hS ls (lv_sub hl [4, 5, 1, 0] rfl)
                  · have hf := (if_neg c0).symm.trans hf
                    refine lv_aload_n hx hb dX10_readPart_88 rfl (lv_at hl 2 rfl) ?_
                    refine lv_iload hx hb dX10_readPart_89 (lv_at hl 1 rfl) ?_
                    refine lv_bipush (v := 48) hx hb dX10_readPart_91 (by decide) ?_
                    refine lv_isub hx hb dX10_readPart_93 ?_
                    obtain ⟨t_numbers_20, hq, hf⟩ := bd1_some hf
                    refine wrV (As := [.int (r_10 - 48)]) (rest := []) (wn := [(a_t, .inr (6, [.int r_1, .ref a_t_numbers, .int t_count_18])), (a_t_numbers, .inl (G.2.1, 60, .inl t_numbers_20)), (a_p1, .inr (4, [.ref a_p1_codes, .int p1_length, .ref a_p1_syntax])), (a_p1_codes, .inl (G.2.1, 60, .inl p1_codes))]) hF hG hP hD hS hA hl.1 (c_X10_growNumber l G a_t r_1 t_count_18 a_t_numbers t_numbers_19 (r_10 - 48) t_numbers_20 hq) k_X10_growNumber q799 [0, 1] [2, 3] [2, 3, 0, 1] rfl rfl rfl rfl ⟨rfl, rfl⟩ (by decide) ⟨0, 6, _, _, rfl, rfl, rfl⟩ rfl rfl (Nat.le_of_ble_eq_true rfl) ⟨(Nat.le_of_ble_eq_true rfl), (Nat.le_of_ble_eq_true rfl)⟩ ⟨(Nat.le_of_ble_eq_true rfl), (Nat.le_of_ble_eq_true rfl)⟩ dX10_readPart_94 (fun H locs hP hD hS => ?_)
                    refine lv_iload hx hb dX10_readPart_97 (lv_at hl 0 rfl) ?_
                    refine lv_istore_n (lv' := [(3, .int 0), (6, .int 0), (5, .int r_10), (0, .ref a_t), (1, .ref a_p1), (4, .int i4_3)]) hx hb dX10_readPart_99 rfl hl (by decide) rfl (fun ls hl => ?_)
                    refine lv_iinc (v := (i4_3 + 1)) (lv' := [(4, .int (i4_3 + 1)), (3, .int 0), (6, .int 0), (5, .int r_10), (0, .ref a_t), (1, .ref a_p1)]) hx hb dX10_readPart_100 hl (k := 5) rfl rfl (by decide) rfl (fun ls hl => ?_)
                    refine lv_goto (tgt := 21) hx hb dX10_readPart_103 (by decide) ?_
                    exact ih 0 (i4_3 + 1) t_count_18 t_numbers_20 hf _ _ hP hD hS ls (lv_sub hl [4, 5, 1, 0] rfl)
            · have hf := (if_neg c0).symm.trans hf
              refine lv_iconst (v := 1) hx hb dX10_readPart_63 (by decide) ?_
              refine lv_goto (tgt := 68) hx hb dX10_readPart_64 (by decide) ?_
              refine lv_istore (lv' := [(6, .int 1), (5, .int r_10), (0, .ref a_t), (1, .ref a_p1), (3, .int i3_2), (4, .int i4_3)]) hx hb dX10_readPart_68 hl (by decide) rfl (fun ls hl => ?_)
              refine lv_iload hx hb dX10_readPart_70 (lv_at hl 0 rfl) ?_
              refine lv_if_eq (tgt := 83) hx hb dX10_readPart_72 (by decide) (fun c0 => ?_) (fun c0 => ?_)
              · have hf := (if_pos c0).symm.trans hf
                refine lv_iload hx hb dX10_readPart_83 (lv_at hl 0 rfl) ?_
                refine lv_if_eq (tgt := 97) hx hb dX10_readPart_85 (by decide) (fun c0 => ?_) (fun c0 => ?_)
                · have hf := (if_pos c0).symm.trans hf
                  refine lv_iload hx hb dX10_readPart_97 (lv_at hl 0 rfl) ?_
                  refine lv_istore_n (lv' := [(3, .int 1), (6, .int 1), (5, .int r_10), (0, .ref a_t), (1, .ref a_p1), (4, .int i4_3)]) hx hb dX10_readPart_99 rfl hl (by decide) rfl (fun ls hl => ?_)
                  refine lv_iinc (v := (i4_3 + 1)) (lv' := [(4, .int (i4_3 + 1)), (3, .int 1), (6, .int 1), (5, .int r_10), (0, .ref a_t), (1, .ref a_p1)]) hx hb dX10_readPart_100 hl (k := 5) rfl rfl (by decide) rfl (fun ls hl => ?_)
                  refine lv_goto (tgt := 21) hx hb dX10_readPart_103 (by decide) ?_
                  exact ih 1 (i4_3 + 1) t_count_4 t_numbers_5 hf _ _ hP hD hS ls (lv_sub hl [4, 5, 1, 0] rfl)
                · have hf := (if_neg c0).symm.trans hf
                  refine lv_aload_n hx hb dX10_readPart_88 rfl (lv_at hl 2 rfl) ?_
                  refine lv_iload hx hb dX10_readPart_89 (lv_at hl 1 rfl) ?_
                  refine lv_bipush (v := 48) hx hb dX10_readPart_91 (by decide) ?_
                  refine lv_isub hx hb dX10_readPart_93 ?_
                  obtain ⟨t_numbers_21, hq, hf⟩ := bd1_some hf
                  refine wrV (As := [.int (r_10 - 48)]) (rest := []) (wn := [(a_t, .inr (6, [.int r_1, .ref a_t_numbers, .int t_count_4])), (a_t_numbers, .inl (G.2.1, 60, .inl t_numbers_21)), (a_p1, .inr (4, [.ref a_p1_codes, .int p1_length, .ref a_p1_syntax])), (a_p1_codes, .inl (G.2.1, 60, .inl p1_codes))]) hF hG hP hD hS hA hl.1 (c_X10_growNumber l G a_t r_1 t_count_4 a_t_numbers t_numbers_5 (r_10 - 48) t_numbers_21 hq) k_X10_growNumber q799 [0, 1] [2, 3] [2, 3, 0, 1] rfl rfl rfl rfl ⟨rfl, rfl⟩ (by decide) ⟨0, 6, _, _, rfl, rfl, rfl⟩ rfl rfl (Nat.le_of_ble_eq_true rfl) ⟨(Nat.le_of_ble_eq_true rfl), (Nat.le_of_ble_eq_true rfl)⟩ ⟨(Nat.le_of_ble_eq_true rfl), (Nat.le_of_ble_eq_true rfl)⟩ dX10_readPart_94 (fun H locs hP hD hS => ?_)
                  refine lv_iload hx hb dX10_readPart_97 (lv_at hl 0 rfl) ?_
                  refine lv_istore_n (lv' := [(3, .int 1), (6, .int 1), (5, .int r_10), (0, .ref a_t), (1, .ref a_p1), (4, .int i4_3)]) hx hb dX10_readPart_99 rfl hl (by decide) rfl (fun ls hl => ?_)
                  refine lv_iinc (v := (i4_3 + 1)) (lv' := [(4, .int (i4_3 + 1)), (3, .int 1), (6, .int 1), (5, .int r_10), (0, .ref a_t), (1, .ref a_p1)]) hx hb dX10_readPart_100 hl (k := 5) rfl rfl (by decide) rfl (fun ls hl => ?_)
                  refine lv_goto (tgt := 21) hx hb dX10_readPart_103 (by decide) ?_
                  exact ih 1 (i4_3 + 1) t_count_4 t_numbers_21 hf _ _ hP hD hS ls (lv_sub hl [4, 5, 1, 0] rfl)
              · have hf := (if_neg c0).symm.trans hf
                refine lv_iload_n hx hb dX10_readPart_75 rfl (lv_at hl 4 rfl) ?_
                refine lv_if_ne (tgt := 83) hx hb dX10_readPart_76 (by decide) (fun c0 => ?_) (fun c0 => ?_)
                · have hf := (if_neg c0).symm.trans hf
                  refine lv_iload hx hb dX10_readPart_83 (lv_at hl 0 rfl) ?_
                  refine lv_if_eq (tgt := 97) hx hb dX10_readPart_85 (by decide) (fun c0 => ?_) (fun c0 => ?_)
                  · have hf := (if_pos c0).symm.trans hf
                    refine lv_iload hx hb dX10_readPart_97 (lv_at hl 0 rfl) ?_
                    refine lv_istore_n (lv' := [(3, .int 1), (6, .int 1), (5, .int r_10), (0, .ref a_t), (1, .ref a_p1), (4, .int i4_3)]) hx hb dX10_readPart_99 rfl hl (by decide) rfl (fun ls hl => ?_)
                    refine lv_iinc (v := (i4_3 + 1)) (lv' := [(4, .int (i4_3 + 1)), (3, .int 1), (6, .int 1), (5, .int r_10), (0, .ref a_t), (1, .ref a_p1)]) hx hb dX10_readPart_100 hl (k := 5) rfl rfl (by decide) rfl (fun ls hl => ?_)
                    refine lv_goto (tgt := 21) hx hb dX10_readPart_103 (by decide) ?_
                    exact ih 1 (i4_3 + 1) t_count_4 t_numbers_5 hf _ _ hP hD hS ls (lv_sub hl [4, 5, 1, 0] rfl)
                  · have hf := (if_neg c0).symm.trans hf
                    refine lv_aload_n hx hb dX10_readPart_88 rfl (lv_at hl 2 rfl) ?_
                    refine lv_iload hx hb dX10_readPart_89 (lv_at hl 1 rfl) ?_
                    refine lv_bipush (v := 48) hx hb dX10_readPart_91 (by decide) ?_
                    refine lv_isub hx hb dX10_readPart_93 ?_
                    obtain ⟨t_numbers_22, hq, hf⟩ := bd1_some hf
                    refine wrV (As := [.int (r_10 - 48)]) (rest := []) (wn := [(a_t, .inr (6, [.int r_1, .ref a_t_numbers, .int t_count_4])), (a_t_numbers, .inl (G.2.1, 60, .inl t_numbers_22)), (a_p1, .inr (4, [.ref a_p1_codes, .int p1_length, .ref a_p1_syntax])), (a_p1_codes, .inl (G.2.1, 60, .inl p1_codes))]) hF hG hP hD hS hA hl.1 (c_X10_growNumber l G a_t r_1 t_count_4 a_t_numbers t_numbers_5 (r_10 - 48) t_numbers_22 hq) k_X10_growNumber q799 [0, 1] [2, 3] [2, 3, 0, 1] rfl rfl rfl rfl ⟨rfl, rfl⟩ (by decide) ⟨0, 6, _, _, rfl, rfl, rfl⟩ rfl rfl (Nat.le_of_ble_eq_true rfl) ⟨(Nat.le_of_ble_eq_true rfl), (Nat.le_of_ble_eq_true rfl)⟩ ⟨(Nat.le_of_ble_eq_true rfl), (Nat.le_of_ble_eq_true rfl)⟩ dX10_readPart_94 (fun H locs hP hD hS => ?_)
                    refine lv_iload hx hb dX10_readPart_97 (lv_at hl 0 rfl) ?_
                    refine lv_istore_n (lv' := [(3, .int 1), (6, .int 1), (5, .int r_10), (0, .ref a_t), (1, .ref a_p1), (4, .int i4_3)]) hx hb dX10_readPart_99 rfl hl (by decide) rfl (fun ls hl => ?_)
                    refine lv_iinc (v := (i4_3 + 1)) (lv' := [(4, .int (i4_3 + 1)), (3, .int 1), (6, .int 1), (5, .int r_10), (0, .ref a_t), (1, .ref a_p1)]) hx hb dX10_readPart_100 hl (k := 5) rfl rfl (by decide) rfl (fun ls hl => ?_)
                    refine lv_goto (tgt := 21) hx hb dX10_readPart_103 (by decide) ?_
                    exact ih 1 (i4_3 + 1) t_count_4 t_numbers_22 hf _ _ hP hD hS ls (lv_sub hl [4, 5, 1, 0] rfl)
                · have hf := (if_pos c0).symm.trans hf
                  refine lv_aload_n hx hb dX10_readPart_79 rfl (lv_at hl 2 rfl) ?_
                  obtain ⟨t_count_23, t_numbers_24, hq, hf⟩ := bd2_some hf
                  refine wrV (As := []) (rest := []) (wn := [(a_t, .inr (6, [.int r_1, .ref a_t_numbers, .int t_count_23])), (a_t_numbers, .inl (G.2.1, 60, .inl t_numbers_24)), (a_p1, .inr (4, [.ref a_p1_codes, .int p1_length, .ref a_p1_syntax])), (a_p1_codes, .inl (G.2.1, 60, .inl p1_codes))]) hF hG hP hD hS hA hl.1 (c_X10_startNumber l G a_t r_1 t_count_4 a_t_numbers t_numbers_5 t_count_23 t_numbers_24 hq) k_X10_startNumber q795 [0, 1] [2, 3] [2, 3, 0, 1] rfl rfl rfl rfl ⟨rfl, rfl⟩ (by decide) ⟨0, 6, _, _, rfl, rfl, rfl⟩ rfl rfl (Nat.le_of_ble_eq_true rfl) ⟨(Nat.le_of_ble_eq_true rfl), (Nat.le_of_ble_eq_true rfl)⟩ ⟨(Nat.le_of_ble_eq_true rfl), (Nat.le_of_ble_eq_true rfl)⟩ dX10_readPart_80 (fun H locs hP hD hS => ?_)
                  refine lv_iload hx hb dX10_readPart_83 (lv_at hl 0 rfl) ?_
                  refine lv_if_eq (tgt := 97) hx hb dX10_readPart_85 (by decide) (fun c0 => ?_) (fun c0 => ?_)
                  · have hf := (if_pos c0).symm.trans hf
                    refine lv_iload hx hb dX10_readPart_97 (lv_at hl 0 rfl) ?_
                    refine lv_istore_n (lv' := [(3, .int 1), (6, .int 1), (5, .int r_10), (0, .ref a_t), (1, .ref a_p1), (4, .int i4_3)]) hx hb dX10_readPart_99 rfl hl (by decide) rfl (fun ls hl => ?_)
                    refine lv_iinc (v := (i4_3 + 1)) (lv' := [(4, .int (i4_3 + 1)), (3, .int 1), (6, .int 1), (5, .int r_10), (0, .ref a_t), (1, .ref a_p1)]) hx hb dX10_readPart_100 hl (k := 5) rfl rfl (by decide) rfl (fun ls hl => ?_)
                    refine lv_goto (tgt := 21) hx hb dX10_readPart_103 (by decide) ?_
                    exact ih 1 (i4_3 + 1) t_count_23 t_numbers_24 hf _ _ hP hD hS ls (lv_sub hl [4, 5, 1, 0] rfl)
                  · have hf := (if_neg c0).symm.trans hf
                    refine lv_aload_n hx hb dX10_readPart_88 rfl (lv_at hl 2 rfl) ?_
                    refine lv_iload hx hb dX10_readPart_89 (lv_at hl 1 rfl) ?_
                    refine lv_bipush (v := 48) hx hb dX10_readPart_91 (by decide) ?_
                    refine lv_isub hx hb dX10_readPart_93 ?_
                    obtain ⟨t_numbers_25, hq, hf⟩ := bd1_some hf
                    refine wrV (As := [.int (r_10 - 48)]) (rest := []) (wn := [(a_t, .inr (6, [.int r_1, .ref a_t_numbers, .int t_count_23])), (a_t_numbers, .inl (G.2.1, 60, .inl t_numbers_25)), (a_p1, .inr (4, [.ref a_p1_codes, .int p1_length, .ref a_p1_syntax])), (a_p1_codes, .inl (G.2.1, 60, .inl p1_codes))]) hF hG hP hD hS hA hl.1 (c_X10_growNumber l G a_t r_1 t_count_23 a_t_numbers t_numbers_24 (r_10 - 48) t_numbers_25 hq) k_X10_growNumber q799 [0, 1] [2, 3] [2, 3, 0, 1] rfl rfl rfl rfl ⟨rfl, rfl⟩ (by decide) ⟨0, 6, _, _, rfl, rfl, rfl⟩ rfl rfl (Nat.le_of_ble_eq_true rfl) ⟨(Nat.le_of_ble_eq_true rfl), (Nat.le_of_ble_eq_true rfl)⟩ ⟨(Nat.le_of_ble_eq_true rfl), (Nat.le_of_ble_eq_true rfl)⟩ dX10_readPart_94 (fun H locs hP hD hS => ?_)
                    refine lv_iload hx hb dX10_readPart_97 (lv_at hl 0 rfl) ?_
                    refine lv_istore_n (lv' := [(3, .int 1), (6, .int 1), (5, .int r_10), (0, .ref a_t), (1, .ref a_p1), (4, .int i4_3)]) hx hb dX10_readPart_99 rfl hl (by decide) rfl (fun ls hl => ?_)
                    refine lv_iinc (v := (i4_3 + 1)) (lv' := [(4, .int (i4_3 + 1)), (3, .int 1), (6, .int 1), (5, .int r_10), (0, .ref a_t), (1, .ref a_p1)]) hx hb dX10_readPart_100 hl (k := 5) rfl rfl (by decide) rfl (fun ls hl => ?_)
                    refine lv_goto (tgt := 21) hx hb dX10_readPart_103 (by decide) ?_
                    exact ih 1 (i4_3 + 1) t_count_23 t_numbers_25 hf _ _ hP hD hS ls (lv_sub hl [4, 5, 1, 0] rfl)
  exact L21 1000 0 (x2 + 1) 0 t_numbers hq _ _ hP hD hS ls (lv_sub hl [2, 3, 1, 0] rfl)
def f_X10_number (t_numbers : Nat → Int32) (x1 : Int32) : Option (Int32) := (if x1 < 0 then some 0 else (if 60 ≤ x1 then some 0 else gd (¬ (x1 < 0 ∨ 60 ≤ Int32.toNatClampNeg x1)) (some (t_numbers (Int32.toNatClampNeg x1)))))
theorem k_X10_number : KV yX10_number cX10_number 2 (some .int) 1 := ⟨qc_yX10_number, q6, ⟨by decide +kernel, by decide +kernel, by decide +kernel⟩, qi_yX10_number, qs_yX10_number⟩
abbrev RM_X10_number : Room := { frames := 0, cells := 0, slots := 0, locals := 0 }
set_option maxHeartbeats 4000000 in
set_option maxRecDepth 100000 in
theorem c_X10_number (l : Launch) (G : GP) (a_t : Nat) (t_letter : Int32) (t_count : Int32) (a_t_numbers : Nat) (t_numbers : Nat → Int32) (x1 : Int32) (rr : Int32) (hf : f_X10_number t_numbers x1 = some rr) : RM l yX10_number cX10_number 2 (some .int) 0 0 G [.ref a_t, .int x1] [(a_t, .inr (6, [.int t_letter, .ref a_t_numbers, .int t_count])), (a_t_numbers, .inl (G.2.1, 60, .inl t_numbers))] (some (.int rr)) := by
  refine RM.ofW (C := RX10) (by decide) rfl (Nat.le_of_ble_eq_true rfl) ?_
  intro p e s m below meth c hF hr hlk hG hP ls hl
  have hl : lv_has ls 2 [(0, .ref a_t), (1, .int x1)] := hl
  have hx := hF.1
  have hb := hF.2.1
  have hml := hF.2.2.1
  have hown := hF.2.2.2.1
  have hts := hF.2.2.2.2
  unfold f_X10_number at hf
  refine lv_iload_n hx hb dX10_number_0 rfl (lv_at hl 1 rfl) ?_
  refine lv_if_lt (tgt := 22) hx hb dX10_number_1 (by decide) (fun c0 => ?_) (fun c0 => ?_)
  · have hf := (if_pos c0).symm.trans hf
    refine lv_iconst (v := 0) hx hb dX10_number_22 (by decide) ?_
    have hf : (some 0 : Option (Int32)) = some rr := hf
    cases hf
    exact re_i hF hr hlk dX10_number_23 rfl
  · have hf := (if_neg c0).symm.trans hf
    refine lv_iload_n hx hb dX10_number_4 rfl (lv_at hl 1 rfl) ?_
    refine lv_aload_n hx hb dX10_number_5 rfl (lv_at hl 0 rfl) ?_
    refine gf (C := RX10) (T := TX10) (N := 3) (ci := 6) (v := .ref a_t_numbers) hF hG hP inX10 0 rfl rfl 1 (by decide) q164 rfl rfl dX10_number_6 ?_
    refine va_alen (v := 60) hx hb hG.1 hP 1 0 rfl rfl rfl dX10_number_9 ?_
    refine lv_icmp_ge (tgt := 22) hx hb dX10_number_10 (by decide) (fun c0 => ?_) (fun c0 => ?_)
    · have hf := (if_pos c0).symm.trans hf
      refine lv_iconst (v := 0) hx hb dX10_number_22 (by decide) ?_
      have hf : (some 0 : Option (Int32)) = some rr := hf
      cases hf
      exact re_i hF hr hlk dX10_number_23 rfl
    · have hf := (if_neg c0).symm.trans hf
      refine lv_aload_n hx hb dX10_number_13 rfl (lv_at hl 0 rfl) ?_
      refine gf (C := RX10) (T := TX10) (N := 3) (ci := 6) (v := .ref a_t_numbers) hF hG hP inX10 0 rfl rfl 1 (by decide) q164 rfl rfl dX10_number_14 ?_
      refine lv_iload_n hx hb dX10_number_17 rfl (lv_at hl 1 rfl) ?_
      obtain ⟨hg, hf⟩ := gd_some hf
      refine ald_i (k := Int32.toNatClampNeg x1) hF hG hP 1 rfl rfl hg dX10_number_18 ?_
      refine lv_goto (tgt := 23) hx hb dX10_number_19 (by decide) ?_
      have hf : (some (t_numbers (Int32.toNatClampNeg x1)) : Option (Int32)) = some rr := hf
      cases hf
      exact re_i hF hr hlk dX10_number_23 rfl
def l_X10_addAll_18 (t_count : Int32) (t_numbers : Nat → Int32) : Nat → Int32 → Int32 → (Nat → Int32) → Option (Int32 × (Nat → Int32))
  | 0, _, _, _ => none
  | n + 1, i2_1, p1_length_2, p1_row_3 => (if t_count ≤ i2_1 then some (p1_length_2, p1_row_3) else bd1 (f_X10_number t_numbers i2_1) (fun (r_6 : Int32) => bd2 (f_X6_add p1_length_2 p1_row_3 r_6) (fun (p1_length_7 : Int32) (p1_row_8 : Nat → Int32) => l_X10_addAll_18 t_count t_numbers n (i2_1 + 1) p1_length_7 p1_row_8)))
def f_X10_addAll (t_count : Int32) (t_numbers : Nat → Int32) (p1_length : Int32) (p1_row : Nat → Int32) : Option (Int32 × Int32 × (Nat → Int32)) := (if (p1_length + t_count) ≤ 60 then bd2 (l_X10_addAll_18 t_count t_numbers 1000 0 p1_length p1_row) (fun (p1_length_4 : Int32) (p1_row_5 : Nat → Int32) => some (0, p1_length_4, p1_row_5)) else some (1, p1_length, p1_row))
theorem k_X10_addAll : KV yX10_addAll cX10_addAll 3 (some .int) 1 := ⟨qc_yX10_addAll, q6, ⟨by decide +kernel, by decide +kernel, by decide +kernel⟩, qi_yX10_addAll, qs_yX10_addAll⟩
abbrev RM_X10_addAll : Room := { frames := 1, cells := 0, slots := 0, locals := 21 }
set_option maxHeartbeats 4000000 in
set_option maxRecDepth 100000 in
theorem c_X10_addAll (l : Launch) (G : GP) (a_t : Nat) (t_letter : Int32) (t_count : Int32) (a_t_numbers : Nat) (t_numbers : Nat → Int32) (a_p1 : Nat) (p1_length : Int32) (p1_shorter : Int32) (p1_longer : Int32) (p1_memory : Int32) (p1_limit : Int32) (p1_seasonDays : Int32) (p1_stopped : Int32) (p1_stopPart : Int32) (p1_stopReason : Int32) (a_p1_row : Nat) (p1_row : Nat → Int32) (rr : Int32) (w_p1_length : Int32) (w_p1_row : Nat → Int32) (hf : f_X10_addAll t_count t_numbers p1_length p1_row = some (rr, w_p1_length, w_p1_row)) : WM l yX10_addAll cX10_addAll 3 (some .int) 1 21 G [.ref a_t, .ref a_p1] [(a_t, .inr (6, [.int t_letter, .ref a_t_numbers, .int t_count])), (a_t_numbers, .inl (G.2.1, 60, .inl t_numbers)), (a_p1, .inr (2, [.ref a_p1_row, .int p1_length, .int p1_shorter, .int p1_longer, .int p1_memory, .int p1_limit, .int p1_seasonDays, .int p1_stopped, .int p1_stopPart, .int p1_stopReason])), (a_p1_row, .inl (G.2.1, 60, .inl p1_row))] (some (.int rr)) [(a_t, .inr (6, [.int t_letter, .ref a_t_numbers, .int t_count])), (a_t_numbers, .inl (G.2.1, 60, .inl t_numbers)), (a_p1, .inr (2, [.ref a_p1_row, .int w_p1_length, .int p1_shorter, .int p1_longer, .int p1_memory, .int p1_limit, .int p1_seasonDays, .int p1_stopped, .int p1_stopPart, .int p1_stopReason])), (a_p1_row, .inl (G.2.1, 60, .inl w_p1_row))] := by
  refine WM.ofW (C := RX10) (by decide) rfl (Nat.le_of_ble_eq_true rfl) ?_
  intro p e s m below meth c A hF hr hlk hG hA hP hD ls hl
  have hl : lv_has ls 3 [(0, .ref a_t), (1, .ref a_p1)] := hl
  have hx := hF.1
  have hb := hF.2.1
  have hml := hF.2.2.1
  have hown := hF.2.2.2.1
  have hts := hF.2.2.2.2
  have hS : va_S A s.heap s.heap [] := va_S.rf
  unfold f_X10_addAll at hf
  refine lv_aload_n hx hb dX10_addAll_0 rfl (lv_at hl 1 rfl) ?_
  refine gfN (C := RX6) (T := TX6) (N := 10) (ci := 2) (v := .int p1_length) hF hG hP inX6 2 rfl rfl 1 (by decide) n45 rfl rfl dX10_addAll_1 ?_
  refine lv_aload_n hx hb dX10_addAll_4 rfl (lv_at hl 0 rfl) ?_
  refine gf (C := RX10) (T := TX10) (N := 3) (ci := 6) (v := .int t_count) hF hG hP inX10 0 rfl rfl 2 (by decide) q165 rfl rfl dX10_addAll_5 ?_
  refine lv_iadd hx hb dX10_addAll_8 ?_
  refine lv_bipush (v := 60) hx hb dX10_addAll_9 (by decide) ?_
  refine lv_icmp_le (tgt := 16) hx hb dX10_addAll_11 (by decide) (fun c0 => ?_) (fun c0 => ?_)
  · have hf := (if_pos c0).symm.trans hf
    refine lv_iconst (v := 0) hx hb dX10_addAll_16 (by decide) ?_
    refine lv_istore_n (lv' := [(2, .int 0), (0, .ref a_t), (1, .ref a_p1)]) hx hb dX10_addAll_17 rfl hl (by decide) rfl (fun ls hl => ?_)
    obtain ⟨p1_length_4, p1_row_5, hq, hf⟩ := bd2_some hf
    have K18 : ∀ (H : Heap) (locs : List Loc), va_P G.1 vwCl ([(a_t, .inr (6, [.int t_letter, .ref a_t_numbers, .int t_count])), (a_t_numbers, .inl (G.2.1, 60, .inl t_numbers)), (a_p1, .inr (2, [.ref a_p1_row, .int p1_length_4, .int p1_shorter, .int p1_longer, .int p1_memory, .int p1_limit, .int p1_seasonDays, .int p1_stopped, .int p1_stopPart, .int p1_stopReason])), (a_p1_row, .inl (G.2.1, 60, .inl p1_row_5))] : va_W) H → va_D A ([(a_t, .inr (6, [.int t_letter, .ref a_t_numbers, .int t_count])), (a_t_numbers, .inl (G.2.1, 60, .inl t_numbers)), (a_p1, .inr (2, [.ref a_p1_row, .int p1_length_4, .int p1_shorter, .int p1_longer, .int p1_memory, .int p1_limit, .int p1_seasonDays, .int p1_stopped, .int p1_stopPart, .int p1_stopReason])), (a_p1_row, .inl (G.2.1, 60, .inl p1_row_5))] : va_W) → va_S A s.heap H locs → ∀ ls : Array Slot, lv_has ls 3 [] → W p l e RM_X10_addAll s m [.ref a_t, .ref a_p1].toArray below meth c H locs 0 0 (MQ below (wrQ (some (.int rr)) G [(a_t, .inr (6, [.int t_letter, .ref a_t_numbers, .int t_count])), (a_t_numbers, .inl (G.2.1, 60, .inl t_numbers)), (a_p1, .inr (2, [.ref a_p1_row, .int w_p1_length, .int p1_shorter, .int p1_longer, .int p1_memory, .int p1_limit, .int p1_seasonDays, .int p1_stopped, .int p1_stopPart, .int p1_stopReason])), (a_p1_row, .inl (G.2.1, 60, .inl w_p1_row))] A) [.ref a_t, .ref a_p1].toArray s 0 0 A) (F0 m 41 ls []) := by
      intro H locs hP hD hS ls hl
      refine lv_iconst (v := 0) hx hb dX10_addAll_41 (by decide) ?_
      have hf : (some (0, p1_length_4, p1_row_5) : Option (Int32 × Int32 × (Nat → Int32))) = some (rr, w_p1_length, w_p1_row) := hf
      cases hf
      exact we_i hF hr hlk hP hD hS dX10_addAll_42 rfl
    clear hf
    have L18 : ∀ (n : Nat) (i2_1 : Int32) (p1_length_2 : Int32) (p1_row_3 : Nat → Int32), l_X10_addAll_18 t_count t_numbers n i2_1 p1_length_2 p1_row_3 = some (p1_length_4, p1_row_5) → ∀ (H : Heap) (locs : List Loc), va_P G.1 vwCl ([(a_t, .inr (6, [.int t_letter, .ref a_t_numbers, .int t_count])), (a_t_numbers, .inl (G.2.1, 60, .inl t_numbers)), (a_p1, .inr (2, [.ref a_p1_row, .int p1_length_2, .int p1_shorter, .int p1_longer, .int p1_memory, .int p1_limit, .int p1_seasonDays, .int p1_stopped, .int p1_stopPart, .int p1_stopReason])), (a_p1_row, .inl (G.2.1, 60, .inl p1_row_3))] : va_W) H → va_D A ([(a_t, .inr (6, [.int t_letter, .ref a_t_numbers, .int t_count])), (a_t_numbers, .inl (G.2.1, 60, .inl t_numbers)), (a_p1, .inr (2, [.ref a_p1_row, .int p1_length_2, .int p1_shorter, .int p1_longer, .int p1_memory, .int p1_limit, .int p1_seasonDays, .int p1_stopped, .int p1_stopPart, .int p1_stopReason])), (a_p1_row, .inl (G.2.1, 60, .inl p1_row_3))] : va_W) → va_S A s.heap H locs → ∀ ls : Array Slot, lv_has ls 3 [(0, .ref a_t), (1, .ref a_p1), (2, .int i2_1)] → W p l e RM_X10_addAll s m [.ref a_t, .ref a_p1].toArray below meth c H locs 0 0 (MQ below (wrQ (some (.int rr)) G [(a_t, .inr (6, [.int t_letter, .ref a_t_numbers, .int t_count])), (a_t_numbers, .inl (G.2.1, 60, .inl t_numbers)), (a_p1, .inr (2, [.ref a_p1_row, .int w_p1_length, .int p1_shorter, .int p1_longer, .int p1_memory, .int p1_limit, .int p1_seasonDays, .int p1_stopped, .int p1_stopPart, .int p1_stopReason])), (a_p1_row, .inl (G.2.1, 60, .inl w_p1_row))] A) [.ref a_t, .ref a_p1].toArray s 0 0 A) (F0 m 18 ls []) := by
      intro n
      induction n with
      | zero =>
        intro i2_1 p1_length_2 p1_row_3 hf
        exact nomatch (show none = some (p1_length_4, p1_row_5) from hf)
      | succ n ih =>
        intro i2_1 p1_length_2 p1_row_3 hf H locs hP hD hS ls hl
        rw [l_X10_addAll_18] at hf
        refine lv_iload_n hx hb dX10_addAll_18 rfl (lv_at hl 2 rfl) ?_
        refine lv_aload_n hx hb dX10_addAll_19 rfl (lv_at hl 0 rfl) ?_
        refine gf (C := RX10) (T := TX10) (N := 3) (ci := 6) (v := .int t_count) hF hG hP inX10 0 rfl rfl 2 (by decide) q165 rfl rfl dX10_addAll_20 ?_
        refine lv_icmp_ge (tgt := 41) hx hb dX10_addAll_23 (by decide) (fun c0 => ?_) (fun c0 => ?_)
        · have hf := (if_pos c0).symm.trans hf
          have hf : (some (p1_length_2, p1_row_3) : Option (Int32 × (Nat → Int32))) = some (p1_length_4, p1_row_5) := hf
          cases hf
          exact K18 _ _ hP hD hS ls (lv_sub hl [] rfl)
        · have hf := (if_neg c0).symm.trans hf
          refine lv_aload_n hx hb dX10_addAll_26 rfl (lv_at hl 1 rfl) ?_
          refine lv_aload_n hx hb dX10_addAll_27 rfl (lv_at hl 0 rfl) ?_
          refine lv_iload_n hx hb dX10_addAll_28 rfl (lv_at hl 2 rfl) ?_
          obtain ⟨r_6, hq, hf⟩ := bd1_some hf
          refine rdV (As := [.int i2_1]) (rest := [.ref a_p1]) hF hG hP hl.1 (c_X10_number l G a_t t_letter t_count a_t_numbers t_numbers i2_1 r_6 hq) k_X10_number q811 [0, 1] rfl ⟨0, 6, _, _, rfl, rfl, rfl⟩ rfl rfl (Nat.le_of_ble_eq_true rfl) ⟨(Nat.le_of_ble_eq_true rfl), (Nat.le_of_ble_eq_true rfl)⟩ ⟨(Nat.zero_le _), (Nat.zero_le _)⟩ dX10_addAll_29 ?_
          obtain ⟨p1_length_7, p1_row_8, hq, hf⟩ := bd2_some hf
          refine wrVN (As := [.int r_6]) (rest := []) (wn := [(a_t, .inr (6, [.int t_letter, .ref a_t_numbers, .int t_count])), (a_t_numbers, .inl (G.2.1, 60, .inl t_numbers)), (a_p1, .inr (2, [.ref a_p1_row, .int p1_length_7, .int p1_shorter, .int p1_longer, .int p1_memory, .int p1_limit, .int p1_seasonDays, .int p1_stopped, .int p1_stopPart, .int p1_stopReason])), (a_p1_row, .inl (G.2.1, 60, .inl p1_row_8))]) hF hG hP hD hS hA hl.1 (c_X6_add l G a_p1 p1_length_2 p1_shorter p1_longer p1_memory p1_limit p1_seasonDays p1_stopped p1_stopPart p1_stopReason a_p1_row p1_row_3 r_6 p1_length_7 p1_row_8 hq) k_X6_add n815 [2, 3] [0, 1] [0, 1, 2, 3] rfl rfl rfl rfl ⟨rfl, rfl⟩ (by decide) ⟨2, 2, _, _, rfl, rfl, rfl⟩ rfl rfl (Nat.le_of_ble_eq_true rfl) ⟨(Nat.le_of_ble_eq_true rfl), (Nat.le_of_ble_eq_true rfl)⟩ ⟨(Nat.le_of_ble_eq_true rfl), (Nat.le_of_ble_eq_true rfl)⟩ dX10_addAll_32 (fun H locs hP hD hS => ?_)
          refine lv_iinc (v := (i2_1 + 1)) (lv' := [(2, .int (i2_1 + 1)), (0, .ref a_t), (1, .ref a_p1)]) hx hb dX10_addAll_35 hl (k := 2) rfl rfl (by decide) rfl (fun ls hl => ?_)
          refine lv_goto (tgt := 18) hx hb dX10_addAll_38 (by decide) ?_
          exact ih (i2_1 + 1) p1_length_7 p1_row_8 hf _ _ hP hD hS ls (lv_sub hl [1, 2, 0] rfl)
    exact L18 1000 0 p1_length p1_row hq _ _ hP hD hS ls (lv_sub hl [1, 2, 0] rfl)
  · have hf := (if_neg c0).symm.trans hf
    refine lv_iconst (v := 1) hx hb dX10_addAll_14 (by decide) ?_
    have hf : (some (1, p1_length, p1_row) : Option (Int32 × Int32 × (Nat → Int32))) = some (rr, w_p1_length, w_p1_row) := hf
    cases hf
    exact we_i hF hr hlk hP hD hS dX10_addAll_15 rfl
def f_X10_changeWindows (t_numbers : Nat → Int32) (p1_shorter : Int32) (p1_longer : Int32) : Option (Int32 × Int32 × Int32) := bd1 (f_X10_number t_numbers 0) (fun (r_1 : Int32) => bd1 (f_X10_number t_numbers 1) (fun (r_2 : Int32) => (if r_1 < r_2 then bd1 (f_X10_number t_numbers 0) (fun (r_3 : Int32) => bd1 (f_X10_number t_numbers 1) (fun (r_4 : Int32) => some (0, r_3, r_4))) else some (4, p1_shorter, p1_longer))))
theorem k_X10_changeWindows : KV yX10_changeWindows cX10_changeWindows 2 (some .int) 1 := ⟨qc_yX10_changeWindows, q6, ⟨by decide +kernel, by decide +kernel, by decide +kernel⟩, qi_yX10_changeWindows, qs_yX10_changeWindows⟩
abbrev RM_X10_changeWindows : Room := { frames := 1, cells := 0, slots := 0, locals := 21 }
set_option maxHeartbeats 4000000 in
set_option maxRecDepth 100000 in
theorem c_X10_changeWindows (l : Launch) (G : GP) (a_t : Nat) (t_letter : Int32) (t_count : Int32) (a_t_numbers : Nat) (t_numbers : Nat → Int32) (a_p1 : Nat) (a_p1_row : Nat) (p1_length : Int32) (p1_shorter : Int32) (p1_longer : Int32) (p1_memory : Int32) (p1_limit : Int32) (p1_seasonDays : Int32) (p1_stopped : Int32) (p1_stopPart : Int32) (p1_stopReason : Int32) (rr : Int32) (w_p1_shorter : Int32) (w_p1_longer : Int32) (hf : f_X10_changeWindows t_numbers p1_shorter p1_longer = some (rr, w_p1_shorter, w_p1_longer)) : WM l yX10_changeWindows cX10_changeWindows 2 (some .int) 1 21 G [.ref a_t, .ref a_p1] [(a_t, .inr (6, [.int t_letter, .ref a_t_numbers, .int t_count])), (a_t_numbers, .inl (G.2.1, 60, .inl t_numbers)), (a_p1, .inr (2, [.ref a_p1_row, .int p1_length, .int p1_shorter, .int p1_longer, .int p1_memory, .int p1_limit, .int p1_seasonDays, .int p1_stopped, .int p1_stopPart, .int p1_stopReason]))] (some (.int rr)) [(a_t, .inr (6, [.int t_letter, .ref a_t_numbers, .int t_count])), (a_t_numbers, .inl (G.2.1, 60, .inl t_numbers)), (a_p1, .inr (2, [.ref a_p1_row, .int p1_length, .int w_p1_shorter, .int w_p1_longer, .int p1_memory, .int p1_limit, .int p1_seasonDays, .int p1_stopped, .int p1_stopPart, .int p1_stopReason]))] := by
  refine WM.ofW (C := RX10) (by decide) rfl (Nat.le_of_ble_eq_true rfl) ?_
  intro p e s m below meth c A hF hr hlk hG hA hP hD ls hl
  have hl : lv_has ls 2 [(0, .ref a_t), (1, .ref a_p1)] := hl
  have hx := hF.1
  have hb := hF.2.1
  have hml := hF.2.2.1
  have hown := hF.2.2.2.1
  have hts := hF.2.2.2.2
  have hS : va_S A s.heap s.heap [] := va_S.rf
  unfold f_X10_changeWindows at hf
  refine lv_aload_n hx hb dX10_changeWindows_0 rfl (lv_at hl 0 rfl) ?_
  refine lv_iconst (v := 0) hx hb dX10_changeWindows_1 (by decide) ?_
  obtain ⟨r_1, hq, hf⟩ := bd1_some hf
  refine rdV (As := [.int 0]) (rest := []) hF hG hP hl.1 (c_X10_number l G a_t t_letter t_count a_t_numbers t_numbers 0 r_1 hq) k_X10_number q811 [0, 1] rfl ⟨0, 6, _, _, rfl, rfl, rfl⟩ rfl rfl (Nat.le_of_ble_eq_true rfl) ⟨(Nat.le_of_ble_eq_true rfl), (Nat.le_of_ble_eq_true rfl)⟩ ⟨(Nat.zero_le _), (Nat.zero_le _)⟩ dX10_changeWindows_2 ?_
  refine lv_aload_n hx hb dX10_changeWindows_5 rfl (lv_at hl 0 rfl) ?_
  refine lv_iconst (v := 1) hx hb dX10_changeWindows_6 (by decide) ?_
  obtain ⟨r_2, hq, hf⟩ := bd1_some hf
  refine rdV (As := [.int 1]) (rest := [.int r_1]) hF hG hP hl.1 (c_X10_number l G a_t t_letter t_count a_t_numbers t_numbers 1 r_2 hq) k_X10_number q811 [0, 1] rfl ⟨0, 6, _, _, rfl, rfl, rfl⟩ rfl rfl (Nat.le_of_ble_eq_true rfl) ⟨(Nat.le_of_ble_eq_true rfl), (Nat.le_of_ble_eq_true rfl)⟩ ⟨(Nat.zero_le _), (Nat.zero_le _)⟩ dX10_changeWindows_7 ?_
  refine lv_icmp_lt (tgt := 15) hx hb dX10_changeWindows_10 (by decide) (fun c0 => ?_) (fun c0 => ?_)
  · have hf := (if_pos c0).symm.trans hf
    refine lv_aload_n hx hb dX10_changeWindows_15 rfl (lv_at hl 1 rfl) ?_
    refine lv_aload_n hx hb dX10_changeWindows_16 rfl (lv_at hl 0 rfl) ?_
    refine lv_iconst (v := 0) hx hb dX10_changeWindows_17 (by decide) ?_
    obtain ⟨r_3, hq, hf⟩ := bd1_some hf
    refine rdV (As := [.int 0]) (rest := [.ref a_p1]) hF hG hP hl.1 (c_X10_number l G a_t t_letter t_count a_t_numbers t_numbers 0 r_3 hq) k_X10_number q811 [0, 1] rfl ⟨0, 6, _, _, rfl, rfl, rfl⟩ rfl rfl (Nat.le_of_ble_eq_true rfl) ⟨(Nat.le_of_ble_eq_true rfl), (Nat.le_of_ble_eq_true rfl)⟩ ⟨(Nat.zero_le _), (Nat.zero_le _)⟩ dX10_changeWindows_18 ?_
    refine pfN (C := RX6) (T := TX6) (N := 10) (ci := 2) (v := .int r_3) (ty := .int) hF hG hP hD hS inX6 tyX6 tyX6_ok nmX6 2 rfl rfl 2 (by decide) n51 rfl rfl (by decide +kernel) rfl rfl (Nat.le_of_ble_eq_true rfl) dX10_changeWindows_21 (fun H locs hP hD hS => ?_)
    replace hP : va_P G.1 vwCl [(a_t, .inr (6, [.int t_letter, .ref a_t_numbers, .int t_count])), (a_t_numbers, .inl (G.2.1, 60, .inl t_numbers)), (a_p1, .inr (2, [.ref a_p1_row, .int p1_length, .int r_3, .int p1_longer, .int p1_memory, .int p1_limit, .int p1_seasonDays, .int p1_stopped, .int p1_stopPart, .int p1_stopReason]))] H := hP
    replace hD : va_D A [(a_t, .inr (6, [.int t_letter, .ref a_t_numbers, .int t_count])), (a_t_numbers, .inl (G.2.1, 60, .inl t_numbers)), (a_p1, .inr (2, [.ref a_p1_row, .int p1_length, .int r_3, .int p1_longer, .int p1_memory, .int p1_limit, .int p1_seasonDays, .int p1_stopped, .int p1_stopPart, .int p1_stopReason]))] := hD
    refine lv_aload_n hx hb dX10_changeWindows_24 rfl (lv_at hl 1 rfl) ?_
    refine lv_aload_n hx hb dX10_changeWindows_25 rfl (lv_at hl 0 rfl) ?_
    refine lv_iconst (v := 1) hx hb dX10_changeWindows_26 (by decide) ?_
    obtain ⟨r_4, hq, hf⟩ := bd1_some hf
    refine rdV (As := [.int 1]) (rest := [.ref a_p1]) hF hG hP hl.1 (c_X10_number l G a_t t_letter t_count a_t_numbers t_numbers 1 r_4 hq) k_X10_number q811 [0, 1] rfl ⟨0, 6, _, _, rfl, rfl, rfl⟩ rfl rfl (Nat.le_of_ble_eq_true rfl) ⟨(Nat.le_of_ble_eq_true rfl), (Nat.le_of_ble_eq_true rfl)⟩ ⟨(Nat.zero_le _), (Nat.zero_le _)⟩ dX10_changeWindows_27 ?_
    refine pfN (C := RX6) (T := TX6) (N := 10) (ci := 2) (v := .int r_4) (ty := .int) hF hG hP hD hS inX6 tyX6 tyX6_ok nmX6 2 rfl rfl 3 (by decide) n58 rfl rfl (by decide +kernel) rfl rfl (Nat.le_of_ble_eq_true rfl) dX10_changeWindows_30 (fun H locs hP hD hS => ?_)
    replace hP : va_P G.1 vwCl [(a_t, .inr (6, [.int t_letter, .ref a_t_numbers, .int t_count])), (a_t_numbers, .inl (G.2.1, 60, .inl t_numbers)), (a_p1, .inr (2, [.ref a_p1_row, .int p1_length, .int r_3, .int r_4, .int p1_memory, .int p1_limit, .int p1_seasonDays, .int p1_stopped, .int p1_stopPart, .int p1_stopReason]))] H := hP
    replace hD : va_D A [(a_t, .inr (6, [.int t_letter, .ref a_t_numbers, .int t_count])), (a_t_numbers, .inl (G.2.1, 60, .inl t_numbers)), (a_p1, .inr (2, [.ref a_p1_row, .int p1_length, .int r_3, .int r_4, .int p1_memory, .int p1_limit, .int p1_seasonDays, .int p1_stopped, .int p1_stopPart, .int p1_stopReason]))] := hD
    refine lv_iconst (v := 0) hx hb dX10_changeWindows_33 (by decide) ?_
    have hf : (some (0, r_3, r_4) : Option (Int32 × Int32 × Int32)) = some (rr, w_p1_shorter, w_p1_longer) := hf
    cases hf
    exact we_i hF hr hlk hP hD hS dX10_changeWindows_34 rfl
  · have hf := (if_neg c0).symm.trans hf
    refine lv_iconst (v := 4) hx hb dX10_changeWindows_13 (by decide) ?_
    have hf : (some (4, p1_shorter, p1_longer) : Option (Int32 × Int32 × Int32)) = some (rr, w_p1_shorter, w_p1_longer) := hf
    cases hf
    exact we_i hF hr hlk hP hD hS dX10_changeWindows_14 rfl
def f_X10_flattenOne (t_numbers : Nat → Int32) (p1_length : Int32) (p1_shorter : Int32) (p1_limit : Int32) (p1_row : Nat → Int32) : Option (Int32 × (Nat → Int32)) := bd1 (f_X10_number t_numbers 0) (fun (r_1 : Int32) => bd1 (f_X6_hasDay p1_length r_1) (fun (r_2 : Int32) => (if r_2 = 0 then some (2, p1_row) else bd1 (f_X0_standsOut p1_shorter p1_limit p1_row r_1) (fun (r_3 : Int32) => (if r_3 = 0 then some (3, p1_row) else bd1 (f_X0_flatten p1_shorter p1_row r_1) (fun (p1_row_4 : Nat → Int32) => some (0, p1_row_4)))))))
theorem k_X10_flattenOne : KV yX10_flattenOne cX10_flattenOne 3 (some .int) 1 := ⟨qc_yX10_flattenOne, q6, ⟨by decide +kernel, by decide +kernel, by decide +kernel⟩, qi_yX10_flattenOne, qs_yX10_flattenOne⟩
abbrev RM_X10_flattenOne : Room := { frames := 3, cells := 0, slots := 0, locals := 71 }
set_option maxHeartbeats 4000000 in
set_option maxRecDepth 100000 in
theorem c_X10_flattenOne (l : Launch) (G : GP) (a_t : Nat) (t_letter : Int32) (t_count : Int32) (a_t_numbers : Nat) (t_numbers : Nat → Int32) (a_p1 : Nat) (p1_length : Int32) (p1_shorter : Int32) (p1_longer : Int32) (p1_memory : Int32) (p1_limit : Int32) (p1_seasonDays : Int32) (p1_stopped : Int32) (p1_stopPart : Int32) (p1_stopReason : Int32) (a_p1_row : Nat) (p1_row : Nat → Int32) (rr : Int32) (w_p1_row : Nat → Int32) (hf : f_X10_flattenOne t_numbers p1_length p1_shorter p1_limit p1_row = some (rr, w_p1_row)) : WM l yX10_flattenOne cX10_flattenOne 3 (some .int) 3 71 G [.ref a_t, .ref a_p1] [(a_t, .inr (6, [.int t_letter, .ref a_t_numbers, .int t_count])), (a_t_numbers, .inl (G.2.1, 60, .inl t_numbers)), (a_p1, .inr (2, [.ref a_p1_row, .int p1_length, .int p1_shorter, .int p1_longer, .int p1_memory, .int p1_limit, .int p1_seasonDays, .int p1_stopped, .int p1_stopPart, .int p1_stopReason])), (a_p1_row, .inl (G.2.1, 60, .inl p1_row))] (some (.int rr)) [(a_t, .inr (6, [.int t_letter, .ref a_t_numbers, .int t_count])), (a_t_numbers, .inl (G.2.1, 60, .inl t_numbers)), (a_p1, .inr (2, [.ref a_p1_row, .int p1_length, .int p1_shorter, .int p1_longer, .int p1_memory, .int p1_limit, .int p1_seasonDays, .int p1_stopped, .int p1_stopPart, .int p1_stopReason])), (a_p1_row, .inl (G.2.1, 60, .inl w_p1_row))] := by
  refine WM.ofW (C := RX10) (by decide) rfl (Nat.le_of_ble_eq_true rfl) ?_
  intro p e s m below meth c A hF hr hlk hG hA hP hD ls hl
  have hl : lv_has ls 3 [(0, .ref a_t), (1, .ref a_p1)] := hl
  have hx := hF.1
  have hb := hF.2.1
  have hml := hF.2.2.1
  have hown := hF.2.2.2.1
  have hts := hF.2.2.2.2
  have hS : va_S A s.heap s.heap [] := va_S.rf
  unfold f_X10_flattenOne at hf
  refine lv_aload_n hx hb dX10_flattenOne_0 rfl (lv_at hl 0 rfl) ?_
  refine lv_iconst (v := 0) hx hb dX10_flattenOne_1 (by decide) ?_
  obtain ⟨r_1, hq, hf⟩ := bd1_some hf
  refine rdV (As := [.int 0]) (rest := []) hF hG hP hl.1 (c_X10_number l G a_t t_letter t_count a_t_numbers t_numbers 0 r_1 hq) k_X10_number q811 [0, 1] rfl ⟨0, 6, _, _, rfl, rfl, rfl⟩ rfl rfl (Nat.le_of_ble_eq_true rfl) ⟨(Nat.le_of_ble_eq_true rfl), (Nat.le_of_ble_eq_true rfl)⟩ ⟨(Nat.zero_le _), (Nat.zero_le _)⟩ dX10_flattenOne_2 ?_
  refine lv_istore_n (lv' := [(2, .int r_1), (0, .ref a_t), (1, .ref a_p1)]) hx hb dX10_flattenOne_5 rfl hl (by decide) rfl (fun ls hl => ?_)
  refine lv_aload_n hx hb dX10_flattenOne_6 rfl (lv_at hl 2 rfl) ?_
  refine lv_iload_n hx hb dX10_flattenOne_7 rfl (lv_at hl 0 rfl) ?_
  obtain ⟨r_2, hq, hf⟩ := bd1_some hf
  refine rdVN (As := [.int r_1]) (rest := []) hF hG hP hl.1 (c_X6_hasDay l G a_p1 a_p1_row p1_length p1_shorter p1_longer p1_memory p1_limit p1_seasonDays p1_stopped p1_stopPart p1_stopReason r_1 r_2 hq) k_X6_hasDay n824 [2] rfl ⟨2, 2, _, _, rfl, rfl, rfl⟩ rfl rfl (Nat.le_of_ble_eq_true rfl) ⟨(Nat.le_of_ble_eq_true rfl), (Nat.le_of_ble_eq_true rfl)⟩ ⟨(Nat.zero_le _), (Nat.zero_le _)⟩ dX10_flattenOne_8 ?_
  refine lv_if_ne (tgt := 16) hx hb dX10_flattenOne_11 (by decide) (fun c0 => ?_) (fun c0 => ?_)
  · have hf := (if_neg c0).symm.trans hf
    refine lv_aload_n hx hb dX10_flattenOne_16 rfl (lv_at hl 2 rfl) ?_
    refine lv_iload_n hx hb dX10_flattenOne_17 rfl (lv_at hl 0 rfl) ?_
    obtain ⟨r_3, hq, hf⟩ := bd1_some hf
    refine rdSN (As := [.ref a_p1, .int r_1]) (rest := []) hF hG hP hl.1 (c_X0_standsOut l G a_p1 p1_length p1_shorter p1_longer p1_memory p1_limit p1_seasonDays p1_stopped p1_stopPart p1_stopReason a_p1_row p1_row r_1 r_3 hq) k_X0_standsOut n825 [2, 3] rfl rfl rfl (Nat.le_of_ble_eq_true rfl) ⟨(Nat.le_of_ble_eq_true rfl), (Nat.le_of_ble_eq_true rfl)⟩ ⟨(Nat.zero_le _), (Nat.zero_le _)⟩ dX10_flattenOne_18 ?_
    refine lv_if_ne (tgt := 26) hx hb dX10_flattenOne_21 (by decide) (fun c0 => ?_) (fun c0 => ?_)
    · have hf := (if_neg c0).symm.trans hf
      refine lv_aload_n hx hb dX10_flattenOne_26 rfl (lv_at hl 2 rfl) ?_
      refine lv_iload_n hx hb dX10_flattenOne_27 rfl (lv_at hl 0 rfl) ?_
      obtain ⟨p1_row_4, hq, hf⟩ := bd1_some hf
      refine wrSN (As := [.ref a_p1, .int r_1]) (rest := []) (wn := [(a_t, .inr (6, [.int t_letter, .ref a_t_numbers, .int t_count])), (a_t_numbers, .inl (G.2.1, 60, .inl t_numbers)), (a_p1, .inr (2, [.ref a_p1_row, .int p1_length, .int p1_shorter, .int p1_longer, .int p1_memory, .int p1_limit, .int p1_seasonDays, .int p1_stopped, .int p1_stopPart, .int p1_stopReason])), (a_p1_row, .inl (G.2.1, 60, .inl p1_row_4))]) hF hG hP hD hS hA hl.1 (c_X0_flatten l G a_p1 p1_length p1_shorter p1_longer p1_memory p1_limit p1_seasonDays p1_stopped p1_stopPart p1_stopReason a_p1_row p1_row r_1 p1_row_4 hq) k_X0_flatten n826 [2, 3] [0, 1] [0, 1, 2, 3] rfl rfl rfl rfl ⟨rfl, rfl⟩ (by decide) rfl rfl (Nat.le_of_ble_eq_true rfl) ⟨(Nat.le_of_ble_eq_true rfl), (Nat.le_of_ble_eq_true rfl)⟩ ⟨(Nat.le_of_ble_eq_true rfl), (Nat.le_of_ble_eq_true rfl)⟩ dX10_flattenOne_28 (fun H locs hP hD hS => ?_)
      refine lv_iconst (v := 0) hx hb dX10_flattenOne_31 (by decide) ?_
      have hf : (some (0, p1_row_4) : Option (Int32 × (Nat → Int32))) = some (rr, w_p1_row) := hf
      cases hf
      exact we_i hF hr hlk hP hD hS dX10_flattenOne_32 rfl
    · have hf := (if_pos c0).symm.trans hf
      refine lv_iconst (v := 3) hx hb dX10_flattenOne_24 (by decide) ?_
      have hf : (some (3, p1_row) : Option (Int32 × (Nat → Int32))) = some (rr, w_p1_row) := hf
      cases hf
      exact we_i hF hr hlk hP hD hS dX10_flattenOne_25 rfl
  · have hf := (if_pos c0).symm.trans hf
    refine lv_iconst (v := 2) hx hb dX10_flattenOne_14 (by decide) ?_
    have hf : (some (2, p1_row) : Option (Int32 × (Nat → Int32))) = some (rr, w_p1_row) := hf
    cases hf
    exact we_i hF hr hlk hP hD hS dX10_flattenOne_15 rfl
def f_X10_doPart (t_letter : Int32) (t_count : Int32) (t_numbers : Nat → Int32) (p1_length : Int32) (p1_shorter : Int32) (p1_longer : Int32) (p1_memory : Int32) (p1_limit : Int32) (p1_row : Nat → Int32) : Option (Int32 × Int32 × Int32 × Int32 × Int32 × Int32 × (Nat → Int32)) := (if t_letter = 108 then bd1 (f_X10_number t_numbers 0) (fun (r_1 : Int32) => some (0, p1_length, p1_shorter, p1_longer, p1_memory, r_1, p1_row)) else (if t_letter = 109 then bd1 (f_X10_number t_numbers 0) (fun (r_2 : Int32) => some (0, p1_length, p1_shorter, p1_longer, r_2, p1_limit, p1_row)) else (if t_letter = 112 then bd3 (f_X10_addAll t_count t_numbers p1_length p1_row) (fun (r_3 : Int32) (p1_length_4 : Int32) (p1_row_5 : Nat → Int32) => some (r_3, p1_length_4, p1_shorter, p1_longer, p1_memory, p1_limit, p1_row_5)) else (if t_letter = 119 then bd3 (f_X10_changeWindows t_numbers p1_shorter p1_longer) (fun (r_6 : Int32) (p1_shorter_7 : Int32) (p1_longer_8 : Int32) => some (r_6, p1_length, p1_shorter_7, p1_longer_8, p1_memory, p1_limit, p1_row)) else (if t_letter = 120 then bd2 (f_X10_flattenOne t_numbers p1_length p1_shorter p1_limit p1_row) (fun (r_9 : Int32) (p1_row_10 : Nat → Int32) => some (r_9, p1_length, p1_shorter, p1_longer, p1_memory, p1_limit, p1_row_10)) else bd2 (f_X0_flattenAll p1_length p1_shorter p1_limit p1_row) (fun (r_11 : Int32) (p1_row_12 : Nat → Int32) => some (0, p1_length, p1_shorter, p1_longer, p1_memory, p1_limit, p1_row_12)))))))
theorem k_X10_doPart : KV yX10_doPart cX10_doPart 2 (some .int) 1 := ⟨qc_yX10_doPart, q6, ⟨by decide +kernel, by decide +kernel, by decide +kernel⟩, qi_yX10_doPart, qs_yX10_doPart⟩
abbrev RM_X10_doPart : Room := { frames := 4, cells := 0, slots := 0, locals := 93 }
set_option maxHeartbeats 4000000 in
set_option maxRecDepth 100000 in
theorem c_X10_doPart (l : Launch) (G : GP) (a_t : Nat) (t_letter : Int32) (t_count : Int32) (a_t_numbers : Nat) (t_numbers : Nat → Int32) (a_p1 : Nat) (p1_length : Int32) (p1_shorter : Int32) (p1_longer : Int32) (p1_memory : Int32) (p1_limit : Int32) (p1_seasonDays : Int32) (p1_stopped : Int32) (p1_stopPart : Int32) (p1_stopReason : Int32) (a_p1_row : Nat) (p1_row : Nat → Int32) (rr : Int32) (w_p1_length : Int32) (w_p1_shorter : Int32) (w_p1_longer : Int32) (w_p1_memory : Int32) (w_p1_limit : Int32) (w_p1_row : Nat → Int32) (hf : f_X10_doPart t_letter t_count t_numbers p1_length p1_shorter p1_longer p1_memory p1_limit p1_row = some (rr, w_p1_length, w_p1_shorter, w_p1_longer, w_p1_memory, w_p1_limit, w_p1_row)) : WM l yX10_doPart cX10_doPart 2 (some .int) 4 93 G [.ref a_t, .ref a_p1] [(a_t, .inr (6, [.int t_letter, .ref a_t_numbers, .int t_count])), (a_t_numbers, .inl (G.2.1, 60, .inl t_numbers)), (a_p1, .inr (2, [.ref a_p1_row, .int p1_length, .int p1_shorter, .int p1_longer, .int p1_memory, .int p1_limit, .int p1_seasonDays, .int p1_stopped, .int p1_stopPart, .int p1_stopReason])), (a_p1_row, .inl (G.2.1, 60, .inl p1_row))] (some (.int rr)) [(a_t, .inr (6, [.int t_letter, .ref a_t_numbers, .int t_count])), (a_t_numbers, .inl (G.2.1, 60, .inl t_numbers)), (a_p1, .inr (2, [.ref a_p1_row, .int w_p1_length, .int w_p1_shorter, .int w_p1_longer, .int w_p1_memory, .int w_p1_limit, .int p1_seasonDays, .int p1_stopped, .int p1_stopPart, .int p1_stopReason])), (a_p1_row, .inl (G.2.1, 60, .inl w_p1_row))] := by
  refine WM.ofW (C := RX10) (by decide) rfl (Nat.le_of_ble_eq_true rfl) ?_
  intro p e s m below meth c A hF hr hlk hG hA hP hD ls hl
  have hl : lv_has ls 2 [(0, .ref a_t), (1, .ref a_p1)] := hl
  have hx := hF.1
  have hb := hF.2.1
  have hml := hF.2.2.1
  have hown := hF.2.2.2.1
  have hts := hF.2.2.2.2
  have hS : va_S A s.heap s.heap [] := va_S.rf
  unfold f_X10_doPart at hf
  refine lv_aload_n hx hb dX10_doPart_0 rfl (lv_at hl 0 rfl) ?_
  refine gf (C := RX10) (T := TX10) (N := 3) (ci := 6) (v := .int t_letter) hF hG hP inX10 0 rfl rfl 0 (by decide) q163 rfl rfl dX10_doPart_1 ?_
  rcases Classical.em (t_letter = (108 : Int32)) with c0 | c0
  · have hf := (if_pos c0).symm.trans hf
    refine lv_tableIn (off := 91) (tgt := 95) hx hb dX10_doPart_4 (by rw [c0] <;> decide) (by rw [c0] <;> decide) (by rw [c0] <;> rfl) (by decide) ?_
    refine lv_aload_n hx hb dX10_doPart_95 rfl (lv_at hl 1 rfl) ?_
    refine lv_aload_n hx hb dX10_doPart_96 rfl (lv_at hl 0 rfl) ?_
    refine lv_iconst (v := 0) hx hb dX10_doPart_97 (by decide) ?_
    obtain ⟨r_1, hq, hf⟩ := bd1_some hf
    refine rdV (As := [.int 0]) (rest := [.ref a_p1]) hF hG hP hl.1 (c_X10_number l G a_t t_letter t_count a_t_numbers t_numbers 0 r_1 hq) k_X10_number q811 [0, 1] rfl ⟨0, 6, _, _, rfl, rfl, rfl⟩ rfl rfl (Nat.le_of_ble_eq_true rfl) ⟨(Nat.le_of_ble_eq_true rfl), (Nat.le_of_ble_eq_true rfl)⟩ ⟨(Nat.zero_le _), (Nat.zero_le _)⟩ dX10_doPart_98 ?_
    refine pfN (C := RX6) (T := TX6) (N := 10) (ci := 2) (v := .int r_1) (ty := .int) hF hG hP hD hS inX6 tyX6 tyX6_ok nmX6 2 rfl rfl 5 (by decide) n65 rfl rfl (by decide +kernel) rfl rfl (Nat.le_of_ble_eq_true rfl) dX10_doPart_101 (fun H locs hP hD hS => ?_)
    replace hP : va_P G.1 vwCl [(a_t, .inr (6, [.int t_letter, .ref a_t_numbers, .int t_count])), (a_t_numbers, .inl (G.2.1, 60, .inl t_numbers)), (a_p1, .inr (2, [.ref a_p1_row, .int p1_length, .int p1_shorter, .int p1_longer, .int p1_memory, .int r_1, .int p1_seasonDays, .int p1_stopped, .int p1_stopPart, .int p1_stopReason])), (a_p1_row, .inl (G.2.1, 60, .inl p1_row))] H := hP
    replace hD : va_D A [(a_t, .inr (6, [.int t_letter, .ref a_t_numbers, .int t_count])), (a_t_numbers, .inl (G.2.1, 60, .inl t_numbers)), (a_p1, .inr (2, [.ref a_p1_row, .int p1_length, .int p1_shorter, .int p1_longer, .int p1_memory, .int r_1, .int p1_seasonDays, .int p1_stopped, .int p1_stopPart, .int p1_stopReason])), (a_p1_row, .inl (G.2.1, 60, .inl p1_row))] := hD
    refine lv_iconst (v := 0) hx hb dX10_doPart_104 (by decide) ?_
    have hf : (some (0, p1_length, p1_shorter, p1_longer, p1_memory, r_1, p1_row) : Option (Int32 × Int32 × Int32 × Int32 × Int32 × Int32 × (Nat → Int32))) = some (rr, w_p1_length, w_p1_shorter, w_p1_longer, w_p1_memory, w_p1_limit, w_p1_row) := hf
    cases hf
    exact we_i hF hr hlk hP hD hS dX10_doPart_105 rfl
  · have hf := (if_neg c0).symm.trans hf
    rcases Classical.em (t_letter = (109 : Int32)) with c1 | c1
    · have hf := (if_pos c1).symm.trans hf
      refine lv_tableIn (off := 80) (tgt := 84) hx hb dX10_doPart_4 (by rw [c1] <;> decide) (by rw [c1] <;> decide) (by rw [c1] <;> rfl) (by decide) ?_
      refine lv_aload_n hx hb dX10_doPart_84 rfl (lv_at hl 1 rfl) ?_
      refine lv_aload_n hx hb dX10_doPart_85 rfl (lv_at hl 0 rfl) ?_
      refine lv_iconst (v := 0) hx hb dX10_doPart_86 (by decide) ?_
      obtain ⟨r_2, hq, hf⟩ := bd1_some hf
      refine rdV (As := [.int 0]) (rest := [.ref a_p1]) hF hG hP hl.1 (c_X10_number l G a_t t_letter t_count a_t_numbers t_numbers 0 r_2 hq) k_X10_number q811 [0, 1] rfl ⟨0, 6, _, _, rfl, rfl, rfl⟩ rfl rfl (Nat.le_of_ble_eq_true rfl) ⟨(Nat.le_of_ble_eq_true rfl), (Nat.le_of_ble_eq_true rfl)⟩ ⟨(Nat.zero_le _), (Nat.zero_le _)⟩ dX10_doPart_87 ?_
      refine pfN (C := RX6) (T := TX6) (N := 10) (ci := 2) (v := .int r_2) (ty := .int) hF hG hP hD hS inX6 tyX6 tyX6_ok nmX6 2 rfl rfl 4 (by decide) n61 rfl rfl (by decide +kernel) rfl rfl (Nat.le_of_ble_eq_true rfl) dX10_doPart_90 (fun H locs hP hD hS => ?_)
      replace hP : va_P G.1 vwCl [(a_t, .inr (6, [.int t_letter, .ref a_t_numbers, .int t_count])), (a_t_numbers, .inl (G.2.1, 60, .inl t_numbers)), (a_p1, .inr (2, [.ref a_p1_row, .int p1_length, .int p1_shorter, .int p1_longer, .int r_2, .int p1_limit, .int p1_seasonDays, .int p1_stopped, .int p1_stopPart, .int p1_stopReason])), (a_p1_row, .inl (G.2.1, 60, .inl p1_row))] H := hP
      replace hD : va_D A [(a_t, .inr (6, [.int t_letter, .ref a_t_numbers, .int t_count])), (a_t_numbers, .inl (G.2.1, 60, .inl t_numbers)), (a_p1, .inr (2, [.ref a_p1_row, .int p1_length, .int p1_shorter, .int p1_longer, .int r_2, .int p1_limit, .int p1_seasonDays, .int p1_stopped, .int p1_stopPart, .int p1_stopReason])), (a_p1_row, .inl (G.2.1, 60, .inl p1_row))] := hD
      refine lv_iconst (v := 0) hx hb dX10_doPart_93 (by decide) ?_
      have hf : (some (0, p1_length, p1_shorter, p1_longer, r_2, p1_limit, p1_row) : Option (Int32 × Int32 × Int32 × Int32 × Int32 × Int32 × (Nat → Int32))) = some (rr, w_p1_length, w_p1_shorter, w_p1_longer, w_p1_memory, w_p1_limit, w_p1_row) := hf
      cases hf
      exact we_i hF hr hlk hP hD hS dX10_doPart_94 rfl
    · have hf := (if_neg c1).symm.trans hf
      rcases Classical.em (t_letter = (112 : Int32)) with c2 | c2
      · have hf := (if_pos c2).symm.trans hf
        refine lv_tableIn (off := 68) (tgt := 72) hx hb dX10_doPart_4 (by rw [c2] <;> decide) (by rw [c2] <;> decide) (by rw [c2] <;> rfl) (by decide) ?_
        refine lv_aload_n hx hb dX10_doPart_72 rfl (lv_at hl 0 rfl) ?_
        refine lv_aload_n hx hb dX10_doPart_73 rfl (lv_at hl 1 rfl) ?_
        obtain ⟨r_3, p1_length_4, p1_row_5, hq, hf⟩ := bd3_some hf
        refine wrV (As := [.ref a_p1]) (rest := []) (wn := [(a_t, .inr (6, [.int t_letter, .ref a_t_numbers, .int t_count])), (a_t_numbers, .inl (G.2.1, 60, .inl t_numbers)), (a_p1, .inr (2, [.ref a_p1_row, .int p1_length_4, .int p1_shorter, .int p1_longer, .int p1_memory, .int p1_limit, .int p1_seasonDays, .int p1_stopped, .int p1_stopPart, .int p1_stopReason])), (a_p1_row, .inl (G.2.1, 60, .inl p1_row_5))]) hF hG hP hD hS hA hl.1 (c_X10_addAll l G a_t t_letter t_count a_t_numbers t_numbers a_p1 p1_length p1_shorter p1_longer p1_memory p1_limit p1_seasonDays p1_stopped p1_stopPart p1_stopReason a_p1_row p1_row r_3 p1_length_4 p1_row_5 hq) k_X10_addAll q807 [0, 1, 2, 3] [] [0, 1, 2, 3] rfl rfl rfl rfl ⟨rfl, rfl⟩ (by decide) ⟨0, 6, _, _, rfl, rfl, rfl⟩ rfl rfl (Nat.le_of_ble_eq_true rfl) ⟨(Nat.le_of_ble_eq_true rfl), (Nat.le_of_ble_eq_true rfl)⟩ ⟨(Nat.le_of_ble_eq_true rfl), (Nat.le_of_ble_eq_true rfl)⟩ dX10_doPart_74 (fun H locs hP hD hS => ?_)
        have hf : (some (r_3, p1_length_4, p1_shorter, p1_longer, p1_memory, p1_limit, p1_row_5) : Option (Int32 × Int32 × Int32 × Int32 × Int32 × Int32 × (Nat → Int32))) = some (rr, w_p1_length, w_p1_shorter, w_p1_longer, w_p1_memory, w_p1_limit, w_p1_row) := hf
        cases hf
        exact we_i hF hr hlk hP hD hS dX10_doPart_77 rfl
      · have hf := (if_neg c2).symm.trans hf
        rcases Classical.em (t_letter = (119 : Int32)) with c3 | c3
        · have hf := (if_pos c3).symm.trans hf
          refine lv_tableIn (off := 74) (tgt := 78) hx hb dX10_doPart_4 (by rw [c3] <;> decide) (by rw [c3] <;> decide) (by rw [c3] <;> rfl) (by decide) ?_
          refine lv_aload_n hx hb dX10_doPart_78 rfl (lv_at hl 0 rfl) ?_
          refine lv_aload_n hx hb dX10_doPart_79 rfl (lv_at hl 1 rfl) ?_
          obtain ⟨r_6, p1_shorter_7, p1_longer_8, hq, hf⟩ := bd3_some hf
          refine wrV (As := [.ref a_p1]) (rest := []) (wn := [(a_t, .inr (6, [.int t_letter, .ref a_t_numbers, .int t_count])), (a_t_numbers, .inl (G.2.1, 60, .inl t_numbers)), (a_p1, .inr (2, [.ref a_p1_row, .int p1_length, .int p1_shorter_7, .int p1_longer_8, .int p1_memory, .int p1_limit, .int p1_seasonDays, .int p1_stopped, .int p1_stopPart, .int p1_stopReason])), (a_p1_row, .inl (G.2.1, 60, .inl p1_row))]) hF hG hP hD hS hA hl.1 (c_X10_changeWindows l G a_t t_letter t_count a_t_numbers t_numbers a_p1 a_p1_row p1_length p1_shorter p1_longer p1_memory p1_limit p1_seasonDays p1_stopped p1_stopPart p1_stopReason r_6 p1_shorter_7 p1_longer_8 hq) k_X10_changeWindows q816 [0, 1, 2] [3] [1, 2, 3, 0] rfl rfl rfl rfl ⟨rfl, rfl⟩ (by decide) ⟨0, 6, _, _, rfl, rfl, rfl⟩ rfl rfl (Nat.le_of_ble_eq_true rfl) ⟨(Nat.le_of_ble_eq_true rfl), (Nat.le_of_ble_eq_true rfl)⟩ ⟨(Nat.le_of_ble_eq_true rfl), (Nat.le_of_ble_eq_true rfl)⟩ dX10_doPart_80 (fun H locs hP hD hS => ?_)
          have hf : (some (r_6, p1_length, p1_shorter_7, p1_longer_8, p1_memory, p1_limit, p1_row) : Option (Int32 × Int32 × Int32 × Int32 × Int32 × Int32 × (Nat → Int32))) = some (rr, w_p1_length, w_p1_shorter, w_p1_longer, w_p1_memory, w_p1_limit, w_p1_row) := hf
          cases hf
          exact we_i hF hr hlk hP hD hS dX10_doPart_83 rfl
        · have hf := (if_neg c3).symm.trans hf
          rcases Classical.em (t_letter = (120 : Int32)) with c4 | c4
          · have hf := (if_pos c4).symm.trans hf
            refine lv_tableIn (off := 102) (tgt := 106) hx hb dX10_doPart_4 (by rw [c4] <;> decide) (by rw [c4] <;> decide) (by rw [c4] <;> rfl) (by decide) ?_
            refine lv_aload_n hx hb dX10_doPart_106 rfl (lv_at hl 0 rfl) ?_
            refine lv_aload_n hx hb dX10_doPart_107 rfl (lv_at hl 1 rfl) ?_
            obtain ⟨r_9, p1_row_10, hq, hf⟩ := bd2_some hf
            refine wrV (As := [.ref a_p1]) (rest := []) (wn := [(a_t, .inr (6, [.int t_letter, .ref a_t_numbers, .int t_count])), (a_t_numbers, .inl (G.2.1, 60, .inl t_numbers)), (a_p1, .inr (2, [.ref a_p1_row, .int p1_length, .int p1_shorter, .int p1_longer, .int p1_memory, .int p1_limit, .int p1_seasonDays, .int p1_stopped, .int p1_stopPart, .int p1_stopReason])), (a_p1_row, .inl (G.2.1, 60, .inl p1_row_10))]) hF hG hP hD hS hA hl.1 (c_X10_flattenOne l G a_t t_letter t_count a_t_numbers t_numbers a_p1 p1_length p1_shorter p1_longer p1_memory p1_limit p1_seasonDays p1_stopped p1_stopPart p1_stopReason a_p1_row p1_row r_9 p1_row_10 hq) k_X10_flattenOne q820 [0, 1, 2, 3] [] [0, 1, 2, 3] rfl rfl rfl rfl ⟨rfl, rfl⟩ (by decide) ⟨0, 6, _, _, rfl, rfl, rfl⟩ rfl rfl (Nat.le_of_ble_eq_true rfl) ⟨(Nat.le_of_ble_eq_true rfl), (Nat.le_of_ble_eq_true rfl)⟩ ⟨(Nat.le_of_ble_eq_true rfl), (Nat.le_of_ble_eq_true rfl)⟩ dX10_doPart_108 (fun H locs hP hD hS => ?_)
            have hf : (some (r_9, p1_length, p1_shorter, p1_longer, p1_memory, p1_limit, p1_row_10) : Option (Int32 × Int32 × Int32 × Int32 × Int32 × Int32 × (Nat → Int32))) = some (rr, w_p1_length, w_p1_shorter, w_p1_longer, w_p1_memory, w_p1_limit, w_p1_row) := hf
            cases hf
            exact we_i hF hr hlk hP hD hS dX10_doPart_111 rfl
          · have hf := (if_neg c4).symm.trans hf
            refine sw_out (tgt := 112) hx hb dX10_doPart_4 (fun k9 h1 h2 => ?_) (by decide) ?_
            · have h3 : k9 = 108 ∨ k9 = 109 ∨ k9 = 110 ∨ k9 = 111 ∨ k9 = 112 ∨ k9 = 113 ∨ k9 = 114 ∨ k9 = 115 ∨ k9 = 116 ∨ k9 = 117 ∨ k9 = 118 ∨ k9 = 119 ∨ k9 = 120 := by omega
              rcases h3 with rfl | rfl | rfl | rfl | rfl | rfl | rfl | rfl | rfl | rfl | rfl | rfl | rfl <;> first | exact Or.inl rfl | exact Or.inr (lv_neT c0 rfl) | exact Or.inr (lv_neT c1 rfl) | exact Or.inr (lv_neT c2 rfl) | exact Or.inr (lv_neT c3 rfl) | exact Or.inr (lv_neT c4 rfl)
            refine lv_aload_n hx hb dX10_doPart_112 rfl (lv_at hl 1 rfl) ?_
            obtain ⟨r_11, p1_row_12, hq, hf⟩ := bd2_some hf
            refine wrSN (As := [.ref a_p1]) (rest := []) (wn := [(a_t, .inr (6, [.int t_letter, .ref a_t_numbers, .int t_count])), (a_t_numbers, .inl (G.2.1, 60, .inl t_numbers)), (a_p1, .inr (2, [.ref a_p1_row, .int p1_length, .int p1_shorter, .int p1_longer, .int p1_memory, .int p1_limit, .int p1_seasonDays, .int p1_stopped, .int p1_stopPart, .int p1_stopReason])), (a_p1_row, .inl (G.2.1, 60, .inl p1_row_12))]) hF hG hP hD hS hA hl.1 (c_X0_flattenAll l G a_p1 p1_length p1_shorter p1_longer p1_memory p1_limit p1_seasonDays p1_stopped p1_stopPart p1_stopReason a_p1_row p1_row r_11 p1_row_12 hq) k_X0_flattenAll n827 [2, 3] [0, 1] [0, 1, 2, 3] rfl rfl rfl rfl ⟨rfl, rfl⟩ (by decide) rfl rfl (Nat.le_of_ble_eq_true rfl) ⟨(Nat.le_of_ble_eq_true rfl), (Nat.le_of_ble_eq_true rfl)⟩ ⟨(Nat.le_of_ble_eq_true rfl), (Nat.le_of_ble_eq_true rfl)⟩ dX10_doPart_113 (fun H locs hP hD hS => ?_)
            refine lv_pop hx hb dX10_doPart_116 rfl ?_
            refine lv_iconst (v := 0) hx hb dX10_doPart_117 (by decide) ?_
            have hf : (some (0, p1_length, p1_shorter, p1_longer, p1_memory, p1_limit, p1_row_12) : Option (Int32 × Int32 × Int32 × Int32 × Int32 × Int32 × (Nat → Int32))) = some (rr, w_p1_length, w_p1_shorter, w_p1_longer, w_p1_memory, w_p1_limit, w_p1_row) := hf
            cases hf
            exact we_i hF hr hlk hP hD hS dX10_doPart_118 rfl
def l_X10_run_11 (p2_length : Int32) (p2_codes : Nat → Int32) : Nat → Int32 → Int32 → Int32 → Int32 → Int32 → Int32 → (Nat → Int32) → Int32 → Int32 → Int32 → Int32 → Int32 → (Nat → Int32) → Option (Int32 × Int32 × Int32 × Int32 × (Nat → Int32) × Int32 × Int32 × Int32 × Int32 × Int32 × (Nat → Int32))
  | 0, _, _, _, _, _, _, _, _, _, _, _, _, _ => none
  | n + 1, i3_1, i4_2, i5_3, i6_4, t_letter_5, t_count_6, t_numbers_7, p1_length_8, p1_shorter_9, p1_longer_10, p1_memory_11, p1_limit_12, p1_row_13 => (if 60 ≤ i6_4 then some (i3_1, i4_2, t_letter_5, t_count_6, t_numbers_7, p1_length_8, p1_shorter_9, p1_longer_10, p1_memory_11, p1_limit_12, p1_row_13) else (if p2_length ≤ i5_3 then some (i3_1, i4_2, t_letter_5, t_count_6, t_numbers_7, p1_length_8, p1_shorter_9, p1_longer_10, p1_memory_11, p1_limit_12, p1_row_13) else (if i4_2 = 0 then bd4 (f_X10_readPart t_letter_5 t_count_6 t_numbers_7 p2_length p2_codes i5_3) (fun (r_25 : Int32) (t_letter_26 : Int32) (t_count_27 : Int32) (t_numbers_28 : Nat → Int32) => bd7 (f_X10_doPart t_letter_26 t_count_27 t_numbers_28 p1_length_8 p1_shorter_9 p1_longer_10 p1_memory_11 p1_limit_12 p1_row_13) (fun (r_29 : Int32) (p1_length_30 : Int32) (p1_shorter_31 : Int32) (p1_longer_32 : Int32) (p1_memory_33 : Int32) (p1_limit_34 : Int32) (p1_row_35 : Nat → Int32) => (if r_29 = 0 then l_X10_run_11 p2_length p2_codes n (i6_4 + 1) r_29 r_25 (i6_4 + 1) t_letter_26 t_count_27 t_numbers_28 p1_length_30 p1_shorter_31 p1_longer_32 p1_memory_33 p1_limit_34 p1_row_35 else l_X10_run_11 p2_length p2_codes n i6_4 r_29 r_25 (i6_4 + 1) t_letter_26 t_count_27 t_numbers_28 p1_length_30 p1_shorter_31 p1_longer_32 p1_memory_33 p1_limit_34 p1_row_35))) else some (i3_1, i4_2, t_letter_5, t_count_6, t_numbers_7, p1_length_8, p1_shorter_9, p1_longer_10, p1_memory_11, p1_limit_12, p1_row_13))))
def f_X10_run (t_letter : Int32) (t_count : Int32) (t_numbers : Nat → Int32) (p1_length : Int32) (p1_shorter : Int32) (p1_longer : Int32) (p1_memory : Int32) (p1_limit : Int32) (p1_stopped : Int32) (p1_stopPart : Int32) (p1_stopReason : Int32) (p1_row : Nat → Int32) (p2_length : Int32) (p2_codes : Nat → Int32) : Option (Int32 × Int32 × Int32 × (Nat → Int32) × Int32 × Int32 × Int32 × Int32 × Int32 × Int32 × Int32 × Int32 × (Nat → Int32)) := bd11 (l_X10_run_11 p2_length p2_codes 1000 0 0 0 0 t_letter t_count t_numbers p1_length p1_shorter p1_longer p1_memory p1_limit p1_row) (fun (o3_14 : Int32) (o4_15 : Int32) (t_letter_16 : Int32) (t_count_17 : Int32) (t_numbers_18 : Nat → Int32) (p1_length_19 : Int32) (p1_shorter_20 : Int32) (p1_longer_21 : Int32) (p1_memory_22 : Int32) (p1_limit_23 : Int32) (p1_row_24 : Nat → Int32) => bd1 (if o4_15 = 0 then some 0 else some 1) (fun (j_36 : Int32) => gd (j_36 &&& 1 = j_36) (bd1 (if j_36 = 0 then some 0 else some o3_14) (fun (j_37 : Int32) => some (o3_14, t_letter_16, t_count_17, t_numbers_18, p1_length_19, p1_shorter_20, p1_longer_21, p1_memory_22, p1_limit_23, j_36, j_37, o4_15, p1_row_24)))))
theorem k_X10_run : KV yX10_run cX10_run 7 (some .int) 2 := ⟨qc_yX10_run, q6, ⟨by decide +kernel, by decide +kernel, by decide +kernel⟩, qi_yX10_run, qs_yX10_run⟩
abbrev RM_X10_run : Room := { frames := 5, cells := 0, slots := 0, locals := 114 }
set_option maxHeartbeats 4000000 in
set_option maxRecDepth 100000 in
theorem c_X10_run (l : Launch) (G : GP) (a_t : Nat) (t_letter : Int32) (t_count : Int32) (a_t_numbers : Nat) (t_numbers : Nat → Int32) (a_p1 : Nat) (p1_length : Int32) (p1_shorter : Int32) (p1_longer : Int32) (p1_memory : Int32) (p1_limit : Int32) (p1_seasonDays : Int32) (p1_stopped : Int32) (p1_stopPart : Int32) (p1_stopReason : Int32) (a_p1_row : Nat) (p1_row : Nat → Int32) (a_p2 : Nat) (p2_length : Int32) (a_p2_syntax : Nat) (a_p2_codes : Nat) (p2_codes : Nat → Int32) (rr : Int32) (w_t_letter : Int32) (w_t_count : Int32) (w_t_numbers : Nat → Int32) (w_p1_length : Int32) (w_p1_shorter : Int32) (w_p1_longer : Int32) (w_p1_memory : Int32) (w_p1_limit : Int32) (w_p1_stopped : Int32) (w_p1_stopPart : Int32) (w_p1_stopReason : Int32) (w_p1_row : Nat → Int32) (hf : f_X10_run t_letter t_count t_numbers p1_length p1_shorter p1_longer p1_memory p1_limit p1_stopped p1_stopPart p1_stopReason p1_row p2_length p2_codes = some (rr, w_t_letter, w_t_count, w_t_numbers, w_p1_length, w_p1_shorter, w_p1_longer, w_p1_memory, w_p1_limit, w_p1_stopped, w_p1_stopPart, w_p1_stopReason, w_p1_row)) : WM l yX10_run cX10_run 7 (some .int) 5 114 G [.ref a_t, .ref a_p1, .ref a_p2] [(a_t, .inr (6, [.int t_letter, .ref a_t_numbers, .int t_count])), (a_t_numbers, .inl (G.2.1, 60, .inl t_numbers)), (a_p1, .inr (2, [.ref a_p1_row, .int p1_length, .int p1_shorter, .int p1_longer, .int p1_memory, .int p1_limit, .int p1_seasonDays, .int p1_stopped, .int p1_stopPart, .int p1_stopReason])), (a_p1_row, .inl (G.2.1, 60, .inl p1_row)), (a_p2, .inr (4, [.ref a_p2_codes, .int p2_length, .ref a_p2_syntax])), (a_p2_codes, .inl (G.2.1, 60, .inl p2_codes))] (some (.int rr)) [(a_t, .inr (6, [.int w_t_letter, .ref a_t_numbers, .int w_t_count])), (a_t_numbers, .inl (G.2.1, 60, .inl w_t_numbers)), (a_p1, .inr (2, [.ref a_p1_row, .int w_p1_length, .int w_p1_shorter, .int w_p1_longer, .int w_p1_memory, .int w_p1_limit, .int p1_seasonDays, .int w_p1_stopped, .int w_p1_stopPart, .int w_p1_stopReason])), (a_p1_row, .inl (G.2.1, 60, .inl w_p1_row)), (a_p2, .inr (4, [.ref a_p2_codes, .int p2_length, .ref a_p2_syntax])), (a_p2_codes, .inl (G.2.1, 60, .inl p2_codes))] := by
  refine WM.ofW (C := RX10) (by decide) rfl (Nat.le_of_ble_eq_true rfl) ?_
  intro p e s m below meth c A hF hr hlk hG hA hP hD ls hl
  have hl : lv_has ls 7 [(0, .ref a_t), (1, .ref a_p1), (2, .ref a_p2)] := hl
  have hx := hF.1
  have hb := hF.2.1
  have hml := hF.2.2.1
  have hown := hF.2.2.2.1
  have hts := hF.2.2.2.2
  have hS : va_S A s.heap s.heap [] := va_S.rf
  unfold f_X10_run at hf
  refine lv_iconst (v := 0) hx hb dX10_run_0 (by decide) ?_
  refine lv_istore_n (lv' := [(3, .int 0), (0, .ref a_t), (1, .ref a_p1), (2, .ref a_p2)]) hx hb dX10_run_1 rfl hl (by decide) rfl (fun ls hl => ?_)
  refine lv_iconst (v := 0) hx hb dX10_run_2 (by decide) ?_
  refine lv_istore (lv' := [(4, .int 0), (3, .int 0), (0, .ref a_t), (1, .ref a_p1), (2, .ref a_p2)]) hx hb dX10_run_3 hl (by decide) rfl (fun ls hl => ?_)
  refine lv_iconst (v := 0) hx hb dX10_run_5 (by decide) ?_
  refine lv_istore (lv' := [(5, .int 0), (4, .int 0), (3, .int 0), (0, .ref a_t), (1, .ref a_p1), (2, .ref a_p2)]) hx hb dX10_run_6 hl (by decide) rfl (fun ls hl => ?_)
  refine lv_iconst (v := 0) hx hb dX10_run_8 (by decide) ?_
  refine lv_istore (lv' := [(6, .int 0), (5, .int 0), (4, .int 0), (3, .int 0), (0, .ref a_t), (1, .ref a_p1), (2, .ref a_p2)]) hx hb dX10_run_9 hl (by decide) rfl (fun ls hl => ?_)
  obtain ⟨o3_14, o4_15, t_letter_16, t_count_17, t_numbers_18, p1_length_19, p1_shorter_20, p1_longer_21, p1_memory_22, p1_limit_23, p1_row_24, hq, hf⟩ := bd11_some hf
  have K11 : ∀ (H : Heap) (locs : List Loc), va_P G.1 vwCl ([(a_t, .inr (6, [.int t_letter_16, .ref a_t_numbers, .int t_count_17])), (a_t_numbers, .inl (G.2.1, 60, .inl t_numbers_18)), (a_p1, .inr (2, [.ref a_p1_row, .int p1_length_19, .int p1_shorter_20, .int p1_longer_21, .int p1_memory_22, .int p1_limit_23, .int p1_seasonDays, .int p1_stopped, .int p1_stopPart, .int p1_stopReason])), (a_p1_row, .inl (G.2.1, 60, .inl p1_row_24)), (a_p2, .inr (4, [.ref a_p2_codes, .int p2_length, .ref a_p2_syntax])), (a_p2_codes, .inl (G.2.1, 60, .inl p2_codes))] : va_W) H → va_D A ([(a_t, .inr (6, [.int t_letter_16, .ref a_t_numbers, .int t_count_17])), (a_t_numbers, .inl (G.2.1, 60, .inl t_numbers_18)), (a_p1, .inr (2, [.ref a_p1_row, .int p1_length_19, .int p1_shorter_20, .int p1_longer_21, .int p1_memory_22, .int p1_limit_23, .int p1_seasonDays, .int p1_stopped, .int p1_stopPart, .int p1_stopReason])), (a_p1_row, .inl (G.2.1, 60, .inl p1_row_24)), (a_p2, .inr (4, [.ref a_p2_codes, .int p2_length, .ref a_p2_syntax])), (a_p2_codes, .inl (G.2.1, 60, .inl p2_codes))] : va_W) → va_S A s.heap H locs → ∀ ls : Array Slot, lv_has ls 7 [(1, .ref a_p1), (3, .int o3_14), (4, .int o4_15)] → W p l e RM_X10_run s m [.ref a_t, .ref a_p1, .ref a_p2].toArray below meth c H locs 0 0 (MQ below (wrQ (some (.int rr)) G [(a_t, .inr (6, [.int w_t_letter, .ref a_t_numbers, .int w_t_count])), (a_t_numbers, .inl (G.2.1, 60, .inl w_t_numbers)), (a_p1, .inr (2, [.ref a_p1_row, .int w_p1_length, .int w_p1_shorter, .int w_p1_longer, .int w_p1_memory, .int w_p1_limit, .int p1_seasonDays, .int w_p1_stopped, .int w_p1_stopPart, .int w_p1_stopReason])), (a_p1_row, .inl (G.2.1, 60, .inl w_p1_row)), (a_p2, .inr (4, [.ref a_p2_codes, .int p2_length, .ref a_p2_syntax])), (a_p2_codes, .inl (G.2.1, 60, .inl p2_codes))] A) [.ref a_t, .ref a_p1, .ref a_p2].toArray s 0 0 A) (F0 m 69 ls []) := by
    intro H locs hP hD hS ls hl
    refine lv_aload_n hx hb dX10_run_69 rfl (lv_at hl 0 rfl) ?_
    refine lv_iload hx hb dX10_run_70 (lv_at hl 2 rfl) ?_
    obtain ⟨j_36, hq, hf⟩ := bd1_some hf
    have J80 : ∀ (H : Heap) (locs : List Loc), va_P G.1 vwCl ([(a_t, .inr (6, [.int t_letter_16, .ref a_t_numbers, .int t_count_17])), (a_t_numbers, .inl (G.2.1, 60, .inl t_numbers_18)), (a_p1, .inr (2, [.ref a_p1_row, .int p1_length_19, .int p1_shorter_20, .int p1_longer_21, .int p1_memory_22, .int p1_limit_23, .int p1_seasonDays, .int p1_stopped, .int p1_stopPart, .int p1_stopReason])), (a_p1_row, .inl (G.2.1, 60, .inl p1_row_24)), (a_p2, .inr (4, [.ref a_p2_codes, .int p2_length, .ref a_p2_syntax])), (a_p2_codes, .inl (G.2.1, 60, .inl p2_codes))] : va_W) H → va_D A ([(a_t, .inr (6, [.int t_letter_16, .ref a_t_numbers, .int t_count_17])), (a_t_numbers, .inl (G.2.1, 60, .inl t_numbers_18)), (a_p1, .inr (2, [.ref a_p1_row, .int p1_length_19, .int p1_shorter_20, .int p1_longer_21, .int p1_memory_22, .int p1_limit_23, .int p1_seasonDays, .int p1_stopped, .int p1_stopPart, .int p1_stopReason])), (a_p1_row, .inl (G.2.1, 60, .inl p1_row_24)), (a_p2, .inr (4, [.ref a_p2_codes, .int p2_length, .ref a_p2_syntax])), (a_p2_codes, .inl (G.2.1, 60, .inl p2_codes))] : va_W) → va_S A s.heap H locs → ∀ ls : Array Slot, lv_has ls 7 [(1, .ref a_p1), (3, .int o3_14), (4, .int o4_15)] → W p l e RM_X10_run s m [.ref a_t, .ref a_p1, .ref a_p2].toArray below meth c H locs 0 0 (MQ below (wrQ (some (.int rr)) G [(a_t, .inr (6, [.int w_t_letter, .ref a_t_numbers, .int w_t_count])), (a_t_numbers, .inl (G.2.1, 60, .inl w_t_numbers)), (a_p1, .inr (2, [.ref a_p1_row, .int w_p1_length, .int w_p1_shorter, .int w_p1_longer, .int w_p1_memory, .int w_p1_limit, .int p1_seasonDays, .int w_p1_stopped, .int w_p1_stopPart, .int w_p1_stopReason])), (a_p1_row, .inl (G.2.1, 60, .inl w_p1_row)), (a_p2, .inr (4, [.ref a_p2_codes, .int p2_length, .ref a_p2_syntax])), (a_p2_codes, .inl (G.2.1, 60, .inl p2_codes))] A) [.ref a_t, .ref a_p1, .ref a_p2].toArray s 0 0 A) (F0 m 80 ls [.int j_36, .ref a_p1]) := by
      intro H locs hP hD hS ls hl
      obtain ⟨hz, hf⟩ := gd_some hf
      refine pfN (C := RX6) (T := TX6) (N := 10) (ci := 2) (v := .int j_36) (ty := .boolean) hF hG hP hD hS inX6 tyX6 tyX6_ok nmX6 2 rfl rfl 7 (by decide) n70 rfl rfl (by decide +kernel) (nar_z hz) (fit_z hz) (Nat.le_of_ble_eq_true rfl) dX10_run_80 (fun H locs hP hD hS => ?_)
      replace hP : va_P G.1 vwCl [(a_t, .inr (6, [.int t_letter_16, .ref a_t_numbers, .int t_count_17])), (a_t_numbers, .inl (G.2.1, 60, .inl t_numbers_18)), (a_p1, .inr (2, [.ref a_p1_row, .int p1_length_19, .int p1_shorter_20, .int p1_longer_21, .int p1_memory_22, .int p1_limit_23, .int p1_seasonDays, .int j_36, .int p1_stopPart, .int p1_stopReason])), (a_p1_row, .inl (G.2.1, 60, .inl p1_row_24)), (a_p2, .inr (4, [.ref a_p2_codes, .int p2_length, .ref a_p2_syntax])), (a_p2_codes, .inl (G.2.1, 60, .inl p2_codes))] H := hP
      replace hD : va_D A [(a_t, .inr (6, [.int t_letter_16, .ref a_t_numbers, .int t_count_17])), (a_t_numbers, .inl (G.2.1, 60, .inl t_numbers_18)), (a_p1, .inr (2, [.ref a_p1_row, .int p1_length_19, .int p1_shorter_20, .int p1_longer_21, .int p1_memory_22, .int p1_limit_23, .int p1_seasonDays, .int j_36, .int p1_stopPart, .int p1_stopReason])), (a_p1_row, .inl (G.2.1, 60, .inl p1_row_24)), (a_p2, .inr (4, [.ref a_p2_codes, .int p2_length, .ref a_p2_syntax])), (a_p2_codes, .inl (G.2.1, 60, .inl p2_codes))] := hD
      refine lv_aload_n hx hb dX10_run_83 rfl (lv_at hl 0 rfl) ?_
      refine lv_aload_n hx hb dX10_run_84 rfl (lv_at hl 0 rfl) ?_
      refine gfN (C := RX6) (T := TX6) (N := 10) (ci := 2) (v := .int j_36) hF hG hP inX6 2 rfl rfl 7 (by decide) n70 rfl rfl dX10_run_85 ?_
      obtain ⟨j_37, hq, hf⟩ := bd1_some hf
      have J96 : ∀ (H : Heap) (locs : List Loc), va_P G.1 vwCl ([(a_t, .inr (6, [.int t_letter_16, .ref a_t_numbers, .int t_count_17])), (a_t_numbers, .inl (G.2.1, 60, .inl t_numbers_18)), (a_p1, .inr (2, [.ref a_p1_row, .int p1_length_19, .int p1_shorter_20, .int p1_longer_21, .int p1_memory_22, .int p1_limit_23, .int p1_seasonDays, .int j_36, .int p1_stopPart, .int p1_stopReason])), (a_p1_row, .inl (G.2.1, 60, .inl p1_row_24)), (a_p2, .inr (4, [.ref a_p2_codes, .int p2_length, .ref a_p2_syntax])), (a_p2_codes, .inl (G.2.1, 60, .inl p2_codes))] : va_W) H → va_D A ([(a_t, .inr (6, [.int t_letter_16, .ref a_t_numbers, .int t_count_17])), (a_t_numbers, .inl (G.2.1, 60, .inl t_numbers_18)), (a_p1, .inr (2, [.ref a_p1_row, .int p1_length_19, .int p1_shorter_20, .int p1_longer_21, .int p1_memory_22, .int p1_limit_23, .int p1_seasonDays, .int j_36, .int p1_stopPart, .int p1_stopReason])), (a_p1_row, .inl (G.2.1, 60, .inl p1_row_24)), (a_p2, .inr (4, [.ref a_p2_codes, .int p2_length, .ref a_p2_syntax])), (a_p2_codes, .inl (G.2.1, 60, .inl p2_codes))] : va_W) → va_S A s.heap H locs → ∀ ls : Array Slot, lv_has ls 7 [(1, .ref a_p1), (3, .int o3_14), (4, .int o4_15)] → W p l e RM_X10_run s m [.ref a_t, .ref a_p1, .ref a_p2].toArray below meth c H locs 0 0 (MQ below (wrQ (some (.int rr)) G [(a_t, .inr (6, [.int w_t_letter, .ref a_t_numbers, .int w_t_count])), (a_t_numbers, .inl (G.2.1, 60, .inl w_t_numbers)), (a_p1, .inr (2, [.ref a_p1_row, .int w_p1_length, .int w_p1_shorter, .int w_p1_longer, .int w_p1_memory, .int w_p1_limit, .int p1_seasonDays, .int w_p1_stopped, .int w_p1_stopPart, .int w_p1_stopReason])), (a_p1_row, .inl (G.2.1, 60, .inl w_p1_row)), (a_p2, .inr (4, [.ref a_p2_codes, .int p2_length, .ref a_p2_syntax])), (a_p2_codes, .inl (G.2.1, 60, .inl p2_codes))] A) [.ref a_t, .ref a_p1, .ref a_p2].toArray s 0 0 A) (F0 m 96 ls [.int j_37, .ref a_p1]) := by
        intro H locs hP hD hS ls hl
        refine pfN (C := RX6) (T := TX6) (N := 10) (ci := 2) (v := .int j_37) (ty := .int) hF hG hP hD hS inX6 tyX6 tyX6_ok nmX6 2 rfl rfl 8 (by decide) n73 rfl rfl (by decide +kernel) rfl rfl (Nat.le_of_ble_eq_true rfl) dX10_run_96 (fun H locs hP hD hS => ?_)
        replace hP : va_P G.1 vwCl [(a_t, .inr (6, [.int t_letter_16, .ref a_t_numbers, .int t_count_17])), (a_t_numbers, .inl (G.2.1, 60, .inl t_numbers_18)), (a_p1, .inr (2, [.ref a_p1_row, .int p1_length_19, .int p1_shorter_20, .int p1_longer_21, .int p1_memory_22, .int p1_limit_23, .int p1_seasonDays, .int j_36, .int j_37, .int p1_stopReason])), (a_p1_row, .inl (G.2.1, 60, .inl p1_row_24)), (a_p2, .inr (4, [.ref a_p2_codes, .int p2_length, .ref a_p2_syntax])), (a_p2_codes, .inl (G.2.1, 60, .inl p2_codes))] H := hP
        replace hD : va_D A [(a_t, .inr (6, [.int t_letter_16, .ref a_t_numbers, .int t_count_17])), (a_t_numbers, .inl (G.2.1, 60, .inl t_numbers_18)), (a_p1, .inr (2, [.ref a_p1_row, .int p1_length_19, .int p1_shorter_20, .int p1_longer_21, .int p1_memory_22, .int p1_limit_23, .int p1_seasonDays, .int j_36, .int j_37, .int p1_stopReason])), (a_p1_row, .inl (G.2.1, 60, .inl p1_row_24)), (a_p2, .inr (4, [.ref a_p2_codes, .int p2_length, .ref a_p2_syntax])), (a_p2_codes, .inl (G.2.1, 60, .inl p2_codes))] := hD
        refine lv_aload_n hx hb dX10_run_99 rfl (lv_at hl 0 rfl) ?_
        refine lv_iload hx hb dX10_run_100 (lv_at hl 2 rfl) ?_
        refine pfN (C := RX6) (T := TX6) (N := 10) (ci := 2) (v := .int o4_15) (ty := .int) hF hG hP hD hS inX6 tyX6 tyX6_ok nmX6 2 rfl rfl 9 (by decide) n76 rfl rfl (by decide +kernel) rfl rfl (Nat.le_of_ble_eq_true rfl) dX10_run_102 (fun H locs hP hD hS => ?_)
        replace hP : va_P G.1 vwCl [(a_t, .inr (6, [.int t_letter_16, .ref a_t_numbers, .int t_count_17])), (a_t_numbers, .inl (G.2.1, 60, .inl t_numbers_18)), (a_p1, .inr (2, [.ref a_p1_row, .int p1_length_19, .int p1_shorter_20, .int p1_longer_21, .int p1_memory_22, .int p1_limit_23, .int p1_seasonDays, .int j_36, .int j_37, .int o4_15])), (a_p1_row, .inl (G.2.1, 60, .inl p1_row_24)), (a_p2, .inr (4, [.ref a_p2_codes, .int p2_length, .ref a_p2_syntax])), (a_p2_codes, .inl (G.2.1, 60, .inl p2_codes))] H := hP
        replace hD : va_D A [(a_t, .inr (6, [.int t_letter_16, .ref a_t_numbers, .int t_count_17])), (a_t_numbers, .inl (G.2.1, 60, .inl t_numbers_18)), (a_p1, .inr (2, [.ref a_p1_row, .int p1_length_19, .int p1_shorter_20, .int p1_longer_21, .int p1_memory_22, .int p1_limit_23, .int p1_seasonDays, .int j_36, .int j_37, .int o4_15])), (a_p1_row, .inl (G.2.1, 60, .inl p1_row_24)), (a_p2, .inr (4, [.ref a_p2_codes, .int p2_length, .ref a_p2_syntax])), (a_p2_codes, .inl (G.2.1, 60, .inl p2_codes))] := hD
        refine lv_iload_n hx hb dX10_run_105 rfl (lv_at hl 1 rfl) ?_
        have hf : (some (o3_14, t_letter_16, t_count_17, t_numbers_18, p1_length_19, p1_shorter_20, p1_longer_21, p1_memory_22, p1_limit_23, j_36, j_37, o4_15, p1_row_24) : Option (Int32 × Int32 × Int32 × (Nat → Int32) × Int32 × Int32 × Int32 × Int32 × Int32 × Int32 × Int32 × Int32 × (Nat → Int32))) = some (rr, w_t_letter, w_t_count, w_t_numbers, w_p1_length, w_p1_shorter, w_p1_longer, w_p1_memory, w_p1_limit, w_p1_stopped, w_p1_stopPart, w_p1_stopReason, w_p1_row) := hf
        cases hf
        exact we_i hF hr hlk hP hD hS dX10_run_106 rfl
      clear hf
      have hf := hq
      clear hq
      refine lv_if_eq (tgt := 95) hx hb dX10_run_88 (by decide) (fun c0 => ?_) (fun c0 => ?_)
      · have hf := (if_pos c0).symm.trans hf
        refine lv_iconst (v := 0) hx hb dX10_run_95 (by decide) ?_
        have hf : (some 0 : Option (Int32)) = some j_37 := hf
        cases hf
        exact J96 _ _ hP hD hS ls (lv_sub hl [0, 1, 2] rfl)
      · have hf := (if_neg c0).symm.trans hf
        refine lv_iload_n hx hb dX10_run_91 rfl (lv_at hl 1 rfl) ?_
        refine lv_goto (tgt := 96) hx hb dX10_run_92 (by decide) ?_
        have hf : (some o3_14 : Option (Int32)) = some j_37 := hf
        cases hf
        exact J96 _ _ hP hD hS ls (lv_sub hl [0, 1, 2] rfl)
    clear hf
    have hf := hq
    clear hq
    refine lv_if_eq (tgt := 79) hx hb dX10_run_72 (by decide) (fun c0 => ?_) (fun c0 => ?_)
    · have hf := (if_pos c0).symm.trans hf
      refine lv_iconst (v := 0) hx hb dX10_run_79 (by decide) ?_
      have hf : (some 0 : Option (Int32)) = some j_36 := hf
      cases hf
      exact J80 _ _ hP hD hS ls (lv_sub hl [0, 1, 2] rfl)
    · have hf := (if_neg c0).symm.trans hf
      refine lv_iconst (v := 1) hx hb dX10_run_75 (by decide) ?_
      refine lv_goto (tgt := 80) hx hb dX10_run_76 (by decide) ?_
      have hf : (some 1 : Option (Int32)) = some j_36 := hf
      cases hf
      exact J80 _ _ hP hD hS ls (lv_sub hl [0, 1, 2] rfl)
  clear hf
  have L11 : ∀ (n : Nat) (i3_1 : Int32) (i4_2 : Int32) (i5_3 : Int32) (i6_4 : Int32) (t_letter_5 : Int32) (t_count_6 : Int32) (t_numbers_7 : Nat → Int32) (p1_length_8 : Int32) (p1_shorter_9 : Int32) (p1_longer_10 : Int32) (p1_memory_11 : Int32) (p1_limit_12 : Int32) (p1_row_13 : Nat → Int32), l_X10_run_11 p2_length p2_codes n i3_1 i4_2 i5_3 i6_4 t_letter_5 t_count_6 t_numbers_7 p1_length_8 p1_shorter_9 p1_longer_10 p1_memory_11 p1_limit_12 p1_row_13 = some (o3_14, o4_15, t_letter_16, t_count_17, t_numbers_18, p1_length_19, p1_shorter_20, p1_longer_21, p1_memory_22, p1_limit_23, p1_row_24) → ∀ (H : Heap) (locs : List Loc), va_P G.1 vwCl ([(a_t, .inr (6, [.int t_letter_5, .ref a_t_numbers, .int t_count_6])), (a_t_numbers, .inl (G.2.1, 60, .inl t_numbers_7)), (a_p1, .inr (2, [.ref a_p1_row, .int p1_length_8, .int p1_shorter_9, .int p1_longer_10, .int p1_memory_11, .int p1_limit_12, .int p1_seasonDays, .int p1_stopped, .int p1_stopPart, .int p1_stopReason])), (a_p1_row, .inl (G.2.1, 60, .inl p1_row_13)), (a_p2, .inr (4, [.ref a_p2_codes, .int p2_length, .ref a_p2_syntax])), (a_p2_codes, .inl (G.2.1, 60, .inl p2_codes))] : va_W) H → va_D A ([(a_t, .inr (6, [.int t_letter_5, .ref a_t_numbers, .int t_count_6])), (a_t_numbers, .inl (G.2.1, 60, .inl t_numbers_7)), (a_p1, .inr (2, [.ref a_p1_row, .int p1_length_8, .int p1_shorter_9, .int p1_longer_10, .int p1_memory_11, .int p1_limit_12, .int p1_seasonDays, .int p1_stopped, .int p1_stopPart, .int p1_stopReason])), (a_p1_row, .inl (G.2.1, 60, .inl p1_row_13)), (a_p2, .inr (4, [.ref a_p2_codes, .int p2_length, .ref a_p2_syntax])), (a_p2_codes, .inl (G.2.1, 60, .inl p2_codes))] : va_W) → va_S A s.heap H locs → ∀ ls : Array Slot, lv_has ls 7 [(0, .ref a_t), (1, .ref a_p1), (2, .ref a_p2), (3, .int i3_1), (4, .int i4_2), (5, .int i5_3), (6, .int i6_4)] → W p l e RM_X10_run s m [.ref a_t, .ref a_p1, .ref a_p2].toArray below meth c H locs 0 0 (MQ below (wrQ (some (.int rr)) G [(a_t, .inr (6, [.int w_t_letter, .ref a_t_numbers, .int w_t_count])), (a_t_numbers, .inl (G.2.1, 60, .inl w_t_numbers)), (a_p1, .inr (2, [.ref a_p1_row, .int w_p1_length, .int w_p1_shorter, .int w_p1_longer, .int w_p1_memory, .int w_p1_limit, .int p1_seasonDays, .int w_p1_stopped, .int w_p1_stopPart, .int w_p1_stopReason])), (a_p1_row, .inl (G.2.1, 60, .inl w_p1_row)), (a_p2, .inr (4, [.ref a_p2_codes, .int p2_length, .ref a_p2_syntax])), (a_p2_codes, .inl (G.2.1, 60, .inl p2_codes))] A) [.ref a_t, .ref a_p1, .ref a_p2].toArray s 0 0 A) (F0 m 11 ls []) := by
    intro n
    induction n with
    | zero =>
      intro i3_1 i4_2 i5_3 i6_4 t_letter_5 t_count_6 t_numbers_7 p1_length_8 p1_shorter_9 p1_longer_10 p1_memory_11 p1_limit_12 p1_row_13 hf
      exact nomatch (show none = some (o3_14, o4_15, t_letter_16, t_count_17, t_numbers_18, p1_length_19, p1_shorter_20, p1_longer_21, p1_memory_22, p1_limit_23, p1_row_24) from hf)
    | succ n ih =>
      intro i3_1 i4_2 i5_3 i6_4 t_letter_5 t_count_6 t_numbers_7 p1_length_8 p1_shorter_9 p1_longer_10 p1_memory_11 p1_limit_12 p1_row_13 hf H locs hP hD hS ls hl
      rw [l_X10_run_11] at hf
      refine lv_iload hx hb dX10_run_11 (lv_at hl 6 rfl) ?_
      refine lv_bipush (v := 60) hx hb dX10_run_13 (by decide) ?_
      refine lv_icmp_ge (tgt := 69) hx hb dX10_run_15 (by decide) (fun c0 => ?_) (fun c0 => ?_)
      · have hf := (if_pos c0).symm.trans hf
        have hf : (some (i3_1, i4_2, t_letter_5, t_count_6, t_numbers_7, p1_length_8, p1_shorter_9, p1_longer_10, p1_memory_11, p1_limit_12, p1_row_13) : Option (Int32 × Int32 × Int32 × Int32 × (Nat → Int32) × Int32 × Int32 × Int32 × Int32 × Int32 × (Nat → Int32))) = some (o3_14, o4_15, t_letter_16, t_count_17, t_numbers_18, p1_length_19, p1_shorter_20, p1_longer_21, p1_memory_22, p1_limit_23, p1_row_24) := hf
        cases hf
        exact K11 _ _ hP hD hS ls (lv_sub hl [1, 3, 4] rfl)
      · have hf := (if_neg c0).symm.trans hf
        refine lv_iload hx hb dX10_run_18 (lv_at hl 5 rfl) ?_
        refine lv_aload_n hx hb dX10_run_20 rfl (lv_at hl 2 rfl) ?_
        refine gfN (C := RX8) (T := TX8) (N := 3) (ci := 4) (v := .int p2_length) hF hG hP inX8 4 rfl rfl 1 (by decide) n147 rfl rfl dX10_run_21 ?_
        refine lv_icmp_ge (tgt := 69) hx hb dX10_run_24 (by decide) (fun c0 => ?_) (fun c0 => ?_)
        · have hf := (if_pos c0).symm.trans hf
          have hf : (some (i3_1, i4_2, t_letter_5, t_count_6, t_numbers_7, p1_length_8, p1_shorter_9, p1_longer_10, p1_memory_11, p1_limit_12, p1_row_13) : Option (Int32 × Int32 × Int32 × Int32 × (Nat → Int32) × Int32 × Int32 × Int32 × Int32 × Int32 × (Nat → Int32))) = some (o3_14, o4_15, t_letter_16, t_count_17, t_numbers_18, p1_length_19, p1_shorter_20, p1_longer_21, p1_memory_22, p1_limit_23, p1_row_24) := hf
          cases hf
          exact K11 _ _ hP hD hS ls (lv_sub hl [1, 3, 4] rfl)
        · have hf := (if_neg c0).symm.trans hf
          refine lv_iload hx hb dX10_run_27 (lv_at hl 4 rfl) ?_
          refine lv_if_ne (tgt := 69) hx hb dX10_run_29 (by decide) (fun c0 => ?_) (fun c0 => ?_)
          · have hf := (if_neg c0).symm.trans hf
            have hf : (some (i3_1, i4_2, t_letter_5, t_count_6, t_numbers_7, p1_length_8, p1_shorter_9, p1_longer_10, p1_memory_11, p1_limit_12, p1_row_13) : Option (Int32 × Int32 × Int32 × Int32 × (Nat → Int32) × Int32 × Int32 × Int32 × Int32 × Int32 × (Nat → Int32))) = some (o3_14, o4_15, t_letter_16, t_count_17, t_numbers_18, p1_length_19, p1_shorter_20, p1_longer_21, p1_memory_22, p1_limit_23, p1_row_24) := hf
            cases hf
            exact K11 _ _ hP hD hS ls (lv_sub hl [1, 3, 4] rfl)
          · have hf := (if_pos c0).symm.trans hf
            refine lv_aload_n hx hb dX10_run_32 rfl (lv_at hl 0 rfl) ?_
            refine lv_aload_n hx hb dX10_run_33 rfl (lv_at hl 2 rfl) ?_
            refine lv_iload hx hb dX10_run_34 (lv_at hl 5 rfl) ?_
            obtain ⟨r_25, t_letter_26, t_count_27, t_numbers_28, hq, hf⟩ := bd4_some hf
            refine wrV (As := [.ref a_p2, .int i5_3]) (rest := []) (wn := [(a_t, .inr (6, [.int t_letter_26, .ref a_t_numbers, .int t_count_27])), (a_t_numbers, .inl (G.2.1, 60, .inl t_numbers_28)), (a_p1, .inr (2, [.ref a_p1_row, .int p1_length_8, .int p1_shorter_9, .int p1_longer_10, .int p1_memory_11, .int p1_limit_12, .int p1_seasonDays, .int p1_stopped, .int p1_stopPart, .int p1_stopReason])), (a_p1_row, .inl (G.2.1, 60, .inl p1_row_13)), (a_p2, .inr (4, [.ref a_p2_codes, .int p2_length, .ref a_p2_syntax])), (a_p2_codes, .inl (G.2.1, 60, .inl p2_codes))]) hF hG hP hD hS hA hl.1 (c_X10_readPart l G a_t t_letter_5 t_count_6 a_t_numbers t_numbers_7 a_p2 p2_length a_p2_syntax a_p2_codes p2_codes i5_3 r_25 t_letter_26 t_count_27 t_numbers_28 hq) k_X10_readPart q790 [0, 1, 4, 5] [2, 3] [2, 3, 0, 1, 4, 5] rfl rfl rfl rfl ⟨rfl, rfl⟩ (by decide) ⟨0, 6, _, _, rfl, rfl, rfl⟩ rfl rfl (Nat.le_of_ble_eq_true rfl) ⟨(Nat.le_of_ble_eq_true rfl), (Nat.le_of_ble_eq_true rfl)⟩ ⟨(Nat.le_of_ble_eq_true rfl), (Nat.le_of_ble_eq_true rfl)⟩ dX10_run_36 (fun H locs hP hD hS => ?_)
            refine lv_istore (lv' := [(5, .int r_25), (0, .ref a_t), (1, .ref a_p1), (2, .ref a_p2), (3, .int i3_1), (4, .int i4_2), (6, .int i6_4)]) hx hb dX10_run_39 hl (by decide) rfl (fun ls hl => ?_)
            refine lv_aload_n hx hb dX10_run_41 rfl (lv_at hl 1 rfl) ?_
            refine lv_aload_n hx hb dX10_run_42 rfl (lv_at hl 2 rfl) ?_
            obtain ⟨r_29, p1_length_30, p1_shorter_31, p1_longer_32, p1_memory_33, p1_limit_34, p1_row_35, hq, hf⟩ := bd7_some hf
            refine wrV (As := [.ref a_p1]) (rest := []) (wn := [(a_t, .inr (6, [.int t_letter_26, .ref a_t_numbers, .int t_count_27])), (a_t_numbers, .inl (G.2.1, 60, .inl t_numbers_28)), (a_p1, .inr (2, [.ref a_p1_row, .int p1_length_30, .int p1_shorter_31, .int p1_longer_32, .int p1_memory_33, .int p1_limit_34, .int p1_seasonDays, .int p1_stopped, .int p1_stopPart, .int p1_stopReason])), (a_p1_row, .inl (G.2.1, 60, .inl p1_row_35)), (a_p2, .inr (4, [.ref a_p2_codes, .int p2_length, .ref a_p2_syntax])), (a_p2_codes, .inl (G.2.1, 60, .inl p2_codes))]) hF hG hP hD hS hA hl.1 (c_X10_doPart l G a_t t_letter_26 t_count_27 a_t_numbers t_numbers_28 a_p1 p1_length_8 p1_shorter_9 p1_longer_10 p1_memory_11 p1_limit_12 p1_seasonDays p1_stopped p1_stopPart p1_stopReason a_p1_row p1_row_13 r_29 p1_length_30 p1_shorter_31 p1_longer_32 p1_memory_33 p1_limit_34 p1_row_35 hq) k_X10_doPart q803 [0, 1, 2, 3] [4, 5] [2, 3, 4, 5, 0, 1] rfl rfl rfl rfl ⟨rfl, rfl⟩ (by decide) ⟨0, 6, _, _, rfl, rfl, rfl⟩ rfl rfl (Nat.le_of_ble_eq_true rfl) ⟨(Nat.le_of_ble_eq_true rfl), (Nat.le_of_ble_eq_true rfl)⟩ ⟨(Nat.le_of_ble_eq_true rfl), (Nat.le_of_ble_eq_true rfl)⟩ dX10_run_43 (fun H locs hP hD hS => ?_)
            refine lv_istore (lv' := [(4, .int r_29), (5, .int r_25), (0, .ref a_t), (1, .ref a_p1), (2, .ref a_p2), (3, .int i3_1), (6, .int i6_4)]) hx hb dX10_run_46 hl (by decide) rfl (fun ls hl => ?_)
            refine lv_iload hx hb dX10_run_48 (lv_at hl 0 rfl) ?_
            refine lv_if_ne (tgt := 60) hx hb dX10_run_50 (by decide) (fun c0 => ?_) (fun c0 => ?_)
            · have hf := (if_neg c0).symm.trans hf
              refine lv_iload hx hb dX10_run_60 (lv_at hl 6 rfl) ?_
              refine lv_istore_n (lv' := [(3, .int i6_4), (4, .int r_29), (5, .int r_25), (0, .ref a_t), (1, .ref a_p1), (2, .ref a_p2), (6, .int i6_4)]) hx hb dX10_run_62 rfl hl (by decide) rfl (fun ls hl => ?_)
              refine lv_iinc (v := (i6_4 + 1)) (lv' := [(6, .int (i6_4 + 1)), (3, .int i6_4), (4, .int r_29), (5, .int r_25), (0, .ref a_t), (1, .ref a_p1), (2, .ref a_p2)]) hx hb dX10_run_63 hl (k := 6) rfl rfl (by decide) rfl (fun ls hl => ?_)
              refine lv_goto (tgt := 11) hx hb dX10_run_66 (by decide) ?_
              exact ih i6_4 r_29 r_25 (i6_4 + 1) t_letter_26 t_count_27 t_numbers_28 p1_length_30 p1_shorter_31 p1_longer_32 p1_memory_33 p1_limit_34 p1_row_35 hf _ _ hP hD hS ls (lv_sub hl [4, 5, 6, 1, 2, 3, 0] rfl)
            · have hf := (if_pos c0).symm.trans hf
              refine lv_iload hx hb dX10_run_53 (lv_at hl 6 rfl) ?_
              refine lv_iconst (v := 1) hx hb dX10_run_55 (by decide) ?_
              refine lv_iadd hx hb dX10_run_56 ?_
              refine lv_goto (tgt := 62) hx hb dX10_run_57 (by decide) ?_
              refine lv_istore_n (lv' := [(3, .int (i6_4 + 1)), (4, .int r_29), (5, .int r_25), (0, .ref a_t), (1, .ref a_p1), (2, .ref a_p2), (6, .int i6_4)]) hx hb dX10_run_62 rfl hl (by decide) rfl (fun ls hl => ?_)
              refine lv_iinc (v := (i6_4 + 1)) (lv' := [(6, .int (i6_4 + 1)), (3, .int (i6_4 + 1)), (4, .int r_29), (5, .int r_25), (0, .ref a_t), (1, .ref a_p1), (2, .ref a_p2)]) hx hb dX10_run_63 hl (k := 6) rfl rfl (by decide) rfl (fun ls hl => ?_)
              refine lv_goto (tgt := 11) hx hb dX10_run_66 (by decide) ?_
              exact ih (i6_4 + 1) r_29 r_25 (i6_4 + 1) t_letter_26 t_count_27 t_numbers_28 p1_length_30 p1_shorter_31 p1_longer_32 p1_memory_33 p1_limit_34 p1_row_35 hf _ _ hP hD hS ls (lv_sub hl [4, 5, 6, 1, 2, 3, 0] rfl)
  exact L11 1000 0 0 0 0 t_letter t_count t_numbers p1_length p1_shorter p1_longer p1_memory p1_limit p1_row hq _ _ hP hD hS ls (lv_sub hl [4, 5, 6, 3, 2, 1, 0] rfl)
