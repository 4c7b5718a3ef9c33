def f_X6_at (t_row : Nat → Int32) (x1 : Int32) : Option (Int32) := (if x1 < 0 then some 0 else (if 60 ≤ x1 then some 0 else gd (¬ (x1 < 0 ∨ 60 ≤ Int32.toNatClampNeg x1)) (some (t_row (Int32.toNatClampNeg x1)))))
theorem k_X6_at : KV yX6_at cX6_at 2 (some .int) 1 := ⟨qc_yX6_at, q2, ⟨by decide +kernel, by decide +kernel, by decide +kernel⟩, qi_yX6_at, qs_yX6_at⟩
abbrev RM_X6_at : Room := { frames := 0, cells := 0, slots := 0, locals := 0 }
set_option maxHeartbeats 4000000 in
set_option maxRecDepth 100000 in
theorem c_X6_at (l : Launch) (G : GP) (a_t : Nat) (t_length : Int32) (t_shorter : Int32) (t_longer : Int32) (t_memory : Int32) (t_limit : Int32) (t_seasonDays : Int32) (t_stopped : Int32) (t_stopPart : Int32) (t_stopReason : Int32) (a_t_row : Nat) (t_row : Nat → Int32) (x1 : Int32) (rr : Int32) (hf : f_X6_at t_row x1 = some rr) : RM l yX6_at cX6_at 2 (some .int) 0 0 G [.ref a_t, .int x1] [(a_t, .inr (2, [.ref a_t_row, .int t_length, .int t_shorter, .int t_longer, .int t_memory, .int t_limit, .int t_seasonDays, .int t_stopped, .int t_stopPart, .int t_stopReason])), (a_t_row, .inl (G.2.1, 60, .inl t_row))] (some (.int rr)) := by
  refine RM.ofW (C := RX6) (by decide) rfl (Nat.le_of_ble_eq_true rfl) ?_
  intro p e s m below meth c hF hr hlk hG hP ls hl
  have hl : lv_has ls 2 [(0, .ref a_t), (1, .int x1)] := hl
  have hx := hF.1
  have hb := hF.2.1
  have hml := hF.2.2.1
  have hown := hF.2.2.2.1
  have hts := hF.2.2.2.2
  unfold f_X6_at at hf
  refine lv_iload_n hx hb dX6_at_0 rfl (lv_at hl 1 rfl) ?_
  refine lv_if_lt (tgt := 22) hx hb dX6_at_1 (by decide) (fun c0 => ?_) (fun c0 => ?_)
  · have hf := (if_pos c0).symm.trans hf
    refine lv_iconst (v := 0) hx hb dX6_at_22 (by decide) ?_
    have hf : (some 0 : Option (Int32)) = some rr := hf
    cases hf
    exact re_i hF hr hlk dX6_at_23 rfl
  · have hf := (if_neg c0).symm.trans hf
    refine lv_iload_n hx hb dX6_at_4 rfl (lv_at hl 1 rfl) ?_
    refine lv_aload_n hx hb dX6_at_5 rfl (lv_at hl 0 rfl) ?_
    refine gf (C := RX6) (T := TX6) (N := 10) (ci := 2) (v := .ref a_t_row) hF hG hP inX6 0 rfl rfl 0 (by decide) q37 rfl rfl dX6_at_6 ?_
    refine va_alen (v := 60) hx hb hG.1 hP 1 0 rfl rfl rfl dX6_at_9 ?_
    refine lv_icmp_ge (tgt := 22) hx hb dX6_at_10 (by decide) (fun c0 => ?_) (fun c0 => ?_)
    · have hf := (if_pos c0).symm.trans hf
      refine lv_iconst (v := 0) hx hb dX6_at_22 (by decide) ?_
      have hf : (some 0 : Option (Int32)) = some rr := hf
      cases hf
      exact re_i hF hr hlk dX6_at_23 rfl
    · have hf := (if_neg c0).symm.trans hf
      refine lv_aload_n hx hb dX6_at_13 rfl (lv_at hl 0 rfl) ?_
      refine gf (C := RX6) (T := TX6) (N := 10) (ci := 2) (v := .ref a_t_row) hF hG hP inX6 0 rfl rfl 0 (by decide) q37 rfl rfl dX6_at_14 ?_
      refine lv_iload_n hx hb dX6_at_17 rfl (lv_at hl 1 rfl) ?_
      obtain ⟨hg, hf⟩ := gd_some hf
      refine ald_i (k := Int32.toNatClampNeg x1) hF hG hP 1 rfl rfl hg dX6_at_18 ?_
      refine lv_goto (tgt := 23) hx hb dX6_at_19 (by decide) ?_
      have hf : (some (t_row (Int32.toNatClampNeg x1)) : Option (Int32)) = some rr := hf
      cases hf
      exact re_i hF hr hlk dX6_at_23 rfl
def f_X6_hasDay (t_length : Int32) (x1 : Int32) : Option (Int32) := (if x1 < 0 then some 0 else (if t_length ≤ x1 then some 0 else some 1))
theorem k_X6_hasDay : KV yX6_hasDay cX6_hasDay 2 (some .boolean) 1 := ⟨qc_yX6_hasDay, q2, ⟨by decide +kernel, by decide +kernel, by decide +kernel⟩, qi_yX6_hasDay, qs_yX6_hasDay⟩
abbrev RM_X6_hasDay : Room := { frames := 0, cells := 0, slots := 0, locals := 0 }
set_option maxHeartbeats 4000000 in
set_option maxRecDepth 100000 in
theorem c_X6_hasDay (l : Launch) (G : GP) (a_t : Nat) (a_t_row : Nat) (t_length : Int32) (t_shorter : Int32) (t_longer : Int32) (t_memory : Int32) (t_limit : Int32) (t_seasonDays : Int32) (t_stopped : Int32) (t_stopPart : Int32) (t_stopReason : Int32) (x1 : Int32) (rr : Int32) (hf : f_X6_hasDay t_length x1 = some rr) : RM l yX6_hasDay cX6_hasDay 2 (some .boolean) 0 0 G [.ref a_t, .int x1] [(a_t, .inr (2, [.ref a_t_row, .int t_length, .int t_shorter, .int t_longer, .int t_memory, .int t_limit, .int t_seasonDays, .int t_stopped, .int t_stopPart, .int t_stopReason]))] (some (.int rr)) := by
  refine RM.ofW (C := RX6) (by decide) rfl (Nat.le_of_ble_eq_true rfl) ?_
  intro p e s m below meth c hF hr hlk hG hP ls hl
  have hl : lv_has ls 2 [(0, .ref a_t), (1, .int x1)] := hl
  have hx := hF.1
  have hb := hF.2.1
  have hml := hF.2.2.1
  have hown := hF.2.2.2.1
  have hts := hF.2.2.2.2
  unfold f_X6_hasDay at hf
  refine lv_iload_n hx hb dX6_hasDay_0 rfl (lv_at hl 1 rfl) ?_
  refine lv_if_lt (tgt := 16) hx hb dX6_hasDay_1 (by decide) (fun c0 => ?_) (fun c0 => ?_)
  · have hf := (if_pos c0).symm.trans hf
    refine lv_iconst (v := 0) hx hb dX6_hasDay_16 (by decide) ?_
    have hf : (some 0 : Option (Int32)) = some rr := hf
    cases hf
    exact re_z hF hr hlk dX6_hasDay_17 rfl rfl
  · have hf := (if_neg c0).symm.trans hf
    refine lv_iload_n hx hb dX6_hasDay_4 rfl (lv_at hl 1 rfl) ?_
    refine lv_aload_n hx hb dX6_hasDay_5 rfl (lv_at hl 0 rfl) ?_
    refine gf (C := RX6) (T := TX6) (N := 10) (ci := 2) (v := .int t_length) hF hG hP inX6 0 rfl rfl 1 (by decide) q38 rfl rfl dX6_hasDay_6 ?_
    refine lv_icmp_ge (tgt := 16) hx hb dX6_hasDay_9 (by decide) (fun c0 => ?_) (fun c0 => ?_)
    · have hf := (if_pos c0).symm.trans hf
      refine lv_iconst (v := 0) hx hb dX6_hasDay_16 (by decide) ?_
      have hf : (some 0 : Option (Int32)) = some rr := hf
      cases hf
      exact re_z hF hr hlk dX6_hasDay_17 rfl rfl
    · have hf := (if_neg c0).symm.trans hf
      refine lv_iconst (v := 1) hx hb dX6_hasDay_12 (by decide) ?_
      refine lv_goto (tgt := 17) hx hb dX6_hasDay_13 (by decide) ?_
      have hf : (some 1 : Option (Int32)) = some rr := hf
      cases hf
      exact re_z hF hr hlk dX6_hasDay_17 rfl rfl
def f_X6_partOf (t_seasonDays : Int32) (x1 : Int32) : Option (Int32) := (if t_seasonDays ≤ 0 then some 0 else gd (¬ t_seasonDays = 0) (some (x1 - x1 / t_seasonDays * t_seasonDays)))
theorem k_X6_partOf : KV yX6_partOf cX6_partOf 2 (some .int) 1 := ⟨qc_yX6_partOf, q2, ⟨by decide +kernel, by decide +kernel, by decide +kernel⟩, qi_yX6_partOf, qs_yX6_partOf⟩
abbrev RM_X6_partOf : Room := { frames := 0, cells := 0, slots := 0, locals := 0 }
set_option maxHeartbeats 4000000 in
set_option maxRecDepth 100000 in
theorem c_X6_partOf (l : Launch) (G : GP) (a_t : Nat) (a_t_row : Nat) (t_length : Int32) (t_shorter : Int32) (t_longer : Int32) (t_memory : Int32) (t_limit : Int32) (t_seasonDays : Int32) (t_stopped : Int32) (t_stopPart : Int32) (t_stopReason : Int32) (x1 : Int32) (rr : Int32) (hf : f_X6_partOf t_seasonDays x1 = some rr) : RM l yX6_partOf cX6_partOf 2 (some .int) 0 0 G [.ref a_t, .int x1] [(a_t, .inr (2, [.ref a_t_row, .int t_length, .int t_shorter, .int t_longer, .int t_memory, .int t_limit, .int t_seasonDays, .int t_stopped, .int t_stopPart, .int t_stopReason]))] (some (.int rr)) := by
  refine RM.ofW (C := RX6) (by decide) rfl (Nat.le_of_ble_eq_true rfl) ?_
  intro p e s m below meth c hF hr hlk hG hP ls hl
  have hl : lv_has ls 2 [(0, .ref a_t), (1, .int x1)] := hl
  have hx := hF.1
  have hb := hF.2.1
  have hml := hF.2.2.1
  have hown := hF.2.2.2.1
  have hts := hF.2.2.2.2
  unfold f_X6_partOf at hf
  refine lv_aload_n hx hb dX6_partOf_0 rfl (lv_at hl 0 rfl) ?_
  refine gf (C := RX6) (T := TX6) (N := 10) (ci := 2) (v := .int t_seasonDays) hF hG hP inX6 0 rfl rfl 6 (by decide) q67 rfl rfl dX6_partOf_1 ?_
  refine lv_if_le (tgt := 16) hx hb dX6_partOf_4 (by decide) (fun c0 => ?_) (fun c0 => ?_)
  · have hf := (if_pos c0).symm.trans hf
    refine lv_iconst (v := 0) hx hb dX6_partOf_16 (by decide) ?_
    have hf : (some 0 : Option (Int32)) = some rr := hf
    cases hf
    exact re_i hF hr hlk dX6_partOf_17 rfl
  · have hf := (if_neg c0).symm.trans hf
    refine lv_iload_n hx hb dX6_partOf_7 rfl (lv_at hl 1 rfl) ?_
    refine lv_aload_n hx hb dX6_partOf_8 rfl (lv_at hl 0 rfl) ?_
    refine gf (C := RX6) (T := TX6) (N := 10) (ci := 2) (v := .int t_seasonDays) hF hG hP inX6 0 rfl rfl 6 (by decide) q67 rfl rfl dX6_partOf_9 ?_
    obtain ⟨hg, hf⟩ := gd_some hf
    refine lv_irem hx hb dX6_partOf_12 hg ?_
    refine lv_goto (tgt := 17) hx hb dX6_partOf_13 (by decide) ?_
    have hf : (some (x1 - x1 / t_seasonDays * t_seasonDays) : Option (Int32)) = some rr := hf
    cases hf
    exact re_i hF hr hlk dX6_partOf_17 rfl
def f_X4_firstOf (x0 : Int32) (x1 : Int32) : Option (Int32) := (if x1 ≤ x0 then some ((x0 - x1) + 1) else some 0)
theorem k_X4_firstOf : KS yX4_firstOf cX4_firstOf 2 (some .int) 2 := ⟨qc_yX4_firstOf, q18, ⟨by decide +kernel, by decide +kernel, by decide +kernel⟩, qt_yX4_firstOf⟩
abbrev RM_X4_firstOf : Room := { frames := 0, cells := 0, slots := 0, locals := 0 }
set_option maxHeartbeats 4000000 in
set_option maxRecDepth 100000 in
theorem c_X4_firstOf (l : Launch) (G : GP) (x0 : Int32) (x1 : Int32) (rr : Int32) (hf : f_X4_firstOf x0 x1 = some rr) : RM l yX4_firstOf cX4_firstOf 2 (some .int) 0 0 G [.int x0, .int x1] [] (some (.int rr)) := by
  refine RM.ofW (C := RX4) (by decide) rfl (Nat.le_of_ble_eq_true rfl) ?_
  intro p e s m below meth c hF hr hlk hG hP ls hl
  have hl : lv_has ls 2 [(0, .int x0), (1, .int x1)] := hl
  have hx := hF.1
  have hb := hF.2.1
  have hml := hF.2.2.1
  have hown := hF.2.2.2.1
  have hts := hF.2.2.2.2
  unfold f_X4_firstOf at hf
  refine lv_iload_n hx hb dX4_firstOf_0 rfl (lv_at hl 0 rfl) ?_
  refine lv_iload_n hx hb dX4_firstOf_1 rfl (lv_at hl 1 rfl) ?_
  refine lv_icmp_ge (tgt := 9) hx hb dX4_firstOf_2 (by decide) (fun c0 => ?_) (fun c0 => ?_)
  · have hf := (if_pos c0).symm.trans hf
    refine lv_iload_n hx hb dX4_firstOf_9 rfl (lv_at hl 0 rfl) ?_
    refine lv_iload_n hx hb dX4_firstOf_10 rfl (lv_at hl 1 rfl) ?_
    refine lv_isub hx hb dX4_firstOf_11 ?_
    refine lv_iconst (v := 1) hx hb dX4_firstOf_12 (by decide) ?_
    refine lv_iadd hx hb dX4_firstOf_13 ?_
    have hf : (some ((x0 - x1) + 1) : Option (Int32)) = some rr := hf
    cases hf
    exact re_i hF hr hlk dX4_firstOf_14 rfl
  · have hf := (if_neg c0).symm.trans hf
    refine lv_iconst (v := 0) hx hb dX4_firstOf_5 (by decide) ?_
    refine lv_goto (tgt := 14) hx hb dX4_firstOf_6 (by decide) ?_
    have hf : (some 0 : Option (Int32)) = some rr := hf
    cases hf
    exact re_i hF hr hlk dX4_firstOf_14 rfl
def f_X11_divided (x0 : Int64) (x2 : Int64) : Option (Int64) := (if (lg_cmp x2 0) ≤ 0 then some 0 else gd (¬ x2 = 0) (some (x0 / x2)))
theorem k_X11_divided : KS yX11_divided cX11_divided 4 (some .long) 2 := ⟨qc_yX11_divided, q1, ⟨by decide +kernel, by decide +kernel, by decide +kernel⟩, qt_yX11_divided⟩
abbrev RM_X11_divided : Room := { frames := 0, cells := 0, slots := 0, locals := 0 }
set_option maxHeartbeats 4000000 in
set_option maxRecDepth 100000 in
theorem c_X11_divided (l : Launch) (G : GP) (x0 : Int64) (x2 : Int64) (rr : Int64) (hf : f_X11_divided x0 x2 = some rr) : RM l yX11_divided cX11_divided 4 (some .long) 0 0 G [.long x0, .long x2] [] (some (.long rr)) := by
  refine RM.ofW (C := RX11) (by decide) rfl (Nat.le_of_ble_eq_true rfl) ?_
  intro p e s m below meth c hF hr hlk hG hP ls hl
  have hl : lv_has ls 4 [(0, .long x0), (2, .long x2)] := hl
  have hx := hF.1
  have hb := hF.2.1
  have hml := hF.2.2.1
  have hown := hF.2.2.2.1
  have hts := hF.2.2.2.2
  unfold f_X11_divided at hf
  refine lv_lload_n hx hb dX11_divided_0 rfl (lv_at hl 1 rfl) ?_
  refine lv_lconst (v := 0) hx hb dX11_divided_1 (by decide) ?_
  refine W.lcmp hx hb dX11_divided_2 ?_
  refine lv_if_le (tgt := 12) hx hb dX11_divided_3 (by decide) (fun c0 => ?_) (fun c0 => ?_)
  · have hf := (if_pos c0).symm.trans hf
    refine lv_lconst (v := 0) hx hb dX11_divided_12 (by decide) ?_
    have hf : (some 0 : Option (Int64)) = some rr := hf
    cases hf
    exact re_l hF hr hlk dX11_divided_13 rfl
  · have hf := (if_neg c0).symm.trans hf
    refine lv_lload_n hx hb dX11_divided_6 rfl (lv_at hl 0 rfl) ?_
    refine lv_lload_n hx hb dX11_divided_7 rfl (lv_at hl 1 rfl) ?_
    obtain ⟨hg, hf⟩ := gd_some hf
    refine lv_ldiv hx hb dX11_divided_8 hg ?_
    refine lv_goto (tgt := 13) hx hb dX11_divided_9 (by decide) ?_
    have hf : (some (x0 / x2) : Option (Int64)) = some rr := hf
    cases hf
    exact re_l hF hr hlk dX11_divided_13 rfl
def l_X4_byAdding_12 (p0_row : Nat → Int32) (x1 : Int32) : Nat → Int64 → Int32 → Option (Int64)
  | 0, _, _ => none
  | n + 1, i4_2, i6_3 => (if x1 < i6_3 then some i4_2 else bd1 (f_X6_at p0_row i6_3) (fun (r_5 : Int32) => l_X4_byAdding_12 p0_row x1 n (i4_2 + (Int32.toInt64 r_5)) (i6_3 + 1)))
def f_X4_byAdding (p0_row : Nat → Int32) (x1 : Int32) (x2 : Int32) : Option (Int32) := bd1 (f_X4_firstOf x1 x2) (fun (r_1 : Int32) => bd1 (l_X4_byAdding_12 p0_row x1 1000 0 r_1) (fun (o4_4 : Int64) => bd1 (f_X11_divided (1000 * o4_4) (Int32.toInt64 ((x1 - r_1) + 1))) (fun (r_6 : Int64) => some (Int64.toInt32 r_6))))
theorem k_X4_byAdding : KS yX4_byAdding cX4_byAdding 7 (some .int) 3 := ⟨qc_yX4_byAdding, q18, ⟨by decide +kernel, by decide +kernel, by decide +kernel⟩, qt_yX4_byAdding⟩
abbrev RM_X4_byAdding : Room := { frames := 1, cells := 0, slots := 0, locals := 23 }
set_option maxHeartbeats 4000000 in
set_option maxRecDepth 100000 in
theorem c_X4_byAdding (l : Launch) (G : GP) (a_p0 : Nat) (p0_length : Int32) (p0_shorter : Int32) (p0_longer : Int32) (p0_memory : Int32) (p0_limit : Int32) (p0_seasonDays : Int32) (p0_stopped : Int32) (p0_stopPart : Int32) (p0_stopReason : Int32) (a_p0_row : Nat) (p0_row : Nat → Int32) (x1 : Int32) (x2 : Int32) (rr : Int32) (hf : f_X4_byAdding p0_row x1 x2 = some rr) : RM l yX4_byAdding cX4_byAdding 7 (some .int) 1 23 G [.ref a_p0, .int x1, .int x2] [(a_p0, .inr (2, [.ref a_p0_row, .int p0_length, .int p0_shorter, .int p0_longer, .int p0_memory, .int p0_limit, .int p0_seasonDays, .int p0_stopped, .int p0_stopPart, .int p0_stopReason])), (a_p0_row, .inl (G.2.1, 60, .inl p0_row))] (some (.int rr)) := by
  refine RM.ofW (C := RX4) (by decide) rfl (Nat.le_of_ble_eq_true rfl) ?_
  intro p e s m below meth c hF hr hlk hG hP ls hl
  have hl : lv_has ls 7 [(0, .ref a_p0), (1, .int x1), (2, .int x2)] := hl
  have hx := hF.1
  have hb := hF.2.1
  have hml := hF.2.2.1
  have hown := hF.2.2.2.1
  have hts := hF.2.2.2.2
  unfold f_X4_byAdding at hf
  refine lv_iload_n hx hb dX4_byAdding_0 rfl (lv_at hl 1 rfl) ?_
  refine lv_iload_n hx hb dX4_byAdding_1 rfl (lv_at hl 2 rfl) ?_
  obtain ⟨r_1, hq, hf⟩ := bd1_some hf
  refine rdS (As := [.int x1, .int x2]) (rest := []) hF hG hP hl.1 (c_X4_firstOf l G x1 x2 r_1 hq) k_X4_firstOf q386 [] rfl rfl rfl (Nat.le_of_ble_eq_true rfl) ⟨(Nat.le_of_ble_eq_true rfl), (Nat.le_of_ble_eq_true rfl)⟩ ⟨(Nat.zero_le _), (Nat.zero_le _)⟩ dX4_byAdding_2 ?_
  refine lv_istore_n (lv' := [(3, .int r_1), (0, .ref a_p0), (1, .int x1), (2, .int x2)]) hx hb dX4_byAdding_5 rfl hl (by decide) rfl (fun ls hl => ?_)
  refine lv_lconst (v := 0) hx hb dX4_byAdding_6 (by decide) ?_
  refine lv_lstore (lv' := [(4, .long 0), (3, .int r_1), (0, .ref a_p0), (1, .int x1), (2, .int x2)]) hx hb dX4_byAdding_7 hl (by decide) rfl (fun ls hl => ?_)
  refine lv_iload_n hx hb dX4_byAdding_9 rfl (lv_at hl 1 rfl) ?_
  refine lv_istore (lv' := [(6, .int r_1), (4, .long 0), (3, .int r_1), (0, .ref a_p0), (1, .int x1), (2, .int x2)]) hx hb dX4_byAdding_10 hl (by decide) rfl (fun ls hl => ?_)
  obtain ⟨o4_4, hq, hf⟩ := bd1_some hf
  have K12 : ∀ ls : Array Slot, lv_has ls 7 [(1, .int x1), (3, .int r_1), (4, .long o4_4)] → W p l e RM_X4_byAdding s m [.ref a_p0, .int x1, .int x2].toArray below meth c s.heap [] 0 0 (MQ below (rdQ (some (.int rr))) [.ref a_p0, .int x1, .int x2].toArray s 0 0 (fun _ => False)) (F0 m 36 ls []) := by
    intro ls hl
    refine lv_ldc2 (v := 1000) hx hb hown (hts _ (List.mem_cons_of_mem _ q388)) dX4_byAdding_36 ?_
    refine lv_lload hx hb dX4_byAdding_39 (lv_at hl 2 rfl) ?_
    refine lv_lmul hx hb dX4_byAdding_41 ?_
    refine lv_iload_n hx hb dX4_byAdding_42 rfl (lv_at hl 0 rfl) ?_
    refine lv_iload_n hx hb dX4_byAdding_43 rfl (lv_at hl 1 rfl) ?_
    refine lv_isub hx hb dX4_byAdding_44 ?_
    refine lv_iconst (v := 1) hx hb dX4_byAdding_45 (by decide) ?_
    refine lv_iadd hx hb dX4_byAdding_46 ?_
    refine lv_i2l (v := (Int32.toInt64 ((x1 - r_1) + 1))) hx hb dX4_byAdding_47 rfl ?_
    obtain ⟨r_6, hq, hf⟩ := bd1_some hf
    refine rdSN (As := [.long (1000 * o4_4), .long (Int32.toInt64 ((x1 - r_1) + 1))]) (rest := []) hF hG hP hl.1 (c_X11_divided l G (1000 * o4_4) (Int32.toInt64 ((x1 - r_1) + 1)) r_6 hq) k_X11_divided n389 [] rfl rfl rfl (Nat.le_of_ble_eq_true rfl) ⟨(Nat.le_of_ble_eq_true rfl), (Nat.le_of_ble_eq_true rfl)⟩ ⟨(Nat.zero_le _), (Nat.zero_le _)⟩ dX4_byAdding_48 ?_
    refine lv_l2i (v := (Int64.toInt32 r_6)) hx hb dX4_byAdding_51 rfl ?_
    have hf : (some (Int64.toInt32 r_6) : Option (Int32)) = some rr := hf
    cases hf
    exact re_i hF hr hlk dX4_byAdding_52 rfl
  clear hf
  have L12 : ∀ (n : Nat) (i4_2 : Int64) (i6_3 : Int32), l_X4_byAdding_12 p0_row x1 n i4_2 i6_3 = some o4_4 → ∀ ls : Array Slot, lv_has ls 7 [(0, .ref a_p0), (1, .int x1), (3, .int r_1), (4, .long i4_2), (6, .int i6_3)] → W p l e RM_X4_byAdding s m [.ref a_p0, .int x1, .int x2].toArray below meth c s.heap [] 0 0 (MQ below (rdQ (some (.int rr))) [.ref a_p0, .int x1, .int x2].toArray s 0 0 (fun _ => False)) (F0 m 12 ls []) := by
    intro n
    induction n with
    | zero =>
      intro i4_2 i6_3 hf
      exact nomatch (show none = some o4_4 from hf)
    | succ n ih =>
      intro i4_2 i6_3 hf ls hl
      rw [l_X4_byAdding_12] at hf
      refine lv_iload hx hb dX4_byAdding_12 (lv_at hl 4 rfl) ?_
      refine lv_iload_n hx hb dX4_byAdding_14 rfl (lv_at hl 1 rfl) ?_
      refine lv_icmp_gt (tgt := 36) hx hb dX4_byAdding_15 (by decide) (fun c0 => ?_) (fun c0 => ?_)
      · have hf := (if_pos c0).symm.trans hf
        have hf : (some i4_2 : Option (Int64)) = some o4_4 := hf
        cases hf
        exact K12 ls (lv_sub hl [1, 2, 3] rfl)
      · have hf := (if_neg c0).symm.trans hf
        refine lv_lload hx hb dX4_byAdding_18 (lv_at hl 3 rfl) ?_
        refine lv_aload_n hx hb dX4_byAdding_20 rfl (lv_at hl 0 rfl) ?_
        refine lv_iload hx hb dX4_byAdding_21 (lv_at hl 4 rfl) ?_
        obtain ⟨r_5, hq, hf⟩ := bd1_some hf
        refine rdVN (As := [.int i6_3]) (rest := [.long i4_2]) hF hG hP hl.1 (c_X6_at l G a_p0 p0_length p0_shorter p0_longer p0_memory p0_limit p0_seasonDays p0_stopped p0_stopPart p0_stopReason a_p0_row p0_row i6_3 r_5 hq) k_X6_at n387 [0, 1] rfl ⟨0, 2, _, _, rfl, rfl, rfl⟩ rfl rfl (Nat.le_of_ble_eq_true rfl) ⟨(Nat.le_of_ble_eq_true rfl), (Nat.le_of_ble_eq_true rfl)⟩ ⟨(Nat.zero_le _), (Nat.zero_le _)⟩ dX4_byAdding_23 ?_
        refine lv_i2l (v := (Int32.toInt64 r_5)) hx hb dX4_byAdding_26 rfl ?_
        refine lv_ladd hx hb dX4_byAdding_27 ?_
        refine lv_lstore (lv' := [(4, .long (i4_2 + (Int32.toInt64 r_5))), (0, .ref a_p0), (1, .int x1), (3, .int r_1), (6, .int i6_3)]) hx hb dX4_byAdding_28 hl (by decide) rfl (fun ls hl => ?_)
        refine lv_iinc (v := (i6_3 + 1)) (lv' := [(6, .int (i6_3 + 1)), (4, .long (i4_2 + (Int32.toInt64 r_5))), (0, .ref a_p0), (1, .int x1), (3, .int r_1)]) hx hb dX4_byAdding_30 hl (k := 4) rfl rfl (by decide) rfl (fun ls hl => ?_)
        refine lv_goto (tgt := 12) hx hb dX4_byAdding_33 (by decide) ?_
        exact ih (i4_2 + (Int32.toInt64 r_5)) (i6_3 + 1) hf ls (lv_sub hl [2, 3, 4, 1, 0] rfl)
  exact L12 1000 0 r_1 hq ls (lv_sub hl [3, 4, 2, 1, 0] rfl)
def l_X0_middle_48 (p0_row : Nat → Int32) (x1 : Int32) (r_6 : Int32) : Nat → Int32 → Int32 → Int32 → Option (Int32 × Int32)
  | 0, _, _, _ => none
  | n + 1, i7_7, i8_8, i9_9 => (if x1 < i9_9 then some (i7_7, i8_8) else bd1 (f_X6_at p0_row i9_9) (fun (r_12 : Int32) => (if r_6 ≤ r_12 then bd1 (f_X6_at p0_row i9_9) (fun (r_13 : Int32) => (if r_6 < r_13 then l_X0_middle_48 p0_row x1 r_6 n (i7_7 + 0) (i8_8 + 0) (i9_9 + 1) else l_X0_middle_48 p0_row x1 r_6 n (i7_7 + 0) (i8_8 + 1) (i9_9 + 1))) else bd1 (f_X6_at p0_row i9_9) (fun (r_14 : Int32) => (if r_6 < r_14 then l_X0_middle_48 p0_row x1 r_6 n (i7_7 + 1) (i8_8 + 0) (i9_9 + 1) else l_X0_middle_48 p0_row x1 r_6 n (i7_7 + 1) (i8_8 + 1) (i9_9 + 1))))))
def l_X0_middle_25 (p0_row : Nat → Int32) (x1 : Int32) (r_1 : Int32) : Nat → Int32 → Int32 → Option (Int32)
  | 0, _, _ => none
  | n + 1, i4_3, i5_4 => (if x1 < i5_4 then some i4_3 else bd1 (f_X6_at p0_row i5_4) (fun (r_6 : Int32) => bd2 (l_X0_middle_48 p0_row x1 r_6 1000 0 0 r_1) (fun (o7_10 : Int32) (o8_11 : Int32) => (if ((x1 - r_1) / 2) < o7_10 then l_X0_middle_25 p0_row x1 r_1 n i4_3 (i5_4 + 1) else (if o8_11 ≤ ((x1 - r_1) / 2) then l_X0_middle_25 p0_row x1 r_1 n i4_3 (i5_4 + 1) else l_X0_middle_25 p0_row x1 r_1 n r_6 (i5_4 + 1))))))
def f_X0_middle (p0_shorter : Int32) (p0_row : Nat → Int32) (x1 : Int32) : Option (Int32) := bd1 (f_X4_firstOf x1 p0_shorter) (fun (r_1 : Int32) => bd1 (f_X6_at p0_row x1) (fun (r_2 : Int32) => bd1 (l_X0_middle_25 p0_row x1 r_1 1000 r_2 r_1) (fun (o4_5 : Int32) => some o4_5)))
theorem k_X0_middle : KS yX0_middle cX0_middle 10 (some .int) 2 := ⟨qc_yX0_middle, q17, ⟨by decide +kernel, by decide +kernel, by decide +kernel⟩, qt_yX0_middle⟩
abbrev RM_X0_middle : Room := { frames := 1, cells := 0, slots := 0, locals := 21 }
set_option maxHeartbeats 4000000 in
set_option maxRecDepth 100000 in
theorem c_X0_middle (l : Launch) (G : GP) (a_p0 : Nat) (p0_length : Int32) (p0_shorter : Int32) (p0_longer : Int32) (p0_memory : Int32) (p0_limit : Int32) (p0_seasonDays : Int32) (p0_stopped : Int32) (p0_stopPart : Int32) (p0_stopReason : Int32) (a_p0_row : Nat) (p0_row : Nat → Int32) (x1 : Int32) (rr : Int32) (hf : f_X0_middle p0_shorter p0_row x1 = some rr) : RM l yX0_middle cX0_middle 10 (some .int) 1 21 G [.ref a_p0, .int x1] [(a_p0, .inr (2, [.ref a_p0_row, .int p0_length, .int p0_shorter, .int p0_longer, .int p0_memory, .int p0_limit, .int p0_seasonDays, .int p0_stopped, .int p0_stopPart, .int p0_stopReason])), (a_p0_row, .inl (G.2.1, 60, .inl p0_row))] (some (.int rr)) := by
  refine RM.ofW (C := RX0) (by decide) rfl (Nat.le_of_ble_eq_true rfl) ?_
  intro p e s m below meth c hF hr hlk hG hP ls hl
  have hl : lv_has ls 10 [(0, .ref a_p0), (1, .int x1)] := hl
  have hx := hF.1
  have hb := hF.2.1
  have hml := hF.2.2.1
  have hown := hF.2.2.2.1
  have hts := hF.2.2.2.2
  unfold f_X0_middle at hf
  refine lv_iload_n hx hb dX0_middle_0 rfl (lv_at hl 1 rfl) ?_
  refine lv_aload_n hx hb dX0_middle_1 rfl (lv_at hl 0 rfl) ?_
  refine gfN (C := RX6) (T := TX6) (N := 10) (ci := 2) (v := .int p0_shorter) hF hG hP inX6 0 rfl rfl 2 (by decide) n47 rfl rfl dX0_middle_2 ?_
  obtain ⟨r_1, hq, hf⟩ := bd1_some hf
  refine rdSN (As := [.int x1, .int p0_shorter]) (rest := []) hF hG hP hl.1 (c_X4_firstOf l G x1 p0_shorter r_1 hq) k_X4_firstOf n264 [] rfl rfl rfl (Nat.le_of_ble_eq_true rfl) ⟨(Nat.le_of_ble_eq_true rfl), (Nat.le_of_ble_eq_true rfl)⟩ ⟨(Nat.zero_le _), (Nat.zero_le _)⟩ dX0_middle_5 ?_
  refine lv_istore_n (lv' := [(2, .int r_1), (0, .ref a_p0), (1, .int x1)]) hx hb dX0_middle_8 rfl hl (by decide) rfl (fun ls hl => ?_)
  refine lv_iload_n hx hb dX0_middle_9 rfl (lv_at hl 2 rfl) ?_
  refine lv_iload_n hx hb dX0_middle_10 rfl (lv_at hl 0 rfl) ?_
  refine lv_isub hx hb dX0_middle_11 ?_
  refine lv_iconst (v := 2) hx hb dX0_middle_12 (by decide) ?_
  refine lv_idiv hx hb dX0_middle_13 (by decide) ?_
  refine lv_istore_n (lv' := [(3, .int ((x1 - r_1) / 2)), (2, .int r_1), (0, .ref a_p0), (1, .int x1)]) hx hb dX0_middle_14 rfl hl (by decide) rfl (fun ls hl => ?_)
  refine lv_aload_n hx hb dX0_middle_15 rfl (lv_at hl 2 rfl) ?_
  refine lv_iload_n hx hb dX0_middle_16 rfl (lv_at hl 3 rfl) ?_
  obtain ⟨r_2, hq, hf⟩ := bd1_some hf
  refine rdVN (As := [.int x1]) (rest := []) hF hG hP hl.1 (c_X6_at l G a_p0 p0_length p0_shorter p0_longer p0_memory p0_limit p0_seasonDays p0_stopped p0_stopPart p0_stopReason a_p0_row p0_row x1 r_2 hq) k_X6_at n257 [0, 1] rfl ⟨0, 2, _, _, rfl, rfl, rfl⟩ rfl rfl (Nat.le_of_ble_eq_true rfl) ⟨(Nat.le_of_ble_eq_true rfl), (Nat.le_of_ble_eq_true rfl)⟩ ⟨(Nat.zero_le _), (Nat.zero_le _)⟩ dX0_middle_17 ?_
  refine lv_istore (lv' := [(4, .int r_2), (3, .int ((x1 - r_1) / 2)), (2, .int r_1), (0, .ref a_p0), (1, .int x1)]) hx hb dX0_middle_20 hl (by decide) rfl (fun ls hl => ?_)
  refine lv_iload_n hx hb dX0_middle_22 rfl (lv_at hl 2 rfl) ?_
  refine lv_istore (lv' := [(5, .int r_1), (4, .int r_2), (3, .int ((x1 - r_1) / 2)), (2, .int r_1), (0, .ref a_p0), (1, .int x1)]) hx hb dX0_middle_23 hl (by decide) rfl (fun ls hl => ?_)
  obtain ⟨o4_5, hq, hf⟩ := bd1_some hf
  have K25 : ∀ ls : Array Slot, lv_has ls 10 [(4, .int o4_5)] → W p l e RM_X0_middle s m [.ref a_p0, .int x1].toArray below meth c s.heap [] 0 0 (MQ below (rdQ (some (.int rr))) [.ref a_p0, .int x1].toArray s 0 0 (fun _ => False)) (F0 m 124 ls []) := by
    intro ls hl
    refine lv_iload hx hb dX0_middle_124 (lv_at hl 0 rfl) ?_
    have hf : (some o4_5 : Option (Int32)) = some rr := hf
    cases hf
    exact re_i hF hr hlk dX0_middle_126 rfl
  clear hf
  have L25 : ∀ (n : Nat) (i4_3 : Int32) (i5_4 : Int32), l_X0_middle_25 p0_row x1 r_1 n i4_3 i5_4 = some o4_5 → ∀ ls : Array Slot, lv_has ls 10 [(0, .ref a_p0), (1, .int x1), (2, .int r_1), (3, .int ((x1 - r_1) / 2)), (4, .int i4_3), (5, .int i5_4)] → W p l e RM_X0_middle s m [.ref a_p0, .int x1].toArray below meth c s.heap [] 0 0 (MQ below (rdQ (some (.int rr))) [.ref a_p0, .int x1].toArray s 0 0 (fun _ => False)) (F0 m 25 ls []) := by
    intro n
    induction n with
    | zero =>
      intro i4_3 i5_4 hf
      exact nomatch (show none = some o4_5 from hf)
    | succ n ih =>
      intro i4_3 i5_4 hf ls hl
      rw [l_X0_middle_25] at hf
      refine lv_iload hx hb dX0_middle_25 (lv_at hl 5 rfl) ?_
      refine lv_iload_n hx hb dX0_middle_27 rfl (lv_at hl 1 rfl) ?_
      refine lv_icmp_gt (tgt := 124) hx hb dX0_middle_28 (by decide) (fun c0 => ?_) (fun c0 => ?_)
      · have hf := (if_pos c0).symm.trans hf
        have hf : (some i4_3 : Option (Int32)) = some o4_5 := hf
        cases hf
        exact K25 ls (lv_sub hl [4] rfl)
      · have hf := (if_neg c0).symm.trans hf
        refine lv_aload_n hx hb dX0_middle_31 rfl (lv_at hl 0 rfl) ?_
        refine lv_iload hx hb dX0_middle_32 (lv_at hl 5 rfl) ?_
        obtain ⟨r_6, hq, hf⟩ := bd1_some hf
        refine rdVN (As := [.int i5_4]) (rest := []) hF hG hP hl.1 (c_X6_at l G a_p0 p0_length p0_shorter p0_longer p0_memory p0_limit p0_seasonDays p0_stopped p0_stopPart p0_stopReason a_p0_row p0_row i5_4 r_6 hq) k_X6_at n257 [0, 1] rfl ⟨0, 2, _, _, rfl, rfl, rfl⟩ rfl rfl (Nat.le_of_ble_eq_true rfl) ⟨(Nat.le_of_ble_eq_true rfl), (Nat.le_of_ble_eq_true rfl)⟩ ⟨(Nat.zero_le _), (Nat.zero_le _)⟩ dX0_middle_34 ?_
        refine lv_istore (lv' := [(6, .int r_6), (0, .ref a_p0), (1, .int x1), (2, .int r_1), (3, .int ((x1 - r_1) / 2)), (4, .int i4_3), (5, .int i5_4)]) hx hb dX0_middle_37 hl (by decide) rfl (fun ls hl => ?_)
        refine lv_iconst (v := 0) hx hb dX0_middle_39 (by decide) ?_
        refine lv_istore (lv' := [(7, .int 0), (6, .int r_6), (0, .ref a_p0), (1, .int x1), (2, .int r_1), (3, .int ((x1 - r_1) / 2)), (4, .int i4_3), (5, .int i5_4)]) hx hb dX0_middle_40 hl (by decide) rfl (fun ls hl => ?_)
        refine lv_iconst (v := 0) hx hb dX0_middle_42 (by decide) ?_
        refine lv_istore (lv' := [(8, .int 0), (7, .int 0), (6, .int r_6), (0, .ref a_p0), (1, .int x1), (2, .int r_1), (3, .int ((x1 - r_1) / 2)), (4, .int i4_3), (5, .int i5_4)]) hx hb dX0_middle_43 hl (by decide) rfl (fun ls hl => ?_)
        refine lv_iload_n hx hb dX0_middle_45 rfl (lv_at hl 5 rfl) ?_
        refine lv_istore (lv' := [(9, .int r_1), (8, .int 0), (7, .int 0), (6, .int r_6), (0, .ref a_p0), (1, .int x1), (2, .int r_1), (3, .int ((x1 - r_1) / 2)), (4, .int i4_3), (5, .int i5_4)]) hx hb dX0_middle_46 hl (by decide) rfl (fun ls hl => ?_)
        obtain ⟨o7_10, o8_11, hq, hf⟩ := bd2_some hf
        have K48 : ∀ ls : Array Slot, lv_has ls 10 [(0, .ref a_p0), (1, .int x1), (2, .int r_1), (3, .int ((x1 - r_1) / 2)), (4, .int i4_3), (5, .int i5_4), (6, .int r_6), (7, .int o7_10), (8, .int o8_11)] → W p l e RM_X0_middle s m [.ref a_p0, .int x1].toArray below meth c s.heap [] 0 0 (MQ below (rdQ (some (.int rr))) [.ref a_p0, .int x1].toArray s 0 0 (fun _ => False)) (F0 m 102 ls []) := by
          intro ls hl
          refine lv_iload hx hb dX0_middle_102 (lv_at hl 7 rfl) ?_
          refine lv_iload_n hx hb dX0_middle_104 rfl (lv_at hl 3 rfl) ?_
          refine lv_icmp_gt (tgt := 118) hx hb dX0_middle_105 (by decide) (fun c0 => ?_) (fun c0 => ?_)
          · have hf := (if_pos c0).symm.trans hf
            refine lv_iinc (v := (i5_4 + 1)) (lv' := [(5, .int (i5_4 + 1)), (0, .ref a_p0), (1, .int x1), (2, .int r_1), (3, .int ((x1 - r_1) / 2)), (4, .int i4_3), (6, .int r_6), (7, .int o7_10), (8, .int o8_11)]) hx hb dX0_middle_118 hl (k := 5) rfl rfl (by decide) rfl (fun ls hl => ?_)
            refine lv_goto (tgt := 25) hx hb dX0_middle_121 (by decide) ?_
            exact ih i4_3 (i5_4 + 1) hf ls (lv_sub hl [1, 2, 3, 4, 5, 0] rfl)
          · have hf := (if_neg c0).symm.trans hf
            refine lv_iload hx hb dX0_middle_108 (lv_at hl 8 rfl) ?_
            refine lv_iload_n hx hb dX0_middle_110 rfl (lv_at hl 3 rfl) ?_
            refine lv_icmp_le (tgt := 118) hx hb dX0_middle_111 (by decide) (fun c0 => ?_) (fun c0 => ?_)
            · have hf := (if_pos c0).symm.trans hf
              refine lv_iinc (v := (i5_4 + 1)) (lv' := [(5, .int (i5_4 + 1)), (0, .ref a_p0), (1, .int x1), (2, .int r_1), (3, .int ((x1 - r_1) / 2)), (4, .int i4_3), (6, .int r_6), (7, .int o7_10), (8, .int o8_11)]) hx hb dX0_middle_118 hl (k := 5) rfl rfl (by decide) rfl (fun ls hl => ?_)
              refine lv_goto (tgt := 25) hx hb dX0_middle_121 (by decide) ?_
              exact ih i4_3 (i5_4 + 1) hf ls (lv_sub hl [1, 2, 3, 4, 5, 0] rfl)
            · have hf := (if_neg c0).symm.trans hf
              refine lv_iload hx hb dX0_middle_114 (lv_at hl 6 rfl) ?_
              refine lv_istore (lv' := [(4, .int r_6), (0, .ref a_p0), (1, .int x1), (2, .int r_1), (3, .int ((x1 - r_1) / 2)), (5, .int i5_4), (6, .int r_6), (7, .int o7_10), (8, .int o8_11)]) hx hb dX0_middle_116 hl (by decide) rfl (fun ls hl => ?_)
              refine lv_iinc (v := (i5_4 + 1)) (lv' := [(5, .int (i5_4 + 1)), (4, .int r_6), (0, .ref a_p0), (1, .int x1), (2, .int r_1), (3, .int ((x1 - r_1) / 2)), (6, .int r_6), (7, .int o7_10), (8, .int o8_11)]) hx hb dX0_middle_118 hl (k := 5) rfl rfl (by decide) rfl (fun ls hl => ?_)
              refine lv_goto (tgt := 25) hx hb dX0_middle_121 (by decide) ?_
              exact ih r_6 (i5_4 + 1) hf ls (lv_sub hl [2, 3, 4, 5, 1, 0] rfl)
        clear hf
        have L48 : ∀ (n : Nat) (i7_7 : Int32) (i8_8 : Int32) (i9_9 : Int32), l_X0_middle_48 p0_row x1 r_6 n i7_7 i8_8 i9_9 = some (o7_10, o8_11) → ∀ ls : Array Slot, lv_has ls 10 [(0, .ref a_p0), (1, .int x1), (2, .int r_1), (3, .int ((x1 - r_1) / 2)), (4, .int i4_3), (5, .int i5_4), (6, .int r_6), (7, .int i7_7), (8, .int i8_8), (9, .int i9_9)] → W p l e RM_X0_middle s m [.ref a_p0, .int x1].toArray below meth c s.heap [] 0 0 (MQ below (rdQ (some (.int rr))) [.ref a_p0, .int x1].toArray s 0 0 (fun _ => False)) (F0 m 48 ls []) := by
          intro n
          induction n with
          | zero =>
            intro i7_7 i8_8 i9_9 hf
            exact nomatch (show none = some (o7_10, o8_11) from hf)
          | succ n ih =>
            intro i7_7 i8_8 i9_9 hf ls hl
            rw [l_X0_middle_48] at hf
            refine lv_iload hx hb dX0_middle_48 (lv_at hl 9 rfl) ?_
            refine lv_iload_n hx hb dX0_middle_50 rfl (lv_at hl 1 rfl) ?_
            refine lv_icmp_gt (tgt := 102) hx hb dX0_middle_51 (by decide) (fun c0 => ?_) (fun c0 => ?_)
            · have hf := (if_pos c0).symm.trans hf
              have hf : (some (i7_7, i8_8) : Option (Int32 × Int32)) = some (o7_10, o8_11) := hf
              cases hf
              exact K48 ls (lv_sub hl [0, 1, 2, 3, 4, 5, 6, 7, 8] rfl)
            · have hf := (if_neg c0).symm.trans hf
              refine lv_iload hx hb dX0_middle_54 (lv_at hl 7 rfl) ?_
              refine lv_aload_n hx hb dX0_middle_56 rfl (lv_at hl 0 rfl) ?_
              refine lv_iload hx hb dX0_middle_57 (lv_at hl 9 rfl) ?_
              obtain ⟨r_12, hq, hf⟩ := bd1_some hf
              refine rdVN (As := [.int i9_9]) (rest := [.int i7_7]) hF hG hP hl.1 (c_X6_at l G a_p0 p0_length p0_shorter p0_longer p0_memory p0_limit p0_seasonDays p0_stopped p0_stopPart p0_stopReason a_p0_row p0_row i9_9 r_12 hq) k_X6_at n257 [0, 1] rfl ⟨0, 2, _, _, rfl, rfl, rfl⟩ rfl rfl (Nat.le_of_ble_eq_true rfl) ⟨(Nat.le_of_ble_eq_true rfl), (Nat.le_of_ble_eq_true rfl)⟩ ⟨(Nat.zero_le _), (Nat.zero_le _)⟩ dX0_middle_59 ?_
              refine lv_iload hx hb dX0_middle_62 (lv_at hl 6 rfl) ?_
              refine lv_icmp_ge (tgt := 71) hx hb dX0_middle_64 (by decide) (fun c0 => ?_) (fun c0 => ?_)
              · have hf := (if_pos c0).symm.trans hf
                refine lv_iconst (v := 0) hx hb dX0_middle_71 (by decide) ?_
                refine lv_iadd hx hb dX0_middle_72 ?_
                refine lv_istore (lv' := [(7, .int (i7_7 + 0)), (0, .ref a_p0), (1, .int x1), (2, .int r_1), (3, .int ((x1 - r_1) / 2)), (4, .int i4_3), (5, .int i5_4), (6, .int r_6), (8, .int i8_8), (9, .int i9_9)]) hx hb dX0_middle_73 hl (by decide) rfl (fun ls hl => ?_)
                refine lv_iload hx hb dX0_middle_75 (lv_at hl 8 rfl) ?_
                refine lv_aload_n hx hb dX0_middle_77 rfl (lv_at hl 1 rfl) ?_
                refine lv_iload hx hb dX0_middle_78 (lv_at hl 9 rfl) ?_
                obtain ⟨r_13, hq, hf⟩ := bd1_some hf
                refine rdVN (As := [.int i9_9]) (rest := [.int i8_8]) hF hG hP hl.1 (c_X6_at l G a_p0 p0_length p0_shorter p0_longer p0_memory p0_limit p0_seasonDays p0_stopped p0_stopPart p0_stopReason a_p0_row p0_row i9_9 r_13 hq) k_X6_at n257 [0, 1] rfl ⟨0, 2, _, _, rfl, rfl, rfl⟩ rfl rfl (Nat.le_of_ble_eq_true rfl) ⟨(Nat.le_of_ble_eq_true rfl), (Nat.le_of_ble_eq_true rfl)⟩ ⟨(Nat.zero_le _), (Nat.zero_le _)⟩ dX0_middle_80 ?_
                refine lv_iload hx hb dX0_middle_83 (lv_at hl 7 rfl) ?_
                refine lv_icmp_gt (tgt := 92) hx hb dX0_middle_85 (by decide) (fun c0 => ?_) (fun c0 => ?_)
                · have hf := (if_pos c0).symm.trans hf
                  refine lv_iconst (v := 0) hx hb dX0_middle_92 (by decide) ?_
                  refine lv_iadd hx hb dX0_middle_93 ?_
                  refine lv_istore (lv' := [(8, .int (i8_8 + 0)), (7, .int (i7_7 + 0)), (0, .ref a_p0), (1, .int x1), (2, .int r_1), (3, .int ((x1 - r_1) / 2)), (4, .int i4_3), (5, .int i5_4), (6, .int r_6), (9, .int i9_9)]) hx hb dX0_middle_94 hl (by decide) rfl (fun ls hl => ?_)
                  refine lv_iinc (v := (i9_9 + 1)) (lv' := [(9, .int (i9_9 + 1)), (8, .int (i8_8 + 0)), (7, .int (i7_7 + 0)), (0, .ref a_p0), (1, .int x1), (2, .int r_1), (3, .int ((x1 - r_1) / 2)), (4, .int i4_3), (5, .int i5_4), (6, .int r_6)]) hx hb dX0_middle_96 hl (k := 9) rfl rfl (by decide) rfl (fun ls hl => ?_)
                  refine lv_goto (tgt := 48) hx hb dX0_middle_99 (by decide) ?_
                  exact ih (i7_7 + 0) (i8_8 + 0) (i9_9 + 1) hf ls (lv_sub hl [3, 4, 5, 6, 7, 8, 9, 2, 1, 0] rfl)
                · have hf := (if_neg c0).symm.trans hf
                  refine lv_iconst (v := 1) hx hb dX0_middle_88 (by decide) ?_
                  refine lv_goto (tgt := 93) hx hb dX0_middle_89 (by decide) ?_
                  refine lv_iadd hx hb dX0_middle_93 ?_
                  refine lv_istore (lv' := [(8, .int (i8_8 + 1)), (7, .int (i7_7 + 0)), (0, .ref a_p0), (1, .int x1), (2, .int r_1), (3, .int ((x1 - r_1) / 2)), (4, .int i4_3), (5, .int i5_4), (6, .int r_6), (9, .int i9_9)]) hx hb dX0_middle_94 hl (by decide) rfl (fun ls hl => ?_)
                  refine lv_iinc (v := (i9_9 + 1)) (lv' := [(9, .int (i9_9 + 1)), (8, .int (i8_8 + 1)), (7, .int (i7_7 + 0)), (0, .ref a_p0), (1, .int x1), (2, .int r_1), (3, .int ((x1 - r_1) / 2)), (4, .int i4_3), (5, .int i5_4), (6, .int r_6)]) hx hb dX0_middle_96 hl (k := 9) rfl rfl (by decide) rfl (fun ls hl => ?_)
                  refine lv_goto (tgt := 48) hx hb dX0_middle_99 (by decide) ?_
                  exact ih (i7_7 + 0) (i8_8 + 1) (i9_9 + 1) hf ls (lv_sub hl [3, 4, 5, 6, 7, 8, 9, 2, 1, 0] rfl)
              · have hf := (if_neg c0).symm.trans hf
                refine lv_iconst (v := 1) hx hb dX0_middle_67 (by decide) ?_
                refine lv_goto (tgt := 72) hx hb dX0_middle_68 (by decide) ?_
                refine lv_iadd hx hb dX0_middle_72 ?_
                refine lv_istore (lv' := [(7, .int (i7_7 + 1)), (0, .ref a_p0), (1, .int x1), (2, .int r_1), (3, .int ((x1 - r_1) / 2)), (4, .int i4_3), (5, .int i5_4), (6, .int r_6), (8, .int i8_8), (9, .int i9_9)]) hx hb dX0_middle_73 hl (by decide) rfl (fun ls hl => ?_)
                refine lv_iload hx hb dX0_middle_75 (lv_at hl 8 rfl) ?_
                refine lv_aload_n hx hb dX0_middle_77 rfl (lv_at hl 1 rfl) ?_
                refine lv_iload hx hb dX0_middle_78 (lv_at hl 9 rfl) ?_
                obtain ⟨r_14, hq, hf⟩ := bd1_some hf
                refine rdVN (As := [.int i9_9]) (rest := [.int i8_8]) hF hG hP hl.1 (c_X6_at l G a_p0 p0_length p0_shorter p0_longer p0_memory p0_limit p0_seasonDays p0_stopped p0_stopPart p0_stopReason a_p0_row p0_row i9_9 r_14 hq) k_X6_at n257 [0, 1] rfl ⟨0, 2, _, _, rfl, rfl, rfl⟩ rfl rfl (Nat.le_of_ble_eq_true rfl) ⟨(Nat.le_of_ble_eq_true rfl), (Nat.le_of_ble_eq_true rfl)⟩ ⟨(Nat.zero_le _), (Nat.zero_le _)⟩ dX0_middle_80 ?_
                refine lv_iload hx hb dX0_middle_83 (lv_at hl 7 rfl) ?_
                refine lv_icmp_gt (tgt := 92) hx hb dX0_middle_85 (by decide) (fun c0 => ?_) (fun c0 => ?_)
                · have hf := (if_pos c0).symm.trans hf
                  refine lv_iconst (v := 0) hx hb dX0_middle_92 (by decide) ?_
                  refine lv_iadd hx hb dX0_middle_93 ?_
                  refine lv_istore (lv' := [(8, .int (i8_8 + 0)), (7, .int (i7_7 + 1)), (0, .ref a_p0), (1, .int x1), (2, .int r_1), (3, .int ((x1 - r_1) / 2)), (4, .int i4_3), (5, .int i5_4), (6, .int r_6), (9, .int i9_9)]) hx hb dX0_middle_94 hl (by decide) rfl (fun ls hl => ?_)
                  refine lv_iinc (v := (i9_9 + 1)) (lv' := [(9, .int (i9_9 + 1)), (8, .int (i8_8 + 0)), (7, .int (i7_7 + 1)), (0, .ref a_p0), (1, .int x1), (2, .int r_1), (3, .int ((x1 - r_1) / 2)), (4, .int i4_3), (5, .int i5_4), (6, .int r_6)]) hx hb dX0_middle_96 hl (k := 9) rfl rfl (by decide) rfl (fun ls hl => ?_)
                  refine lv_goto (tgt := 48) hx hb dX0_middle_99 (by decide) ?_
                  exact ih (i7_7 + 1) (i8_8 + 0) (i9_9 + 1) hf ls (lv_sub hl [3, 4, 5, 6, 7, 8, 9, 2, 1, 0] rfl)
                · have hf := (if_neg c0).symm.trans hf
                  refine lv_iconst (v := 1) hx hb dX0_middle_88 (by decide) ?_
                  refine lv_goto (tgt := 93) hx hb dX0_middle_89 (by decide) ?_
                  refine lv_iadd hx hb dX0_middle_93 ?_
                  refine lv_istore (lv' := [(8, .int (i8_8 + 1)), (7, .int (i7_7 + 1)), (0, .ref a_p0), (1, .int x1), (2, .int r_1), (3, .int ((x1 - r_1) / 2)), (4, .int i4_3), (5, .int i5_4), (6, .int r_6), (9, .int i9_9)]) hx hb dX0_middle_94 hl (by decide) rfl (fun ls hl => ?_)
                  refine lv_iinc (v := (i9_9 + 1)) (lv' := [(9, .int (i9_9 + 1)), (8, .int (i8_8 + 1)), (7, .int (i7_7 + 1)), (0, .ref a_p0), (1, .int x1), (2, .int r_1), (3, .int ((x1 - r_1) / 2)), (4, .int i4_3), (5, .int i5_4), (6, .int r_6)]) hx hb dX0_middle_96 hl (k := 9) rfl rfl (by decide) rfl (fun ls hl => ?_)
                  refine lv_goto (tgt := 48) hx hb dX0_middle_99 (by decide) ?_
                  exact ih (i7_7 + 1) (i8_8 + 1) (i9_9 + 1) hf ls (lv_sub hl [3, 4, 5, 6, 7, 8, 9, 2, 1, 0] rfl)
        exact L48 1000 0 0 r_1 hq ls (lv_sub hl [4, 5, 6, 7, 8, 9, 3, 2, 1, 0] rfl)
  exact L25 1000 r_2 r_1 hq ls (lv_sub hl [4, 5, 3, 2, 1, 0] rfl)
