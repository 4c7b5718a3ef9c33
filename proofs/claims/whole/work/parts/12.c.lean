def l_X0_number_4 (p0_length : Int32) (p0_shorter : Int32) (p0_limit : Int32) (p0_row : Nat → Int32) : Nat → Int32 → Int32 → Option (Int32)
  | 0, _, _ => none
  | n + 1, i1_1, i2_2 => (if p0_length ≤ i2_2 then some i1_1 else bd1 (f_X0_standsOut p0_shorter p0_limit p0_row i2_2) (fun (r_4 : Int32) => (if r_4 = 0 then l_X0_number_4 p0_length p0_shorter p0_limit p0_row n i1_1 (i2_2 + 1) else l_X0_number_4 p0_length p0_shorter p0_limit p0_row n (i1_1 + 1) (i2_2 + 1))))
def f_X0_number (p0_length : Int32) (p0_shorter : Int32) (p0_limit : Int32) (p0_row : Nat → Int32) : Option (Int32) := bd1 (l_X0_number_4 p0_length p0_shorter p0_limit p0_row 1000 0 0) (fun (o1_3 : Int32) => some o1_3)
theorem k_X0_number : KS yX0_number cX0_number 3 (some .int) 1 := ⟨qc_yX0_number, q17, ⟨by decide +kernel, by decide +kernel, by decide +kernel⟩, qt_yX0_number⟩
abbrev RM_X0_number : Room := { frames := 3, cells := 0, slots := 0, locals := 71 }
set_option maxHeartbeats 4000000 in
set_option maxRecDepth 100000 in
theorem c_X0_number (l : Launch) (G : GP) (a_p0 : Nat) (p0_length : Int32) (p0_shorter : Int32) (p0_longer : Int32) (p0_memory : Int32) (p0_limit : Int32) (p0_seasonDays : Int32) (p0_stopped : Int32) (p0_stopPart : Int32) (p0_stopReason : Int32) (a_p0_row : Nat) (p0_row : Nat → Int32) (rr : Int32) (hf : f_X0_number p0_length p0_shorter p0_limit p0_row = some rr) : RM l yX0_number cX0_number 3 (some .int) 3 71 G [.ref a_p0] [(a_p0, .inr (2, [.ref a_p0_row, .int p0_length, .int p0_shorter, .int p0_longer, .int p0_memory, .int p0_limit, .int p0_seasonDays, .int p0_stopped, .int p0_stopPart, .int p0_stopReason])), (a_p0_row, .inl (G.2.1, 60, .inl p0_row))] (some (.int rr)) := by
  refine RM.ofW (C := RX0) (by decide) rfl (Nat.le_of_ble_eq_true rfl) ?_
  intro p e s m below meth c hF hr hlk hG hP ls hl
  have hl : lv_has ls 3 [(0, .ref a_p0)] := hl
  have hx := hF.1
  have hb := hF.2.1
  have hml := hF.2.2.1
  have hown := hF.2.2.2.1
  have hts := hF.2.2.2.2
  unfold f_X0_number at hf
  refine lv_iconst (v := 0) hx hb dX0_number_0 (by decide) ?_
  refine lv_istore_n (lv' := [(1, .int 0), (0, .ref a_p0)]) hx hb dX0_number_1 rfl hl (by decide) rfl (fun ls hl => ?_)
  refine lv_iconst (v := 0) hx hb dX0_number_2 (by decide) ?_
  refine lv_istore_n (lv' := [(2, .int 0), (1, .int 0), (0, .ref a_p0)]) hx hb dX0_number_3 rfl hl (by decide) rfl (fun ls hl => ?_)
  obtain ⟨o1_3, hq, hf⟩ := bd1_some hf
  have K4 : ∀ ls : Array Slot, lv_has ls 3 [(1, .int o1_3)] → W p l e RM_X0_number s m [.ref a_p0].toArray below meth c s.heap [] 0 0 (MQ below (rdQ (some (.int rr))) [.ref a_p0].toArray s 0 0 (fun _ => False)) (F0 m 29 ls []) := by
    intro ls hl
    refine lv_iload_n hx hb dX0_number_29 rfl (lv_at hl 0 rfl) ?_
    have hf : (some o1_3 : Option (Int32)) = some rr := hf
    cases hf
    exact re_i hF hr hlk dX0_number_30 rfl
  clear hf
  have L4 : ∀ (n : Nat) (i1_1 : Int32) (i2_2 : Int32), l_X0_number_4 p0_length p0_shorter p0_limit p0_row n i1_1 i2_2 = some o1_3 → ∀ ls : Array Slot, lv_has ls 3 [(0, .ref a_p0), (1, .int i1_1), (2, .int i2_2)] → W p l e RM_X0_number s m [.ref a_p0].toArray below meth c s.heap [] 0 0 (MQ below (rdQ (some (.int rr))) [.ref a_p0].toArray s 0 0 (fun _ => False)) (F0 m 4 ls []) := by
    intro n
    induction n with
    | zero =>
      intro i1_1 i2_2 hf
      exact nomatch (show none = some o1_3 from hf)
    | succ n ih =>
      intro i1_1 i2_2 hf ls hl
      rw [l_X0_number_4] at hf
      refine lv_iload_n hx hb dX0_number_4 rfl (lv_at hl 2 rfl) ?_
      refine lv_aload_n hx hb dX0_number_5 rfl (lv_at hl 0 rfl) ?_
      refine gfN (C := RX6) (T := TX6) (N := 10) (ci := 2) (v := .int p0_length) hF hG hP inX6 0 rfl rfl 1 (by decide) n41 rfl rfl dX0_number_6 ?_
      refine lv_icmp_ge (tgt := 29) hx hb dX0_number_9 (by decide) (fun c0 => ?_) (fun c0 => ?_)
      · have hf := (if_pos c0).symm.trans hf
        have hf : (some i1_1 : Option (Int32)) = some o1_3 := hf
        cases hf
        exact K4 ls (lv_sub hl [1] rfl)
      · have hf := (if_neg c0).symm.trans hf
        refine lv_aload_n hx hb dX0_number_12 rfl (lv_at hl 0 rfl) ?_
        refine lv_iload_n hx hb dX0_number_13 rfl (lv_at hl 2 rfl) ?_
        obtain ⟨r_4, hq, hf⟩ := bd1_some hf
        refine rdS (As := [.ref a_p0, .int i2_2]) (rest := []) hF hG hP hl.1 (c_X0_standsOut l G a_p0 p0_length p0_shorter p0_longer p0_memory p0_limit p0_seasonDays p0_stopped p0_stopPart p0_stopReason a_p0_row p0_row i2_2 r_4 hq) k_X0_standsOut q254 [0, 1] rfl rfl rfl (Nat.le_of_ble_eq_true rfl) ⟨(Nat.le_of_ble_eq_true rfl), (Nat.le_of_ble_eq_true rfl)⟩ ⟨(Nat.zero_le _), (Nat.zero_le _)⟩ dX0_number_14 ?_
        refine lv_if_eq (tgt := 23) hx hb dX0_number_17 (by decide) (fun c0 => ?_) (fun c0 => ?_)
        · have hf := (if_pos c0).symm.trans hf
          refine lv_iinc (v := (i2_2 + 1)) (lv' := [(2, .int (i2_2 + 1)), (0, .ref a_p0), (1, .int i1_1)]) hx hb dX0_number_23 hl (k := 2) rfl rfl (by decide) rfl (fun ls hl => ?_)
          refine lv_goto (tgt := 4) hx hb dX0_number_26 (by decide) ?_
          exact ih i1_1 (i2_2 + 1) hf ls (lv_sub hl [1, 2, 0] rfl)
        · have hf := (if_neg c0).symm.trans hf
          refine lv_iinc (v := (i1_1 + 1)) (lv' := [(1, .int (i1_1 + 1)), (0, .ref a_p0), (2, .int i2_2)]) hx hb dX0_number_20 hl (k := 1) rfl rfl (by decide) rfl (fun ls hl => ?_)
          refine lv_iinc (v := (i2_2 + 1)) (lv' := [(2, .int (i2_2 + 1)), (1, .int (i1_1 + 1)), (0, .ref a_p0)]) hx hb dX0_number_23 hl (k := 2) rfl rfl (by decide) rfl (fun ls hl => ?_)
          refine lv_goto (tgt := 4) hx hb dX0_number_26 (by decide) ?_
          exact ih (i1_1 + 1) (i2_2 + 1) hf ls (lv_sub hl [2, 1, 0] rfl)
  exact L4 1000 0 0 hq ls (lv_sub hl [2, 1, 0] rfl)
def f_X11_creases (t_now_length : Int32) (t_now_shorter : Int32) (t_now_limit : Int32) (t_now_row : Nat → Int32) : Option (Int32) := bd1 (f_X0_number t_now_length t_now_shorter t_now_limit t_now_row) (fun (r_1 : Int32) => some r_1)
theorem k_X11_creases : KV yX11_creases cX11_creases 1 (some .int) 0 := ⟨qc_yX11_creases, q1, ⟨by decide +kernel, by decide +kernel, by decide +kernel⟩, qi_yX11_creases, qs_yX11_creases⟩
abbrev RM_X11_creases : Room := { frames := 4, cells := 0, slots := 0, locals := 93 }
set_option maxHeartbeats 4000000 in
set_option maxRecDepth 100000 in
theorem c_X11_creases (l : Launch) (G : GP) (a_t : Nat) (a_t_trial : Nat) (a_t_snapshot : Nat) (t_snapshotTaken : Int32) (a_t_history : Nat) (a_t_text : Nat) (a_t_works : Nat) (a_t_highs : Nat) (a_t_trade : Nat) (a_t_now : Nat) (t_now_length : Int32) (t_now_shorter : Int32) (t_now_longer : Int32) (t_now_memory : Int32) (t_now_limit : Int32) (t_now_seasonDays : Int32) (t_now_stopped : Int32) (t_now_stopPart : Int32) (t_now_stopReason : Int32) (a_t_now_row : Nat) (t_now_row : Nat → Int32) (rr : Int32) (hf : f_X11_creases t_now_length t_now_shorter t_now_limit t_now_row = some rr) : RM l yX11_creases cX11_creases 1 (some .int) 4 93 G [.ref a_t] [(a_t, .inr (7, [.ref a_t_now, .ref a_t_trial, .ref a_t_snapshot, .int t_snapshotTaken, .ref a_t_history, .ref a_t_text, .ref a_t_works, .ref a_t_highs, .ref a_t_trade])), (a_t_now, .inr (2, [.ref a_t_now_row, .int t_now_length, .int t_now_shorter, .int t_now_longer, .int t_now_memory, .int t_now_limit, .int t_now_seasonDays, .int t_now_stopped, .int t_now_stopPart, .int t_now_stopReason])), (a_t_now_row, .inl (G.2.1, 60, .inl t_now_row))] (some (.int rr)) := by
  refine RM.ofW (C := RX11) (by decide) rfl (Nat.le_of_ble_eq_true rfl) ?_
  intro p e s m below meth c hF hr hlk hG hP ls hl
  have hl : lv_has ls 1 [(0, .ref a_t)] := hl
  have hx := hF.1
  have hb := hF.2.1
  have hml := hF.2.2.1
  have hown := hF.2.2.2.1
  have hts := hF.2.2.2.2
  unfold f_X11_creases at hf
  refine lv_aload_n hx hb dX11_creases_0 rfl (lv_at hl 0 rfl) ?_
  refine gf (C := RX11) (T := TX11) (N := 9) (ci := 7) (v := .ref a_t_now) hF hG hP inX11 0 rfl rfl 0 (by decide) q204 rfl rfl dX11_creases_1 ?_
  obtain ⟨r_1, hq, hf⟩ := bd1_some hf
  refine rdSN (As := [.ref a_t_now]) (rest := []) hF hG hP hl.1 (c_X0_number l G a_t_now t_now_length t_now_shorter t_now_longer t_now_memory t_now_limit t_now_seasonDays t_now_stopped t_now_stopPart t_now_stopReason a_t_now_row t_now_row r_1 hq) k_X0_number n367 [1, 2] rfl rfl rfl (Nat.le_of_ble_eq_true rfl) ⟨(Nat.le_of_ble_eq_true rfl), (Nat.le_of_ble_eq_true rfl)⟩ ⟨(Nat.zero_le _), (Nat.zero_le _)⟩ dX11_creases_4 ?_
  have hf : (some r_1 : Option (Int32)) = some rr := hf
  cases hf
  exact re_i hF hr hlk dX11_creases_7 rfl
def f_X11_divided (x0 : Int64) (x2 : Int64) : Option (Int64) := (if (lg_cmp x2 0) ≤ 0 then some 0 else gd (¬ x2 = 0) (some (x0 / x2)))
theorem k_X11_divided : KS yX11_divided cX11_divided 4 (some .long) 2 := ⟨qc_yX11_divided, q1, ⟨by decide +kernel, by decide +kernel, by decide +kernel⟩, qt_yX11_divided⟩
abbrev RM_X11_divided : Room := { frames := 0, cells := 0, slots := 0, locals := 0 }
set_option maxHeartbeats 4000000 in
set_option maxRecDepth 100000 in
theorem c_X11_divided (l : Launch) (G : GP) (x0 : Int64) (x2 : Int64) (rr : Int64) (hf : f_X11_divided x0 x2 = some rr) : RM l yX11_divided cX11_divided 4 (some .long) 0 0 G [.long x0, .long x2] [] (some (.long rr)) := by
  refine RM.ofW (C := RX11) (by decide) rfl (Nat.le_of_ble_eq_true rfl) ?_
  intro p e s m below meth c hF hr hlk hG hP ls hl
  have hl : lv_has ls 4 [(0, .long x0), (2, .long x2)] := hl
  have hx := hF.1
  have hb := hF.2.1
  have hml := hF.2.2.1
  have hown := hF.2.2.2.1
  have hts := hF.2.2.2.2
  unfold f_X11_divided at hf
  refine lv_lload_n hx hb dX11_divided_0 rfl (lv_at hl 1 rfl) ?_
  refine lv_lconst (v := 0) hx hb dX11_divided_1 (by decide) ?_
  refine W.lcmp hx hb dX11_divided_2 ?_
  refine lv_if_le (tgt := 12) hx hb dX11_divided_3 (by decide) (fun c0 => ?_) (fun c0 => ?_)
  · have hf := (if_pos c0).symm.trans hf
    refine lv_lconst (v := 0) hx hb dX11_divided_12 (by decide) ?_
    have hf : (some 0 : Option (Int64)) = some rr := hf
    cases hf
    exact re_l hF hr hlk dX11_divided_13 rfl
  · have hf := (if_neg c0).symm.trans hf
    refine lv_lload_n hx hb dX11_divided_6 rfl (lv_at hl 0 rfl) ?_
    refine lv_lload_n hx hb dX11_divided_7 rfl (lv_at hl 1 rfl) ?_
    obtain ⟨hg, hf⟩ := gd_some hf
    refine lv_ldiv hx hb dX11_divided_8 hg ?_
    refine lv_goto (tgt := 13) hx hb dX11_divided_9 (by decide) ?_
    have hf : (some (x0 / x2) : Option (Int64)) = some rr := hf
    cases hf
    exact re_l hF hr hlk dX11_divided_13 rfl
def l_X4_byAdding_12 (p0_row : Nat → Int32) (x1 : Int32) : Nat → Int64 → Int32 → Option (Int64)
  | 0, _, _ => none
  | n + 1, i4_2, i6_3 => (if x1 < i6_3 then some i4_2 else bd1 (f_X6_at p0_row i6_3) (fun (r_5 : Int32) => l_X4_byAdding_12 p0_row x1 n (i4_2 + (Int32.toInt64 r_5)) (i6_3 + 1)))
def f_X4_byAdding (p0_row : Nat → Int32) (x1 : Int32) (x2 : Int32) : Option (Int32) := bd1 (f_X4_firstOf x1 x2) (fun (r_1 : Int32) => bd1 (l_X4_byAdding_12 p0_row x1 1000 0 r_1) (fun (o4_4 : Int64) => bd1 (f_X11_divided (1000 * o4_4) (Int32.toInt64 ((x1 - r_1) + 1))) (fun (r_6 : Int64) => some (Int64.toInt32 r_6))))
theorem k_X4_byAdding : KS yX4_byAdding cX4_byAdding 7 (some .int) 3 := ⟨qc_yX4_byAdding, q18, ⟨by decide +kernel, by decide +kernel, by decide +kernel⟩, qt_yX4_byAdding⟩
abbrev RM_X4_byAdding : Room := { frames := 1, cells := 0, slots := 0, locals := 23 }
set_option maxHeartbeats 4000000 in
set_option maxRecDepth 100000 in
theorem c_X4_byAdding (l : Launch) (G : GP) (a_p0 : Nat) (p0_length : Int32) (p0_shorter : Int32) (p0_longer : Int32) (p0_memory : Int32) (p0_limit : Int32) (p0_seasonDays : Int32) (p0_stopped : Int32) (p0_stopPart : Int32) (p0_stopReason : Int32) (a_p0_row : Nat) (p0_row : Nat → Int32) (x1 : Int32) (x2 : Int32) (rr : Int32) (hf : f_X4_byAdding p0_row x1 x2 = some rr) : RM l yX4_byAdding cX4_byAdding 7 (some .int) 1 23 G [.ref a_p0, .int x1, .int x2] [(a_p0, .inr (2, [.ref a_p0_row, .int p0_length, .int p0_shorter, .int p0_longer, .int p0_memory, .int p0_limit, .int p0_seasonDays, .int p0_stopped, .int p0_stopPart, .int p0_stopReason])), (a_p0_row, .inl (G.2.1, 60, .inl p0_row))] (some (.int rr)) := by
  refine RM.ofW (C := RX4) (by decide) rfl (Nat.le_of_ble_eq_true rfl) ?_
  intro p e s m below meth c hF hr hlk hG hP ls hl
  have hl : lv_has ls 7 [(0, .ref a_p0), (1, .int x1), (2, .int x2)] := hl
  have hx := hF.1
  have hb := hF.2.1
  have hml := hF.2.2.1
  have hown := hF.2.2.2.1
  have hts := hF.2.2.2.2
  unfold f_X4_byAdding at hf
  refine lv_iload_n hx hb dX4_byAdding_0 rfl (lv_at hl 1 rfl) ?_
  refine lv_iload_n hx hb dX4_byAdding_1 rfl (lv_at hl 2 rfl) ?_
  obtain ⟨r_1, hq, hf⟩ := bd1_some hf
  refine rdS (As := [.int x1, .int x2]) (rest := []) hF hG hP hl.1 (c_X4_firstOf l G x1 x2 r_1 hq) k_X4_firstOf q386 [] rfl rfl rfl (Nat.le_of_ble_eq_true rfl) ⟨(Nat.le_of_ble_eq_true rfl), (Nat.le_of_ble_eq_true rfl)⟩ ⟨(Nat.zero_le _), (Nat.zero_le _)⟩ dX4_byAdding_2 ?_
  refine lv_istore_n (lv' := [(3, .int r_1), (0, .ref a_p0), (1, .int x1), (2, .int x2)]) hx hb dX4_byAdding_5 rfl hl (by decide) rfl (fun ls hl => ?_)
  refine lv_lconst (v := 0) hx hb dX4_byAdding_6 (by decide) ?_
  refine lv_lstore (lv' := [(4, .long 0), (3, .int r_1), (0, .ref a_p0), (1, .int x1), (2, .int x2)]) hx hb dX4_byAdding_7 hl (by decide) rfl (fun ls hl => ?_)
  refine lv_iload_n hx hb dX4_byAdding_9 rfl (lv_at hl 1 rfl) ?_
  refine lv_istore (lv' := [(6, .int r_1), (4, .long 0), (3, .int r_1), (0, .ref a_p0), (1, .int x1), (2, .int x2)]) hx hb dX4_byAdding_10 hl (by decide) rfl (fun ls hl => ?_)
  obtain ⟨o4_4, hq, hf⟩ := bd1_some hf
  have K12 : ∀ ls : Array Slot, lv_has ls 7 [(1, .int x1), (3, .int r_1), (4, .long o4_4)] → W p l e RM_X4_byAdding s m [.ref a_p0, .int x1, .int x2].toArray below meth c s.heap [] 0 0 (MQ below (rdQ (some (.int rr))) [.ref a_p0, .int x1, .int x2].toArray s 0 0 (fun _ => False)) (F0 m 36 ls []) := by
    intro ls hl
    refine lv_ldc2 (v := 1000) hx hb hown (hts _ (List.mem_cons_of_mem _ q388)) dX4_byAdding_36 ?_
    refine lv_lload hx hb dX4_byAdding_39 (lv_at hl 2 rfl) ?_
    refine lv_lmul hx hb dX4_byAdding_41 ?_
    refine lv_iload_n hx hb dX4_byAdding_42 rfl (lv_at hl 0 rfl) ?_
    refine lv_iload_n hx hb dX4_byAdding_43 rfl (lv_at hl 1 rfl) ?_
    refine lv_isub hx hb dX4_byAdding_44 ?_
    refine lv_iconst (v := 1) hx hb dX4_byAdding_45 (by decide) ?_
    refine lv_iadd hx hb dX4_byAdding_46 ?_
    refine lv_i2l (v := (Int32.toInt64 ((x1 - r_1) + 1))) hx hb dX4_byAdding_47 rfl ?_
    obtain ⟨r_6, hq, hf⟩ := bd1_some hf
    refine rdSN (As := [.long (1000 * o4_4), .long (Int32.toInt64 ((x1 - r_1) + 1))]) (rest := []) hF hG hP hl.1 (c_X11_divided l G (1000 * o4_4) (Int32.toInt64 ((x1 - r_1) + 1)) r_6 hq) k_X11_divided n389 [] rfl rfl rfl (Nat.le_of_ble_eq_true rfl) ⟨(Nat.le_of_ble_eq_true rfl), (Nat.le_of_ble_eq_true rfl)⟩ ⟨(Nat.zero_le _), (Nat.zero_le _)⟩ dX4_byAdding_48 ?_
    refine lv_l2i (v := (Int64.toInt32 r_6)) hx hb dX4_byAdding_51 rfl ?_
    have hf : (some (Int64.toInt32 r_6) : Option (Int32)) = some rr := hf
    cases hf
    exact re_i hF hr hlk dX4_byAdding_52 rfl
  clear hf
  have L12 : ∀ (n : Nat) (i4_2 : Int64) (i6_3 : Int32), l_X4_byAdding_12 p0_row x1 n i4_2 i6_3 = some o4_4 → ∀ ls : Array Slot, lv_has ls 7 [(0, .ref a_p0), (1, .int x1), (3, .int r_1), (4, .long i4_2), (6, .int i6_3)] → W p l e RM_X4_byAdding s m [.ref a_p0, .int x1, .int x2].toArray below meth c s.heap [] 0 0 (MQ below (rdQ (some (.int rr))) [.ref a_p0, .int x1, .int x2].toArray s 0 0 (fun _ => False)) (F0 m 12 ls []) := by
    intro n
    induction n with
    | zero =>
      intro i4_2 i6_3 hf
      exact nomatch (show none = some o4_4 from hf)
    | succ n ih =>
      intro i4_2 i6_3 hf ls hl
      rw [l_X4_byAdding_12] at hf
      refine lv_iload hx hb dX4_byAdding_12 (lv_at hl 4 rfl) ?_
      refine lv_iload_n hx hb dX4_byAdding_14 rfl (lv_at hl 1 rfl) ?_
      refine lv_icmp_gt (tgt := 36) hx hb dX4_byAdding_15 (by decide) (fun c0 => ?_) (fun c0 => ?_)
      · have hf := (if_pos c0).symm.trans hf
        have hf : (some i4_2 : Option (Int64)) = some o4_4 := hf
        cases hf
        exact K12 ls (lv_sub hl [1, 2, 3] rfl)
      · have hf := (if_neg c0).symm.trans hf
        refine lv_lload hx hb dX4_byAdding_18 (lv_at hl 3 rfl) ?_
        refine lv_aload_n hx hb dX4_byAdding_20 rfl (lv_at hl 0 rfl) ?_
        refine lv_iload hx hb dX4_byAdding_21 (lv_at hl 4 rfl) ?_
        obtain ⟨r_5, hq, hf⟩ := bd1_some hf
        refine rdVN (As := [.int i6_3]) (rest := [.long i4_2]) hF hG hP hl.1 (c_X6_at l G a_p0 p0_length p0_shorter p0_longer p0_memory p0_limit p0_seasonDays p0_stopped p0_stopPart p0_stopReason a_p0_row p0_row i6_3 r_5 hq) k_X6_at n387 [0, 1] rfl ⟨0, 2, _, _, rfl, rfl, rfl⟩ rfl rfl (Nat.le_of_ble_eq_true rfl) ⟨(Nat.le_of_ble_eq_true rfl), (Nat.le_of_ble_eq_true rfl)⟩ ⟨(Nat.zero_le _), (Nat.zero_le _)⟩ dX4_byAdding_23 ?_
        refine lv_i2l (v := (Int32.toInt64 r_5)) hx hb dX4_byAdding_26 rfl ?_
        refine lv_ladd hx hb dX4_byAdding_27 ?_
        refine lv_lstore (lv' := [(4, .long (i4_2 + (Int32.toInt64 r_5))), (0, .ref a_p0), (1, .int x1), (3, .int r_1), (6, .int i6_3)]) hx hb dX4_byAdding_28 hl (by decide) rfl (fun ls hl => ?_)
        refine lv_iinc (v := (i6_3 + 1)) (lv' := [(6, .int (i6_3 + 1)), (4, .long (i4_2 + (Int32.toInt64 r_5))), (0, .ref a_p0), (1, .int x1), (3, .int r_1)]) hx hb dX4_byAdding_30 hl (k := 4) rfl rfl (by decide) rfl (fun ls hl => ?_)
        refine lv_goto (tgt := 12) hx hb dX4_byAdding_33 (by decide) ?_
        exact ih (i4_2 + (Int32.toInt64 r_5)) (i6_3 + 1) hf ls (lv_sub hl [2, 3, 4, 1, 0] rfl)
  exact L12 1000 0 r_1 hq ls (lv_sub hl [3, 4, 2, 1, 0] rfl)
def f_X9_sideAt (p0_shorter : Int32) (p0_longer : Int32) (p0_row : Nat → Int32) (x1 : Int32) : Option (Int32) := bd1 (f_X4_byAdding p0_row x1 p0_shorter) (fun (r_1 : Int32) => bd1 (f_X4_byAdding p0_row x1 p0_longer) (fun (r_2 : Int32) => (if r_1 = r_2 then some 0 else (if r_1 ≤ r_2 then some (-1) else some 1))))
theorem k_X9_sideAt : KS yX9_sideAt cX9_sideAt 4 (some .int) 2 := ⟨qc_yX9_sideAt, q8, ⟨by decide +kernel, by decide +kernel, by decide +kernel⟩, qt_yX9_sideAt⟩
abbrev RM_X9_sideAt : Room := { frames := 2, cells := 0, slots := 0, locals := 49 }
set_option maxHeartbeats 4000000 in
set_option maxRecDepth 100000 in
theorem c_X9_sideAt (l : Launch) (G : GP) (a_p0 : Nat) (p0_length : Int32) (p0_shorter : Int32) (p0_longer : Int32) (p0_memory : Int32) (p0_limit : Int32) (p0_seasonDays : Int32) (p0_stopped : Int32) (p0_stopPart : Int32) (p0_stopReason : Int32) (a_p0_row : Nat) (p0_row : Nat → Int32) (x1 : Int32) (rr : Int32) (hf : f_X9_sideAt p0_shorter p0_longer p0_row x1 = some rr) : RM l yX9_sideAt cX9_sideAt 4 (some .int) 2 49 G [.ref a_p0, .int x1] [(a_p0, .inr (2, [.ref a_p0_row, .int p0_length, .int p0_shorter, .int p0_longer, .int p0_memory, .int p0_limit, .int p0_seasonDays, .int p0_stopped, .int p0_stopPart, .int p0_stopReason])), (a_p0_row, .inl (G.2.1, 60, .inl p0_row))] (some (.int rr)) := by
  refine RM.ofW (C := RX9) (by decide) rfl (Nat.le_of_ble_eq_true rfl) ?_
  intro p e s m below meth c hF hr hlk hG hP ls hl
  have hl : lv_has ls 4 [(0, .ref a_p0), (1, .int x1)] := hl
  have hx := hF.1
  have hb := hF.2.1
  have hml := hF.2.2.1
  have hown := hF.2.2.2.1
  have hts := hF.2.2.2.2
  unfold f_X9_sideAt at hf
  refine lv_aload_n hx hb dX9_sideAt_0 rfl (lv_at hl 0 rfl) ?_
  refine lv_iload_n hx hb dX9_sideAt_1 rfl (lv_at hl 1 rfl) ?_
  refine lv_aload_n hx hb dX9_sideAt_2 rfl (lv_at hl 0 rfl) ?_
  refine gfN (C := RX6) (T := TX6) (N := 10) (ci := 2) (v := .int p0_shorter) hF hG hP inX6 0 rfl rfl 2 (by decide) n49 rfl rfl dX9_sideAt_3 ?_
  obtain ⟨r_1, hq, hf⟩ := bd1_some hf
  refine rdSN (As := [.ref a_p0, .int x1, .int p0_shorter]) (rest := []) hF hG hP hl.1 (c_X4_byAdding l G a_p0 p0_length p0_shorter p0_longer p0_memory p0_limit p0_seasonDays p0_stopped p0_stopPart p0_stopReason a_p0_row p0_row x1 p0_shorter r_1 hq) k_X4_byAdding n383 [0, 1] rfl rfl rfl (Nat.le_of_ble_eq_true rfl) ⟨(Nat.le_of_ble_eq_true rfl), (Nat.le_of_ble_eq_true rfl)⟩ ⟨(Nat.zero_le _), (Nat.zero_le _)⟩ dX9_sideAt_6 ?_
  refine lv_istore_n (lv' := [(2, .int r_1), (0, .ref a_p0), (1, .int x1)]) hx hb dX9_sideAt_9 rfl hl (by decide) rfl (fun ls hl => ?_)
  refine lv_aload_n hx hb dX9_sideAt_10 rfl (lv_at hl 1 rfl) ?_
  refine lv_iload_n hx hb dX9_sideAt_11 rfl (lv_at hl 2 rfl) ?_
  refine lv_aload_n hx hb dX9_sideAt_12 rfl (lv_at hl 1 rfl) ?_
  refine gfN (C := RX6) (T := TX6) (N := 10) (ci := 2) (v := .int p0_longer) hF hG hP inX6 0 rfl rfl 3 (by decide) n55 rfl rfl dX9_sideAt_13 ?_
  obtain ⟨r_2, hq, hf⟩ := bd1_some hf
  refine rdSN (As := [.ref a_p0, .int x1, .int p0_longer]) (rest := []) hF hG hP hl.1 (c_X4_byAdding l G a_p0 p0_length p0_shorter p0_longer p0_memory p0_limit p0_seasonDays p0_stopped p0_stopPart p0_stopReason a_p0_row p0_row x1 p0_longer r_2 hq) k_X4_byAdding n383 [0, 1] rfl rfl rfl (Nat.le_of_ble_eq_true rfl) ⟨(Nat.le_of_ble_eq_true rfl), (Nat.le_of_ble_eq_true rfl)⟩ ⟨(Nat.zero_le _), (Nat.zero_le _)⟩ dX9_sideAt_16 ?_
  refine lv_istore_n (lv' := [(3, .int r_2), (2, .int r_1), (0, .ref a_p0), (1, .int x1)]) hx hb dX9_sideAt_19 rfl hl (by decide) rfl (fun ls hl => ?_)
  refine lv_iload_n hx hb dX9_sideAt_20 rfl (lv_at hl 1 rfl) ?_
  refine lv_iload_n hx hb dX9_sideAt_21 rfl (lv_at hl 0 rfl) ?_
  refine lv_icmp_ne (tgt := 27) hx hb dX9_sideAt_22 (by decide) (fun c0 => ?_) (fun c0 => ?_)
  · have hf := (if_neg c0).symm.trans hf
    refine lv_iload_n hx hb dX9_sideAt_27 rfl (lv_at hl 1 rfl) ?_
    refine lv_iload_n hx hb dX9_sideAt_28 rfl (lv_at hl 0 rfl) ?_
    refine lv_icmp_le (tgt := 36) hx hb dX9_sideAt_29 (by decide) (fun c0 => ?_) (fun c0 => ?_)
    · have hf := (if_pos c0).symm.trans hf
      refine lv_iconst (v := (-1)) hx hb dX9_sideAt_36 (by decide) ?_
      have hf : (some (-1) : Option (Int32)) = some rr := hf
      cases hf
      exact re_i hF hr hlk dX9_sideAt_37 rfl
    · have hf := (if_neg c0).symm.trans hf
      refine lv_iconst (v := 1) hx hb dX9_sideAt_32 (by decide) ?_
      refine lv_goto (tgt := 37) hx hb dX9_sideAt_33 (by decide) ?_
      have hf : (some 1 : Option (Int32)) = some rr := hf
      cases hf
      exact re_i hF hr hlk dX9_sideAt_37 rfl
  · have hf := (if_pos c0).symm.trans hf
    refine lv_iconst (v := 0) hx hb dX9_sideAt_25 (by decide) ?_
    have hf : (some 0 : Option (Int32)) = some rr := hf
    cases hf
    exact re_i hF hr hlk dX9_sideAt_26 rfl
def f_X9_crossingAt (p0_shorter : Int32) (p0_longer : Int32) (p0_row : Nat → Int32) (x1 : Int32) : Option (Int32) := (if 1 ≤ x1 then bd1 (f_X9_sideAt p0_shorter p0_longer p0_row x1) (fun (r_1 : Int32) => bd1 (f_X9_sideAt p0_shorter p0_longer p0_row (x1 - 1)) (fun (r_2 : Int32) => (if r_1 = r_2 then some 0 else some r_1))) else some 0)
theorem k_X9_crossingAt : KS yX9_crossingAt cX9_crossingAt 3 (some .int) 2 := ⟨qc_yX9_crossingAt, q8, ⟨by decide +kernel, by decide +kernel, by decide +kernel⟩, qt_yX9_crossingAt⟩
abbrev RM_X9_crossingAt : Room := { frames := 3, cells := 0, slots := 0, locals := 72 }
set_option maxHeartbeats 4000000 in
set_option maxRecDepth 100000 in
theorem c_X9_crossingAt (l : Launch) (G : GP) (a_p0 : Nat) (p0_length : Int32) (p0_shorter : Int32) (p0_longer : Int32) (p0_memory : Int32) (p0_limit : Int32) (p0_seasonDays : Int32) (p0_stopped : Int32) (p0_stopPart : Int32) (p0_stopReason : Int32) (a_p0_row : Nat) (p0_row : Nat → Int32) (x1 : Int32) (rr : Int32) (hf : f_X9_crossingAt p0_shorter p0_longer p0_row x1 = some rr) : RM l yX9_crossingAt cX9_crossingAt 3 (some .int) 3 72 G [.ref a_p0, .int x1] [(a_p0, .inr (2, [.ref a_p0_row, .int p0_length, .int p0_shorter, .int p0_longer, .int p0_memory, .int p0_limit, .int p0_seasonDays, .int p0_stopped, .int p0_stopPart, .int p0_stopReason])), (a_p0_row, .inl (G.2.1, 60, .inl p0_row))] (some (.int rr)) := by
  refine RM.ofW (C := RX9) (by decide) rfl (Nat.le_of_ble_eq_true rfl) ?_
  intro p e s m below meth c hF hr hlk hG hP ls hl
  have hl : lv_has ls 3 [(0, .ref a_p0), (1, .int x1)] := hl
  have hx := hF.1
  have hb := hF.2.1
  have hml := hF.2.2.1
  have hown := hF.2.2.2.1
  have hts := hF.2.2.2.2
  unfold f_X9_crossingAt at hf
  refine lv_iload_n hx hb dX9_crossingAt_0 rfl (lv_at hl 1 rfl) ?_
  refine lv_iconst (v := 1) hx hb dX9_crossingAt_1 (by decide) ?_
  refine lv_icmp_ge (tgt := 7) hx hb dX9_crossingAt_2 (by decide) (fun c0 => ?_) (fun c0 => ?_)
  · have hf := (if_pos c0).symm.trans hf
    refine lv_aload_n hx hb dX9_crossingAt_7 rfl (lv_at hl 0 rfl) ?_
    refine lv_iload_n hx hb dX9_crossingAt_8 rfl (lv_at hl 1 rfl) ?_
    obtain ⟨r_1, hq, hf⟩ := bd1_some hf
    refine rdS (As := [.ref a_p0, .int x1]) (rest := []) hF hG hP hl.1 (c_X9_sideAt l G a_p0 p0_length p0_shorter p0_longer p0_memory p0_limit p0_seasonDays p0_stopped p0_stopPart p0_stopReason a_p0_row p0_row x1 r_1 hq) k_X9_sideAt q380 [0, 1] rfl rfl rfl (Nat.le_of_ble_eq_true rfl) ⟨(Nat.le_of_ble_eq_true rfl), (Nat.le_of_ble_eq_true rfl)⟩ ⟨(Nat.zero_le _), (Nat.zero_le _)⟩ dX9_crossingAt_9 ?_
    refine lv_istore_n (lv' := [(2, .int r_1), (0, .ref a_p0), (1, .int x1)]) hx hb dX9_crossingAt_12 rfl hl (by decide) rfl (fun ls hl => ?_)
    refine lv_iload_n hx hb dX9_crossingAt_13 rfl (lv_at hl 0 rfl) ?_
    refine lv_aload_n hx hb dX9_crossingAt_14 rfl (lv_at hl 1 rfl) ?_
    refine lv_iload_n hx hb dX9_crossingAt_15 rfl (lv_at hl 2 rfl) ?_
    refine lv_iconst (v := 1) hx hb dX9_crossingAt_16 (by decide) ?_
    refine lv_isub hx hb dX9_crossingAt_17 ?_
    obtain ⟨r_2, hq, hf⟩ := bd1_some hf
    refine rdS (As := [.ref a_p0, .int (x1 - 1)]) (rest := [.int r_1]) hF hG hP hl.1 (c_X9_sideAt l G a_p0 p0_length p0_shorter p0_longer p0_memory p0_limit p0_seasonDays p0_stopped p0_stopPart p0_stopReason a_p0_row p0_row (x1 - 1) r_2 hq) k_X9_sideAt q380 [0, 1] rfl rfl rfl (Nat.le_of_ble_eq_true rfl) ⟨(Nat.le_of_ble_eq_true rfl), (Nat.le_of_ble_eq_true rfl)⟩ ⟨(Nat.zero_le _), (Nat.zero_le _)⟩ dX9_crossingAt_18 ?_
    refine lv_icmp_ne (tgt := 28) hx hb dX9_crossingAt_21 (by decide) (fun c0 => ?_) (fun c0 => ?_)
    · have hf := (if_neg c0).symm.trans hf
      refine lv_iload_n hx hb dX9_crossingAt_28 rfl (lv_at hl 0 rfl) ?_
      have hf : (some r_1 : Option (Int32)) = some rr := hf
      cases hf
      exact re_i hF hr hlk dX9_crossingAt_29 rfl
    · have hf := (if_pos c0).symm.trans hf
      refine lv_iconst (v := 0) hx hb dX9_crossingAt_24 (by decide) ?_
      refine lv_goto (tgt := 29) hx hb dX9_crossingAt_25 (by decide) ?_
      have hf : (some 0 : Option (Int32)) = some rr := hf
      cases hf
      exact re_i hF hr hlk dX9_crossingAt_29 rfl
  · have hf := (if_neg c0).symm.trans hf
    refine lv_iconst (v := 0) hx hb dX9_crossingAt_5 (by decide) ?_
    have hf : (some 0 : Option (Int32)) = some rr := hf
    cases hf
    exact re_i hF hr hlk dX9_crossingAt_6 rfl
def l_X9_numberOfCrossings_4 (p0_length : Int32) (p0_shorter : Int32) (p0_longer : Int32) (p0_row : Nat → Int32) : Nat → Int32 → Int32 → Option (Int32)
  | 0, _, _ => none
  | n + 1, i1_1, i2_2 => (if p0_length ≤ i2_2 then some i1_1 else bd1 (f_X9_crossingAt p0_shorter p0_longer p0_row i2_2) (fun (r_4 : Int32) => (if r_4 = 0 then l_X9_numberOfCrossings_4 p0_length p0_shorter p0_longer p0_row n i1_1 (i2_2 + 1) else l_X9_numberOfCrossings_4 p0_length p0_shorter p0_longer p0_row n (i1_1 + 1) (i2_2 + 1))))
def f_X9_numberOfCrossings (p0_length : Int32) (p0_shorter : Int32) (p0_longer : Int32) (p0_row : Nat → Int32) : Option (Int32) := bd1 (l_X9_numberOfCrossings_4 p0_length p0_shorter p0_longer p0_row 1000 0 1) (fun (o1_3 : Int32) => some o1_3)
theorem k_X9_numberOfCrossings : KS yX9_numberOfCrossings cX9_numberOfCrossings 3 (some .int) 1 := ⟨qc_yX9_numberOfCrossings, q8, ⟨by decide +kernel, by decide +kernel, by decide +kernel⟩, qt_yX9_numberOfCrossings⟩
abbrev RM_X9_numberOfCrossings : Room := { frames := 4, cells := 0, slots := 0, locals := 94 }
set_option maxHeartbeats 4000000 in
set_option maxRecDepth 100000 in
theorem c_X9_numberOfCrossings (l : Launch) (G : GP) (a_p0 : Nat) (p0_length : Int32) (p0_shorter : Int32) (p0_longer : Int32) (p0_memory : Int32) (p0_limit : Int32) (p0_seasonDays : Int32) (p0_stopped : Int32) (p0_stopPart : Int32) (p0_stopReason : Int32) (a_p0_row : Nat) (p0_row : Nat → Int32) (rr : Int32) (hf : f_X9_numberOfCrossings p0_length p0_shorter p0_longer p0_row = some rr) : RM l yX9_numberOfCrossings cX9_numberOfCrossings 3 (some .int) 4 94 G [.ref a_p0] [(a_p0, .inr (2, [.ref a_p0_row, .int p0_length, .int p0_shorter, .int p0_longer, .int p0_memory, .int p0_limit, .int p0_seasonDays, .int p0_stopped, .int p0_stopPart, .int p0_stopReason])), (a_p0_row, .inl (G.2.1, 60, .inl p0_row))] (some (.int rr)) := by
  refine RM.ofW (C := RX9) (by decide) rfl (Nat.le_of_ble_eq_true rfl) ?_
  intro p e s m below meth c hF hr hlk hG hP ls hl
  have hl : lv_has ls 3 [(0, .ref a_p0)] := hl
  have hx := hF.1
  have hb := hF.2.1
  have hml := hF.2.2.1
  have hown := hF.2.2.2.1
  have hts := hF.2.2.2.2
  unfold f_X9_numberOfCrossings at hf
  refine lv_iconst (v := 0) hx hb dX9_numberOfCrossings_0 (by decide) ?_
  refine lv_istore_n (lv' := [(1, .int 0), (0, .ref a_p0)]) hx hb dX9_numberOfCrossings_1 rfl hl (by decide) rfl (fun ls hl => ?_)
  refine lv_iconst (v := 1) hx hb dX9_numberOfCrossings_2 (by decide) ?_
  refine lv_istore_n (lv' := [(2, .int 1), (1, .int 0), (0, .ref a_p0)]) hx hb dX9_numberOfCrossings_3 rfl hl (by decide) rfl (fun ls hl => ?_)
  obtain ⟨o1_3, hq, hf⟩ := bd1_some hf
  have K4 : ∀ ls : Array Slot, lv_has ls 3 [(1, .int o1_3)] → W p l e RM_X9_numberOfCrossings s m [.ref a_p0].toArray below meth c s.heap [] 0 0 (MQ below (rdQ (some (.int rr))) [.ref a_p0].toArray s 0 0 (fun _ => False)) (F0 m 29 ls []) := by
    intro ls hl
    refine lv_iload_n hx hb dX9_numberOfCrossings_29 rfl (lv_at hl 0 rfl) ?_
    have hf : (some o1_3 : Option (Int32)) = some rr := hf
    cases hf
    exact re_i hF hr hlk dX9_numberOfCrossings_30 rfl
  clear hf
  have L4 : ∀ (n : Nat) (i1_1 : Int32) (i2_2 : Int32), l_X9_numberOfCrossings_4 p0_length p0_shorter p0_longer p0_row n i1_1 i2_2 = some o1_3 → ∀ ls : Array Slot, lv_has ls 3 [(0, .ref a_p0), (1, .int i1_1), (2, .int i2_2)] → W p l e RM_X9_numberOfCrossings s m [.ref a_p0].toArray below meth c s.heap [] 0 0 (MQ below (rdQ (some (.int rr))) [.ref a_p0].toArray s 0 0 (fun _ => False)) (F0 m 4 ls []) := by
    intro n
    induction n with
    | zero =>
      intro i1_1 i2_2 hf
      exact nomatch (show none = some o1_3 from hf)
    | succ n ih =>
      intro i1_1 i2_2 hf ls hl
      rw [l_X9_numberOfCrossings_4] at hf
      refine lv_iload_n hx hb dX9_numberOfCrossings_4 rfl (lv_at hl 2 rfl) ?_
      refine lv_aload_n hx hb dX9_numberOfCrossings_5 rfl (lv_at hl 0 rfl) ?_
      refine gfN (C := RX6) (T := TX6) (N := 10) (ci := 2) (v := .int p0_length) hF hG hP inX6 0 rfl rfl 1 (by decide) n42 rfl rfl dX9_numberOfCrossings_6 ?_
      refine lv_icmp_ge (tgt := 29) hx hb dX9_numberOfCrossings_9 (by decide) (fun c0 => ?_) (fun c0 => ?_)
      · have hf := (if_pos c0).symm.trans hf
        have hf : (some i1_1 : Option (Int32)) = some o1_3 := hf
        cases hf
        exact K4 ls (lv_sub hl [1] rfl)
      · have hf := (if_neg c0).symm.trans hf
        refine lv_aload_n hx hb dX9_numberOfCrossings_12 rfl (lv_at hl 0 rfl) ?_
        refine lv_iload_n hx hb dX9_numberOfCrossings_13 rfl (lv_at hl 2 rfl) ?_
        obtain ⟨r_4, hq, hf⟩ := bd1_some hf
        refine rdS (As := [.ref a_p0, .int i2_2]) (rest := []) hF hG hP hl.1 (c_X9_crossingAt l G a_p0 p0_length p0_shorter p0_longer p0_memory p0_limit p0_seasonDays p0_stopped p0_stopPart p0_stopReason a_p0_row p0_row i2_2 r_4 hq) k_X9_crossingAt q377 [0, 1] rfl rfl rfl (Nat.le_of_ble_eq_true rfl) ⟨(Nat.le_of_ble_eq_true rfl), (Nat.le_of_ble_eq_true rfl)⟩ ⟨(Nat.zero_le _), (Nat.zero_le _)⟩ dX9_numberOfCrossings_14 ?_
        refine lv_if_eq (tgt := 23) hx hb dX9_numberOfCrossings_17 (by decide) (fun c0 => ?_) (fun c0 => ?_)
        · have hf := (if_pos c0).symm.trans hf
          refine lv_iinc (v := (i2_2 + 1)) (lv' := [(2, .int (i2_2 + 1)), (0, .ref a_p0), (1, .int i1_1)]) hx hb dX9_numberOfCrossings_23 hl (k := 2) rfl rfl (by decide) rfl (fun ls hl => ?_)
          refine lv_goto (tgt := 4) hx hb dX9_numberOfCrossings_26 (by decide) ?_
          exact ih i1_1 (i2_2 + 1) hf ls (lv_sub hl [1, 2, 0] rfl)
        · have hf := (if_neg c0).symm.trans hf
          refine lv_iinc (v := (i1_1 + 1)) (lv' := [(1, .int (i1_1 + 1)), (0, .ref a_p0), (2, .int i2_2)]) hx hb dX9_numberOfCrossings_20 hl (k := 1) rfl rfl (by decide) rfl (fun ls hl => ?_)
          refine lv_iinc (v := (i2_2 + 1)) (lv' := [(2, .int (i2_2 + 1)), (1, .int (i1_1 + 1)), (0, .ref a_p0)]) hx hb dX9_numberOfCrossings_23 hl (k := 2) rfl rfl (by decide) rfl (fun ls hl => ?_)
          refine lv_goto (tgt := 4) hx hb dX9_numberOfCrossings_26 (by decide) ?_
          exact ih (i1_1 + 1) (i2_2 + 1) hf ls (lv_sub hl [2, 1, 0] rfl)
  exact L4 1000 0 1 hq ls (lv_sub hl [2, 1, 0] rfl)
def f_X11_crossings (t_now_length : Int32) (t_now_shorter : Int32) (t_now_longer : Int32) (t_now_row : Nat → Int32) : Option (Int32) := bd1 (f_X9_numberOfCrossings t_now_length t_now_shorter t_now_longer t_now_row) (fun (r_1 : Int32) => some r_1)
theorem k_X11_crossings : KV yX11_crossings cX11_crossings 1 (some .int) 0 := ⟨qc_yX11_crossings, q1, ⟨by decide +kernel, by decide +kernel, by decide +kernel⟩, qi_yX11_crossings, qs_yX11_crossings⟩
abbrev RM_X11_crossings : Room := { frames := 5, cells := 0, slots := 0, locals := 116 }
set_option maxHeartbeats 4000000 in
set_option maxRecDepth 100000 in
theorem c_X11_crossings (l : Launch) (G : GP) (a_t : Nat) (a_t_trial : Nat) (a_t_snapshot : Nat) (t_snapshotTaken : Int32) (a_t_history : Nat) (a_t_text : Nat) (a_t_works : Nat) (a_t_highs : Nat) (a_t_trade : Nat) (a_t_now : Nat) (t_now_length : Int32) (t_now_shorter : Int32) (t_now_longer : Int32) (t_now_memory : Int32) (t_now_limit : Int32) (t_now_seasonDays : Int32) (t_now_stopped : Int32) (t_now_stopPart : Int32) (t_now_stopReason : Int32) (a_t_now_row : Nat) (t_now_row : Nat → Int32) (rr : Int32) (hf : f_X11_crossings t_now_length t_now_shorter t_now_longer t_now_row = some rr) : RM l yX11_crossings cX11_crossings 1 (some .int) 5 116 G [.ref a_t] [(a_t, .inr (7, [.ref a_t_now, .ref a_t_trial, .ref a_t_snapshot, .int t_snapshotTaken, .ref a_t_history, .ref a_t_text, .ref a_t_works, .ref a_t_highs, .ref a_t_trade])), (a_t_now, .inr (2, [.ref a_t_now_row, .int t_now_length, .int t_now_shorter, .int t_now_longer, .int t_now_memory, .int t_now_limit, .int t_now_seasonDays, .int t_now_stopped, .int t_now_stopPart, .int t_now_stopReason])), (a_t_now_row, .inl (G.2.1, 60, .inl t_now_row))] (some (.int rr)) := by
  refine RM.ofW (C := RX11) (by decide) rfl (Nat.le_of_ble_eq_true rfl) ?_
  intro p e s m below meth c hF hr hlk hG hP ls hl
  have hl : lv_has ls 1 [(0, .ref a_t)] := hl
  have hx := hF.1
  have hb := hF.2.1
  have hml := hF.2.2.1
  have hown := hF.2.2.2.1
  have hts := hF.2.2.2.2
  unfold f_X11_crossings at hf
  refine lv_aload_n hx hb dX11_crossings_0 rfl (lv_at hl 0 rfl) ?_
  refine gf (C := RX11) (T := TX11) (N := 9) (ci := 7) (v := .ref a_t_now) hF hG hP inX11 0 rfl rfl 0 (by decide) q204 rfl rfl dX11_crossings_1 ?_
  obtain ⟨r_1, hq, hf⟩ := bd1_some hf
  refine rdSN (As := [.ref a_t_now]) (rest := []) hF hG hP hl.1 (c_X9_numberOfCrossings l G a_t_now t_now_length t_now_shorter t_now_longer t_now_memory t_now_limit t_now_seasonDays t_now_stopped t_now_stopPart t_now_stopReason a_t_now_row t_now_row r_1 hq) k_X9_numberOfCrossings n374 [1, 2] rfl rfl rfl (Nat.le_of_ble_eq_true rfl) ⟨(Nat.le_of_ble_eq_true rfl), (Nat.le_of_ble_eq_true rfl)⟩ ⟨(Nat.zero_le _), (Nat.zero_le _)⟩ dX11_crossings_4 ?_
  have hf : (some r_1 : Option (Int32)) = some rr := hf
  cases hf
  exact re_i hF hr hlk dX11_crossings_7 rfl
def l_X2_fallInOneGo_6 (p0_length : Int32) (p0_row : Nat → Int32) : Nat → Int32 → Int32 → Int32 → Option (Int32)
  | 0, _, _, _ => none
  | n + 1, i1_1, i2_2, i3_3 => (if p0_length ≤ i3_3 then some i2_2 else bd1 (f_X6_at p0_row i3_3) (fun (r_5 : Int32) => bd1 (f_X6_at p0_row i3_3) (fun (r_6 : Int32) => l_X2_fallInOneGo_6 p0_length p0_row n (if i1_1 < r_5 then r_5 else i1_1) (if i2_2 < ((if i1_1 < r_5 then r_5 else i1_1) - r_6) then ((if i1_1 < r_5 then r_5 else i1_1) - r_6) else i2_2) (i3_3 + 1))))
def f_X2_fallInOneGo (p0_length : Int32) (p0_row : Nat → Int32) : Option (Int32) := bd1 (l_X2_fallInOneGo_6 p0_length p0_row 1000 0 0 0) (fun (o2_4 : Int32) => some o2_4)
theorem k_X2_fallInOneGo : KS yX2_fallInOneGo cX2_fallInOneGo 4 (some .int) 1 := ⟨qc_yX2_fallInOneGo, q7, ⟨by decide +kernel, by decide +kernel, by decide +kernel⟩, qt_yX2_fallInOneGo⟩
abbrev RM_X2_fallInOneGo : Room := { frames := 1, cells := 0, slots := 0, locals := 30 }
set_option maxHeartbeats 4000000 in
set_option maxRecDepth 100000 in
theorem c_X2_fallInOneGo (l : Launch) (G : GP) (a_p0 : Nat) (p0_length : Int32) (p0_shorter : Int32) (p0_longer : Int32) (p0_memory : Int32) (p0_limit : Int32) (p0_seasonDays : Int32) (p0_stopped : Int32) (p0_stopPart : Int32) (p0_stopReason : Int32) (a_p0_row : Nat) (p0_row : Nat → Int32) (rr : Int32) (hf : f_X2_fallInOneGo p0_length p0_row = some rr) : RM l yX2_fallInOneGo cX2_fallInOneGo 4 (some .int) 1 30 G [.ref a_p0] [(a_p0, .inr (2, [.ref a_p0_row, .int p0_length, .int p0_shorter, .int p0_longer, .int p0_memory, .int p0_limit, .int p0_seasonDays, .int p0_stopped, .int p0_stopPart, .int p0_stopReason])), (a_p0_row, .inl (G.2.1, 60, .inl p0_row))] (some (.int rr)) := by
  refine RM.ofW (C := RX2) (by decide) rfl (Nat.le_of_ble_eq_true rfl) ?_
  intro p e s m below meth c hF hr hlk hG hP ls hl
  have hl : lv_has ls 4 [(0, .ref a_p0)] := hl
  have hx := hF.1
  have hb := hF.2.1
  have hml := hF.2.2.1
  have hown := hF.2.2.2.1
  have hts := hF.2.2.2.2
  unfold f_X2_fallInOneGo at hf
  refine lv_iconst (v := 0) hx hb dX2_fallInOneGo_0 (by decide) ?_
  refine lv_istore_n (lv' := [(1, .int 0), (0, .ref a_p0)]) hx hb dX2_fallInOneGo_1 rfl hl (by decide) rfl (fun ls hl => ?_)
  refine lv_iconst (v := 0) hx hb dX2_fallInOneGo_2 (by decide) ?_
  refine lv_istore_n (lv' := [(2, .int 0), (1, .int 0), (0, .ref a_p0)]) hx hb dX2_fallInOneGo_3 rfl hl (by decide) rfl (fun ls hl => ?_)
  refine lv_iconst (v := 0) hx hb dX2_fallInOneGo_4 (by decide) ?_
  refine lv_istore_n (lv' := [(3, .int 0), (2, .int 0), (1, .int 0), (0, .ref a_p0)]) hx hb dX2_fallInOneGo_5 rfl hl (by decide) rfl (fun ls hl => ?_)
  obtain ⟨o2_4, hq, hf⟩ := bd1_some hf
  have K6 : ∀ ls : Array Slot, lv_has ls 4 [(2, .int o2_4)] → W p l e RM_X2_fallInOneGo s m [.ref a_p0].toArray below meth c s.heap [] 0 0 (MQ below (rdQ (some (.int rr))) [.ref a_p0].toArray s 0 0 (fun _ => False)) (F0 m 42 ls []) := by
    intro ls hl
    refine lv_iload_n hx hb dX2_fallInOneGo_42 rfl (lv_at hl 0 rfl) ?_
    have hf : (some o2_4 : Option (Int32)) = some rr := hf
    cases hf
    exact re_i hF hr hlk dX2_fallInOneGo_43 rfl
  clear hf
  have L6 : ∀ (n : Nat) (i1_1 : Int32) (i2_2 : Int32) (i3_3 : Int32), l_X2_fallInOneGo_6 p0_length p0_row n i1_1 i2_2 i3_3 = some o2_4 → ∀ ls : Array Slot, lv_has ls 4 [(0, .ref a_p0), (1, .int i1_1), (2, .int i2_2), (3, .int i3_3)] → W p l e RM_X2_fallInOneGo s m [.ref a_p0].toArray below meth c s.heap [] 0 0 (MQ below (rdQ (some (.int rr))) [.ref a_p0].toArray s 0 0 (fun _ => False)) (F0 m 6 ls []) := by
    intro n
    induction n with
    | zero =>
      intro i1_1 i2_2 i3_3 hf
      exact nomatch (show none = some o2_4 from hf)
    | succ n ih =>
      intro i1_1 i2_2 i3_3 hf ls hl
      rw [l_X2_fallInOneGo_6] at hf
      refine lv_iload_n hx hb dX2_fallInOneGo_6 rfl (lv_at hl 3 rfl) ?_
      refine lv_aload_n hx hb dX2_fallInOneGo_7 rfl (lv_at hl 0 rfl) ?_
      refine gfN (C := RX6) (T := TX6) (N := 10) (ci := 2) (v := .int p0_length) hF hG hP inX6 0 rfl rfl 1 (by decide) n44 rfl rfl dX2_fallInOneGo_8 ?_
      refine lv_icmp_ge (tgt := 42) hx hb dX2_fallInOneGo_11 (by decide) (fun c0 => ?_) (fun c0 => ?_)
      · have hf := (if_pos c0).symm.trans hf
        have hf : (some i2_2 : Option (Int32)) = some o2_4 := hf
        cases hf
        exact K6 ls (lv_sub hl [2] rfl)
      · have hf := (if_neg c0).symm.trans hf
        refine lv_iload_n hx hb dX2_fallInOneGo_14 rfl (lv_at hl 1 rfl) ?_
        refine lv_aload_n hx hb dX2_fallInOneGo_15 rfl (lv_at hl 0 rfl) ?_
        refine lv_iload_n hx hb dX2_fallInOneGo_16 rfl (lv_at hl 3 rfl) ?_
        obtain ⟨r_5, hq, hf⟩ := bd1_some hf
        refine rdVN (As := [.int i3_3]) (rest := [.int i1_1]) hF hG hP hl.1 (c_X6_at l G a_p0 p0_length p0_shorter p0_longer p0_memory p0_limit p0_seasonDays p0_stopped p0_stopPart p0_stopReason a_p0_row p0_row i3_3 r_5 hq) k_X6_at n399 [0, 1] rfl ⟨0, 2, _, _, rfl, rfl, rfl⟩ rfl rfl (Nat.le_of_ble_eq_true rfl) ⟨(Nat.le_of_ble_eq_true rfl), (Nat.le_of_ble_eq_true rfl)⟩ ⟨(Nat.zero_le _), (Nat.zero_le _)⟩ dX2_fallInOneGo_17 ?_
        refine va_mmax hx hb (hml.trans hl.1.symm) hown (hts _ (List.mem_cons_of_mem _ q400)) (hts _ (List.mem_cons_of_mem _ qt_yJ9_max_7cf53)) (hts _ (List.mem_cons_of_mem _ q19)) (hts _ (List.mem_cons_of_mem _ qc_yJ9_max_7cf53)) (Nat.le_of_ble_eq_true rfl) (Nat.le_of_ble_eq_true rfl) (Nat.zero_le _) (Nat.zero_le _) dX2_fallInOneGo_20 ?_
        refine lv_istore_n (lv' := [(1, .int (if i1_1 < r_5 then r_5 else i1_1)), (0, .ref a_p0), (2, .int i2_2), (3, .int i3_3)]) hx hb dX2_fallInOneGo_23 rfl hl (by decide) rfl (fun ls hl => ?_)
        refine lv_iload_n hx hb dX2_fallInOneGo_24 rfl (lv_at hl 2 rfl) ?_
        refine lv_iload_n hx hb dX2_fallInOneGo_25 rfl (lv_at hl 0 rfl) ?_
        refine lv_aload_n hx hb dX2_fallInOneGo_26 rfl (lv_at hl 1 rfl) ?_
        refine lv_iload_n hx hb dX2_fallInOneGo_27 rfl (lv_at hl 3 rfl) ?_
        obtain ⟨r_6, hq, hf⟩ := bd1_some hf
        refine rdVN (As := [.int i3_3]) (rest := [.int (if i1_1 < r_5 then r_5 else i1_1), .int i2_2]) hF hG hP hl.1 (c_X6_at l G a_p0 p0_length p0_shorter p0_longer p0_memory p0_limit p0_seasonDays p0_stopped p0_stopPart p0_stopReason a_p0_row p0_row i3_3 r_6 hq) k_X6_at n399 [0, 1] rfl ⟨0, 2, _, _, rfl, rfl, rfl⟩ rfl rfl (Nat.le_of_ble_eq_true rfl) ⟨(Nat.le_of_ble_eq_true rfl), (Nat.le_of_ble_eq_true rfl)⟩ ⟨(Nat.zero_le _), (Nat.zero_le _)⟩ dX2_fallInOneGo_28 ?_
        refine lv_isub hx hb dX2_fallInOneGo_31 ?_
        refine va_mmax hx hb (hml.trans hl.1.symm) hown (hts _ (List.mem_cons_of_mem _ q400)) (hts _ (List.mem_cons_of_mem _ qt_yJ9_max_7cf53)) (hts _ (List.mem_cons_of_mem _ q19)) (hts _ (List.mem_cons_of_mem _ qc_yJ9_max_7cf53)) (Nat.le_of_ble_eq_true rfl) (Nat.le_of_ble_eq_true rfl) (Nat.zero_le _) (Nat.zero_le _) dX2_fallInOneGo_32 ?_
        refine lv_istore_n (lv' := [(2, .int (if i2_2 < ((if i1_1 < r_5 then r_5 else i1_1) - r_6) then ((if i1_1 < r_5 then r_5 else i1_1) - r_6) else i2_2)), (1, .int (if i1_1 < r_5 then r_5 else i1_1)), (0, .ref a_p0), (3, .int i3_3)]) hx hb dX2_fallInOneGo_35 rfl hl (by decide) rfl (fun ls hl => ?_)
        refine lv_iinc (v := (i3_3 + 1)) (lv' := [(3, .int (i3_3 + 1)), (2, .int (if i2_2 < ((if i1_1 < r_5 then r_5 else i1_1) - r_6) then ((if i1_1 < r_5 then r_5 else i1_1) - r_6) else i2_2)), (1, .int (if i1_1 < r_5 then r_5 else i1_1)), (0, .ref a_p0)]) hx hb dX2_fallInOneGo_36 hl (k := 3) rfl rfl (by decide) rfl (fun ls hl => ?_)
        refine lv_goto (tgt := 6) hx hb dX2_fallInOneGo_39 (by decide) ?_
        exact ih (if i1_1 < r_5 then r_5 else i1_1) (if i2_2 < ((if i1_1 < r_5 then r_5 else i1_1) - r_6) then ((if i1_1 < r_5 then r_5 else i1_1) - r_6) else i2_2) (i3_3 + 1) hf ls (lv_sub hl [3, 2, 1, 0] rfl)
  exact L6 1000 0 0 0 hq ls (lv_sub hl [3, 2, 1, 0] rfl)
def f_X11_greatestFall (t_now_length : Int32) (t_now_row : Nat → Int32) : Option (Int32) := bd1 (f_X2_fallInOneGo t_now_length t_now_row) (fun (r_1 : Int32) => some r_1)
theorem k_X11_greatestFall : KV yX11_greatestFall cX11_greatestFall 1 (some .int) 0 := ⟨qc_yX11_greatestFall, q1, ⟨by decide +kernel, by decide +kernel, by decide +kernel⟩, qi_yX11_greatestFall, qs_yX11_greatestFall⟩
abbrev RM_X11_greatestFall : Room := { frames := 2, cells := 0, slots := 0, locals := 53 }
set_option maxHeartbeats 4000000 in
set_option maxRecDepth 100000 in
theorem c_X11_greatestFall (l : Launch) (G : GP) (a_t : Nat) (a_t_trial : Nat) (a_t_snapshot : Nat) (t_snapshotTaken : Int32) (a_t_history : Nat) (a_t_text : Nat) (a_t_works : Nat) (a_t_highs : Nat) (a_t_trade : Nat) (a_t_now : Nat) (t_now_length : Int32) (t_now_shorter : Int32) (t_now_longer : Int32) (t_now_memory : Int32) (t_now_limit : Int32) (t_now_seasonDays : Int32) (t_now_stopped : Int32) (t_now_stopPart : Int32) (t_now_stopReason : Int32) (a_t_now_row : Nat) (t_now_row : Nat → Int32) (rr : Int32) (hf : f_X11_greatestFall t_now_length t_now_row = some rr) : RM l yX11_greatestFall cX11_greatestFall 1 (some .int) 2 53 G [.ref a_t] [(a_t, .inr (7, [.ref a_t_now, .ref a_t_trial, .ref a_t_snapshot, .int t_snapshotTaken, .ref a_t_history, .ref a_t_text, .ref a_t_works, .ref a_t_highs, .ref a_t_trade])), (a_t_now, .inr (2, [.ref a_t_now_row, .int t_now_length, .int t_now_shorter, .int t_now_longer, .int t_now_memory, .int t_now_limit, .int t_now_seasonDays, .int t_now_stopped, .int t_now_stopPart, .int t_now_stopReason])), (a_t_now_row, .inl (G.2.1, 60, .inl t_now_row))] (some (.int rr)) := by
  refine RM.ofW (C := RX11) (by decide) rfl (Nat.le_of_ble_eq_true rfl) ?_
  intro p e s m below meth c hF hr hlk hG hP ls hl
  have hl : lv_has ls 1 [(0, .ref a_t)] := hl
  have hx := hF.1
  have hb := hF.2.1
  have hml := hF.2.2.1
  have hown := hF.2.2.2.1
  have hts := hF.2.2.2.2
  unfold f_X11_greatestFall at hf
  refine lv_aload_n hx hb dX11_greatestFall_0 rfl (lv_at hl 0 rfl) ?_
  refine gf (C := RX11) (T := TX11) (N := 9) (ci := 7) (v := .ref a_t_now) hF hG hP inX11 0 rfl rfl 0 (by decide) q204 rfl rfl dX11_greatestFall_1 ?_
  obtain ⟨r_1, hq, hf⟩ := bd1_some hf
  refine rdSN (As := [.ref a_t_now]) (rest := []) hF hG hP hl.1 (c_X2_fallInOneGo l G a_t_now t_now_length t_now_shorter t_now_longer t_now_memory t_now_limit t_now_seasonDays t_now_stopped t_now_stopPart t_now_stopReason a_t_now_row t_now_row r_1 hq) k_X2_fallInOneGo n396 [1, 2] rfl rfl rfl (Nat.le_of_ble_eq_true rfl) ⟨(Nat.le_of_ble_eq_true rfl), (Nat.le_of_ble_eq_true rfl)⟩ ⟨(Nat.zero_le _), (Nat.zero_le _)⟩ dX11_greatestFall_4 ?_
  have hf : (some r_1 : Option (Int32)) = some rr := hf
  cases hf
  exact re_i hF hr hlk dX11_greatestFall_7 rfl
def l_X2_fallByPairs_16 (p0_length : Int32) (p0_row : Nat → Int32) (i2_2 : Int32) : Nat → Int32 → Int32 → Option (Int32)
  | 0, _, _ => none
  | n + 1, i1_4, i3_5 => (if p0_length ≤ i3_5 then some i1_4 else bd1 (f_X6_at p0_row i2_2) (fun (r_7 : Int32) => bd1 (f_X6_at p0_row i3_5) (fun (r_8 : Int32) => l_X2_fallByPairs_16 p0_length p0_row i2_2 n (if i1_4 < (r_7 - r_8) then (r_7 - r_8) else i1_4) (i3_5 + 1))))
def l_X2_fallByPairs_4 (p0_length : Int32) (p0_row : Nat → Int32) : Nat → Int32 → Int32 → Option (Int32)
  | 0, _, _ => none
  | n + 1, i1_1, i2_2 => (if p0_length ≤ i2_2 then some i1_1 else bd1 (l_X2_fallByPairs_16 p0_length p0_row i2_2 1000 i1_1 (i2_2 + 1)) (fun (o1_6 : Int32) => l_X2_fallByPairs_4 p0_length p0_row n o1_6 (i2_2 + 1)))
def f_X2_fallByPairs (p0_length : Int32) (p0_row : Nat → Int32) : Option (Int32) := bd1 (l_X2_fallByPairs_4 p0_length p0_row 1000 0 0) (fun (o1_3 : Int32) => some o1_3)
theorem k_X2_fallByPairs : KS yX2_fallByPairs cX2_fallByPairs 4 (some .int) 1 := ⟨qc_yX2_fallByPairs, q7, ⟨by decide +kernel, by decide +kernel, by decide +kernel⟩, qt_yX2_fallByPairs⟩
abbrev RM_X2_fallByPairs : Room := { frames := 1, cells := 0, slots := 0, locals := 30 }
set_option maxHeartbeats 4000000 in
set_option maxRecDepth 100000 in
theorem c_X2_fallByPairs (l : Launch) (G : GP) (a_p0 : Nat) (p0_length : Int32) (p0_shorter : Int32) (p0_longer : Int32) (p0_memory : Int32) (p0_limit : Int32) (p0_seasonDays : Int32) (p0_stopped : Int32) (p0_stopPart : Int32) (p0_stopReason : Int32) (a_p0_row : Nat) (p0_row : Nat → Int32) (rr : Int32) (hf : f_X2_fallByPairs p0_length p0_row = some rr) : RM l yX2_fallByPairs cX2_fallByPairs 4 (some .int) 1 30 G [.ref a_p0] [(a_p0, .inr (2, [.ref a_p0_row, .int p0_length, .int p0_shorter, .int p0_longer, .int p0_memory, .int p0_limit, .int p0_seasonDays, .int p0_stopped, .int p0_stopPart, .int p0_stopReason])), (a_p0_row, .inl (G.2.1, 60, .inl p0_row))] (some (.int rr)) := by
  refine RM.ofW (C := RX2) (by decide) rfl (Nat.le_of_ble_eq_true rfl) ?_
  intro p e s m below meth c hF hr hlk hG hP ls hl
  have hl : lv_has ls 4 [(0, .ref a_p0)] := hl
  have hx := hF.1
  have hb := hF.2.1
  have hml := hF.2.2.1
  have hown := hF.2.2.2.1
  have hts := hF.2.2.2.2
  unfold f_X2_fallByPairs at hf
  refine lv_iconst (v := 0) hx hb dX2_fallByPairs_0 (by decide) ?_
  refine lv_istore_n (lv' := [(1, .int 0), (0, .ref a_p0)]) hx hb dX2_fallByPairs_1 rfl hl (by decide) rfl (fun ls hl => ?_)
  refine lv_iconst (v := 0) hx hb dX2_fallByPairs_2 (by decide) ?_
  refine lv_istore_n (lv' := [(2, .int 0), (1, .int 0), (0, .ref a_p0)]) hx hb dX2_fallByPairs_3 rfl hl (by decide) rfl (fun ls hl => ?_)
  obtain ⟨o1_3, hq, hf⟩ := bd1_some hf
  have K4 : ∀ ls : Array Slot, lv_has ls 4 [(1, .int o1_3)] → W p l e RM_X2_fallByPairs s m [.ref a_p0].toArray below meth c s.heap [] 0 0 (MQ below (rdQ (some (.int rr))) [.ref a_p0].toArray s 0 0 (fun _ => False)) (F0 m 52 ls []) := by
    intro ls hl
    refine lv_iload_n hx hb dX2_fallByPairs_52 rfl (lv_at hl 0 rfl) ?_
    have hf : (some o1_3 : Option (Int32)) = some rr := hf
    cases hf
    exact re_i hF hr hlk dX2_fallByPairs_53 rfl
  clear hf
  have L4 : ∀ (n : Nat) (i1_1 : Int32) (i2_2 : Int32), l_X2_fallByPairs_4 p0_length p0_row n i1_1 i2_2 = some o1_3 → ∀ ls : Array Slot, lv_has ls 4 [(0, .ref a_p0), (1, .int i1_1), (2, .int i2_2)] → W p l e RM_X2_fallByPairs s m [.ref a_p0].toArray below meth c s.heap [] 0 0 (MQ below (rdQ (some (.int rr))) [.ref a_p0].toArray s 0 0 (fun _ => False)) (F0 m 4 ls []) := by
    intro n
    induction n with
    | zero =>
      intro i1_1 i2_2 hf
      exact nomatch (show none = some o1_3 from hf)
    | succ n ih =>
      intro i1_1 i2_2 hf ls hl
      rw [l_X2_fallByPairs_4] at hf
      refine lv_iload_n hx hb dX2_fallByPairs_4 rfl (lv_at hl 2 rfl) ?_
      refine lv_aload_n hx hb dX2_fallByPairs_5 rfl (lv_at hl 0 rfl) ?_
      refine gfN (C := RX6) (T := TX6) (N := 10) (ci := 2) (v := .int p0_length) hF hG hP inX6 0 rfl rfl 1 (by decide) n44 rfl rfl dX2_fallByPairs_6 ?_
      refine lv_icmp_ge (tgt := 52) hx hb dX2_fallByPairs_9 (by decide) (fun c0 => ?_) (fun c0 => ?_)
      · have hf := (if_pos c0).symm.trans hf
        have hf : (some i1_1 : Option (Int32)) = some o1_3 := hf
        cases hf
        exact K4 ls (lv_sub hl [1] rfl)
      · have hf := (if_neg c0).symm.trans hf
        refine lv_iload_n hx hb dX2_fallByPairs_12 rfl (lv_at hl 2 rfl) ?_
        refine lv_iconst (v := 1) hx hb dX2_fallByPairs_13 (by decide) ?_
        refine lv_iadd hx hb dX2_fallByPairs_14 ?_
        refine lv_istore_n (lv' := [(3, .int (i2_2 + 1)), (0, .ref a_p0), (1, .int i1_1), (2, .int i2_2)]) hx hb dX2_fallByPairs_15 rfl hl (by decide) rfl (fun ls hl => ?_)
        obtain ⟨o1_6, hq, hf⟩ := bd1_some hf
        have K16 : ∀ ls : Array Slot, lv_has ls 4 [(0, .ref a_p0), (1, .int o1_6), (2, .int i2_2)] → W p l e RM_X2_fallByPairs s m [.ref a_p0].toArray below meth c s.heap [] 0 0 (MQ below (rdQ (some (.int rr))) [.ref a_p0].toArray s 0 0 (fun _ => False)) (F0 m 46 ls []) := by
          intro ls hl
          refine lv_iinc (v := (i2_2 + 1)) (lv' := [(2, .int (i2_2 + 1)), (0, .ref a_p0), (1, .int o1_6)]) hx hb dX2_fallByPairs_46 hl (k := 2) rfl rfl (by decide) rfl (fun ls hl => ?_)
          refine lv_goto (tgt := 4) hx hb dX2_fallByPairs_49 (by decide) ?_
          exact ih o1_6 (i2_2 + 1) hf ls (lv_sub hl [1, 2, 0] rfl)
        clear hf
        have L16 : ∀ (n : Nat) (i1_4 : Int32) (i3_5 : Int32), l_X2_fallByPairs_16 p0_length p0_row i2_2 n i1_4 i3_5 = some o1_6 → ∀ ls : Array Slot, lv_has ls 4 [(0, .ref a_p0), (1, .int i1_4), (2, .int i2_2), (3, .int i3_5)] → W p l e RM_X2_fallByPairs s m [.ref a_p0].toArray below meth c s.heap [] 0 0 (MQ below (rdQ (some (.int rr))) [.ref a_p0].toArray s 0 0 (fun _ => False)) (F0 m 16 ls []) := by
          intro n
          induction n with
          | zero =>
            intro i1_4 i3_5 hf
            exact nomatch (show none = some o1_6 from hf)
          | succ n ih =>
            intro i1_4 i3_5 hf ls hl
            rw [l_X2_fallByPairs_16] at hf
            refine lv_iload_n hx hb dX2_fallByPairs_16 rfl (lv_at hl 3 rfl) ?_
            refine lv_aload_n hx hb dX2_fallByPairs_17 rfl (lv_at hl 0 rfl) ?_
            refine gfN (C := RX6) (T := TX6) (N := 10) (ci := 2) (v := .int p0_length) hF hG hP inX6 0 rfl rfl 1 (by decide) n44 rfl rfl dX2_fallByPairs_18 ?_
            refine lv_icmp_ge (tgt := 46) hx hb dX2_fallByPairs_21 (by decide) (fun c0 => ?_) (fun c0 => ?_)
            · have hf := (if_pos c0).symm.trans hf
              have hf : (some i1_4 : Option (Int32)) = some o1_6 := hf
              cases hf
              exact K16 ls (lv_sub hl [0, 1, 2] rfl)
            · have hf := (if_neg c0).symm.trans hf
              refine lv_iload_n hx hb dX2_fallByPairs_24 rfl (lv_at hl 1 rfl) ?_
              refine lv_aload_n hx hb dX2_fallByPairs_25 rfl (lv_at hl 0 rfl) ?_
              refine lv_iload_n hx hb dX2_fallByPairs_26 rfl (lv_at hl 2 rfl) ?_
              obtain ⟨r_7, hq, hf⟩ := bd1_some hf
              refine rdVN (As := [.int i2_2]) (rest := [.int i1_4]) hF hG hP hl.1 (c_X6_at l G a_p0 p0_length p0_shorter p0_longer p0_memory p0_limit p0_seasonDays p0_stopped p0_stopPart p0_stopReason a_p0_row p0_row i2_2 r_7 hq) k_X6_at n399 [0, 1] rfl ⟨0, 2, _, _, rfl, rfl, rfl⟩ rfl rfl (Nat.le_of_ble_eq_true rfl) ⟨(Nat.le_of_ble_eq_true rfl), (Nat.le_of_ble_eq_true rfl)⟩ ⟨(Nat.zero_le _), (Nat.zero_le _)⟩ dX2_fallByPairs_27 ?_
              refine lv_aload_n hx hb dX2_fallByPairs_30 rfl (lv_at hl 0 rfl) ?_
              refine lv_iload_n hx hb dX2_fallByPairs_31 rfl (lv_at hl 3 rfl) ?_
              obtain ⟨r_8, hq, hf⟩ := bd1_some hf
              refine rdVN (As := [.int i3_5]) (rest := [.int r_7, .int i1_4]) hF hG hP hl.1 (c_X6_at l G a_p0 p0_length p0_shorter p0_longer p0_memory p0_limit p0_seasonDays p0_stopped p0_stopPart p0_stopReason a_p0_row p0_row i3_5 r_8 hq) k_X6_at n399 [0, 1] rfl ⟨0, 2, _, _, rfl, rfl, rfl⟩ rfl rfl (Nat.le_of_ble_eq_true rfl) ⟨(Nat.le_of_ble_eq_true rfl), (Nat.le_of_ble_eq_true rfl)⟩ ⟨(Nat.zero_le _), (Nat.zero_le _)⟩ dX2_fallByPairs_32 ?_
              refine lv_isub hx hb dX2_fallByPairs_35 ?_
              refine va_mmax hx hb (hml.trans hl.1.symm) hown (hts _ (List.mem_cons_of_mem _ q400)) (hts _ (List.mem_cons_of_mem _ qt_yJ9_max_7cf53)) (hts _ (List.mem_cons_of_mem _ q19)) (hts _ (List.mem_cons_of_mem _ qc_yJ9_max_7cf53)) (Nat.le_of_ble_eq_true rfl) (Nat.le_of_ble_eq_true rfl) (Nat.zero_le _) (Nat.zero_le _) dX2_fallByPairs_36 ?_
              refine lv_istore_n (lv' := [(1, .int (if i1_4 < (r_7 - r_8) then (r_7 - r_8) else i1_4)), (0, .ref a_p0), (2, .int i2_2), (3, .int i3_5)]) hx hb dX2_fallByPairs_39 rfl hl (by decide) rfl (fun ls hl => ?_)
              refine lv_iinc (v := (i3_5 + 1)) (lv' := [(3, .int (i3_5 + 1)), (1, .int (if i1_4 < (r_7 - r_8) then (r_7 - r_8) else i1_4)), (0, .ref a_p0), (2, .int i2_2)]) hx hb dX2_fallByPairs_40 hl (k := 3) rfl rfl (by decide) rfl (fun ls hl => ?_)
              refine lv_goto (tgt := 16) hx hb dX2_fallByPairs_43 (by decide) ?_
              exact ih (if i1_4 < (r_7 - r_8) then (r_7 - r_8) else i1_4) (i3_5 + 1) hf ls (lv_sub hl [2, 1, 3, 0] rfl)
        exact L16 1000 i1_1 (i2_2 + 1) hq ls (lv_sub hl [1, 2, 3, 0] rfl)
  exact L4 1000 0 0 hq ls (lv_sub hl [2, 1, 0] rfl)
def f_X11_greatestFallByPairs (t_now_length : Int32) (t_now_row : Nat → Int32) : Option (Int32) := bd1 (f_X2_fallByPairs t_now_length t_now_row) (fun (r_1 : Int32) => some r_1)
theorem k_X11_greatestFallByPairs : KV yX11_greatestFallByPairs cX11_greatestFallByPairs 1 (some .int) 0 := ⟨qc_yX11_greatestFallByPairs, q1, ⟨by decide +kernel, by decide +kernel, by decide +kernel⟩, qi_yX11_greatestFallByPairs, qs_yX11_greatestFallByPairs⟩
abbrev RM_X11_greatestFallByPairs : Room := { frames := 2, cells := 0, slots := 0, locals := 53 }
set_option maxHeartbeats 4000000 in
set_option maxRecDepth 100000 in
theorem c_X11_greatestFallByPairs (l : Launch) (G : GP) (a_t : Nat) (a_t_trial : Nat) (a_t_snapshot : Nat) (t_snapshotTaken : Int32) (a_t_history : Nat) (a_t_text : Nat) (a_t_works : Nat) (a_t_highs : Nat) (a_t_trade : Nat) (a_t_now : Nat) (t_now_length : Int32) (t_now_shorter : Int32) (t_now_longer : Int32) (t_now_memory : Int32) (t_now_limit : Int32) (t_now_seasonDays : Int32) (t_now_stopped : Int32) (t_now_stopPart : Int32) (t_now_stopReason : Int32) (a_t_now_row : Nat) (t_now_row : Nat → Int32) (rr : Int32) (hf : f_X11_greatestFallByPairs t_now_length t_now_row = some rr) : RM l yX11_greatestFallByPairs cX11_greatestFallByPairs 1 (some .int) 2 53 G [.ref a_t] [(a_t, .inr (7, [.ref a_t_now, .ref a_t_trial, .ref a_t_snapshot, .int t_snapshotTaken, .ref a_t_history, .ref a_t_text, .ref a_t_works, .ref a_t_highs, .ref a_t_trade])), (a_t_now, .inr (2, [.ref a_t_now_row, .int t_now_length, .int t_now_shorter, .int t_now_longer, .int t_now_memory, .int t_now_limit, .int t_now_seasonDays, .int t_now_stopped, .int t_now_stopPart, .int t_now_stopReason])), (a_t_now_row, .inl (G.2.1, 60, .inl t_now_row))] (some (.int rr)) := by
  refine RM.ofW (C := RX11) (by decide) rfl (Nat.le_of_ble_eq_true rfl) ?_
  intro p e s m below meth c hF hr hlk hG hP ls hl
  have hl : lv_has ls 1 [(0, .ref a_t)] := hl
  have hx := hF.1
  have hb := hF.2.1
  have hml := hF.2.2.1
  have hown := hF.2.2.2.1
  have hts := hF.2.2.2.2
  unfold f_X11_greatestFallByPairs at hf
  refine lv_aload_n hx hb dX11_greatestFallByPairs_0 rfl (lv_at hl 0 rfl) ?_
  refine gf (C := RX11) (T := TX11) (N := 9) (ci := 7) (v := .ref a_t_now) hF hG hP inX11 0 rfl rfl 0 (by decide) q204 rfl rfl dX11_greatestFallByPairs_1 ?_
  obtain ⟨r_1, hq, hf⟩ := bd1_some hf
  refine rdSN (As := [.ref a_t_now]) (rest := []) hF hG hP hl.1 (c_X2_fallByPairs l G a_t_now t_now_length t_now_shorter t_now_longer t_now_memory t_now_limit t_now_seasonDays t_now_stopped t_now_stopPart t_now_stopReason a_t_now_row t_now_row r_1 hq) k_X2_fallByPairs n407 [1, 2] rfl rfl rfl (Nat.le_of_ble_eq_true rfl) ⟨(Nat.le_of_ble_eq_true rfl), (Nat.le_of_ble_eq_true rfl)⟩ ⟨(Nat.zero_le _), (Nat.zero_le _)⟩ dX11_greatestFallByPairs_4 ?_
  have hf : (some r_1 : Option (Int32)) = some rr := hf
  cases hf
  exact re_i hF hr hlk dX11_greatestFallByPairs_7 rfl
def l_X2_riseInARow_6 (p0_length : Int32) (p0_row : Nat → Int32) : Nat → Int32 → Int32 → Int32 → Option (Int32)
  | 0, _, _, _ => none
  | n + 1, i1_1, i2_2, i3_3 => (if p0_length ≤ i3_3 then some i1_1 else bd1 (f_X6_at p0_row i3_3) (fun (r_5 : Int32) => bd1 (f_X6_at p0_row (i3_3 - 1)) (fun (r_6 : Int32) => (if r_5 ≤ r_6 then l_X2_riseInARow_6 p0_length p0_row n (if i1_1 < 0 then 0 else i1_1) 0 (i3_3 + 1) else l_X2_riseInARow_6 p0_length p0_row n (if i1_1 < (i2_2 + 1) then (i2_2 + 1) else i1_1) (i2_2 + 1) (i3_3 + 1)))))
def f_X2_riseInARow (p0_length : Int32) (p0_row : Nat → Int32) : Option (Int32) := bd1 (l_X2_riseInARow_6 p0_length p0_row 1000 0 0 1) (fun (o1_4 : Int32) => some o1_4)
theorem k_X2_riseInARow : KS yX2_riseInARow cX2_riseInARow 4 (some .int) 1 := ⟨qc_yX2_riseInARow, q7, ⟨by decide +kernel, by decide +kernel, by decide +kernel⟩, qt_yX2_riseInARow⟩
abbrev RM_X2_riseInARow : Room := { frames := 1, cells := 0, slots := 0, locals := 30 }
set_option maxHeartbeats 4000000 in
set_option maxRecDepth 100000 in
theorem c_X2_riseInARow (l : Launch) (G : GP) (a_p0 : Nat) (p0_length : Int32) (p0_shorter : Int32) (p0_longer : Int32) (p0_memory : Int32) (p0_limit : Int32) (p0_seasonDays : Int32) (p0_stopped : Int32) (p0_stopPart : Int32) (p0_stopReason : Int32) (a_p0_row : Nat) (p0_row : Nat → Int32) (rr : Int32) (hf : f_X2_riseInARow p0_length p0_row = some rr) : RM l yX2_riseInARow cX2_riseInARow 4 (some .int) 1 30 G [.ref a_p0] [(a_p0, .inr (2, [.ref a_p0_row, .int p0_length, .int p0_shorter, .int p0_longer, .int p0_memory, .int p0_limit, .int p0_seasonDays, .int p0_stopped, .int p0_stopPart, .int p0_stopReason])), (a_p0_row, .inl (G.2.1, 60, .inl p0_row))] (some (.int rr)) := by
  refine RM.ofW (C := RX2) (by decide) rfl (Nat.le_of_ble_eq_true rfl) ?_
  intro p e s m below meth c hF hr hlk hG hP ls hl
  have hl : lv_has ls 4 [(0, .ref a_p0)] := hl
  have hx := hF.1
  have hb := hF.2.1
  have hml := hF.2.2.1
  have hown := hF.2.2.2.1
  have hts := hF.2.2.2.2
  unfold f_X2_riseInARow at hf
  refine lv_iconst (v := 0) hx hb dX2_riseInARow_0 (by decide) ?_
  refine lv_istore_n (lv' := [(1, .int 0), (0, .ref a_p0)]) hx hb dX2_riseInARow_1 rfl hl (by decide) rfl (fun ls hl => ?_)
  refine lv_iconst (v := 0) hx hb dX2_riseInARow_2 (by decide) ?_
  refine lv_istore_n (lv' := [(2, .int 0), (1, .int 0), (0, .ref a_p0)]) hx hb dX2_riseInARow_3 rfl hl (by decide) rfl (fun ls hl => ?_)
  refine lv_iconst (v := 1) hx hb dX2_riseInARow_4 (by decide) ?_
  refine lv_istore_n (lv' := [(3, .int 1), (2, .int 0), (1, .int 0), (0, .ref a_p0)]) hx hb dX2_riseInARow_5 rfl hl (by decide) rfl (fun ls hl => ?_)
  obtain ⟨o1_4, hq, hf⟩ := bd1_some hf
  have K6 : ∀ ls : Array Slot, lv_has ls 4 [(1, .int o1_4)] → W p l e RM_X2_riseInARow s m [.ref a_p0].toArray below meth c s.heap [] 0 0 (MQ below (rdQ (some (.int rr))) [.ref a_p0].toArray s 0 0 (fun _ => False)) (F0 m 49 ls []) := by
    intro ls hl
    refine lv_iload_n hx hb dX2_riseInARow_49 rfl (lv_at hl 0 rfl) ?_
    have hf : (some o1_4 : Option (Int32)) = some rr := hf
    cases hf
    exact re_i hF hr hlk dX2_riseInARow_50 rfl
  clear hf
  have L6 : ∀ (n : Nat) (i1_1 : Int32) (i2_2 : Int32) (i3_3 : Int32), l_X2_riseInARow_6 p0_length p0_row n i1_1 i2_2 i3_3 = some o1_4 → ∀ ls : Array Slot, lv_has ls 4 [(0, .ref a_p0), (1, .int i1_1), (2, .int i2_2), (3, .int i3_3)] → W p l e RM_X2_riseInARow s m [.ref a_p0].toArray below meth c s.heap [] 0 0 (MQ below (rdQ (some (.int rr))) [.ref a_p0].toArray s 0 0 (fun _ => False)) (F0 m 6 ls []) := by
    intro n
    induction n with
    | zero =>
      intro i1_1 i2_2 i3_3 hf
      exact nomatch (show none = some o1_4 from hf)
    | succ n ih =>
      intro i1_1 i2_2 i3_3 hf ls hl
      rw [l_X2_riseInARow_6] at hf
      refine lv_iload_n hx hb dX2_riseInARow_6 rfl (lv_at hl 3 rfl) ?_
      refine lv_aload_n hx hb dX2_riseInARow_7 rfl (lv_at hl 0 rfl) ?_
      refine gfN (C := RX6) (T := TX6) (N := 10) (ci := 2) (v := .int p0_length) hF hG hP inX6 0 rfl rfl 1 (by decide) n44 rfl rfl dX2_riseInARow_8 ?_
      refine lv_icmp_ge (tgt := 49) hx hb dX2_riseInARow_11 (by decide) (fun c0 => ?_) (fun c0 => ?_)
      · have hf := (if_pos c0).symm.trans hf
        have hf : (some i1_1 : Option (Int32)) = some o1_4 := hf
        cases hf
        exact K6 ls (lv_sub hl [1] rfl)
      · have hf := (if_neg c0).symm.trans hf
        refine lv_aload_n hx hb dX2_riseInARow_14 rfl (lv_at hl 0 rfl) ?_
        refine lv_iload_n hx hb dX2_riseInARow_15 rfl (lv_at hl 3 rfl) ?_
        obtain ⟨r_5, hq, hf⟩ := bd1_some hf
        refine rdVN (As := [.int i3_3]) (rest := []) hF hG hP hl.1 (c_X6_at l G a_p0 p0_length p0_shorter p0_longer p0_memory p0_limit p0_seasonDays p0_stopped p0_stopPart p0_stopReason a_p0_row p0_row i3_3 r_5 hq) k_X6_at n399 [0, 1] rfl ⟨0, 2, _, _, rfl, rfl, rfl⟩ rfl rfl (Nat.le_of_ble_eq_true rfl) ⟨(Nat.le_of_ble_eq_true rfl), (Nat.le_of_ble_eq_true rfl)⟩ ⟨(Nat.zero_le _), (Nat.zero_le _)⟩ dX2_riseInARow_16 ?_
        refine lv_aload_n hx hb dX2_riseInARow_19 rfl (lv_at hl 0 rfl) ?_
        refine lv_iload_n hx hb dX2_riseInARow_20 rfl (lv_at hl 3 rfl) ?_
        refine lv_iconst (v := 1) hx hb dX2_riseInARow_21 (by decide) ?_
        refine lv_isub hx hb dX2_riseInARow_22 ?_
        obtain ⟨r_6, hq, hf⟩ := bd1_some hf
        refine rdVN (As := [.int (i3_3 - 1)]) (rest := [.int r_5]) hF hG hP hl.1 (c_X6_at l G a_p0 p0_length p0_shorter p0_longer p0_memory p0_limit p0_seasonDays p0_stopped p0_stopPart p0_stopReason a_p0_row p0_row (i3_3 - 1) r_6 hq) k_X6_at n399 [0, 1] rfl ⟨0, 2, _, _, rfl, rfl, rfl⟩ rfl rfl (Nat.le_of_ble_eq_true rfl) ⟨(Nat.le_of_ble_eq_true rfl), (Nat.le_of_ble_eq_true rfl)⟩ ⟨(Nat.zero_le _), (Nat.zero_le _)⟩ dX2_riseInARow_23 ?_
        refine lv_icmp_le (tgt := 35) hx hb dX2_riseInARow_26 (by decide) (fun c0 => ?_) (fun c0 => ?_)
        · have hf := (if_pos c0).symm.trans hf
          refine lv_iconst (v := 0) hx hb dX2_riseInARow_35 (by decide) ?_
          refine lv_istore_n (lv' := [(2, .int 0), (0, .ref a_p0), (1, .int i1_1), (3, .int i3_3)]) hx hb dX2_riseInARow_36 rfl hl (by decide) rfl (fun ls hl => ?_)
          refine lv_iload_n hx hb dX2_riseInARow_37 rfl (lv_at hl 2 rfl) ?_
          refine lv_iload_n hx hb dX2_riseInARow_38 rfl (lv_at hl 0 rfl) ?_
          refine va_mmax hx hb (hml.trans hl.1.symm) hown (hts _ (List.mem_cons_of_mem _ q400)) (hts _ (List.mem_cons_of_mem _ qt_yJ9_max_7cf53)) (hts _ (List.mem_cons_of_mem _ q19)) (hts _ (List.mem_cons_of_mem _ qc_yJ9_max_7cf53)) (Nat.le_of_ble_eq_true rfl) (Nat.le_of_ble_eq_true rfl) (Nat.zero_le _) (Nat.zero_le _) dX2_riseInARow_39 ?_
          refine lv_istore_n (lv' := [(1, .int (if i1_1 < 0 then 0 else i1_1)), (2, .int 0), (0, .ref a_p0), (3, .int i3_3)]) hx hb dX2_riseInARow_42 rfl hl (by decide) rfl (fun ls hl => ?_)
          refine lv_iinc (v := (i3_3 + 1)) (lv' := [(3, .int (i3_3 + 1)), (1, .int (if i1_1 < 0 then 0 else i1_1)), (2, .int 0), (0, .ref a_p0)]) hx hb dX2_riseInARow_43 hl (k := 3) rfl rfl (by decide) rfl (fun ls hl => ?_)
          refine lv_goto (tgt := 6) hx hb dX2_riseInARow_46 (by decide) ?_
          exact ih (if i1_1 < 0 then 0 else i1_1) 0 (i3_3 + 1) hf ls (lv_sub hl [3, 1, 2, 0] rfl)
        · have hf := (if_neg c0).symm.trans hf
          refine lv_iload_n hx hb dX2_riseInARow_29 rfl (lv_at hl 2 rfl) ?_
          refine lv_iconst (v := 1) hx hb dX2_riseInARow_30 (by decide) ?_
          refine lv_iadd hx hb dX2_riseInARow_31 ?_
          refine lv_goto (tgt := 36) hx hb dX2_riseInARow_32 (by decide) ?_
          refine lv_istore_n (lv' := [(2, .int (i2_2 + 1)), (0, .ref a_p0), (1, .int i1_1), (3, .int i3_3)]) hx hb dX2_riseInARow_36 rfl hl (by decide) rfl (fun ls hl => ?_)
          refine lv_iload_n hx hb dX2_riseInARow_37 rfl (lv_at hl 2 rfl) ?_
          refine lv_iload_n hx hb dX2_riseInARow_38 rfl (lv_at hl 0 rfl) ?_
          refine va_mmax hx hb (hml.trans hl.1.symm) hown (hts _ (List.mem_cons_of_mem _ q400)) (hts _ (List.mem_cons_of_mem _ qt_yJ9_max_7cf53)) (hts _ (List.mem_cons_of_mem _ q19)) (hts _ (List.mem_cons_of_mem _ qc_yJ9_max_7cf53)) (Nat.le_of_ble_eq_true rfl) (Nat.le_of_ble_eq_true rfl) (Nat.zero_le _) (Nat.zero_le _) dX2_riseInARow_39 ?_
          refine lv_istore_n (lv' := [(1, .int (if i1_1 < (i2_2 + 1) then (i2_2 + 1) else i1_1)), (2, .int (i2_2 + 1)), (0, .ref a_p0), (3, .int i3_3)]) hx hb dX2_riseInARow_42 rfl hl (by decide) rfl (fun ls hl => ?_)
          refine lv_iinc (v := (i3_3 + 1)) (lv' := [(3, .int (i3_3 + 1)), (1, .int (if i1_1 < (i2_2 + 1) then (i2_2 + 1) else i1_1)), (2, .int (i2_2 + 1)), (0, .ref a_p0)]) hx hb dX2_riseInARow_43 hl (k := 3) rfl rfl (by decide) rfl (fun ls hl => ?_)
          refine lv_goto (tgt := 6) hx hb dX2_riseInARow_46 (by decide) ?_
          exact ih (if i1_1 < (i2_2 + 1) then (i2_2 + 1) else i1_1) (i2_2 + 1) (i3_3 + 1) hf ls (lv_sub hl [3, 1, 2, 0] rfl)
  exact L6 1000 0 0 1 hq ls (lv_sub hl [3, 2, 1, 0] rfl)
def f_X11_longestRise (t_now_length : Int32) (t_now_row : Nat → Int32) : Option (Int32) := bd1 (f_X2_riseInARow t_now_length t_now_row) (fun (r_1 : Int32) => some r_1)
theorem k_X11_longestRise : KV yX11_longestRise cX11_longestRise 1 (some .int) 0 := ⟨qc_yX11_longestRise, q1, ⟨by decide +kernel, by decide +kernel, by decide +kernel⟩, qi_yX11_longestRise, qs_yX11_longestRise⟩
abbrev RM_X11_longestRise : Room := { frames := 2, cells := 0, slots := 0, locals := 53 }
set_option maxHeartbeats 4000000 in
set_option maxRecDepth 100000 in
theorem c_X11_longestRise (l : Launch) (G : GP) (a_t : Nat) (a_t_trial : Nat) (a_t_snapshot : Nat) (t_snapshotTaken : Int32) (a_t_history : Nat) (a_t_text : Nat) (a_t_works : Nat) (a_t_highs : Nat) (a_t_trade : Nat) (a_t_now : Nat) (t_now_length : Int32) (t_now_shorter : Int32) (t_now_longer : Int32) (t_now_memory : Int32) (t_now_limit : Int32) (t_now_seasonDays : Int32) (t_now_stopped : Int32) (t_now_stopPart : Int32) (t_now_stopReason : Int32) (a_t_now_row : Nat) (t_now_row : Nat → Int32) (rr : Int32) (hf : f_X11_longestRise t_now_length t_now_row = some rr) : RM l yX11_longestRise cX11_longestRise 1 (some .int) 2 53 G [.ref a_t] [(a_t, .inr (7, [.ref a_t_now, .ref a_t_trial, .ref a_t_snapshot, .int t_snapshotTaken, .ref a_t_history, .ref a_t_text, .ref a_t_works, .ref a_t_highs, .ref a_t_trade])), (a_t_now, .inr (2, [.ref a_t_now_row, .int t_now_length, .int t_now_shorter, .int t_now_longer, .int t_now_memory, .int t_now_limit, .int t_now_seasonDays, .int t_now_stopped, .int t_now_stopPart, .int t_now_stopReason])), (a_t_now_row, .inl (G.2.1, 60, .inl t_now_row))] (some (.int rr)) := by
  refine RM.ofW (C := RX11) (by decide) rfl (Nat.le_of_ble_eq_true rfl) ?_
  intro p e s m below meth c hF hr hlk hG hP ls hl
  have hl : lv_has ls 1 [(0, .ref a_t)] := hl
  have hx := hF.1
  have hb := hF.2.1
  have hml := hF.2.2.1
  have hown := hF.2.2.2.1
  have hts := hF.2.2.2.2
  unfold f_X11_longestRise at hf
  refine lv_aload_n hx hb dX11_longestRise_0 rfl (lv_at hl 0 rfl) ?_
  refine gf (C := RX11) (T := TX11) (N := 9) (ci := 7) (v := .ref a_t_now) hF hG hP inX11 0 rfl rfl 0 (by decide) q204 rfl rfl dX11_longestRise_1 ?_
  obtain ⟨r_1, hq, hf⟩ := bd1_some hf
  refine rdSN (As := [.ref a_t_now]) (rest := []) hF hG hP hl.1 (c_X2_riseInARow l G a_t_now t_now_length t_now_shorter t_now_longer t_now_memory t_now_limit t_now_seasonDays t_now_stopped t_now_stopPart t_now_stopReason a_t_now_row t_now_row r_1 hq) k_X2_riseInARow n414 [1, 2] rfl rfl rfl (Nat.le_of_ble_eq_true rfl) ⟨(Nat.le_of_ble_eq_true rfl), (Nat.le_of_ble_eq_true rfl)⟩ ⟨(Nat.zero_le _), (Nat.zero_le _)⟩ dX11_longestRise_4 ?_
  have hf : (some r_1 : Option (Int32)) = some rr := hf
  cases hf
  exact re_i hF hr hlk dX11_longestRise_7 rfl
def f_X11_season (t_now_seasonDays : Int32) : Option (Int32) := some t_now_seasonDays
theorem k_X11_season : KV yX11_season cX11_season 1 (some .int) 0 := ⟨qc_yX11_season, q1, ⟨by decide +kernel, by decide +kernel, by decide +kernel⟩, qi_yX11_season, qs_yX11_season⟩
abbrev RM_X11_season : Room := { frames := 0, cells := 0, slots := 0, locals := 0 }
set_option maxHeartbeats 4000000 in
set_option maxRecDepth 100000 in
theorem c_X11_season (l : Launch) (G : GP) (a_t : Nat) (a_t_trial : Nat) (a_t_snapshot : Nat) (t_snapshotTaken : Int32) (a_t_history : Nat) (a_t_text : Nat) (a_t_works : Nat) (a_t_highs : Nat) (a_t_trade : Nat) (a_t_now : Nat) (a_t_now_row : Nat) (t_now_length : Int32) (t_now_shorter : Int32) (t_now_longer : Int32) (t_now_memory : Int32) (t_now_limit : Int32) (t_now_seasonDays : Int32) (t_now_stopped : Int32) (t_now_stopPart : Int32) (t_now_stopReason : Int32) (rr : Int32) (hf : f_X11_season t_now_seasonDays = some rr) : RM l yX11_season cX11_season 1 (some .int) 0 0 G [.ref a_t] [(a_t, .inr (7, [.ref a_t_now, .ref a_t_trial, .ref a_t_snapshot, .int t_snapshotTaken, .ref a_t_history, .ref a_t_text, .ref a_t_works, .ref a_t_highs, .ref a_t_trade])), (a_t_now, .inr (2, [.ref a_t_now_row, .int t_now_length, .int t_now_shorter, .int t_now_longer, .int t_now_memory, .int t_now_limit, .int t_now_seasonDays, .int t_now_stopped, .int t_now_stopPart, .int t_now_stopReason]))] (some (.int rr)) := by
  refine RM.ofW (C := RX11) (by decide) rfl (Nat.le_of_ble_eq_true rfl) ?_
  intro p e s m below meth c hF hr hlk hG hP ls hl
  have hl : lv_has ls 1 [(0, .ref a_t)] := hl
  have hx := hF.1
  have hb := hF.2.1
  have hml := hF.2.2.1
  have hown := hF.2.2.2.1
  have hts := hF.2.2.2.2
  unfold f_X11_season at hf
  refine lv_aload_n hx hb dX11_season_0 rfl (lv_at hl 0 rfl) ?_
  refine gf (C := RX11) (T := TX11) (N := 9) (ci := 7) (v := .ref a_t_now) hF hG hP inX11 0 rfl rfl 0 (by decide) q204 rfl rfl dX11_season_1 ?_
  refine gfN (C := RX6) (T := TX6) (N := 10) (ci := 2) (v := .int t_now_seasonDays) hF hG hP inX6 1 rfl rfl 6 (by decide) n68 rfl rfl dX11_season_4 ?_
  have hf : (some t_now_seasonDays : Option (Int32)) = some rr := hf
  cases hf
  exact re_i hF hr hlk dX11_season_7 rfl
def f_X11_smoothShare (t_now_length : Int32) (t_now_shorter : Int32) (t_now_limit : Int32) (t_now_row : Nat → Int32) : Option (UInt64) := (if t_now_length = 0 then some FP.dconst1 else bd1 (f_X0_number t_now_length t_now_shorter t_now_limit t_now_row) (fun (r_1 : Int32) => gd ((FP.ddiv (FP.i2d (t_now_length - r_1)) (FP.i2d t_now_length)) &&& 0x7fffffffffffffff ≤ 0x7ff0000000000000) (some (FP.ddiv (FP.i2d (t_now_length - r_1)) (FP.i2d t_now_length)))))
theorem k_X11_smoothShare : KV yX11_smoothShare cX11_smoothShare 1 (some .double) 0 := ⟨qc_yX11_smoothShare, q1, ⟨by decide +kernel, by decide +kernel, by decide +kernel⟩, qi_yX11_smoothShare, qs_yX11_smoothShare⟩
abbrev RM_X11_smoothShare : Room := { frames := 4, cells := 0, slots := 0, locals := 93 }
set_option maxHeartbeats 4000000 in
set_option maxRecDepth 100000 in
theorem c_X11_smoothShare (l : Launch) (G : GP) (a_t : Nat) (a_t_trial : Nat) (a_t_snapshot : Nat) (t_snapshotTaken : Int32) (a_t_history : Nat) (a_t_text : Nat) (a_t_works : Nat) (a_t_highs : Nat) (a_t_trade : Nat) (a_t_now : Nat) (t_now_length : Int32) (t_now_shorter : Int32) (t_now_longer : Int32) (t_now_memory : Int32) (t_now_limit : Int32) (t_now_seasonDays : Int32) (t_now_stopped : Int32) (t_now_stopPart : Int32) (t_now_stopReason : Int32) (a_t_now_row : Nat) (t_now_row : Nat → Int32) (rr : UInt64) (hf : f_X11_smoothShare t_now_length t_now_shorter t_now_limit t_now_row = some rr) : RM l yX11_smoothShare cX11_smoothShare 1 (some .double) 4 93 G [.ref a_t] [(a_t, .inr (7, [.ref a_t_now, .ref a_t_trial, .ref a_t_snapshot, .int t_snapshotTaken, .ref a_t_history, .ref a_t_text, .ref a_t_works, .ref a_t_highs, .ref a_t_trade])), (a_t_now, .inr (2, [.ref a_t_now_row, .int t_now_length, .int t_now_shorter, .int t_now_longer, .int t_now_memory, .int t_now_limit, .int t_now_seasonDays, .int t_now_stopped, .int t_now_stopPart, .int t_now_stopReason])), (a_t_now_row, .inl (G.2.1, 60, .inl t_now_row))] (some (.double rr)) := by
  refine RM.ofW (C := RX11) (by decide) rfl (Nat.le_of_ble_eq_true rfl) ?_
  intro p e s m below meth c hF hr hlk hG hP ls hl
  have hl : lv_has ls 1 [(0, .ref a_t)] := hl
  have hx := hF.1
  have hb := hF.2.1
  have hml := hF.2.2.1
  have hown := hF.2.2.2.1
  have hts := hF.2.2.2.2
  unfold f_X11_smoothShare at hf
  refine lv_aload_n hx hb dX11_smoothShare_0 rfl (lv_at hl 0 rfl) ?_
  refine gf (C := RX11) (T := TX11) (N := 9) (ci := 7) (v := .ref a_t_now) hF hG hP inX11 0 rfl rfl 0 (by decide) q204 rfl rfl dX11_smoothShare_1 ?_
  refine gfN (C := RX6) (T := TX6) (N := 10) (ci := 2) (v := .int t_now_length) hF hG hP inX6 1 rfl rfl 1 (by decide) n39 rfl rfl dX11_smoothShare_4 ?_
  refine lv_if_ne (tgt := 12) hx hb dX11_smoothShare_7 (by decide) (fun c0 => ?_) (fun c0 => ?_)
  · have hf := (if_neg c0).symm.trans hf
    refine lv_aload_n hx hb dX11_smoothShare_12 rfl (lv_at hl 0 rfl) ?_
    refine gf (C := RX11) (T := TX11) (N := 9) (ci := 7) (v := .ref a_t_now) hF hG hP inX11 0 rfl rfl 0 (by decide) q204 rfl rfl dX11_smoothShare_13 ?_
    refine gfN (C := RX6) (T := TX6) (N := 10) (ci := 2) (v := .int t_now_length) hF hG hP inX6 1 rfl rfl 1 (by decide) n39 rfl rfl dX11_smoothShare_16 ?_
    refine lv_aload_n hx hb dX11_smoothShare_19 rfl (lv_at hl 0 rfl) ?_
    refine gf (C := RX11) (T := TX11) (N := 9) (ci := 7) (v := .ref a_t_now) hF hG hP inX11 0 rfl rfl 0 (by decide) q204 rfl rfl dX11_smoothShare_20 ?_
    obtain ⟨r_1, hq, hf⟩ := bd1_some hf
    refine rdSN (As := [.ref a_t_now]) (rest := [.int t_now_length]) hF hG hP hl.1 (c_X0_number l G a_t_now t_now_length t_now_shorter t_now_longer t_now_memory t_now_limit t_now_seasonDays t_now_stopped t_now_stopPart t_now_stopReason a_t_now_row t_now_row r_1 hq) k_X0_number n367 [1, 2] rfl rfl rfl (Nat.le_of_ble_eq_true rfl) ⟨(Nat.le_of_ble_eq_true rfl), (Nat.le_of_ble_eq_true rfl)⟩ ⟨(Nat.zero_le _), (Nat.zero_le _)⟩ dX11_smoothShare_23 ?_
    refine lv_isub hx hb dX11_smoothShare_26 ?_
    refine lv_i2d hx hb dX11_smoothShare_27 ?_
    refine lv_aload_n hx hb dX11_smoothShare_28 rfl (lv_at hl 0 rfl) ?_
    refine gf (C := RX11) (T := TX11) (N := 9) (ci := 7) (v := .ref a_t_now) hF hG hP inX11 0 rfl rfl 0 (by decide) q204 rfl rfl dX11_smoothShare_29 ?_
    refine gfN (C := RX6) (T := TX6) (N := 10) (ci := 2) (v := .int t_now_length) hF hG hP inX6 1 rfl rfl 1 (by decide) n39 rfl rfl dX11_smoothShare_32 ?_
    refine lv_i2d hx hb dX11_smoothShare_35 ?_
    obtain ⟨hg, hf⟩ := gd_some hf
    refine lv_ddiv hx hb dX11_smoothShare_36 hg ?_
    have hf : (some (FP.ddiv (FP.i2d (t_now_length - r_1)) (FP.i2d t_now_length)) : Option (UInt64)) = some rr := hf
    cases hf
    exact re_d hF hr hlk dX11_smoothShare_37 rfl
  · have hf := (if_pos c0).symm.trans hf
    refine lv_dconst1 hx hb dX11_smoothShare_10 ?_
    have hf : (some FP.dconst1 : Option (UInt64)) = some rr := hf
    cases hf
    exact re_d hF hr hlk dX11_smoothShare_11 rfl
def f_X11_mixed (x0 : Int64) (x2 : Int64) : Option (Int64) := some ((31 * x0) + x2)
theorem k_X11_mixed : KS yX11_mixed cX11_mixed 4 (some .long) 2 := ⟨qc_yX11_mixed, q1, ⟨by decide +kernel, by decide +kernel, by decide +kernel⟩, qt_yX11_mixed⟩
abbrev RM_X11_mixed : Room := { frames := 0, cells := 0, slots := 0, locals := 0 }
set_option maxHeartbeats 4000000 in
set_option maxRecDepth 100000 in
theorem c_X11_mixed (l : Launch) (G : GP) (x0 : Int64) (x2 : Int64) (rr : Int64) (hf : f_X11_mixed x0 x2 = some rr) : RM l yX11_mixed cX11_mixed 4 (some .long) 0 0 G [.long x0, .long x2] [] (some (.long rr)) := by
  refine RM.ofW (C := RX11) (by decide) rfl (Nat.le_of_ble_eq_true rfl) ?_
  intro p e s m below meth c hF hr hlk hG hP ls hl
  have hl : lv_has ls 4 [(0, .long x0), (2, .long x2)] := hl
  have hx := hF.1
  have hb := hF.2.1
  have hml := hF.2.2.1
  have hown := hF.2.2.2.1
  have hts := hF.2.2.2.2
  unfold f_X11_mixed at hf
  refine lv_ldc2 (v := 31) hx hb hown (hts _ (List.mem_cons_of_mem _ q437)) dX11_mixed_0 ?_
  refine lv_lload_n hx hb dX11_mixed_3 rfl (lv_at hl 0 rfl) ?_
  refine lv_lmul hx hb dX11_mixed_4 ?_
  refine lv_lload_n hx hb dX11_mixed_5 rfl (lv_at hl 1 rfl) ?_
  refine lv_ladd hx hb dX11_mixed_6 ?_
  have hf : (some ((31 * x0) + x2) : Option (Int64)) = some rr := hf
  cases hf
  exact re_l hF hr hlk dX11_mixed_7 rfl
def f_X11_hashOfTotals (t_now_length : Int32) (t_now_shorter : Int32) (t_now_longer : Int32) (t_now_limit : Int32) (t_now_seasonDays : Int32) (t_now_row : Nat → Int32) (t_history_count : Int32) (x1 : Int64) : Option (Int64) := bd1 (f_X11_mixed x1 (Int32.toInt64 t_now_length)) (fun (r_1 : Int64) => bd1 (f_X11_mixed r_1 (Int32.toInt64 t_now_shorter)) (fun (r_2 : Int64) => bd1 (f_X11_mixed r_2 (Int32.toInt64 t_now_longer)) (fun (r_3 : Int64) => bd1 (f_X11_mixed r_3 (Int32.toInt64 t_now_seasonDays)) (fun (r_4 : Int64) => bd1 (f_X0_number t_now_length t_now_shorter t_now_limit t_now_row) (fun (r_5 : Int32) => bd1 (f_X11_mixed r_4 (Int32.toInt64 r_5)) (fun (r_6 : Int64) => bd1 (f_X9_numberOfCrossings t_now_length t_now_shorter t_now_longer t_now_row) (fun (r_7 : Int32) => bd1 (f_X11_mixed r_6 (Int32.toInt64 r_7)) (fun (r_8 : Int64) => bd1 (f_X2_fallInOneGo t_now_length t_now_row) (fun (r_9 : Int32) => bd1 (f_X11_mixed r_8 (Int32.toInt64 r_9)) (fun (r_10 : Int64) => bd1 (f_X2_fallByPairs t_now_length t_now_row) (fun (r_11 : Int32) => bd1 (f_X11_mixed r_10 (Int32.toInt64 r_11)) (fun (r_12 : Int64) => bd1 (f_X2_riseInARow t_now_length t_now_row) (fun (r_13 : Int32) => bd1 (f_X11_mixed r_12 (Int32.toInt64 r_13)) (fun (r_14 : Int64) => bd1 (f_X11_mixed r_14 (Int32.toInt64 t_history_count)) (fun (r_15 : Int64) => some r_15)))))))))))))))
theorem k_X11_hashOfTotals : KV yX11_hashOfTotals cX11_hashOfTotals 5 (some .long) 1 := ⟨qc_yX11_hashOfTotals, q1, ⟨by decide +kernel, by decide +kernel, by decide +kernel⟩, qi_yX11_hashOfTotals, qs_yX11_hashOfTotals⟩
abbrev RM_X11_hashOfTotals : Room := { frames := 5, cells := 0, slots := 0, locals := 116 }
set_option maxHeartbeats 4000000 in
set_option maxRecDepth 100000 in
theorem c_X11_hashOfTotals (l : Launch) (G : GP) (a_t : Nat) (a_t_trial : Nat) (a_t_snapshot : Nat) (t_snapshotTaken : Int32) (a_t_text : Nat) (a_t_works : Nat) (a_t_highs : Nat) (a_t_trade : Nat) (a_t_now : Nat) (t_now_length : Int32) (t_now_shorter : Int32) (t_now_longer : Int32) (t_now_memory : Int32) (t_now_limit : Int32) (t_now_seasonDays : Int32) (t_now_stopped : Int32) (t_now_stopPart : Int32) (t_now_stopReason : Int32) (a_t_now_row : Nat) (t_now_row : Nat → Int32) (a_t_history : Nat) (a_t_history_ring : Nat) (t_history_oldest : Int32) (t_history_count : Int32) (x1 : Int64) (rr : Int64) (hf : f_X11_hashOfTotals t_now_length t_now_shorter t_now_longer t_now_limit t_now_seasonDays t_now_row t_history_count x1 = some rr) : RM l yX11_hashOfTotals cX11_hashOfTotals 5 (some .long) 5 116 G [.ref a_t, .long x1] [(a_t, .inr (7, [.ref a_t_now, .ref a_t_trial, .ref a_t_snapshot, .int t_snapshotTaken, .ref a_t_history, .ref a_t_text, .ref a_t_works, .ref a_t_highs, .ref a_t_trade])), (a_t_now, .inr (2, [.ref a_t_now_row, .int t_now_length, .int t_now_shorter, .int t_now_longer, .int t_now_memory, .int t_now_limit, .int t_now_seasonDays, .int t_now_stopped, .int t_now_stopPart, .int t_now_stopReason])), (a_t_now_row, .inl (G.2.1, 60, .inl t_now_row)), (a_t_history, .inr (1, [.ref a_t_history_ring, .int t_history_oldest, .int t_history_count]))] (some (.long rr)) := by
  refine RM.ofW (C := RX11) (by decide) rfl (Nat.le_of_ble_eq_true rfl) ?_
  intro p e s m below meth c hF hr hlk hG hP ls hl
  have hl : lv_has ls 5 [(0, .ref a_t), (1, .long x1)] := hl
  have hx := hF.1
  have hb := hF.2.1
  have hml := hF.2.2.1
  have hown := hF.2.2.2.1
  have hts := hF.2.2.2.2
  unfold f_X11_hashOfTotals at hf
  refine lv_lload_n hx hb dX11_hashOfTotals_0 rfl (lv_at hl 1 rfl) ?_
  refine lv_aload_n hx hb dX11_hashOfTotals_1 rfl (lv_at hl 0 rfl) ?_
  refine gf (C := RX11) (T := TX11) (N := 9) (ci := 7) (v := .ref a_t_now) hF hG hP inX11 0 rfl rfl 0 (by decide) q204 rfl rfl dX11_hashOfTotals_2 ?_
  refine gfN (C := RX6) (T := TX6) (N := 10) (ci := 2) (v := .int t_now_length) hF hG hP inX6 1 rfl rfl 1 (by decide) n39 rfl rfl dX11_hashOfTotals_5 ?_
  refine lv_i2l (v := (Int32.toInt64 t_now_length)) hx hb dX11_hashOfTotals_8 rfl ?_
  obtain ⟨r_1, hq, hf⟩ := bd1_some hf
  refine rdS (As := [.long x1, .long (Int32.toInt64 t_now_length)]) (rest := []) hF hG hP hl.1 (c_X11_mixed l G x1 (Int32.toInt64 t_now_length) r_1 hq) k_X11_mixed q434 [] rfl rfl rfl (Nat.le_of_ble_eq_true rfl) ⟨(Nat.le_of_ble_eq_true rfl), (Nat.le_of_ble_eq_true rfl)⟩ ⟨(Nat.zero_le _), (Nat.zero_le _)⟩ dX11_hashOfTotals_9 ?_
  refine lv_lstore_n (lv' := [(3, .long r_1), (0, .ref a_t), (1, .long x1)]) hx hb dX11_hashOfTotals_12 rfl hl (by decide) rfl (fun ls hl => ?_)
  refine lv_lload_n hx hb dX11_hashOfTotals_13 rfl (lv_at hl 0 rfl) ?_
  refine lv_aload_n hx hb dX11_hashOfTotals_14 rfl (lv_at hl 1 rfl) ?_
  refine gf (C := RX11) (T := TX11) (N := 9) (ci := 7) (v := .ref a_t_now) hF hG hP inX11 0 rfl rfl 0 (by decide) q204 rfl rfl dX11_hashOfTotals_15 ?_
  refine gfN (C := RX6) (T := TX6) (N := 10) (ci := 2) (v := .int t_now_shorter) hF hG hP inX6 1 rfl rfl 2 (by decide) n50 rfl rfl dX11_hashOfTotals_18 ?_
  refine lv_i2l (v := (Int32.toInt64 t_now_shorter)) hx hb dX11_hashOfTotals_21 rfl ?_
  obtain ⟨r_2, hq, hf⟩ := bd1_some hf
  refine rdS (As := [.long r_1, .long (Int32.toInt64 t_now_shorter)]) (rest := []) hF hG hP hl.1 (c_X11_mixed l G r_1 (Int32.toInt64 t_now_shorter) r_2 hq) k_X11_mixed q434 [] rfl rfl rfl (Nat.le_of_ble_eq_true rfl) ⟨(Nat.le_of_ble_eq_true rfl), (Nat.le_of_ble_eq_true rfl)⟩ ⟨(Nat.zero_le _), (Nat.zero_le _)⟩ dX11_hashOfTotals_22 ?_
  refine lv_lstore_n (lv' := [(3, .long r_2), (0, .ref a_t), (1, .long x1)]) hx hb dX11_hashOfTotals_25 rfl hl (by decide) rfl (fun ls hl => ?_)
  refine lv_lload_n hx hb dX11_hashOfTotals_26 rfl (lv_at hl 0 rfl) ?_
  refine lv_aload_n hx hb dX11_hashOfTotals_27 rfl (lv_at hl 1 rfl) ?_
  refine gf (C := RX11) (T := TX11) (N := 9) (ci := 7) (v := .ref a_t_now) hF hG hP inX11 0 rfl rfl 0 (by decide) q204 rfl rfl dX11_hashOfTotals_28 ?_
  refine gfN (C := RX6) (T := TX6) (N := 10) (ci := 2) (v := .int t_now_longer) hF hG hP inX6 1 rfl rfl 3 (by decide) n57 rfl rfl dX11_hashOfTotals_31 ?_
  refine lv_i2l (v := (Int32.toInt64 t_now_longer)) hx hb dX11_hashOfTotals_34 rfl ?_
  obtain ⟨r_3, hq, hf⟩ := bd1_some hf
  refine rdS (As := [.long r_2, .long (Int32.toInt64 t_now_longer)]) (rest := []) hF hG hP hl.1 (c_X11_mixed l G r_2 (Int32.toInt64 t_now_longer) r_3 hq) k_X11_mixed q434 [] rfl rfl rfl (Nat.le_of_ble_eq_true rfl) ⟨(Nat.le_of_ble_eq_true rfl), (Nat.le_of_ble_eq_true rfl)⟩ ⟨(Nat.zero_le _), (Nat.zero_le _)⟩ dX11_hashOfTotals_35 ?_
  refine lv_lstore_n (lv' := [(3, .long r_3), (0, .ref a_t), (1, .long x1)]) hx hb dX11_hashOfTotals_38 rfl hl (by decide) rfl (fun ls hl => ?_)
  refine lv_lload_n hx hb dX11_hashOfTotals_39 rfl (lv_at hl 0 rfl) ?_
  refine lv_aload_n hx hb dX11_hashOfTotals_40 rfl (lv_at hl 1 rfl) ?_
  refine gf (C := RX11) (T := TX11) (N := 9) (ci := 7) (v := .ref a_t_now) hF hG hP inX11 0 rfl rfl 0 (by decide) q204 rfl rfl dX11_hashOfTotals_41 ?_
  refine gfN (C := RX6) (T := TX6) (N := 10) (ci := 2) (v := .int t_now_seasonDays) hF hG hP inX6 1 rfl rfl 6 (by decide) n68 rfl rfl dX11_hashOfTotals_44 ?_
  refine lv_i2l (v := (Int32.toInt64 t_now_seasonDays)) hx hb dX11_hashOfTotals_47 rfl ?_
  obtain ⟨r_4, hq, hf⟩ := bd1_some hf
  refine rdS (As := [.long r_3, .long (Int32.toInt64 t_now_seasonDays)]) (rest := []) hF hG hP hl.1 (c_X11_mixed l G r_3 (Int32.toInt64 t_now_seasonDays) r_4 hq) k_X11_mixed q434 [] rfl rfl rfl (Nat.le_of_ble_eq_true rfl) ⟨(Nat.le_of_ble_eq_true rfl), (Nat.le_of_ble_eq_true rfl)⟩ ⟨(Nat.zero_le _), (Nat.zero_le _)⟩ dX11_hashOfTotals_48 ?_
  refine lv_lstore_n (lv' := [(3, .long r_4), (0, .ref a_t), (1, .long x1)]) hx hb dX11_hashOfTotals_51 rfl hl (by decide) rfl (fun ls hl => ?_)
  refine lv_lload_n hx hb dX11_hashOfTotals_52 rfl (lv_at hl 0 rfl) ?_
  refine lv_aload_n hx hb dX11_hashOfTotals_53 rfl (lv_at hl 1 rfl) ?_
  refine gf (C := RX11) (T := TX11) (N := 9) (ci := 7) (v := .ref a_t_now) hF hG hP inX11 0 rfl rfl 0 (by decide) q204 rfl rfl dX11_hashOfTotals_54 ?_
  obtain ⟨r_5, hq, hf⟩ := bd1_some hf
  refine rdSN (As := [.ref a_t_now]) (rest := [.long r_4]) hF hG hP hl.1 (c_X0_number l G a_t_now t_now_length t_now_shorter t_now_longer t_now_memory t_now_limit t_now_seasonDays t_now_stopped t_now_stopPart t_now_stopReason a_t_now_row t_now_row r_5 hq) k_X0_number n367 [1, 2] rfl rfl rfl (Nat.le_of_ble_eq_true rfl) ⟨(Nat.le_of_ble_eq_true rfl), (Nat.le_of_ble_eq_true rfl)⟩ ⟨(Nat.zero_le _), (Nat.zero_le _)⟩ dX11_hashOfTotals_57 ?_
  refine lv_i2l (v := (Int32.toInt64 r_5)) hx hb dX11_hashOfTotals_60 rfl ?_
  obtain ⟨r_6, hq, hf⟩ := bd1_some hf
  refine rdS (As := [.long r_4, .long (Int32.toInt64 r_5)]) (rest := []) hF hG hP hl.1 (c_X11_mixed l G r_4 (Int32.toInt64 r_5) r_6 hq) k_X11_mixed q434 [] rfl rfl rfl (Nat.le_of_ble_eq_true rfl) ⟨(Nat.le_of_ble_eq_true rfl), (Nat.le_of_ble_eq_true rfl)⟩ ⟨(Nat.zero_le _), (Nat.zero_le _)⟩ dX11_hashOfTotals_61 ?_
  refine lv_lstore_n (lv' := [(3, .long r_6), (0, .ref a_t), (1, .long x1)]) hx hb dX11_hashOfTotals_64 rfl hl (by decide) rfl (fun ls hl => ?_)
  refine lv_lload_n hx hb dX11_hashOfTotals_65 rfl (lv_at hl 0 rfl) ?_
  refine lv_aload_n hx hb dX11_hashOfTotals_66 rfl (lv_at hl 1 rfl) ?_
  refine gf (C := RX11) (T := TX11) (N := 9) (ci := 7) (v := .ref a_t_now) hF hG hP inX11 0 rfl rfl 0 (by decide) q204 rfl rfl dX11_hashOfTotals_67 ?_
  obtain ⟨r_7, hq, hf⟩ := bd1_some hf
  refine rdSN (As := [.ref a_t_now]) (rest := [.long r_6]) hF hG hP hl.1 (c_X9_numberOfCrossings l G a_t_now t_now_length t_now_shorter t_now_longer t_now_memory t_now_limit t_now_seasonDays t_now_stopped t_now_stopPart t_now_stopReason a_t_now_row t_now_row r_7 hq) k_X9_numberOfCrossings n374 [1, 2] rfl rfl rfl (Nat.le_of_ble_eq_true rfl) ⟨(Nat.le_of_ble_eq_true rfl), (Nat.le_of_ble_eq_true rfl)⟩ ⟨(Nat.zero_le _), (Nat.zero_le _)⟩ dX11_hashOfTotals_70 ?_
  refine lv_i2l (v := (Int32.toInt64 r_7)) hx hb dX11_hashOfTotals_73 rfl ?_
  obtain ⟨r_8, hq, hf⟩ := bd1_some hf
  refine rdS (As := [.long r_6, .long (Int32.toInt64 r_7)]) (rest := []) hF hG hP hl.1 (c_X11_mixed l G r_6 (Int32.toInt64 r_7) r_8 hq) k_X11_mixed q434 [] rfl rfl rfl (Nat.le_of_ble_eq_true rfl) ⟨(Nat.le_of_ble_eq_true rfl), (Nat.le_of_ble_eq_true rfl)⟩ ⟨(Nat.zero_le _), (Nat.zero_le _)⟩ dX11_hashOfTotals_74 ?_
  refine lv_lstore_n (lv' := [(3, .long r_8), (0, .ref a_t), (1, .long x1)]) hx hb dX11_hashOfTotals_77 rfl hl (by decide) rfl (fun ls hl => ?_)
  refine lv_lload_n hx hb dX11_hashOfTotals_78 rfl (lv_at hl 0 rfl) ?_
  refine lv_aload_n hx hb dX11_hashOfTotals_79 rfl (lv_at hl 1 rfl) ?_
  refine gf (C := RX11) (T := TX11) (N := 9) (ci := 7) (v := .ref a_t_now) hF hG hP inX11 0 rfl rfl 0 (by decide) q204 rfl rfl dX11_hashOfTotals_80 ?_
  obtain ⟨r_9, hq, hf⟩ := bd1_some hf
  refine rdSN (As := [.ref a_t_now]) (rest := [.long r_8]) hF hG hP hl.1 (c_X2_fallInOneGo l G a_t_now t_now_length t_now_shorter t_now_longer t_now_memory t_now_limit t_now_seasonDays t_now_stopped t_now_stopPart t_now_stopReason a_t_now_row t_now_row r_9 hq) k_X2_fallInOneGo n396 [1, 2] rfl rfl rfl (Nat.le_of_ble_eq_true rfl) ⟨(Nat.le_of_ble_eq_true rfl), (Nat.le_of_ble_eq_true rfl)⟩ ⟨(Nat.zero_le _), (Nat.zero_le _)⟩ dX11_hashOfTotals_83 ?_
  refine lv_i2l (v := (Int32.toInt64 r_9)) hx hb dX11_hashOfTotals_86 rfl ?_
  obtain ⟨r_10, hq, hf⟩ := bd1_some hf
  refine rdS (As := [.long r_8, .long (Int32.toInt64 r_9)]) (rest := []) hF hG hP hl.1 (c_X11_mixed l G r_8 (Int32.toInt64 r_9) r_10 hq) k_X11_mixed q434 [] rfl rfl rfl (Nat.le_of_ble_eq_true rfl) ⟨(Nat.le_of_ble_eq_true rfl), (Nat.le_of_ble_eq_true rfl)⟩ ⟨(Nat.zero_le _), (Nat.zero_le _)⟩ dX11_hashOfTotals_87 ?_
  refine lv_lstore_n (lv' := [(3, .long r_10), (0, .ref a_t), (1, .long x1)]) hx hb dX11_hashOfTotals_90 rfl hl (by decide) rfl (fun ls hl => ?_)
  refine lv_lload_n hx hb dX11_hashOfTotals_91 rfl (lv_at hl 0 rfl) ?_
  refine lv_aload_n hx hb dX11_hashOfTotals_92 rfl (lv_at hl 1 rfl) ?_
  refine gf (C := RX11) (T := TX11) (N := 9) (ci := 7) (v := .ref a_t_now) hF hG hP inX11 0 rfl rfl 0 (by decide) q204 rfl rfl dX11_hashOfTotals_93 ?_
  obtain ⟨r_11, hq, hf⟩ := bd1_some hf
  refine rdSN (As := [.ref a_t_now]) (rest := [.long r_10]) hF hG hP hl.1 (c_X2_fallByPairs l G a_t_now t_now_length t_now_shorter t_now_longer t_now_memory t_now_limit t_now_seasonDays t_now_stopped t_now_stopPart t_now_stopReason a_t_now_row t_now_row r_11 hq) k_X2_fallByPairs n407 [1, 2] rfl rfl rfl (Nat.le_of_ble_eq_true rfl) ⟨(Nat.le_of_ble_eq_true rfl), (Nat.le_of_ble_eq_true rfl)⟩ ⟨(Nat.zero_le _), (Nat.zero_le _)⟩ dX11_hashOfTotals_96 ?_
  refine lv_i2l (v := (Int32.toInt64 r_11)) hx hb dX11_hashOfTotals_99 rfl ?_
  obtain ⟨r_12, hq, hf⟩ := bd1_some hf
  refine rdS (As := [.long r_10, .long (Int32.toInt64 r_11)]) (rest := []) hF hG hP hl.1 (c_X11_mixed l G r_10 (Int32.toInt64 r_11) r_12 hq) k_X11_mixed q434 [] rfl rfl rfl (Nat.le_of_ble_eq_true rfl) ⟨(Nat.le_of_ble_eq_true rfl), (Nat.le_of_ble_eq_true rfl)⟩ ⟨(Nat.zero_le _), (Nat.zero_le _)⟩ dX11_hashOfTotals_100 ?_
  refine lv_lstore_n (lv' := [(3, .long r_12), (0, .ref a_t), (1, .long x1)]) hx hb dX11_hashOfTotals_103 rfl hl (by decide) rfl (fun ls hl => ?_)
  refine lv_lload_n hx hb dX11_hashOfTotals_104 rfl (lv_at hl 0 rfl) ?_
  refine lv_aload_n hx hb dX11_hashOfTotals_105 rfl (lv_at hl 1 rfl) ?_
  refine gf (C := RX11) (T := TX11) (N := 9) (ci := 7) (v := .ref a_t_now) hF hG hP inX11 0 rfl rfl 0 (by decide) q204 rfl rfl dX11_hashOfTotals_106 ?_
  obtain ⟨r_13, hq, hf⟩ := bd1_some hf
  refine rdSN (As := [.ref a_t_now]) (rest := [.long r_12]) hF hG hP hl.1 (c_X2_riseInARow l G a_t_now t_now_length t_now_shorter t_now_longer t_now_memory t_now_limit t_now_seasonDays t_now_stopped t_now_stopPart t_now_stopReason a_t_now_row t_now_row r_13 hq) k_X2_riseInARow n414 [1, 2] rfl rfl rfl (Nat.le_of_ble_eq_true rfl) ⟨(Nat.le_of_ble_eq_true rfl), (Nat.le_of_ble_eq_true rfl)⟩ ⟨(Nat.zero_le _), (Nat.zero_le _)⟩ dX11_hashOfTotals_109 ?_
  refine lv_i2l (v := (Int32.toInt64 r_13)) hx hb dX11_hashOfTotals_112 rfl ?_
  obtain ⟨r_14, hq, hf⟩ := bd1_some hf
  refine rdS (As := [.long r_12, .long (Int32.toInt64 r_13)]) (rest := []) hF hG hP hl.1 (c_X11_mixed l G r_12 (Int32.toInt64 r_13) r_14 hq) k_X11_mixed q434 [] rfl rfl rfl (Nat.le_of_ble_eq_true rfl) ⟨(Nat.le_of_ble_eq_true rfl), (Nat.le_of_ble_eq_true rfl)⟩ ⟨(Nat.zero_le _), (Nat.zero_le _)⟩ dX11_hashOfTotals_113 ?_
  refine lv_lstore_n (lv' := [(3, .long r_14), (0, .ref a_t), (1, .long x1)]) hx hb dX11_hashOfTotals_116 rfl hl (by decide) rfl (fun ls hl => ?_)
  refine lv_lload_n hx hb dX11_hashOfTotals_117 rfl (lv_at hl 0 rfl) ?_
  refine lv_aload_n hx hb dX11_hashOfTotals_118 rfl (lv_at hl 1 rfl) ?_
  refine gf (C := RX11) (T := TX11) (N := 9) (ci := 7) (v := .ref a_t_history) hF hG hP inX11 0 rfl rfl 4 (by decide) q208 rfl rfl dX11_hashOfTotals_119 ?_
  refine gfN (C := RX3) (T := TX3) (N := 3) (ci := 1) (v := .int t_history_count) hF hG hP inX3 3 rfl rfl 2 (by decide) n112 rfl rfl dX11_hashOfTotals_122 ?_
  refine lv_i2l (v := (Int32.toInt64 t_history_count)) hx hb dX11_hashOfTotals_125 rfl ?_
  obtain ⟨r_15, hq, hf⟩ := bd1_some hf
  refine rdS (As := [.long r_14, .long (Int32.toInt64 t_history_count)]) (rest := []) hF hG hP hl.1 (c_X11_mixed l G r_14 (Int32.toInt64 t_history_count) r_15 hq) k_X11_mixed q434 [] rfl rfl rfl (Nat.le_of_ble_eq_true rfl) ⟨(Nat.le_of_ble_eq_true rfl), (Nat.le_of_ble_eq_true rfl)⟩ ⟨(Nat.zero_le _), (Nat.zero_le _)⟩ dX11_hashOfTotals_126 ?_
  have hf : (some r_15 : Option (Int64)) = some rr := hf
  cases hf
  exact re_l hF hr hlk dX11_hashOfTotals_129 rfl
def f_X9_start (t_coins : Int64) (t_held : Int32) : Option (Int64 × Int32) := some (10000, 0)
theorem k_X9_start : KV yX9_start cX9_start 1 none 0 := ⟨qc_yX9_start, q8, ⟨by decide +kernel, by decide +kernel, by decide +kernel⟩, qi_yX9_start, qs_yX9_start⟩
abbrev RM_X9_start : Room := { frames := 0, cells := 0, slots := 0, locals := 0 }
set_option maxHeartbeats 4000000 in
set_option maxRecDepth 100000 in
theorem c_X9_start (l : Launch) (G : GP) (a_t : Nat) (t_coins : Int64) (t_held : Int32) (w_t_coins : Int64) (w_t_held : Int32) (hf : f_X9_start t_coins t_held = some (w_t_coins, w_t_held)) : WM l yX9_start cX9_start 1 none 0 0 G [.ref a_t] [(a_t, .inr (5, [.long t_coins, .int t_held]))] none [(a_t, .inr (5, [.long w_t_coins, .int w_t_held]))] := by
  refine WM.ofW (C := RX9) (by decide) rfl (Nat.le_of_ble_eq_true rfl) ?_
  intro p e s m below meth c A hF hr hlk hG hA hP hD ls hl
  have hl : lv_has ls 1 [(0, .ref a_t)] := hl
  have hx := hF.1
  have hb := hF.2.1
  have hml := hF.2.2.1
  have hown := hF.2.2.2.1
  have hts := hF.2.2.2.2
  have hS : va_S A s.heap s.heap [] := va_S.rf
  unfold f_X9_start at hf
  refine lv_aload_n hx hb dX9_start_0 rfl (lv_at hl 0 rfl) ?_
  refine lv_ldc2 (v := 10000) hx hb hown (hts _ (List.mem_cons_of_mem _ q195)) dX9_start_1 ?_
  refine pf (C := RX9) (T := TX9) (N := 2) (ci := 5) (v := .long 10000) (ty := .long) hF hG hP hD hS inX9 tyX9 tyX9_ok nmX9 0 rfl rfl 0 (by decide) q196 rfl rfl (by decide +kernel) rfl rfl (Nat.le_of_ble_eq_true rfl) dX9_start_4 (fun H locs hP hD hS => ?_)
  replace hP : va_P G.1 vwCl [(a_t, .inr (5, [.long 10000, .int t_held]))] H := hP
  replace hD : va_D A [(a_t, .inr (5, [.long 10000, .int t_held]))] := hD
  refine lv_aload_n hx hb dX9_start_7 rfl (lv_at hl 0 rfl) ?_
  refine lv_iconst (v := 0) hx hb dX9_start_8 (by decide) ?_
  refine pf (C := RX9) (T := TX9) (N := 2) (ci := 5) (v := .int 0) (ty := .int) hF hG hP hD hS inX9 tyX9 tyX9_ok nmX9 0 rfl rfl 1 (by decide) q197 rfl rfl (by decide +kernel) rfl rfl (Nat.le_of_ble_eq_true rfl) dX9_start_9 (fun H locs hP hD hS => ?_)
  replace hP : va_P G.1 vwCl [(a_t, .inr (5, [.long 10000, .int 0]))] H := hP
  replace hD : va_D A [(a_t, .inr (5, [.long 10000, .int 0]))] := hD
  have hf : (some (10000, 0) : Option (Int64 × Int32)) = some (w_t_coins, w_t_held) := hf
  cases hf
  exact we_v hF hr hlk hP hD hS dX9_start_12 rfl
def l_X4_sumAhead_5 (p0_row : Nat → Int32) (x1 : Int32) : Nat → Int64 → Int32 → Option (Int64)
  | 0, _, _ => none
  | n + 1, i2_1, i4_2 => (if x1 ≤ i4_2 then some i2_1 else bd1 (f_X6_at p0_row i4_2) (fun (r_4 : Int32) => l_X4_sumAhead_5 p0_row x1 n (i2_1 + (Int32.toInt64 r_4)) (i4_2 + 1)))
def f_X4_sumAhead (p0_row : Nat → Int32) (x1 : Int32) : Option (Int64) := bd1 (l_X4_sumAhead_5 p0_row x1 1000 0 0) (fun (o2_3 : Int64) => some o2_3)
theorem k_X4_sumAhead : KS yX4_sumAhead cX4_sumAhead 5 (some .long) 2 := ⟨qc_yX4_sumAhead, q18, ⟨by decide +kernel, by decide +kernel, by decide +kernel⟩, qt_yX4_sumAhead⟩
abbrev RM_X4_sumAhead : Room := { frames := 1, cells := 0, slots := 0, locals := 21 }
set_option maxHeartbeats 4000000 in
set_option maxRecDepth 100000 in
theorem c_X4_sumAhead (l : Launch) (G : GP) (a_p0 : Nat) (p0_length : Int32) (p0_shorter : Int32) (p0_longer : Int32) (p0_memory : Int32) (p0_limit : Int32) (p0_seasonDays : Int32) (p0_stopped : Int32) (p0_stopPart : Int32) (p0_stopReason : Int32) (a_p0_row : Nat) (p0_row : Nat → Int32) (x1 : Int32) (rr : Int64) (hf : f_X4_sumAhead p0_row x1 = some rr) : RM l yX4_sumAhead cX4_sumAhead 5 (some .long) 1 21 G [.ref a_p0, .int x1] [(a_p0, .inr (2, [.ref a_p0_row, .int p0_length, .int p0_shorter, .int p0_longer, .int p0_memory, .int p0_limit, .int p0_seasonDays, .int p0_stopped, .int p0_stopPart, .int p0_stopReason])), (a_p0_row, .inl (G.2.1, 60, .inl p0_row))] (some (.long rr)) := by
  refine RM.ofW (C := RX4) (by decide) rfl (Nat.le_of_ble_eq_true rfl) ?_
  intro p e s m below meth c hF hr hlk hG hP ls hl
  have hl : lv_has ls 5 [(0, .ref a_p0), (1, .int x1)] := hl
  have hx := hF.1
  have hb := hF.2.1
  have hml := hF.2.2.1
  have hown := hF.2.2.2.1
  have hts := hF.2.2.2.2
  unfold f_X4_sumAhead at hf
  refine lv_lconst (v := 0) hx hb dX4_sumAhead_0 (by decide) ?_
  refine lv_lstore_n (lv' := [(2, .long 0), (0, .ref a_p0), (1, .int x1)]) hx hb dX4_sumAhead_1 rfl hl (by decide) rfl (fun ls hl => ?_)
  refine lv_iconst (v := 0) hx hb dX4_sumAhead_2 (by decide) ?_
  refine lv_istore (lv' := [(4, .int 0), (2, .long 0), (0, .ref a_p0), (1, .int x1)]) hx hb dX4_sumAhead_3 hl (by decide) rfl (fun ls hl => ?_)
  obtain ⟨o2_3, hq, hf⟩ := bd1_some hf
  have K5 : ∀ ls : Array Slot, lv_has ls 5 [(2, .long o2_3)] → W p l e RM_X4_sumAhead s m [.ref a_p0, .int x1].toArray below meth c s.heap [] 0 0 (MQ below (rdQ (some (.long rr))) [.ref a_p0, .int x1].toArray s 0 0 (fun _ => False)) (F0 m 27 ls []) := by
    intro ls hl
    refine lv_lload_n hx hb dX4_sumAhead_27 rfl (lv_at hl 0 rfl) ?_
    have hf : (some o2_3 : Option (Int64)) = some rr := hf
    cases hf
    exact re_l hF hr hlk dX4_sumAhead_28 rfl
  clear hf
  have L5 : ∀ (n : Nat) (i2_1 : Int64) (i4_2 : Int32), l_X4_sumAhead_5 p0_row x1 n i2_1 i4_2 = some o2_3 → ∀ ls : Array Slot, lv_has ls 5 [(0, .ref a_p0), (1, .int x1), (2, .long i2_1), (4, .int i4_2)] → W p l e RM_X4_sumAhead s m [.ref a_p0, .int x1].toArray below meth c s.heap [] 0 0 (MQ below (rdQ (some (.long rr))) [.ref a_p0, .int x1].toArray s 0 0 (fun _ => False)) (F0 m 5 ls []) := by
    intro n
    induction n with
    | zero =>
      intro i2_1 i4_2 hf
      exact nomatch (show none = some o2_3 from hf)
    | succ n ih =>
      intro i2_1 i4_2 hf ls hl
      rw [l_X4_sumAhead_5] at hf
      refine lv_iload hx hb dX4_sumAhead_5 (lv_at hl 3 rfl) ?_
      refine lv_iload_n hx hb dX4_sumAhead_7 rfl (lv_at hl 1 rfl) ?_
      refine lv_icmp_ge (tgt := 27) hx hb dX4_sumAhead_8 (by decide) (fun c0 => ?_) (fun c0 => ?_)
      · have hf := (if_pos c0).symm.trans hf
        have hf : (some i2_1 : Option (Int64)) = some o2_3 := hf
        cases hf
        exact K5 ls (lv_sub hl [2] rfl)
      · have hf := (if_neg c0).symm.trans hf
        refine lv_lload_n hx hb dX4_sumAhead_11 rfl (lv_at hl 2 rfl) ?_
        refine lv_aload_n hx hb dX4_sumAhead_12 rfl (lv_at hl 0 rfl) ?_
        refine lv_iload hx hb dX4_sumAhead_13 (lv_at hl 3 rfl) ?_
        obtain ⟨r_4, hq, hf⟩ := bd1_some hf
        refine rdVN (As := [.int i4_2]) (rest := [.long i2_1]) hF hG hP hl.1 (c_X6_at l G a_p0 p0_length p0_shorter p0_longer p0_memory p0_limit p0_seasonDays p0_stopped p0_stopPart p0_stopReason a_p0_row p0_row i4_2 r_4 hq) k_X6_at n387 [0, 1] rfl ⟨0, 2, _, _, rfl, rfl, rfl⟩ rfl rfl (Nat.le_of_ble_eq_true rfl) ⟨(Nat.le_of_ble_eq_true rfl), (Nat.le_of_ble_eq_true rfl)⟩ ⟨(Nat.zero_le _), (Nat.zero_le _)⟩ dX4_sumAhead_15 ?_
        refine lv_i2l (v := (Int32.toInt64 r_4)) hx hb dX4_sumAhead_18 rfl ?_
        refine lv_ladd hx hb dX4_sumAhead_19 ?_
        refine lv_lstore_n (lv' := [(2, .long (i2_1 + (Int32.toInt64 r_4))), (0, .ref a_p0), (1, .int x1), (4, .int i4_2)]) hx hb dX4_sumAhead_20 rfl hl (by decide) rfl (fun ls hl => ?_)
        refine lv_iinc (v := (i4_2 + 1)) (lv' := [(4, .int (i4_2 + 1)), (2, .long (i2_1 + (Int32.toInt64 r_4))), (0, .ref a_p0), (1, .int x1)]) hx hb dX4_sumAhead_21 hl (k := 3) rfl rfl (by decide) rfl (fun ls hl => ?_)
        refine lv_goto (tgt := 5) hx hb dX4_sumAhead_24 (by decide) ?_
        exact ih (i2_1 + (Int32.toInt64 r_4)) (i4_2 + 1) hf ls (lv_sub hl [2, 3, 1, 0] rfl)
  exact L5 1000 0 0 hq ls (lv_sub hl [2, 3, 1, 0] rfl)
def f_X4_bySums (p0_row : Nat → Int32) (x1 : Int32) (x2 : Int32) : Option (Int32) := bd1 (f_X4_firstOf x1 x2) (fun (r_1 : Int32) => bd1 (f_X4_sumAhead p0_row (x1 + 1)) (fun (r_2 : Int64) => bd1 (f_X4_sumAhead p0_row r_1) (fun (r_3 : Int64) => bd1 (f_X11_divided (1000 * (r_2 - r_3)) (Int32.toInt64 ((x1 - r_1) + 1))) (fun (r_4 : Int64) => some (Int64.toInt32 r_4)))))
theorem k_X4_bySums : KS yX4_bySums cX4_bySums 6 (some .int) 3 := ⟨qc_yX4_bySums, q18, ⟨by decide +kernel, by decide +kernel, by decide +kernel⟩, qt_yX4_bySums⟩
abbrev RM_X4_bySums : Room := { frames := 2, cells := 0, slots := 0, locals := 45 }
set_option maxHeartbeats 4000000 in
set_option maxRecDepth 100000 in
theorem c_X4_bySums (l : Launch) (G : GP) (a_p0 : Nat) (p0_length : Int32) (p0_shorter : Int32) (p0_longer : Int32) (p0_memory : Int32) (p0_limit : Int32) (p0_seasonDays : Int32) (p0_stopped : Int32) (p0_stopPart : Int32) (p0_stopReason : Int32) (a_p0_row : Nat) (p0_row : Nat → Int32) (x1 : Int32) (x2 : Int32) (rr : Int32) (hf : f_X4_bySums p0_row x1 x2 = some rr) : RM l yX4_bySums cX4_bySums 6 (some .int) 2 45 G [.ref a_p0, .int x1, .int x2] [(a_p0, .inr (2, [.ref a_p0_row, .int p0_length, .int p0_shorter, .int p0_longer, .int p0_memory, .int p0_limit, .int p0_seasonDays, .int p0_stopped, .int p0_stopPart, .int p0_stopReason])), (a_p0_row, .inl (G.2.1, 60, .inl p0_row))] (some (.int rr)) := by
  refine RM.ofW (C := RX4) (by decide) rfl (Nat.le_of_ble_eq_true rfl) ?_
  intro p e s m below meth c hF hr hlk hG hP ls hl
  have hl : lv_has ls 6 [(0, .ref a_p0), (1, .int x1), (2, .int x2)] := hl
  have hx := hF.1
  have hb := hF.2.1
  have hml := hF.2.2.1
  have hown := hF.2.2.2.1
  have hts := hF.2.2.2.2
  unfold f_X4_bySums at hf
  refine lv_iload_n hx hb dX4_bySums_0 rfl (lv_at hl 1 rfl) ?_
  refine lv_iload_n hx hb dX4_bySums_1 rfl (lv_at hl 2 rfl) ?_
  obtain ⟨r_1, hq, hf⟩ := bd1_some hf
  refine rdS (As := [.int x1, .int x2]) (rest := []) hF hG hP hl.1 (c_X4_firstOf l G x1 x2 r_1 hq) k_X4_firstOf q386 [] rfl rfl rfl (Nat.le_of_ble_eq_true rfl) ⟨(Nat.le_of_ble_eq_true rfl), (Nat.le_of_ble_eq_true rfl)⟩ ⟨(Nat.zero_le _), (Nat.zero_le _)⟩ dX4_bySums_2 ?_
  refine lv_istore_n (lv' := [(3, .int r_1), (0, .ref a_p0), (1, .int x1), (2, .int x2)]) hx hb dX4_bySums_5 rfl hl (by decide) rfl (fun ls hl => ?_)
  refine lv_aload_n hx hb dX4_bySums_6 rfl (lv_at hl 1 rfl) ?_
  refine lv_iload_n hx hb dX4_bySums_7 rfl (lv_at hl 2 rfl) ?_
  refine lv_iconst (v := 1) hx hb dX4_bySums_8 (by decide) ?_
  refine lv_iadd hx hb dX4_bySums_9 ?_
  obtain ⟨r_2, hq, hf⟩ := bd1_some hf
  refine rdS (As := [.ref a_p0, .int (x1 + 1)]) (rest := []) hF hG hP hl.1 (c_X4_sumAhead l G a_p0 p0_length p0_shorter p0_longer p0_memory p0_limit p0_seasonDays p0_stopped p0_stopPart p0_stopReason a_p0_row p0_row (x1 + 1) r_2 hq) k_X4_sumAhead q455 [0, 1] rfl rfl rfl (Nat.le_of_ble_eq_true rfl) ⟨(Nat.le_of_ble_eq_true rfl), (Nat.le_of_ble_eq_true rfl)⟩ ⟨(Nat.zero_le _), (Nat.zero_le _)⟩ dX4_bySums_10 ?_
  refine lv_aload_n hx hb dX4_bySums_13 rfl (lv_at hl 1 rfl) ?_
  refine lv_iload_n hx hb dX4_bySums_14 rfl (lv_at hl 0 rfl) ?_
  obtain ⟨r_3, hq, hf⟩ := bd1_some hf
  refine rdS (As := [.ref a_p0, .int r_1]) (rest := [.long r_2]) hF hG hP hl.1 (c_X4_sumAhead l G a_p0 p0_length p0_shorter p0_longer p0_memory p0_limit p0_seasonDays p0_stopped p0_stopPart p0_stopReason a_p0_row p0_row r_1 r_3 hq) k_X4_sumAhead q455 [0, 1] rfl rfl rfl (Nat.le_of_ble_eq_true rfl) ⟨(Nat.le_of_ble_eq_true rfl), (Nat.le_of_ble_eq_true rfl)⟩ ⟨(Nat.zero_le _), (Nat.zero_le _)⟩ dX4_bySums_15 ?_
  refine lv_lsub hx hb dX4_bySums_18 ?_
  refine lv_lstore (lv' := [(4, .long (r_2 - r_3)), (3, .int r_1), (0, .ref a_p0), (1, .int x1), (2, .int x2)]) hx hb dX4_bySums_19 hl (by decide) rfl (fun ls hl => ?_)
  refine lv_ldc2 (v := 1000) hx hb hown (hts _ (List.mem_cons_of_mem _ q388)) dX4_bySums_21 ?_
  refine lv_lload hx hb dX4_bySums_24 (lv_at hl 0 rfl) ?_
  refine lv_lmul hx hb dX4_bySums_26 ?_
  refine lv_iload_n hx hb dX4_bySums_27 rfl (lv_at hl 3 rfl) ?_
  refine lv_iload_n hx hb dX4_bySums_28 rfl (lv_at hl 1 rfl) ?_
  refine lv_isub hx hb dX4_bySums_29 ?_
  refine lv_iconst (v := 1) hx hb dX4_bySums_30 (by decide) ?_
  refine lv_iadd hx hb dX4_bySums_31 ?_
  refine lv_i2l (v := (Int32.toInt64 ((x1 - r_1) + 1))) hx hb dX4_bySums_32 rfl ?_
  obtain ⟨r_4, hq, hf⟩ := bd1_some hf
  refine rdSN (As := [.long (1000 * (r_2 - r_3)), .long (Int32.toInt64 ((x1 - r_1) + 1))]) (rest := []) hF hG hP hl.1 (c_X11_divided l G (1000 * (r_2 - r_3)) (Int32.toInt64 ((x1 - r_1) + 1)) r_4 hq) k_X11_divided n389 [] rfl rfl rfl (Nat.le_of_ble_eq_true rfl) ⟨(Nat.le_of_ble_eq_true rfl), (Nat.le_of_ble_eq_true rfl)⟩ ⟨(Nat.zero_le _), (Nat.zero_le _)⟩ dX4_bySums_33 ?_
  refine lv_l2i (v := (Int64.toInt32 r_4)) hx hb dX4_bySums_36 rfl ?_
  have hf : (some (Int64.toInt32 r_4) : Option (Int32)) = some rr := hf
  cases hf
  exact re_i hF hr hlk dX4_bySums_37 rfl
def l_X4_weighted_17 (p0_row : Nat → Int32) (x1 : Int32) (r_1 : Int32) : Nat → Int64 → Int64 → Int32 → Option (Int64 × Int64)
  | 0, _, _, _ => none
  | n + 1, i3_2, i5_3, i7_4 => (if x1 < i7_4 then some (i3_2, i5_3) else bd1 (f_X6_at p0_row i7_4) (fun (r_7 : Int32) => l_X4_weighted_17 p0_row x1 r_1 n (i3_2 + ((Int32.toInt64 ((i7_4 - r_1) + 1)) * (Int32.toInt64 r_7))) (i5_3 + (Int32.toInt64 ((i7_4 - r_1) + 1))) (i7_4 + 1)))
def f_X4_weighted (p0_longer : Int32) (p0_row : Nat → Int32) (x1 : Int32) : Option (Int32) := bd1 (f_X4_firstOf x1 p0_longer) (fun (r_1 : Int32) => bd2 (l_X4_weighted_17 p0_row x1 r_1 1000 0 0 r_1) (fun (o3_5 : Int64) (o5_6 : Int64) => bd1 (f_X11_divided (1000 * o3_5) o5_6) (fun (r_8 : Int64) => some (Int64.toInt32 r_8))))
theorem k_X4_weighted : KS yX4_weighted cX4_weighted 10 (some .int) 2 := ⟨qc_yX4_weighted, q18, ⟨by decide +kernel, by decide +kernel, by decide +kernel⟩, qt_yX4_weighted⟩
abbrev RM_X4_weighted : Room := { frames := 1, cells := 0, slots := 0, locals := 23 }
set_option maxHeartbeats 4000000 in
set_option maxRecDepth 100000 in
theorem c_X4_weighted (l : Launch) (G : GP) (a_p0 : Nat) (p0_length : Int32) (p0_shorter : Int32) (p0_longer : Int32) (p0_memory : Int32) (p0_limit : Int32) (p0_seasonDays : Int32) (p0_stopped : Int32) (p0_stopPart : Int32) (p0_stopReason : Int32) (a_p0_row : Nat) (p0_row : Nat → Int32) (x1 : Int32) (rr : Int32) (hf : f_X4_weighted p0_longer p0_row x1 = some rr) : RM l yX4_weighted cX4_weighted 10 (some .int) 1 23 G [.ref a_p0, .int x1] [(a_p0, .inr (2, [.ref a_p0_row, .int p0_length, .int p0_shorter, .int p0_longer, .int p0_memory, .int p0_limit, .int p0_seasonDays, .int p0_stopped, .int p0_stopPart, .int p0_stopReason])), (a_p0_row, .inl (G.2.1, 60, .inl p0_row))] (some (.int rr)) := by
  refine RM.ofW (C := RX4) (by decide) rfl (Nat.le_of_ble_eq_true rfl) ?_
  intro p e s m below meth c hF hr hlk hG hP ls hl
  have hl : lv_has ls 10 [(0, .ref a_p0), (1, .int x1)] := hl
  have hx := hF.1
  have hb := hF.2.1
  have hml := hF.2.2.1
  have hown := hF.2.2.2.1
  have hts := hF.2.2.2.2
  unfold f_X4_weighted at hf
  refine lv_iload_n hx hb dX4_weighted_0 rfl (lv_at hl 1 rfl) ?_
  refine lv_aload_n hx hb dX4_weighted_1 rfl (lv_at hl 0 rfl) ?_
  refine gfN (C := RX6) (T := TX6) (N := 10) (ci := 2) (v := .int p0_longer) hF hG hP inX6 0 rfl rfl 3 (by decide) n56 rfl rfl dX4_weighted_2 ?_
  obtain ⟨r_1, hq, hf⟩ := bd1_some hf
  refine rdS (As := [.int x1, .int p0_longer]) (rest := []) hF hG hP hl.1 (c_X4_firstOf l G x1 p0_longer r_1 hq) k_X4_firstOf q386 [] rfl rfl rfl (Nat.le_of_ble_eq_true rfl) ⟨(Nat.le_of_ble_eq_true rfl), (Nat.le_of_ble_eq_true rfl)⟩ ⟨(Nat.zero_le _), (Nat.zero_le _)⟩ dX4_weighted_5 ?_
  refine lv_istore_n (lv' := [(2, .int r_1), (0, .ref a_p0), (1, .int x1)]) hx hb dX4_weighted_8 rfl hl (by decide) rfl (fun ls hl => ?_)
  refine lv_lconst (v := 0) hx hb dX4_weighted_9 (by decide) ?_
  refine lv_lstore_n (lv' := [(3, .long 0), (2, .int r_1), (0, .ref a_p0), (1, .int x1)]) hx hb dX4_weighted_10 rfl hl (by decide) rfl (fun ls hl => ?_)
  refine lv_lconst (v := 0) hx hb dX4_weighted_11 (by decide) ?_
  refine lv_lstore (lv' := [(5, .long 0), (3, .long 0), (2, .int r_1), (0, .ref a_p0), (1, .int x1)]) hx hb dX4_weighted_12 hl (by decide) rfl (fun ls hl => ?_)
  refine lv_iload_n hx hb dX4_weighted_14 rfl (lv_at hl 2 rfl) ?_
  refine lv_istore (lv' := [(7, .int r_1), (5, .long 0), (3, .long 0), (2, .int r_1), (0, .ref a_p0), (1, .int x1)]) hx hb dX4_weighted_15 hl (by decide) rfl (fun ls hl => ?_)
  obtain ⟨o3_5, o5_6, hq, hf⟩ := bd2_some hf
  have K17 : ∀ ls : Array Slot, lv_has ls 10 [(3, .long o3_5), (5, .long o5_6)] → W p l e RM_X4_weighted s m [.ref a_p0, .int x1].toArray below meth c s.heap [] 0 0 (MQ below (rdQ (some (.int rr))) [.ref a_p0, .int x1].toArray s 0 0 (fun _ => False)) (F0 m 58 ls []) := by
    intro ls hl
    refine lv_ldc2 (v := 1000) hx hb hown (hts _ (List.mem_cons_of_mem _ q388)) dX4_weighted_58 ?_
    refine lv_lload_n hx hb dX4_weighted_61 rfl (lv_at hl 0 rfl) ?_
    refine lv_lmul hx hb dX4_weighted_62 ?_
    refine lv_lload hx hb dX4_weighted_63 (lv_at hl 1 rfl) ?_
    obtain ⟨r_8, hq, hf⟩ := bd1_some hf
    refine rdSN (As := [.long (1000 * o3_5), .long o5_6]) (rest := []) hF hG hP hl.1 (c_X11_divided l G (1000 * o3_5) o5_6 r_8 hq) k_X11_divided n389 [] rfl rfl rfl (Nat.le_of_ble_eq_true rfl) ⟨(Nat.le_of_ble_eq_true rfl), (Nat.le_of_ble_eq_true rfl)⟩ ⟨(Nat.zero_le _), (Nat.zero_le _)⟩ dX4_weighted_65 ?_
    refine lv_l2i (v := (Int64.toInt32 r_8)) hx hb dX4_weighted_68 rfl ?_
    have hf : (some (Int64.toInt32 r_8) : Option (Int32)) = some rr := hf
    cases hf
    exact re_i hF hr hlk dX4_weighted_69 rfl
  clear hf
  have L17 : ∀ (n : Nat) (i3_2 : Int64) (i5_3 : Int64) (i7_4 : Int32), l_X4_weighted_17 p0_row x1 r_1 n i3_2 i5_3 i7_4 = some (o3_5, o5_6) → ∀ ls : Array Slot, lv_has ls 10 [(0, .ref a_p0), (1, .int x1), (2, .int r_1), (3, .long i3_2), (5, .long i5_3), (7, .int i7_4)] → W p l e RM_X4_weighted s m [.ref a_p0, .int x1].toArray below meth c s.heap [] 0 0 (MQ below (rdQ (some (.int rr))) [.ref a_p0, .int x1].toArray s 0 0 (fun _ => False)) (F0 m 17 ls []) := by
    intro n
    induction n with
    | zero =>
      intro i3_2 i5_3 i7_4 hf
      exact nomatch (show none = some (o3_5, o5_6) from hf)
    | succ n ih =>
      intro i3_2 i5_3 i7_4 hf ls hl
      rw [l_X4_weighted_17] at hf
      refine lv_iload hx hb dX4_weighted_17 (lv_at hl 5 rfl) ?_
      refine lv_iload_n hx hb dX4_weighted_19 rfl (lv_at hl 1 rfl) ?_
      refine lv_icmp_gt (tgt := 58) hx hb dX4_weighted_20 (by decide) (fun c0 => ?_) (fun c0 => ?_)
      · have hf := (if_pos c0).symm.trans hf
        have hf : (some (i3_2, i5_3) : Option (Int64 × Int64)) = some (o3_5, o5_6) := hf
        cases hf
        exact K17 ls (lv_sub hl [3, 4] rfl)
      · have hf := (if_neg c0).symm.trans hf
        refine lv_iload hx hb dX4_weighted_23 (lv_at hl 5 rfl) ?_
        refine lv_iload_n hx hb dX4_weighted_25 rfl (lv_at hl 2 rfl) ?_
        refine lv_isub hx hb dX4_weighted_26 ?_
        refine lv_iconst (v := 1) hx hb dX4_weighted_27 (by decide) ?_
        refine lv_iadd hx hb dX4_weighted_28 ?_
        refine lv_i2l (v := (Int32.toInt64 ((i7_4 - r_1) + 1))) hx hb dX4_weighted_29 rfl ?_
        refine lv_lstore (lv' := [(8, .long (Int32.toInt64 ((i7_4 - r_1) + 1))), (0, .ref a_p0), (1, .int x1), (2, .int r_1), (3, .long i3_2), (5, .long i5_3), (7, .int i7_4)]) hx hb dX4_weighted_30 hl (by decide) rfl (fun ls hl => ?_)
        refine lv_lload_n hx hb dX4_weighted_32 rfl (lv_at hl 4 rfl) ?_
        refine lv_lload hx hb dX4_weighted_33 (lv_at hl 0 rfl) ?_
        refine lv_aload_n hx hb dX4_weighted_35 rfl (lv_at hl 1 rfl) ?_
        refine lv_iload hx hb dX4_weighted_36 (lv_at hl 6 rfl) ?_
        obtain ⟨r_7, hq, hf⟩ := bd1_some hf
        refine rdVN (As := [.int i7_4]) (rest := [.long (Int32.toInt64 ((i7_4 - r_1) + 1)), .long i3_2]) hF hG hP hl.1 (c_X6_at l G a_p0 p0_length p0_shorter p0_longer p0_memory p0_limit p0_seasonDays p0_stopped p0_stopPart p0_stopReason a_p0_row p0_row i7_4 r_7 hq) k_X6_at n387 [0, 1] rfl ⟨0, 2, _, _, rfl, rfl, rfl⟩ rfl rfl (Nat.le_of_ble_eq_true rfl) ⟨(Nat.le_of_ble_eq_true rfl), (Nat.le_of_ble_eq_true rfl)⟩ ⟨(Nat.zero_le _), (Nat.zero_le _)⟩ dX4_weighted_38 ?_
        refine lv_i2l (v := (Int32.toInt64 r_7)) hx hb dX4_weighted_41 rfl ?_
        refine lv_lmul hx hb dX4_weighted_42 ?_
        refine lv_ladd hx hb dX4_weighted_43 ?_
        refine lv_lstore_n (lv' := [(3, .long (i3_2 + ((Int32.toInt64 ((i7_4 - r_1) + 1)) * (Int32.toInt64 r_7)))), (8, .long (Int32.toInt64 ((i7_4 - r_1) + 1))), (0, .ref a_p0), (1, .int x1), (2, .int r_1), (5, .long i5_3), (7, .int i7_4)]) hx hb dX4_weighted_44 rfl hl (by decide) rfl (fun ls hl => ?_)
        refine lv_lload hx hb dX4_weighted_45 (lv_at hl 5 rfl) ?_
        refine lv_lload hx hb dX4_weighted_47 (lv_at hl 1 rfl) ?_
        refine lv_ladd hx hb dX4_weighted_49 ?_
        refine lv_lstore (lv' := [(5, .long (i5_3 + (Int32.toInt64 ((i7_4 - r_1) + 1)))), (3, .long (i3_2 + ((Int32.toInt64 ((i7_4 - r_1) + 1)) * (Int32.toInt64 r_7)))), (8, .long (Int32.toInt64 ((i7_4 - r_1) + 1))), (0, .ref a_p0), (1, .int x1), (2, .int r_1), (7, .int i7_4)]) hx hb dX4_weighted_50 hl (by decide) rfl (fun ls hl => ?_)
        refine lv_iinc (v := (i7_4 + 1)) (lv' := [(7, .int (i7_4 + 1)), (5, .long (i5_3 + (Int32.toInt64 ((i7_4 - r_1) + 1)))), (3, .long (i3_2 + ((Int32.toInt64 ((i7_4 - r_1) + 1)) * (Int32.toInt64 r_7)))), (8, .long (Int32.toInt64 ((i7_4 - r_1) + 1))), (0, .ref a_p0), (1, .int x1), (2, .int r_1)]) hx hb dX4_weighted_52 hl (k := 6) rfl rfl (by decide) rfl (fun ls hl => ?_)
        refine lv_goto (tgt := 17) hx hb dX4_weighted_55 (by decide) ?_
        exact ih (i3_2 + ((Int32.toInt64 ((i7_4 - r_1) + 1)) * (Int32.toInt64 r_7))) (i5_3 + (Int32.toInt64 ((i7_4 - r_1) + 1))) (i7_4 + 1) hf ls (lv_sub hl [4, 5, 6, 2, 1, 0] rfl)
  exact L17 1000 0 0 r_1 hq ls (lv_sub hl [4, 5, 3, 2, 1, 0] rfl)
def f_X4_nextSmooth (x0 : Int32) (x1 : Int32) (x2 : Int32) : Option (Int32) := some (((x0 * x1) + (((10 - x0) * 1000) * x2)) / 10)
theorem k_X4_nextSmooth : KS yX4_nextSmooth cX4_nextSmooth 3 (some .int) 3 := ⟨qc_yX4_nextSmooth, q18, ⟨by decide +kernel, by decide +kernel, by decide +kernel⟩, qt_yX4_nextSmooth⟩
abbrev RM_X4_nextSmooth : Room := { frames := 0, cells := 0, slots := 0, locals := 0 }
set_option maxHeartbeats 4000000 in
set_option maxRecDepth 100000 in
theorem c_X4_nextSmooth (l : Launch) (G : GP) (x0 : Int32) (x1 : Int32) (x2 : Int32) (rr : Int32) (hf : f_X4_nextSmooth x0 x1 x2 = some rr) : RM l yX4_nextSmooth cX4_nextSmooth 3 (some .int) 0 0 G [.int x0, .int x1, .int x2] [] (some (.int rr)) := by
  refine RM.ofW (C := RX4) (by decide) rfl (Nat.le_of_ble_eq_true rfl) ?_
  intro p e s m below meth c hF hr hlk hG hP ls hl
  have hl : lv_has ls 3 [(0, .int x0), (1, .int x1), (2, .int x2)] := hl
  have hx := hF.1
  have hb := hF.2.1
  have hml := hF.2.2.1
  have hown := hF.2.2.2.1
  have hts := hF.2.2.2.2
  unfold f_X4_nextSmooth at hf
  refine lv_iload_n hx hb dX4_nextSmooth_0 rfl (lv_at hl 0 rfl) ?_
  refine lv_iload_n hx hb dX4_nextSmooth_1 rfl (lv_at hl 1 rfl) ?_
  refine lv_imul hx hb dX4_nextSmooth_2 ?_
  refine lv_bipush (v := 10) hx hb dX4_nextSmooth_3 (by decide) ?_
  refine lv_iload_n hx hb dX4_nextSmooth_5 rfl (lv_at hl 0 rfl) ?_
  refine lv_isub hx hb dX4_nextSmooth_6 ?_
  refine lv_sipush (v := 1000) hx hb dX4_nextSmooth_7 (by decide) ?_
  refine lv_imul hx hb dX4_nextSmooth_10 ?_
  refine lv_iload_n hx hb dX4_nextSmooth_11 rfl (lv_at hl 2 rfl) ?_
  refine lv_imul hx hb dX4_nextSmooth_12 ?_
  refine lv_iadd hx hb dX4_nextSmooth_13 ?_
  refine lv_bipush (v := 10) hx hb dX4_nextSmooth_14 (by decide) ?_
  refine lv_idiv hx hb dX4_nextSmooth_16 (by decide) ?_
  have hf : (some (((x0 * x1) + (((10 - x0) * 1000) * x2)) / 10) : Option (Int32)) = some rr := hf
  cases hf
  exact re_i hF hr hlk dX4_nextSmooth_17 rfl
def l_X4_smoothedForwards_12 (p0_memory : Int32) (p0_row : Nat → Int32) (x1 : Int32) : Nat → Int32 → Int32 → Option (Int32)
  | 0, _, _ => none
  | n + 1, i2_2, i3_3 => (if x1 < i3_3 then some i2_2 else bd1 (f_X6_at p0_row i3_3) (fun (r_5 : Int32) => bd1 (f_X4_nextSmooth p0_memory i2_2 r_5) (fun (r_6 : Int32) => l_X4_smoothedForwards_12 p0_memory p0_row x1 n r_6 (i3_3 + 1))))
def f_X4_smoothedForwards (p0_memory : Int32) (p0_row : Nat → Int32) (x1 : Int32) : Option (Int32) := bd1 (f_X6_at p0_row 0) (fun (r_1 : Int32) => bd1 (l_X4_smoothedForwards_12 p0_memory p0_row x1 1000 (1000 * r_1) 1) (fun (o2_4 : Int32) => some o2_4))
theorem k_X4_smoothedForwards : KS yX4_smoothedForwards cX4_smoothedForwards 4 (some .int) 2 := ⟨qc_yX4_smoothedForwards, q18, ⟨by decide +kernel, by decide +kernel, by decide +kernel⟩, qt_yX4_smoothedForwards⟩
abbrev RM_X4_smoothedForwards : Room := { frames := 1, cells := 0, slots := 0, locals := 22 }
set_option maxHeartbeats 4000000 in
set_option maxRecDepth 100000 in
theorem c_X4_smoothedForwards (l : Launch) (G : GP) (a_p0 : Nat) (p0_length : Int32) (p0_shorter : Int32) (p0_longer : Int32) (p0_memory : Int32) (p0_limit : Int32) (p0_seasonDays : Int32) (p0_stopped : Int32) (p0_stopPart : Int32) (p0_stopReason : Int32) (a_p0_row : Nat) (p0_row : Nat → Int32) (x1 : Int32) (rr : Int32) (hf : f_X4_smoothedForwards p0_memory p0_row x1 = some rr) : RM l yX4_smoothedForwards cX4_smoothedForwards 4 (some .int) 1 22 G [.ref a_p0, .int x1] [(a_p0, .inr (2, [.ref a_p0_row, .int p0_length, .int p0_shorter, .int p0_longer, .int p0_memory, .int p0_limit, .int p0_seasonDays, .int p0_stopped, .int p0_stopPart, .int p0_stopReason])), (a_p0_row, .inl (G.2.1, 60, .inl p0_row))] (some (.int rr)) := by
  refine RM.ofW (C := RX4) (by decide) rfl (Nat.le_of_ble_eq_true rfl) ?_
  intro p e s m below meth c hF hr hlk hG hP ls hl
  have hl : lv_has ls 4 [(0, .ref a_p0), (1, .int x1)] := hl
  have hx := hF.1
  have hb := hF.2.1
  have hml := hF.2.2.1
  have hown := hF.2.2.2.1
  have hts := hF.2.2.2.2
  unfold f_X4_smoothedForwards at hf
  refine lv_sipush (v := 1000) hx hb dX4_smoothedForwards_0 (by decide) ?_
  refine lv_aload_n hx hb dX4_smoothedForwards_3 rfl (lv_at hl 0 rfl) ?_
  refine lv_iconst (v := 0) hx hb dX4_smoothedForwards_4 (by decide) ?_
  obtain ⟨r_1, hq, hf⟩ := bd1_some hf
  refine rdVN (As := [.int 0]) (rest := [.int 1000]) hF hG hP hl.1 (c_X6_at l G a_p0 p0_length p0_shorter p0_longer p0_memory p0_limit p0_seasonDays p0_stopped p0_stopPart p0_stopReason a_p0_row p0_row 0 r_1 hq) k_X6_at n387 [0, 1] rfl ⟨0, 2, _, _, rfl, rfl, rfl⟩ rfl rfl (Nat.le_of_ble_eq_true rfl) ⟨(Nat.le_of_ble_eq_true rfl), (Nat.le_of_ble_eq_true rfl)⟩ ⟨(Nat.zero_le _), (Nat.zero_le _)⟩ dX4_smoothedForwards_5 ?_
  refine lv_imul hx hb dX4_smoothedForwards_8 ?_
  refine lv_istore_n (lv' := [(2, .int (1000 * r_1)), (0, .ref a_p0), (1, .int x1)]) hx hb dX4_smoothedForwards_9 rfl hl (by decide) rfl (fun ls hl => ?_)
  refine lv_iconst (v := 1) hx hb dX4_smoothedForwards_10 (by decide) ?_
  refine lv_istore_n (lv' := [(3, .int 1), (2, .int (1000 * r_1)), (0, .ref a_p0), (1, .int x1)]) hx hb dX4_smoothedForwards_11 rfl hl (by decide) rfl (fun ls hl => ?_)
  obtain ⟨o2_4, hq, hf⟩ := bd1_some hf
  have K12 : ∀ ls : Array Slot, lv_has ls 4 [(2, .int o2_4)] → W p l e RM_X4_smoothedForwards s m [.ref a_p0, .int x1].toArray below meth c s.heap [] 0 0 (MQ below (rdQ (some (.int rr))) [.ref a_p0, .int x1].toArray s 0 0 (fun _ => False)) (F0 m 37 ls []) := by
    intro ls hl
    refine lv_iload_n hx hb dX4_smoothedForwards_37 rfl (lv_at hl 0 rfl) ?_
    have hf : (some o2_4 : Option (Int32)) = some rr := hf
    cases hf
    exact re_i hF hr hlk dX4_smoothedForwards_38 rfl
  clear hf
  have L12 : ∀ (n : Nat) (i2_2 : Int32) (i3_3 : Int32), l_X4_smoothedForwards_12 p0_memory p0_row x1 n i2_2 i3_3 = some o2_4 → ∀ ls : Array Slot, lv_has ls 4 [(0, .ref a_p0), (1, .int x1), (2, .int i2_2), (3, .int i3_3)] → W p l e RM_X4_smoothedForwards s m [.ref a_p0, .int x1].toArray below meth c s.heap [] 0 0 (MQ below (rdQ (some (.int rr))) [.ref a_p0, .int x1].toArray s 0 0 (fun _ => False)) (F0 m 12 ls []) := by
    intro n
    induction n with
    | zero =>
      intro i2_2 i3_3 hf
      exact nomatch (show none = some o2_4 from hf)
    | succ n ih =>
      intro i2_2 i3_3 hf ls hl
      rw [l_X4_smoothedForwards_12] at hf
      refine lv_iload_n hx hb dX4_smoothedForwards_12 rfl (lv_at hl 3 rfl) ?_
      refine lv_iload_n hx hb dX4_smoothedForwards_13 rfl (lv_at hl 1 rfl) ?_
      refine lv_icmp_gt (tgt := 37) hx hb dX4_smoothedForwards_14 (by decide) (fun c0 => ?_) (fun c0 => ?_)
      · have hf := (if_pos c0).symm.trans hf
        have hf : (some i2_2 : Option (Int32)) = some o2_4 := hf
        cases hf
        exact K12 ls (lv_sub hl [2] rfl)
      · have hf := (if_neg c0).symm.trans hf
        refine lv_aload_n hx hb dX4_smoothedForwards_17 rfl (lv_at hl 0 rfl) ?_
        refine gfN (C := RX6) (T := TX6) (N := 10) (ci := 2) (v := .int p0_memory) hF hG hP inX6 0 rfl rfl 4 (by decide) n60 rfl rfl dX4_smoothedForwards_18 ?_
        refine lv_iload_n hx hb dX4_smoothedForwards_21 rfl (lv_at hl 2 rfl) ?_
        refine lv_aload_n hx hb dX4_smoothedForwards_22 rfl (lv_at hl 0 rfl) ?_
        refine lv_iload_n hx hb dX4_smoothedForwards_23 rfl (lv_at hl 3 rfl) ?_
        obtain ⟨r_5, hq, hf⟩ := bd1_some hf
        refine rdVN (As := [.int i3_3]) (rest := [.int i2_2, .int p0_memory]) hF hG hP hl.1 (c_X6_at l G a_p0 p0_length p0_shorter p0_longer p0_memory p0_limit p0_seasonDays p0_stopped p0_stopPart p0_stopReason a_p0_row p0_row i3_3 r_5 hq) k_X6_at n387 [0, 1] rfl ⟨0, 2, _, _, rfl, rfl, rfl⟩ rfl rfl (Nat.le_of_ble_eq_true rfl) ⟨(Nat.le_of_ble_eq_true rfl), (Nat.le_of_ble_eq_true rfl)⟩ ⟨(Nat.zero_le _), (Nat.zero_le _)⟩ dX4_smoothedForwards_24 ?_
        obtain ⟨r_6, hq, hf⟩ := bd1_some hf
        refine rdS (As := [.int p0_memory, .int i2_2, .int r_5]) (rest := []) hF hG hP hl.1 (c_X4_nextSmooth l G p0_memory i2_2 r_5 r_6 hq) k_X4_nextSmooth q464 [] rfl rfl rfl (Nat.le_of_ble_eq_true rfl) ⟨(Nat.le_of_ble_eq_true rfl), (Nat.le_of_ble_eq_true rfl)⟩ ⟨(Nat.zero_le _), (Nat.zero_le _)⟩ dX4_smoothedForwards_27 ?_
        refine lv_istore_n (lv' := [(2, .int r_6), (0, .ref a_p0), (1, .int x1), (3, .int i3_3)]) hx hb dX4_smoothedForwards_30 rfl hl (by decide) rfl (fun ls hl => ?_)
        refine lv_iinc (v := (i3_3 + 1)) (lv' := [(3, .int (i3_3 + 1)), (2, .int r_6), (0, .ref a_p0), (1, .int x1)]) hx hb dX4_smoothedForwards_31 hl (k := 3) rfl rfl (by decide) rfl (fun ls hl => ?_)
        refine lv_goto (tgt := 12) hx hb dX4_smoothedForwards_34 (by decide) ?_
        exact ih r_6 (i3_3 + 1) hf ls (lv_sub hl [2, 3, 1, 0] rfl)
  exact L12 1000 (1000 * r_1) 1 hq ls (lv_sub hl [2, 3, 1, 0] rfl)
def f_X4_smoothedByRecursion (p0_memory : Int32) (p0_row : Nat → Int32) : Nat → Int32 → Int32 → Option (Int32)
  | 0, _, _ => none
  | n + 1, x1, x2 => (if x1 ≤ 0 then bd1 (f_X6_at p0_row 0) (fun (r_1 : Int32) => some (1000 * r_1)) else (if x2 < 60 then bd1 (f_X4_smoothedByRecursion p0_memory p0_row n (x1 - 1) (x2 + 1)) (fun (r_2 : Int32) => bd1 (f_X6_at p0_row x1) (fun (r_3 : Int32) => bd1 (f_X4_nextSmooth p0_memory r_2 r_3) (fun (r_4 : Int32) => some r_4))) else bd1 (f_X6_at p0_row 0) (fun (r_5 : Int32) => some (1000 * r_5))))
theorem k_X4_smoothedByRecursion : KS yX4_smoothedByRecursion cX4_smoothedByRecursion 4 (some .int) 3 := ⟨qc_yX4_smoothedByRecursion, q18, ⟨by decide +kernel, by decide +kernel, by decide +kernel⟩, qt_yX4_smoothedByRecursion⟩
set_option maxHeartbeats 4000000 in
set_option maxRecDepth 100000 in
theorem c_X4_smoothedByRecursion (l : Launch) (G : GP) (a_p0 : Nat) (p0_length : Int32) (p0_shorter : Int32) (p0_longer : Int32) (p0_memory : Int32) (p0_limit : Int32) (p0_seasonDays : Int32) (p0_stopped : Int32) (p0_stopPart : Int32) (p0_stopReason : Int32) (a_p0_row : Nat) (p0_row : Nat → Int32) : ∀ (n : Nat) (x1 : Int32) (x2 : Int32) (rr : Int32), f_X4_smoothedByRecursion p0_memory p0_row n x1 x2 = some rr → RM l yX4_smoothedByRecursion cX4_smoothedByRecursion 4 (some .int) (n + 2) (30 * n + 90) G [.ref a_p0, .int x1, .int x2] [(a_p0, .inr (2, [.ref a_p0_row, .int p0_length, .int p0_shorter, .int p0_longer, .int p0_memory, .int p0_limit, .int p0_seasonDays, .int p0_stopped, .int p0_stopPart, .int p0_stopReason])), (a_p0_row, .inl (G.2.1, 60, .inl p0_row))] (some (.int rr)) := by
  intro n
  induction n with
  | zero =>
    intro x1 x2 rr hf
    exact nomatch (show none = some rr from hf)
  | succ n ih =>
    intro x1 x2 rr hf
    refine RM.ofW (C := RX4) (by decide) rfl (Nat.le_of_ble_eq_true rfl) ?_
    intro p e s m below meth c hF hr hlk hG hP ls hl
    have hl : lv_has ls 4 [(0, .ref a_p0), (1, .int x1), (2, .int x2)] := hl
    have hx := hF.1
    have hb := hF.2.1
    have hml := hF.2.2.1
    have hown := hF.2.2.2.1
    have hts := hF.2.2.2.2
    rw [f_X4_smoothedByRecursion] at hf
    refine lv_iload_n hx hb dX4_smoothedByRecursion_0 rfl (lv_at hl 1 rfl) ?_
    refine lv_if_le (tgt := 10) hx hb dX4_smoothedByRecursion_1 (by decide) (fun c0 => ?_) (fun c0 => ?_)
    · have hf := (if_pos c0).symm.trans hf
      refine lv_sipush (v := 1000) hx hb dX4_smoothedByRecursion_10 (by decide) ?_
      refine lv_aload_n hx hb dX4_smoothedByRecursion_13 rfl (lv_at hl 0 rfl) ?_
      refine lv_iconst (v := 0) hx hb dX4_smoothedByRecursion_14 (by decide) ?_
      obtain ⟨r_1, hq, hf⟩ := bd1_some hf
      refine rdVN (As := [.int 0]) (rest := [.int 1000]) hF hG hP hl.1 (c_X6_at l G a_p0 p0_length p0_shorter p0_longer p0_memory p0_limit p0_seasonDays p0_stopped p0_stopPart p0_stopReason a_p0_row p0_row 0 r_1 hq) k_X6_at n387 [0, 1] rfl ⟨0, 2, _, _, rfl, rfl, rfl⟩ rfl rfl (Nat.le_of_ble_eq_true rfl) ⟨by dsimp only; omega, by dsimp only; omega⟩ ⟨(Nat.zero_le _), (Nat.zero_le _)⟩ dX4_smoothedByRecursion_15 ?_
      refine lv_imul hx hb dX4_smoothedByRecursion_18 ?_
      have hf : (some (1000 * r_1) : Option (Int32)) = some rr := hf
      cases hf
      exact re_i hF hr hlk dX4_smoothedByRecursion_19 rfl
    · have hf := (if_neg c0).symm.trans hf
      refine lv_iload_n hx hb dX4_smoothedByRecursion_4 rfl (lv_at hl 2 rfl) ?_
      refine lv_bipush (v := 60) hx hb dX4_smoothedByRecursion_5 (by decide) ?_
      refine lv_icmp_lt (tgt := 20) hx hb dX4_smoothedByRecursion_7 (by decide) (fun c0 => ?_) (fun c0 => ?_)
      · have hf := (if_pos c0).symm.trans hf
        refine lv_aload_n hx hb dX4_smoothedByRecursion_20 rfl (lv_at hl 0 rfl) ?_
        refine lv_iload_n hx hb dX4_smoothedByRecursion_21 rfl (lv_at hl 1 rfl) ?_
        refine lv_iconst (v := 1) hx hb dX4_smoothedByRecursion_22 (by decide) ?_
        refine lv_isub hx hb dX4_smoothedByRecursion_23 ?_
        refine lv_iload_n hx hb dX4_smoothedByRecursion_24 rfl (lv_at hl 2 rfl) ?_
        refine lv_iconst (v := 1) hx hb dX4_smoothedByRecursion_25 (by decide) ?_
        refine lv_iadd hx hb dX4_smoothedByRecursion_26 ?_
        obtain ⟨r_2, hq, hf⟩ := bd1_some hf
        refine rdS (As := [.ref a_p0, .int (x1 - 1), .int (x2 + 1)]) (rest := []) hF hG hP hl.1 (ih (x1 - 1) (x2 + 1) r_2 hq) k_X4_smoothedByRecursion q470 [0, 1] rfl rfl rfl (Nat.le_of_ble_eq_true rfl) ⟨by dsimp only; omega, by dsimp only; omega⟩ ⟨(Nat.zero_le _), (Nat.zero_le _)⟩ dX4_smoothedByRecursion_27 ?_
        refine lv_istore_n (lv' := [(3, .int r_2), (0, .ref a_p0), (1, .int x1), (2, .int x2)]) hx hb dX4_smoothedByRecursion_30 rfl hl (by decide) rfl (fun ls hl => ?_)
        refine lv_aload_n hx hb dX4_smoothedByRecursion_31 rfl (lv_at hl 1 rfl) ?_
        refine gfN (C := RX6) (T := TX6) (N := 10) (ci := 2) (v := .int p0_memory) hF hG hP inX6 0 rfl rfl 4 (by decide) n60 rfl rfl dX4_smoothedByRecursion_32 ?_
        refine lv_iload_n hx hb dX4_smoothedByRecursion_35 rfl (lv_at hl 0 rfl) ?_
        refine lv_aload_n hx hb dX4_smoothedByRecursion_36 rfl (lv_at hl 1 rfl) ?_
        refine lv_iload_n hx hb dX4_smoothedByRecursion_37 rfl (lv_at hl 2 rfl) ?_
        obtain ⟨r_3, hq, hf⟩ := bd1_some hf
        refine rdVN (As := [.int x1]) (rest := [.int r_2, .int p0_memory]) hF hG hP hl.1 (c_X6_at l G a_p0 p0_length p0_shorter p0_longer p0_memory p0_limit p0_seasonDays p0_stopped p0_stopPart p0_stopReason a_p0_row p0_row x1 r_3 hq) k_X6_at n387 [0, 1] rfl ⟨0, 2, _, _, rfl, rfl, rfl⟩ rfl rfl (Nat.le_of_ble_eq_true rfl) ⟨by dsimp only; omega, by dsimp only; omega⟩ ⟨(Nat.zero_le _), (Nat.zero_le _)⟩ dX4_smoothedByRecursion_38 ?_
        obtain ⟨r_4, hq, hf⟩ := bd1_some hf
        refine rdS (As := [.int p0_memory, .int r_2, .int r_3]) (rest := []) hF hG hP hl.1 (c_X4_nextSmooth l G p0_memory r_2 r_3 r_4 hq) k_X4_nextSmooth q464 [] rfl rfl rfl (Nat.le_of_ble_eq_true rfl) ⟨by dsimp only; omega, by dsimp only; omega⟩ ⟨(Nat.zero_le _), (Nat.zero_le _)⟩ dX4_smoothedByRecursion_41 ?_
        have hf : (some r_4 : Option (Int32)) = some rr := hf
        cases hf
        exact re_i hF hr hlk dX4_smoothedByRecursion_44 rfl
      · have hf := (if_neg c0).symm.trans hf
        refine lv_sipush (v := 1000) hx hb dX4_smoothedByRecursion_10 (by decide) ?_
        refine lv_aload_n hx hb dX4_smoothedByRecursion_13 rfl (lv_at hl 0 rfl) ?_
        refine lv_iconst (v := 0) hx hb dX4_smoothedByRecursion_14 (by decide) ?_
        obtain ⟨r_5, hq, hf⟩ := bd1_some hf
        refine rdVN (As := [.int 0]) (rest := [.int 1000]) hF hG hP hl.1 (c_X6_at l G a_p0 p0_length p0_shorter p0_longer p0_memory p0_limit p0_seasonDays p0_stopped p0_stopPart p0_stopReason a_p0_row p0_row 0 r_5 hq) k_X6_at n387 [0, 1] rfl ⟨0, 2, _, _, rfl, rfl, rfl⟩ rfl rfl (Nat.le_of_ble_eq_true rfl) ⟨by dsimp only; omega, by dsimp only; omega⟩ ⟨(Nat.zero_le _), (Nat.zero_le _)⟩ dX4_smoothedByRecursion_15 ?_
        refine lv_imul hx hb dX4_smoothedByRecursion_18 ?_
        have hf : (some (1000 * r_5) : Option (Int32)) = some rr := hf
        cases hf
        exact re_i hF hr hlk dX4_smoothedByRecursion_19 rfl
def f_X11_hashOfMeans (t_now_shorter : Int32) (t_now_longer : Int32) (t_now_memory : Int32) (t_now_row : Nat → Int32) (x1 : Int64) (x3 : Int32) : Option (Int64) := bd1 (f_X6_at t_now_row x3) (fun (r_1 : Int32) => bd1 (f_X11_mixed x1 (Int32.toInt64 r_1)) (fun (r_2 : Int64) => bd1 (f_X4_byAdding t_now_row x3 t_now_shorter) (fun (r_3 : Int32) => bd1 (f_X11_mixed r_2 (Int32.toInt64 r_3)) (fun (r_4 : Int64) => bd1 (f_X4_bySums t_now_row x3 t_now_shorter) (fun (r_5 : Int32) => bd1 (f_X11_mixed r_4 (Int32.toInt64 r_5)) (fun (r_6 : Int64) => bd1 (f_X4_byAdding t_now_row x3 t_now_longer) (fun (r_7 : Int32) => bd1 (f_X11_mixed r_6 (Int32.toInt64 r_7)) (fun (r_8 : Int64) => bd1 (f_X4_weighted t_now_longer t_now_row x3) (fun (r_9 : Int32) => bd1 (f_X11_mixed r_8 (Int32.toInt64 r_9)) (fun (r_10 : Int64) => bd1 (f_X4_smoothedForwards t_now_memory t_now_row x3) (fun (r_11 : Int32) => bd1 (f_X11_mixed r_10 (Int32.toInt64 r_11)) (fun (r_12 : Int64) => bd1 (f_X4_smoothedByRecursion t_now_memory t_now_row 70 x3 0) (fun (r_13 : Int32) => bd1 (f_X11_mixed r_12 (Int32.toInt64 r_13)) (fun (r_14 : Int64) => some r_14))))))))))))))
theorem k_X11_hashOfMeans : KV yX11_hashOfMeans cX11_hashOfMeans 6 (some .long) 2 := ⟨qc_yX11_hashOfMeans, q1, ⟨by decide +kernel, by decide +kernel, by decide +kernel⟩, qi_yX11_hashOfMeans, qs_yX11_hashOfMeans⟩
abbrev RM_X11_hashOfMeans : Room := { frames := 73, cells := 0, slots := 0, locals := 2213 }
set_option maxHeartbeats 4000000 in
set_option maxRecDepth 100000 in
theorem c_X11_hashOfMeans (l : Launch) (G : GP) (a_t : Nat) (a_t_trial : Nat) (a_t_snapshot : Nat) (t_snapshotTaken : Int32) (a_t_history : Nat) (a_t_text : Nat) (a_t_works : Nat) (a_t_highs : Nat) (a_t_trade : Nat) (a_t_now : Nat) (t_now_length : Int32) (t_now_shorter : Int32) (t_now_longer : Int32) (t_now_memory : Int32) (t_now_limit : Int32) (t_now_seasonDays : Int32) (t_now_stopped : Int32) (t_now_stopPart : Int32) (t_now_stopReason : Int32) (a_t_now_row : Nat) (t_now_row : Nat → Int32) (x1 : Int64) (x3 : Int32) (rr : Int64) (hf : f_X11_hashOfMeans t_now_shorter t_now_longer t_now_memory t_now_row x1 x3 = some rr) : RM l yX11_hashOfMeans cX11_hashOfMeans 6 (some .long) 73 2213 G [.ref a_t, .long x1, .int x3] [(a_t, .inr (7, [.ref a_t_now, .ref a_t_trial, .ref a_t_snapshot, .int t_snapshotTaken, .ref a_t_history, .ref a_t_text, .ref a_t_works, .ref a_t_highs, .ref a_t_trade])), (a_t_now, .inr (2, [.ref a_t_now_row, .int t_now_length, .int t_now_shorter, .int t_now_longer, .int t_now_memory, .int t_now_limit, .int t_now_seasonDays, .int t_now_stopped, .int t_now_stopPart, .int t_now_stopReason])), (a_t_now_row, .inl (G.2.1, 60, .inl t_now_row))] (some (.long rr)) := by
  refine RM.ofW (C := RX11) (by decide) rfl (Nat.le_of_ble_eq_true rfl) ?_
  intro p e s m below meth c hF hr hlk hG hP ls hl
  have hl : lv_has ls 6 [(0, .ref a_t), (1, .long x1), (3, .int x3)] := hl
  have hx := hF.1
  have hb := hF.2.1
  have hml := hF.2.2.1
  have hown := hF.2.2.2.1
  have hts := hF.2.2.2.2
  unfold f_X11_hashOfMeans at hf
  refine lv_lload_n hx hb dX11_hashOfMeans_0 rfl (lv_at hl 1 rfl) ?_
  refine lv_aload_n hx hb dX11_hashOfMeans_1 rfl (lv_at hl 0 rfl) ?_
  refine gf (C := RX11) (T := TX11) (N := 9) (ci := 7) (v := .ref a_t_now) hF hG hP inX11 0 rfl rfl 0 (by decide) q204 rfl rfl dX11_hashOfMeans_2 ?_
  refine lv_iload_n hx hb dX11_hashOfMeans_5 rfl (lv_at hl 2 rfl) ?_
  obtain ⟨r_1, hq, hf⟩ := bd1_some hf
  refine rdVN (As := [.int x3]) (rest := [.long x1]) hF hG hP hl.1 (c_X6_at l G a_t_now t_now_length t_now_shorter t_now_longer t_now_memory t_now_limit t_now_seasonDays t_now_stopped t_now_stopPart t_now_stopReason a_t_now_row t_now_row x3 r_1 hq) k_X6_at n450 [1, 2] rfl ⟨1, 2, _, _, rfl, rfl, rfl⟩ rfl rfl (Nat.le_of_ble_eq_true rfl) ⟨(Nat.le_of_ble_eq_true rfl), (Nat.le_of_ble_eq_true rfl)⟩ ⟨(Nat.zero_le _), (Nat.zero_le _)⟩ dX11_hashOfMeans_6 ?_
  refine lv_i2l (v := (Int32.toInt64 r_1)) hx hb dX11_hashOfMeans_9 rfl ?_
  obtain ⟨r_2, hq, hf⟩ := bd1_some hf
  refine rdS (As := [.long x1, .long (Int32.toInt64 r_1)]) (rest := []) hF hG hP hl.1 (c_X11_mixed l G x1 (Int32.toInt64 r_1) r_2 hq) k_X11_mixed q434 [] rfl rfl rfl (Nat.le_of_ble_eq_true rfl) ⟨(Nat.le_of_ble_eq_true rfl), (Nat.le_of_ble_eq_true rfl)⟩ ⟨(Nat.zero_le _), (Nat.zero_le _)⟩ dX11_hashOfMeans_10 ?_
  refine lv_lstore (lv' := [(4, .long r_2), (0, .ref a_t), (1, .long x1), (3, .int x3)]) hx hb dX11_hashOfMeans_13 hl (by decide) rfl (fun ls hl => ?_)
  refine lv_lload hx hb dX11_hashOfMeans_15 (lv_at hl 0 rfl) ?_
  refine lv_aload_n hx hb dX11_hashOfMeans_17 rfl (lv_at hl 1 rfl) ?_
  refine gf (C := RX11) (T := TX11) (N := 9) (ci := 7) (v := .ref a_t_now) hF hG hP inX11 0 rfl rfl 0 (by decide) q204 rfl rfl dX11_hashOfMeans_18 ?_
  refine lv_iload_n hx hb dX11_hashOfMeans_21 rfl (lv_at hl 3 rfl) ?_
  refine lv_aload_n hx hb dX11_hashOfMeans_22 rfl (lv_at hl 1 rfl) ?_
  refine gf (C := RX11) (T := TX11) (N := 9) (ci := 7) (v := .ref a_t_now) hF hG hP inX11 0 rfl rfl 0 (by decide) q204 rfl rfl dX11_hashOfMeans_23 ?_
  refine gfN (C := RX6) (T := TX6) (N := 10) (ci := 2) (v := .int t_now_shorter) hF hG hP inX6 1 rfl rfl 2 (by decide) n50 rfl rfl dX11_hashOfMeans_26 ?_
  obtain ⟨r_3, hq, hf⟩ := bd1_some hf
  refine rdSN (As := [.ref a_t_now, .int x3, .int t_now_shorter]) (rest := [.long r_2]) hF hG hP hl.1 (c_X4_byAdding l G a_t_now t_now_length t_now_shorter t_now_longer t_now_memory t_now_limit t_now_seasonDays t_now_stopped t_now_stopPart t_now_stopReason a_t_now_row t_now_row x3 t_now_shorter r_3 hq) k_X4_byAdding n451 [1, 2] rfl rfl rfl (Nat.le_of_ble_eq_true rfl) ⟨(Nat.le_of_ble_eq_true rfl), (Nat.le_of_ble_eq_true rfl)⟩ ⟨(Nat.zero_le _), (Nat.zero_le _)⟩ dX11_hashOfMeans_29 ?_
  refine lv_i2l (v := (Int32.toInt64 r_3)) hx hb dX11_hashOfMeans_32 rfl ?_
  obtain ⟨r_4, hq, hf⟩ := bd1_some hf
  refine rdS (As := [.long r_2, .long (Int32.toInt64 r_3)]) (rest := []) hF hG hP hl.1 (c_X11_mixed l G r_2 (Int32.toInt64 r_3) r_4 hq) k_X11_mixed q434 [] rfl rfl rfl (Nat.le_of_ble_eq_true rfl) ⟨(Nat.le_of_ble_eq_true rfl), (Nat.le_of_ble_eq_true rfl)⟩ ⟨(Nat.zero_le _), (Nat.zero_le _)⟩ dX11_hashOfMeans_33 ?_
  refine lv_lstore (lv' := [(4, .long r_4), (0, .ref a_t), (1, .long x1), (3, .int x3)]) hx hb dX11_hashOfMeans_36 hl (by decide) rfl (fun ls hl => ?_)
  refine lv_lload hx hb dX11_hashOfMeans_38 (lv_at hl 0 rfl) ?_
  refine lv_aload_n hx hb dX11_hashOfMeans_40 rfl (lv_at hl 1 rfl) ?_
  refine gf (C := RX11) (T := TX11) (N := 9) (ci := 7) (v := .ref a_t_now) hF hG hP inX11 0 rfl rfl 0 (by decide) q204 rfl rfl dX11_hashOfMeans_41 ?_
  refine lv_iload_n hx hb dX11_hashOfMeans_44 rfl (lv_at hl 3 rfl) ?_
  refine lv_aload_n hx hb dX11_hashOfMeans_45 rfl (lv_at hl 1 rfl) ?_
  refine gf (C := RX11) (T := TX11) (N := 9) (ci := 7) (v := .ref a_t_now) hF hG hP inX11 0 rfl rfl 0 (by decide) q204 rfl rfl dX11_hashOfMeans_46 ?_
  refine gfN (C := RX6) (T := TX6) (N := 10) (ci := 2) (v := .int t_now_shorter) hF hG hP inX6 1 rfl rfl 2 (by decide) n50 rfl rfl dX11_hashOfMeans_49 ?_
  obtain ⟨r_5, hq, hf⟩ := bd1_some hf
  refine rdSN (As := [.ref a_t_now, .int x3, .int t_now_shorter]) (rest := [.long r_4]) hF hG hP hl.1 (c_X4_bySums l G a_t_now t_now_length t_now_shorter t_now_longer t_now_memory t_now_limit t_now_seasonDays t_now_stopped t_now_stopPart t_now_stopReason a_t_now_row t_now_row x3 t_now_shorter r_5 hq) k_X4_bySums n452 [1, 2] rfl rfl rfl (Nat.le_of_ble_eq_true rfl) ⟨(Nat.le_of_ble_eq_true rfl), (Nat.le_of_ble_eq_true rfl)⟩ ⟨(Nat.zero_le _), (Nat.zero_le _)⟩ dX11_hashOfMeans_52 ?_
  refine lv_i2l (v := (Int32.toInt64 r_5)) hx hb dX11_hashOfMeans_55 rfl ?_
  obtain ⟨r_6, hq, hf⟩ := bd1_some hf
  refine rdS (As := [.long r_4, .long (Int32.toInt64 r_5)]) (rest := []) hF hG hP hl.1 (c_X11_mixed l G r_4 (Int32.toInt64 r_5) r_6 hq) k_X11_mixed q434 [] rfl rfl rfl (Nat.le_of_ble_eq_true rfl) ⟨(Nat.le_of_ble_eq_true rfl), (Nat.le_of_ble_eq_true rfl)⟩ ⟨(Nat.zero_le _), (Nat.zero_le _)⟩ dX11_hashOfMeans_56 ?_
  refine lv_lstore (lv' := [(4, .long r_6), (0, .ref a_t), (1, .long x1), (3, .int x3)]) hx hb dX11_hashOfMeans_59 hl (by decide) rfl (fun ls hl => ?_)
  refine lv_lload hx hb dX11_hashOfMeans_61 (lv_at hl 0 rfl) ?_
  refine lv_aload_n hx hb dX11_hashOfMeans_63 rfl (lv_at hl 1 rfl) ?_
  refine gf (C := RX11) (T := TX11) (N := 9) (ci := 7) (v := .ref a_t_now) hF hG hP inX11 0 rfl rfl 0 (by decide) q204 rfl rfl dX11_hashOfMeans_64 ?_
  refine lv_iload_n hx hb dX11_hashOfMeans_67 rfl (lv_at hl 3 rfl) ?_
  refine lv_aload_n hx hb dX11_hashOfMeans_68 rfl (lv_at hl 1 rfl) ?_
  refine gf (C := RX11) (T := TX11) (N := 9) (ci := 7) (v := .ref a_t_now) hF hG hP inX11 0 rfl rfl 0 (by decide) q204 rfl rfl dX11_hashOfMeans_69 ?_
  refine gfN (C := RX6) (T := TX6) (N := 10) (ci := 2) (v := .int t_now_longer) hF hG hP inX6 1 rfl rfl 3 (by decide) n57 rfl rfl dX11_hashOfMeans_72 ?_
  obtain ⟨r_7, hq, hf⟩ := bd1_some hf
  refine rdSN (As := [.ref a_t_now, .int x3, .int t_now_longer]) (rest := [.long r_6]) hF hG hP hl.1 (c_X4_byAdding l G a_t_now t_now_length t_now_shorter t_now_longer t_now_memory t_now_limit t_now_seasonDays t_now_stopped t_now_stopPart t_now_stopReason a_t_now_row t_now_row x3 t_now_longer r_7 hq) k_X4_byAdding n451 [1, 2] rfl rfl rfl (Nat.le_of_ble_eq_true rfl) ⟨(Nat.le_of_ble_eq_true rfl), (Nat.le_of_ble_eq_true rfl)⟩ ⟨(Nat.zero_le _), (Nat.zero_le _)⟩ dX11_hashOfMeans_75 ?_
  refine lv_i2l (v := (Int32.toInt64 r_7)) hx hb dX11_hashOfMeans_78 rfl ?_
  obtain ⟨r_8, hq, hf⟩ := bd1_some hf
  refine rdS (As := [.long r_6, .long (Int32.toInt64 r_7)]) (rest := []) hF hG hP hl.1 (c_X11_mixed l G r_6 (Int32.toInt64 r_7) r_8 hq) k_X11_mixed q434 [] rfl rfl rfl (Nat.le_of_ble_eq_true rfl) ⟨(Nat.le_of_ble_eq_true rfl), (Nat.le_of_ble_eq_true rfl)⟩ ⟨(Nat.zero_le _), (Nat.zero_le _)⟩ dX11_hashOfMeans_79 ?_
  refine lv_lstore (lv' := [(4, .long r_8), (0, .ref a_t), (1, .long x1), (3, .int x3)]) hx hb dX11_hashOfMeans_82 hl (by decide) rfl (fun ls hl => ?_)
  refine lv_lload hx hb dX11_hashOfMeans_84 (lv_at hl 0 rfl) ?_
  refine lv_aload_n hx hb dX11_hashOfMeans_86 rfl (lv_at hl 1 rfl) ?_
  refine gf (C := RX11) (T := TX11) (N := 9) (ci := 7) (v := .ref a_t_now) hF hG hP inX11 0 rfl rfl 0 (by decide) q204 rfl rfl dX11_hashOfMeans_87 ?_
  refine lv_iload_n hx hb dX11_hashOfMeans_90 rfl (lv_at hl 3 rfl) ?_
  obtain ⟨r_9, hq, hf⟩ := bd1_some hf
  refine rdSN (As := [.ref a_t_now, .int x3]) (rest := [.long r_8]) hF hG hP hl.1 (c_X4_weighted l G a_t_now t_now_length t_now_shorter t_now_longer t_now_memory t_now_limit t_now_seasonDays t_now_stopped t_now_stopPart t_now_stopReason a_t_now_row t_now_row x3 r_9 hq) k_X4_weighted n458 [1, 2] rfl rfl rfl (Nat.le_of_ble_eq_true rfl) ⟨(Nat.le_of_ble_eq_true rfl), (Nat.le_of_ble_eq_true rfl)⟩ ⟨(Nat.zero_le _), (Nat.zero_le _)⟩ dX11_hashOfMeans_91 ?_
  refine lv_i2l (v := (Int32.toInt64 r_9)) hx hb dX11_hashOfMeans_94 rfl ?_
  obtain ⟨r_10, hq, hf⟩ := bd1_some hf
  refine rdS (As := [.long r_8, .long (Int32.toInt64 r_9)]) (rest := []) hF hG hP hl.1 (c_X11_mixed l G r_8 (Int32.toInt64 r_9) r_10 hq) k_X11_mixed q434 [] rfl rfl rfl (Nat.le_of_ble_eq_true rfl) ⟨(Nat.le_of_ble_eq_true rfl), (Nat.le_of_ble_eq_true rfl)⟩ ⟨(Nat.zero_le _), (Nat.zero_le _)⟩ dX11_hashOfMeans_95 ?_
  refine lv_lstore (lv' := [(4, .long r_10), (0, .ref a_t), (1, .long x1), (3, .int x3)]) hx hb dX11_hashOfMeans_98 hl (by decide) rfl (fun ls hl => ?_)
  refine lv_lload hx hb dX11_hashOfMeans_100 (lv_at hl 0 rfl) ?_
  refine lv_aload_n hx hb dX11_hashOfMeans_102 rfl (lv_at hl 1 rfl) ?_
  refine gf (C := RX11) (T := TX11) (N := 9) (ci := 7) (v := .ref a_t_now) hF hG hP inX11 0 rfl rfl 0 (by decide) q204 rfl rfl dX11_hashOfMeans_103 ?_
  refine lv_iload_n hx hb dX11_hashOfMeans_106 rfl (lv_at hl 3 rfl) ?_
  obtain ⟨r_11, hq, hf⟩ := bd1_some hf
  refine rdSN (As := [.ref a_t_now, .int x3]) (rest := [.long r_10]) hF hG hP hl.1 (c_X4_smoothedForwards l G a_t_now t_now_length t_now_shorter t_now_longer t_now_memory t_now_limit t_now_seasonDays t_now_stopped t_now_stopPart t_now_stopReason a_t_now_row t_now_row x3 r_11 hq) k_X4_smoothedForwards n461 [1, 2] rfl rfl rfl (Nat.le_of_ble_eq_true rfl) ⟨(Nat.le_of_ble_eq_true rfl), (Nat.le_of_ble_eq_true rfl)⟩ ⟨(Nat.zero_le _), (Nat.zero_le _)⟩ dX11_hashOfMeans_107 ?_
  refine lv_i2l (v := (Int32.toInt64 r_11)) hx hb dX11_hashOfMeans_110 rfl ?_
  obtain ⟨r_12, hq, hf⟩ := bd1_some hf
  refine rdS (As := [.long r_10, .long (Int32.toInt64 r_11)]) (rest := []) hF hG hP hl.1 (c_X11_mixed l G r_10 (Int32.toInt64 r_11) r_12 hq) k_X11_mixed q434 [] rfl rfl rfl (Nat.le_of_ble_eq_true rfl) ⟨(Nat.le_of_ble_eq_true rfl), (Nat.le_of_ble_eq_true rfl)⟩ ⟨(Nat.zero_le _), (Nat.zero_le _)⟩ dX11_hashOfMeans_111 ?_
  refine lv_lstore (lv' := [(4, .long r_12), (0, .ref a_t), (1, .long x1), (3, .int x3)]) hx hb dX11_hashOfMeans_114 hl (by decide) rfl (fun ls hl => ?_)
  refine lv_lload hx hb dX11_hashOfMeans_116 (lv_at hl 0 rfl) ?_
  refine lv_aload_n hx hb dX11_hashOfMeans_118 rfl (lv_at hl 1 rfl) ?_
  refine gf (C := RX11) (T := TX11) (N := 9) (ci := 7) (v := .ref a_t_now) hF hG hP inX11 0 rfl rfl 0 (by decide) q204 rfl rfl dX11_hashOfMeans_119 ?_
  refine lv_iload_n hx hb dX11_hashOfMeans_122 rfl (lv_at hl 3 rfl) ?_
  refine lv_iconst (v := 0) hx hb dX11_hashOfMeans_123 (by decide) ?_
  obtain ⟨r_13, hq, hf⟩ := bd1_some hf
  refine rdSN (As := [.ref a_t_now, .int x3, .int 0]) (rest := [.long r_12]) hF hG hP hl.1 (c_X4_smoothedByRecursion l G a_t_now t_now_length t_now_shorter t_now_longer t_now_memory t_now_limit t_now_seasonDays t_now_stopped t_now_stopPart t_now_stopReason a_t_now_row t_now_row 70 x3 0 r_13 hq) k_X4_smoothedByRecursion n467 [1, 2] rfl rfl rfl (Nat.le_of_ble_eq_true rfl) ⟨(Nat.le_of_ble_eq_true rfl), (Nat.le_of_ble_eq_true rfl)⟩ ⟨(Nat.zero_le _), (Nat.zero_le _)⟩ dX11_hashOfMeans_124 ?_
  refine lv_i2l (v := (Int32.toInt64 r_13)) hx hb dX11_hashOfMeans_127 rfl ?_
  obtain ⟨r_14, hq, hf⟩ := bd1_some hf
  refine rdS (As := [.long r_12, .long (Int32.toInt64 r_13)]) (rest := []) hF hG hP hl.1 (c_X11_mixed l G r_12 (Int32.toInt64 r_13) r_14 hq) k_X11_mixed q434 [] rfl rfl rfl (Nat.le_of_ble_eq_true rfl) ⟨(Nat.le_of_ble_eq_true rfl), (Nat.le_of_ble_eq_true rfl)⟩ ⟨(Nat.zero_le _), (Nat.zero_le _)⟩ dX11_hashOfMeans_128 ?_
  have hf : (some r_14 : Option (Int64)) = some rr := hf
  cases hf
  exact re_l hF hr hlk dX11_hashOfMeans_131 rfl
def l_X2_byLooking_11 (p0_row : Nat → Int32) (x1 : Int32) : Nat → Int32 → Int32 → Option (Int32)
  | 0, _, _ => none
  | n + 1, i2_2, i3_3 => (if x1 < i3_3 then some i2_2 else bd1 (f_X6_at p0_row i3_3) (fun (r_5 : Int32) => l_X2_byLooking_11 p0_row x1 n (if i2_2 < r_5 then r_5 else i2_2) (i3_3 + 1)))
def f_X2_byLooking (p0_longer : Int32) (p0_row : Nat → Int32) (x1 : Int32) : Option (Int32) := bd1 (f_X4_firstOf x1 p0_longer) (fun (r_1 : Int32) => bd1 (l_X2_byLooking_11 p0_row x1 1000 0 r_1) (fun (o2_4 : Int32) => some o2_4))
theorem k_X2_byLooking : KS yX2_byLooking cX2_byLooking 4 (some .int) 2 := ⟨qc_yX2_byLooking, q7, ⟨by decide +kernel, by decide +kernel, by decide +kernel⟩, qt_yX2_byLooking⟩
abbrev RM_X2_byLooking : Room := { frames := 1, cells := 0, slots := 0, locals := 30 }
set_option maxHeartbeats 4000000 in
set_option maxRecDepth 100000 in
theorem c_X2_byLooking (l : Launch) (G : GP) (a_p0 : Nat) (p0_length : Int32) (p0_shorter : Int32) (p0_longer : Int32) (p0_memory : Int32) (p0_limit : Int32) (p0_seasonDays : Int32) (p0_stopped : Int32) (p0_stopPart : Int32) (p0_stopReason : Int32) (a_p0_row : Nat) (p0_row : Nat → Int32) (x1 : Int32) (rr : Int32) (hf : f_X2_byLooking p0_longer p0_row x1 = some rr) : RM l yX2_byLooking cX2_byLooking 4 (some .int) 1 30 G [.ref a_p0, .int x1] [(a_p0, .inr (2, [.ref a_p0_row, .int p0_length, .int p0_shorter, .int p0_longer, .int p0_memory, .int p0_limit, .int p0_seasonDays, .int p0_stopped, .int p0_stopPart, .int p0_stopReason])), (a_p0_row, .inl (G.2.1, 60, .inl p0_row))] (some (.int rr)) := by
  refine RM.ofW (C := RX2) (by decide) rfl (Nat.le_of_ble_eq_true rfl) ?_
  intro p e s m below meth c hF hr hlk hG hP ls hl
  have hl : lv_has ls 4 [(0, .ref a_p0), (1, .int x1)] := hl
  have hx := hF.1
  have hb := hF.2.1
  have hml := hF.2.2.1
  have hown := hF.2.2.2.1
  have hts := hF.2.2.2.2
  unfold f_X2_byLooking at hf
  refine lv_iconst (v := 0) hx hb dX2_byLooking_0 (by decide) ?_
  refine lv_istore_n (lv' := [(2, .int 0), (0, .ref a_p0), (1, .int x1)]) hx hb dX2_byLooking_1 rfl hl (by decide) rfl (fun ls hl => ?_)
  refine lv_iload_n hx hb dX2_byLooking_2 rfl (lv_at hl 2 rfl) ?_
  refine lv_aload_n hx hb dX2_byLooking_3 rfl (lv_at hl 1 rfl) ?_
  refine gfN (C := RX6) (T := TX6) (N := 10) (ci := 2) (v := .int p0_longer) hF hG hP inX6 0 rfl rfl 3 (by decide) n53 rfl rfl dX2_byLooking_4 ?_
  obtain ⟨r_1, hq, hf⟩ := bd1_some hf
  refine rdSN (As := [.int x1, .int p0_longer]) (rest := []) hF hG hP hl.1 (c_X4_firstOf l G x1 p0_longer r_1 hq) k_X4_firstOf n476 [] rfl rfl rfl (Nat.le_of_ble_eq_true rfl) ⟨(Nat.le_of_ble_eq_true rfl), (Nat.le_of_ble_eq_true rfl)⟩ ⟨(Nat.zero_le _), (Nat.zero_le _)⟩ dX2_byLooking_7 ?_
  refine lv_istore_n (lv' := [(3, .int r_1), (2, .int 0), (0, .ref a_p0), (1, .int x1)]) hx hb dX2_byLooking_10 rfl hl (by decide) rfl (fun ls hl => ?_)
  obtain ⟨o2_4, hq, hf⟩ := bd1_some hf
  have K11 : ∀ ls : Array Slot, lv_has ls 4 [(2, .int o2_4)] → W p l e RM_X2_byLooking s m [.ref a_p0, .int x1].toArray below meth c s.heap [] 0 0 (MQ below (rdQ (some (.int rr))) [.ref a_p0, .int x1].toArray s 0 0 (fun _ => False)) (F0 m 32 ls []) := by
    intro ls hl
    refine lv_iload_n hx hb dX2_byLooking_32 rfl (lv_at hl 0 rfl) ?_
    have hf : (some o2_4 : Option (Int32)) = some rr := hf
    cases hf
    exact re_i hF hr hlk dX2_byLooking_33 rfl
  clear hf
  have L11 : ∀ (n : Nat) (i2_2 : Int32) (i3_3 : Int32), l_X2_byLooking_11 p0_row x1 n i2_2 i3_3 = some o2_4 → ∀ ls : Array Slot, lv_has ls 4 [(0, .ref a_p0), (1, .int x1), (2, .int i2_2), (3, .int i3_3)] → W p l e RM_X2_byLooking s m [.ref a_p0, .int x1].toArray below meth c s.heap [] 0 0 (MQ below (rdQ (some (.int rr))) [.ref a_p0, .int x1].toArray s 0 0 (fun _ => False)) (F0 m 11 ls []) := by
    intro n
    induction n with
    | zero =>
      intro i2_2 i3_3 hf
      exact nomatch (show none = some o2_4 from hf)
    | succ n ih =>
      intro i2_2 i3_3 hf ls hl
      rw [l_X2_byLooking_11] at hf
      refine lv_iload_n hx hb dX2_byLooking_11 rfl (lv_at hl 3 rfl) ?_
      refine lv_iload_n hx hb dX2_byLooking_12 rfl (lv_at hl 1 rfl) ?_
      refine lv_icmp_gt (tgt := 32) hx hb dX2_byLooking_13 (by decide) (fun c0 => ?_) (fun c0 => ?_)
      · have hf := (if_pos c0).symm.trans hf
        have hf : (some i2_2 : Option (Int32)) = some o2_4 := hf
        cases hf
        exact K11 ls (lv_sub hl [2] rfl)
      · have hf := (if_neg c0).symm.trans hf
        refine lv_iload_n hx hb dX2_byLooking_16 rfl (lv_at hl 2 rfl) ?_
        refine lv_aload_n hx hb dX2_byLooking_17 rfl (lv_at hl 0 rfl) ?_
        refine lv_iload_n hx hb dX2_byLooking_18 rfl (lv_at hl 3 rfl) ?_
        obtain ⟨r_5, hq, hf⟩ := bd1_some hf
        refine rdVN (As := [.int i3_3]) (rest := [.int i2_2]) hF hG hP hl.1 (c_X6_at l G a_p0 p0_length p0_shorter p0_longer p0_memory p0_limit p0_seasonDays p0_stopped p0_stopPart p0_stopReason a_p0_row p0_row i3_3 r_5 hq) k_X6_at n399 [0, 1] rfl ⟨0, 2, _, _, rfl, rfl, rfl⟩ rfl rfl (Nat.le_of_ble_eq_true rfl) ⟨(Nat.le_of_ble_eq_true rfl), (Nat.le_of_ble_eq_true rfl)⟩ ⟨(Nat.zero_le _), (Nat.zero_le _)⟩ dX2_byLooking_19 ?_
        refine va_mmax hx hb (hml.trans hl.1.symm) hown (hts _ (List.mem_cons_of_mem _ q400)) (hts _ (List.mem_cons_of_mem _ qt_yJ9_max_7cf53)) (hts _ (List.mem_cons_of_mem _ q19)) (hts _ (List.mem_cons_of_mem _ qc_yJ9_max_7cf53)) (Nat.le_of_ble_eq_true rfl) (Nat.le_of_ble_eq_true rfl) (Nat.zero_le _) (Nat.zero_le _) dX2_byLooking_22 ?_
        refine lv_istore_n (lv' := [(2, .int (if i2_2 < r_5 then r_5 else i2_2)), (0, .ref a_p0), (1, .int x1), (3, .int i3_3)]) hx hb dX2_byLooking_25 rfl hl (by decide) rfl (fun ls hl => ?_)
        refine lv_iinc (v := (i3_3 + 1)) (lv' := [(3, .int (i3_3 + 1)), (2, .int (if i2_2 < r_5 then r_5 else i2_2)), (0, .ref a_p0), (1, .int x1)]) hx hb dX2_byLooking_26 hl (k := 3) rfl rfl (by decide) rfl (fun ls hl => ?_)
        refine lv_goto (tgt := 11) hx hb dX2_byLooking_29 (by decide) ?_
        exact ih (if i2_2 < r_5 then r_5 else i2_2) (i3_3 + 1) hf ls (lv_sub hl [2, 3, 1, 0] rfl)
  exact L11 1000 0 r_1 hq ls (lv_sub hl [2, 3, 1, 0] rfl)
