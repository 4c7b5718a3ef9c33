def l_X9_numberOfCrossings_4 (p0_length : Int32) (p0_shorter : Int32) (p0_longer : Int32) (p0_row : Nat → Int32) : Nat → Int32 → Int32 → Option (Int32)
  | 0, _, _ => none
  | n + 1, i1_1, i2_2 => (if p0_length ≤ i2_2 then some i1_1 else bd1 (f_X9_crossingAt p0_shorter p0_longer p0_row i2_2) (fun (r_4 : Int32) => (if r_4 = 0 then l_X9_numberOfCrossings_4 p0_length p0_shorter p0_longer p0_row n i1_1 (i2_2 + 1) else l_X9_numberOfCrossings_4 p0_length p0_shorter p0_longer p0_row n (i1_1 + 1) (i2_2 + 1))))
def f_X9_numberOfCrossings (p0_length : Int32) (p0_shorter : Int32) (p0_longer : Int32) (p0_row : Nat → Int32) : Option (Int32) := bd1 (l_X9_numberOfCrossings_4 p0_length p0_shorter p0_longer p0_row 1000 0 1) (fun (o1_3 : Int32) => some o1_3)
theorem k_X9_numberOfCrossings : KS yX9_numberOfCrossings cX9_numberOfCrossings 3 (some .int) 1 := ⟨qc_yX9_numberOfCrossings, q8, ⟨by decide +kernel, by decide +kernel, by decide +kernel⟩, qt_yX9_numberOfCrossings⟩
abbrev RM_X9_numberOfCrossings : Room := { frames := 4, cells := 0, slots := 0, locals := 94 }
set_option maxHeartbeats 4000000 in
set_option maxRecDepth 100000 in
theorem c_X9_numberOfCrossings (l : Launch) (G : GP) (a_p0 : Nat) (p0_length : Int32) (p0_shorter : Int32) (p0_longer : Int32) (p0_memory : Int32) (p0_limit : Int32) (p0_seasonDays : Int32) (p0_stopped : Int32) (p0_stopPart : Int32) (p0_stopReason : Int32) (a_p0_row : Nat) (p0_row : Nat → Int32) (rr : Int32) (hf : f_X9_numberOfCrossings p0_length p0_shorter p0_longer p0_row = some rr) : RM l yX9_numberOfCrossings cX9_numberOfCrossings 3 (some .int) 4 94 G [.ref a_p0] [(a_p0, .inr (2, [.ref a_p0_row, .int p0_length, .int p0_shorter, .int p0_longer, .int p0_memory, .int p0_limit, .int p0_seasonDays, .int p0_stopped, .int p0_stopPart, .int p0_stopReason])), (a_p0_row, .inl (G.2.1, 60, .inl p0_row))] (some (.int rr)) := by
  refine RM.ofW (C := RX9) (by decide) rfl (Nat.le_of_ble_eq_true rfl) ?_
  intro p e s m below meth c hF hr hlk hG hP ls hl
  have hl : lv_has ls 3 [(0, .ref a_p0)] := hl
  have hx := hF.1
  have hb := hF.2.1
  have hml := hF.2.2.1
  have hown := hF.2.2.2.1
  have hts := hF.2.2.2.2
  unfold f_X9_numberOfCrossings at hf
  refine lv_iconst (v := 0) hx hb dX9_numberOfCrossings_0 (by decide) ?_
  refine lv_istore_n (lv' := [(1, .int 0), (0, .ref a_p0)]) hx hb dX9_numberOfCrossings_1 rfl hl (by decide) rfl (fun ls hl => ?_)
  refine lv_iconst (v := 1) hx hb dX9_numberOfCrossings_2 (by decide) ?_
  refine lv_istore_n (lv' := [(2, .int 1), (1, .int 0), (0, .ref a_p0)]) hx hb dX9_numberOfCrossings_3 rfl hl (by decide) rfl (fun ls hl => ?_)
  obtain ⟨o1_3, hq, hf⟩ := bd1_some hf
  have K4 : ∀ ls : Array Slot, lv_has ls 3 [(1, .int o1_3)] → W p l e RM_X9_numberOfCrossings s m [.ref a_p0].toArray below meth c s.heap [] 0 0 (MQ below (rdQ (some (.int rr))) [.ref a_p0].toArray s 0 0 (fun _ => False)) (F0 m 29 ls []) := by
    intro ls hl
    refine lv_iload_n hx hb dX9_numberOfCrossings_29 rfl (lv_at hl 0 rfl) ?_
    have hf : (some o1_3 : Option (Int32)) = some rr := hf
    cases hf
    exact re_i hF hr hlk dX9_numberOfCrossings_30 rfl
  clear hf
  have L4 : ∀ (n : Nat) (i1_1 : Int32) (i2_2 : Int32), l_X9_numberOfCrossings_4 p0_length p0_shorter p0_longer p0_row n i1_1 i2_2 = some o1_3 → ∀ ls : Array Slot, lv_has ls 3 [(0, .ref a_p0), (1, .int i1_1), (2, .int i2_2)] → W p l e RM_X9_numberOfCrossings s m [.ref a_p0].toArray below meth c s.heap [] 0 0 (MQ below (rdQ (some (.int rr))) [.ref a_p0].toArray s 0 0 (fun _ => False)) (F0 m 4 ls []) := by
    intro n
    induction n with
    | zero =>
      intro i1_1 i2_2 hf
      exact nomatch (show none = some o1_3 from hf)
    | succ n ih =>
      intro i1_1 i2_2 hf ls hl
      rw [l_X9_numberOfCrossings_4] at hf
      refine lv_iload_n hx hb dX9_numberOfCrossings_4 rfl (lv_at hl 2 rfl) ?_
      refine lv_aload_n hx hb dX9_numberOfCrossings_5 rfl (lv_at hl 0 rfl) ?_
      refine gfN (C := RX6) (T := TX6) (N := 10) (ci := 2) (v := .int p0_length) hF hG hP inX6 0 rfl rfl 1 (by decide) n40 rfl rfl dX9_numberOfCrossings_6 ?_
      refine lv_icmp_ge (tgt := 29) hx hb dX9_numberOfCrossings_9 (by decide) (fun c0 => ?_) (fun c0 => ?_)
      · have hf := (if_pos c0).symm.trans hf
        have hf : (some i1_1 : Option (Int32)) = some o1_3 := hf
        cases hf
        exact K4 ls (lv_sub hl [1] rfl)
      · have hf := (if_neg c0).symm.trans hf
        refine lv_aload_n hx hb dX9_numberOfCrossings_12 rfl (lv_at hl 0 rfl) ?_
        refine lv_iload_n hx hb dX9_numberOfCrossings_13 rfl (lv_at hl 2 rfl) ?_
        obtain ⟨r_4, hq, hf⟩ := bd1_some hf
        refine rdS (As := [.ref a_p0, .int i2_2]) (rest := []) hF hG hP hl.1 (c_X9_crossingAt l G a_p0 p0_length p0_shorter p0_longer p0_memory p0_limit p0_seasonDays p0_stopped p0_stopPart p0_stopReason a_p0_row p0_row i2_2 r_4 hq) k_X9_crossingAt q630 [0, 1] rfl rfl rfl (Nat.le_of_ble_eq_true rfl) ⟨(Nat.le_of_ble_eq_true rfl), (Nat.le_of_ble_eq_true rfl)⟩ ⟨(Nat.zero_le _), (Nat.zero_le _)⟩ dX9_numberOfCrossings_14 ?_
        refine lv_if_eq (tgt := 23) hx hb dX9_numberOfCrossings_17 (by decide) (fun c0 => ?_) (fun c0 => ?_)
        · have hf := (if_pos c0).symm.trans hf
          refine lv_iinc (v := (i2_2 + 1)) (lv' := [(2, .int (i2_2 + 1)), (0, .ref a_p0), (1, .int i1_1)]) hx hb dX9_numberOfCrossings_23 hl (k := 2) rfl rfl (by decide) rfl (fun ls hl => ?_)
          refine lv_goto (tgt := 4) hx hb dX9_numberOfCrossings_26 (by decide) ?_
          exact ih i1_1 (i2_2 + 1) hf ls (lv_sub hl [1, 2, 0] rfl)
        · have hf := (if_neg c0).symm.trans hf
          refine lv_iinc (v := (i1_1 + 1)) (lv' := [(1, .int (i1_1 + 1)), (0, .ref a_p0), (2, .int i2_2)]) hx hb dX9_numberOfCrossings_20 hl (k := 1) rfl rfl (by decide) rfl (fun ls hl => ?_)
          refine lv_iinc (v := (i2_2 + 1)) (lv' := [(2, .int (i2_2 + 1)), (1, .int (i1_1 + 1)), (0, .ref a_p0)]) hx hb dX9_numberOfCrossings_23 hl (k := 2) rfl rfl (by decide) rfl (fun ls hl => ?_)
          refine lv_goto (tgt := 4) hx hb dX9_numberOfCrossings_26 (by decide) ?_
          exact ih (i1_1 + 1) (i2_2 + 1) hf ls (lv_sub hl [2, 1, 0] rfl)
  exact L4 1000 0 1 hq ls (lv_sub hl [2, 1, 0] rfl)
def f_X11_crossings (t_now_length : Int32) (t_now_shorter : Int32) (t_now_longer : Int32) (t_now_row : Nat → Int32) : Option (Int32) := bd1 (f_X9_numberOfCrossings t_now_length t_now_shorter t_now_longer t_now_row) (fun (r_1 : Int32) => some r_1)
theorem k_X11_crossings : KV yX11_crossings cX11_crossings 1 (some .int) 0 := ⟨qc_yX11_crossings, q1, ⟨by decide +kernel, by decide +kernel, by decide +kernel⟩, qi_yX11_crossings, qs_yX11_crossings⟩
abbrev RM_X11_crossings : Room := { frames := 5, cells := 0, slots := 0, locals := 116 }
set_option maxHeartbeats 4000000 in
set_option maxRecDepth 100000 in
theorem c_X11_crossings (l : Launch) (G : GP) (a_t : Nat) (a_t_trial : Nat) (a_t_snapshot : Nat) (t_snapshotTaken : Int32) (a_t_history : Nat) (a_t_text : Nat) (a_t_works : Nat) (a_t_highs : Nat) (a_t_trade : Nat) (a_t_now : Nat) (t_now_length : Int32) (t_now_shorter : Int32) (t_now_longer : Int32) (t_now_memory : Int32) (t_now_limit : Int32) (t_now_seasonDays : Int32) (t_now_stopped : Int32) (t_now_stopPart : Int32) (t_now_stopReason : Int32) (a_t_now_row : Nat) (t_now_row : Nat → Int32) (rr : Int32) (hf : f_X11_crossings t_now_length t_now_shorter t_now_longer t_now_row = some rr) : RM l yX11_crossings cX11_crossings 1 (some .int) 5 116 G [.ref a_t] [(a_t, .inr (7, [.ref a_t_now, .ref a_t_trial, .ref a_t_snapshot, .int t_snapshotTaken, .ref a_t_history, .ref a_t_text, .ref a_t_works, .ref a_t_highs, .ref a_t_trade])), (a_t_now, .inr (2, [.ref a_t_now_row, .int t_now_length, .int t_now_shorter, .int t_now_longer, .int t_now_memory, .int t_now_limit, .int t_now_seasonDays, .int t_now_stopped, .int t_now_stopPart, .int t_now_stopReason])), (a_t_now_row, .inl (G.2.1, 60, .inl t_now_row))] (some (.int rr)) := by
  refine RM.ofW (C := RX11) (by decide) rfl (Nat.le_of_ble_eq_true rfl) ?_
  intro p e s m below meth c hF hr hlk hG hP ls hl
  have hl : lv_has ls 1 [(0, .ref a_t)] := hl
  have hx := hF.1
  have hb := hF.2.1
  have hml := hF.2.2.1
  have hown := hF.2.2.2.1
  have hts := hF.2.2.2.2
  unfold f_X11_crossings at hf
  refine lv_aload_n hx hb dX11_crossings_0 rfl (lv_at hl 0 rfl) ?_
  refine gf (C := RX11) (T := TX11) (N := 9) (ci := 7) (v := .ref a_t_now) hF hG hP inX11 0 rfl rfl 0 (by decide) q190 rfl rfl dX11_crossings_1 ?_
  obtain ⟨r_1, hq, hf⟩ := bd1_some hf
  refine rdSN (As := [.ref a_t_now]) (rest := []) hF hG hP hl.1 (c_X9_numberOfCrossings l G a_t_now t_now_length t_now_shorter t_now_longer t_now_memory t_now_limit t_now_seasonDays t_now_stopped t_now_stopPart t_now_stopReason a_t_now_row t_now_row r_1 hq) k_X9_numberOfCrossings n694 [1, 2] rfl rfl rfl (Nat.le_of_ble_eq_true rfl) ⟨(Nat.le_of_ble_eq_true rfl), (Nat.le_of_ble_eq_true rfl)⟩ ⟨(Nat.zero_le _), (Nat.zero_le _)⟩ dX11_crossings_4 ?_
  have hf : (some r_1 : Option (Int32)) = some rr := hf
  cases hf
  exact re_i hF hr hlk dX11_crossings_7 rfl
