def f_X11_restore (t_snapshotTaken : Int32) (t_now_length : Int32) (t_now_shorter : Int32) (t_now_longer : Int32) (t_now_memory : Int32) (t_now_limit : Int32) (t_now_seasonDays : Int32) (t_now_stopped : Int32) (t_now_stopPart : Int32) (t_now_stopReason : Int32) (t_now_row : Nat → Int32) (t_snapshot_length : Int32) (t_snapshot_shorter : Int32) (t_snapshot_longer : Int32) (t_snapshot_memory : Int32) (t_snapshot_limit : Int32) (t_snapshot_seasonDays : Int32) (t_snapshot_stopped : Int32) (t_snapshot_stopPart : Int32) (t_snapshot_stopReason : Int32) (t_snapshot_row : Nat → Int32) (t_history_oldest : Int32) (t_history_count : Int32) (t_history_ring_row : Nat → (Nat → Int32)) (t_history_ring_length : Nat → Int32) (t_history_ring_shorter : Nat → Int32) (t_history_ring_longer : Nat → Int32) (t_history_ring_memory : Nat → Int32) (t_history_ring_limit : Nat → Int32) (t_history_ring_seasonDays : Nat → Int32) (t_history_ring_stopped : Nat → Int32) (t_history_ring_stopPart : Nat → Int32) (t_history_ring_stopReason : Nat → Int32) : Option (String × Int32 × Int32 × Int32 × Int32 × Int32 × Int32 × Int32 × Int32 × Int32 × Int32 × (Nat → Int32) × Int32 × Int32 × (Nat → (Nat → Int32)) × (Nat → Int32) × (Nat → Int32) × (Nat → Int32) × (Nat → Int32) × (Nat → Int32) × (Nat → Int32) × (Nat → Int32) × (Nat → Int32) × (Nat → Int32)) := (if t_snapshotTaken = 0 then some ("java/lang/IllegalStateException", 0, t_now_length, t_now_shorter, t_now_longer, t_now_memory, t_now_limit, t_now_seasonDays, t_now_stopped, t_now_stopPart, t_now_stopReason, t_now_row, t_history_oldest, t_history_count, t_history_ring_row, t_history_ring_length, t_history_ring_shorter, t_history_ring_longer, t_history_ring_memory, t_history_ring_limit, t_history_ring_seasonDays, t_history_ring_stopped, t_history_ring_stopPart, t_history_ring_stopReason) else bd12 (f_X3_save t_history_oldest t_history_count t_history_ring_row t_history_ring_length t_history_ring_shorter t_history_ring_longer t_history_ring_memory t_history_ring_limit t_history_ring_seasonDays t_history_ring_stopped t_history_ring_stopPart t_history_ring_stopReason t_now_length t_now_shorter t_now_longer t_now_memory t_now_limit t_now_seasonDays t_now_stopped t_now_stopPart t_now_stopReason t_now_row) (fun (t_history_oldest_1 : Int32) (t_history_count_2 : Int32) (t_history_ring_row_3 : Nat → (Nat → Int32)) (t_history_ring_length_4 : Nat → Int32) (t_history_ring_shorter_5 : Nat → Int32) (t_history_ring_longer_6 : Nat → Int32) (t_history_ring_memory_7 : Nat → Int32) (t_history_ring_limit_8 : Nat → Int32) (t_history_ring_seasonDays_9 : Nat → Int32) (t_history_ring_stopped_10 : Nat → Int32) (t_history_ring_stopPart_11 : Nat → Int32) (t_history_ring_stopReason_12 : Nat → Int32) => bd10 (f_X6_copyFrom t_now_length t_now_shorter t_now_longer t_now_memory t_now_limit t_now_seasonDays t_now_stopped t_now_stopPart t_now_stopReason t_now_row t_snapshot_length t_snapshot_shorter t_snapshot_longer t_snapshot_memory t_snapshot_limit t_snapshot_seasonDays t_snapshot_stopped t_snapshot_stopPart t_snapshot_stopReason t_snapshot_row) (fun (t_now_length_13 : Int32) (t_now_shorter_14 : Int32) (t_now_longer_15 : Int32) (t_now_memory_16 : Int32) (t_now_limit_17 : Int32) (t_now_seasonDays_18 : Int32) (t_now_stopped_19 : Int32) (t_now_stopPart_20 : Int32) (t_now_stopReason_21 : Int32) (t_now_row_22 : Nat → Int32) => some ("", t_now_length_13, t_now_length_13, t_now_shorter_14, t_now_longer_15, t_now_memory_16, t_now_limit_17, t_now_seasonDays_18, t_now_stopped_19, t_now_stopPart_20, t_now_stopReason_21, t_now_row_22, t_history_oldest_1, t_history_count_2, t_history_ring_row_3, t_history_ring_length_4, t_history_ring_shorter_5, t_history_ring_longer_6, t_history_ring_memory_7, t_history_ring_limit_8, t_history_ring_seasonDays_9, t_history_ring_stopped_10, t_history_ring_stopPart_11, t_history_ring_stopReason_12))))
theorem k_X11_restore : KV yX11_restore cX11_restore 1 (some .int) 0 := ⟨qc_yX11_restore, q1, ⟨by decide +kernel, by decide +kernel, by decide +kernel⟩, qi_yX11_restore, qs_yX11_restore⟩
abbrev mc_X11_restore : Nat := 1
abbrev ms_X11_restore : Nat := 6
abbrev RM_X11_restore : Room := { frames := 8, cells := 1, slots := 6, locals := 120 }
set_option maxHeartbeats 4000000 in
set_option maxRecDepth 100000 in
theorem c_X11_restore (l : Launch) (G : GP) (a_t : Nat) (a_t_trial : Nat) (t_snapshotTaken : Int32) (a_t_text : Nat) (a_t_works : Nat) (a_t_highs : Nat) (a_t_trade : Nat) (a_t_now : Nat) (t_now_length : Int32) (t_now_shorter : Int32) (t_now_longer : Int32) (t_now_memory : Int32) (t_now_limit : Int32) (t_now_seasonDays : Int32) (t_now_stopped : Int32) (t_now_stopPart : Int32) (t_now_stopReason : Int32) (a_t_now_row : Nat) (t_now_row : Nat → Int32) (a_t_snapshot : Nat) (t_snapshot_length : Int32) (t_snapshot_shorter : Int32) (t_snapshot_longer : Int32) (t_snapshot_memory : Int32) (t_snapshot_limit : Int32) (t_snapshot_seasonDays : Int32) (t_snapshot_stopped : Int32) (t_snapshot_stopPart : Int32) (t_snapshot_stopReason : Int32) (a_t_snapshot_row : Nat) (t_snapshot_row : Nat → Int32) (a_t_history : Nat) (t_history_oldest : Int32) (t_history_count : Int32) (a_t_history_ring : Nat) (a_t_history_ring_e : Nat → Nat) (a_t_history_ring_b : Nat → Nat) (t_history_ring_row : Nat → (Nat → Int32)) (t_history_ring_length : Nat → Int32) (t_history_ring_shorter : Nat → Int32) (t_history_ring_longer : Nat → Int32) (t_history_ring_memory : Nat → Int32) (t_history_ring_limit : Nat → Int32) (t_history_ring_seasonDays : Nat → Int32) (t_history_ring_stopped : Nat → Int32) (t_history_ring_stopPart : Nat → Int32) (t_history_ring_stopReason : Nat → Int32) (rE : String) (rr : Int32) (w_t_now_length : Int32) (w_t_now_shorter : Int32) (w_t_now_longer : Int32) (w_t_now_memory : Int32) (w_t_now_limit : Int32) (w_t_now_seasonDays : Int32) (w_t_now_stopped : Int32) (w_t_now_stopPart : Int32) (w_t_now_stopReason : Int32) (w_t_now_row : Nat → Int32) (w_t_history_oldest : Int32) (w_t_history_count : Int32) (w_t_history_ring_row : Nat → (Nat → Int32)) (w_t_history_ring_length : Nat → Int32) (w_t_history_ring_shorter : Nat → Int32) (w_t_history_ring_longer : Nat → Int32) (w_t_history_ring_memory : Nat → Int32) (w_t_history_ring_limit : Nat → Int32) (w_t_history_ring_seasonDays : Nat → Int32) (w_t_history_ring_stopped : Nat → Int32) (w_t_history_ring_stopPart : Nat → Int32) (w_t_history_ring_stopReason : Nat → Int32) (hf : f_X11_restore t_snapshotTaken t_now_length t_now_shorter t_now_longer t_now_memory t_now_limit t_now_seasonDays t_now_stopped t_now_stopPart t_now_stopReason t_now_row t_snapshot_length t_snapshot_shorter t_snapshot_longer t_snapshot_memory t_snapshot_limit t_snapshot_seasonDays t_snapshot_stopped t_snapshot_stopPart t_snapshot_stopReason t_snapshot_row t_history_oldest t_history_count t_history_ring_row t_history_ring_length t_history_ring_shorter t_history_ring_longer t_history_ring_memory t_history_ring_limit t_history_ring_seasonDays t_history_ring_stopped t_history_ring_stopPart t_history_ring_stopReason = some (rE, rr, w_t_now_length, w_t_now_shorter, w_t_now_longer, w_t_now_memory, w_t_now_limit, w_t_now_seasonDays, w_t_now_stopped, w_t_now_stopPart, w_t_now_stopReason, w_t_now_row, w_t_history_oldest, w_t_history_count, w_t_history_ring_row, w_t_history_ring_length, w_t_history_ring_shorter, w_t_history_ring_longer, w_t_history_ring_memory, w_t_history_ring_limit, w_t_history_ring_seasonDays, w_t_history_ring_stopped, w_t_history_ring_stopPart, w_t_history_ring_stopReason)) (hst : l.stackTraces = false) : XM l yX11_restore cX11_restore 1 (some .int) 8 120 1 6 G [.ref a_t] [(a_t, .inr (7, [.ref a_t_now, .ref a_t_trial, .ref a_t_snapshot, .int t_snapshotTaken, .ref a_t_history, .ref a_t_text, .ref a_t_works, .ref a_t_highs, .ref a_t_trade])), (a_t_now, .inr (2, [.ref a_t_now_row, .int t_now_length, .int t_now_shorter, .int t_now_longer, .int t_now_memory, .int t_now_limit, .int t_now_seasonDays, .int t_now_stopped, .int t_now_stopPart, .int t_now_stopReason])), (a_t_now_row, .inl (G.2.1, 60, .inl t_now_row)), (a_t_snapshot, .inr (2, [.ref a_t_snapshot_row, .int t_snapshot_length, .int t_snapshot_shorter, .int t_snapshot_longer, .int t_snapshot_memory, .int t_snapshot_limit, .int t_snapshot_seasonDays, .int t_snapshot_stopped, .int t_snapshot_stopPart, .int t_snapshot_stopReason])), (a_t_snapshot_row, .inl (G.2.1, 60, .inl t_snapshot_row)), (a_t_history, .inr (1, [.ref a_t_history_ring, .int t_history_oldest, .int t_history_count])), (a_t_history_ring, .inl (G.2.2.2, 6, .inr (.inr (.inr (.inr (fun j => some (a_t_history_ring_e j))))))), ((a_t_history_ring_e 0), .inr (2, [.ref (a_t_history_ring_b 0), .int (t_history_ring_length 0), .int (t_history_ring_shorter 0), .int (t_history_ring_longer 0), .int (t_history_ring_memory 0), .int (t_history_ring_limit 0), .int (t_history_ring_seasonDays 0), .int (t_history_ring_stopped 0), .int (t_history_ring_stopPart 0), .int (t_history_ring_stopReason 0)])), ((a_t_history_ring_b 0), .inl (G.2.1, 60, .inl (t_history_ring_row 0))), ((a_t_history_ring_e 1), .inr (2, [.ref (a_t_history_ring_b 1), .int (t_history_ring_length 1), .int (t_history_ring_shorter 1), .int (t_history_ring_longer 1), .int (t_history_ring_memory 1), .int (t_history_ring_limit 1), .int (t_history_ring_seasonDays 1), .int (t_history_ring_stopped 1), .int (t_history_ring_stopPart 1), .int (t_history_ring_stopReason 1)])), ((a_t_history_ring_b 1), .inl (G.2.1, 60, .inl (t_history_ring_row 1))), ((a_t_history_ring_e 2), .inr (2, [.ref (a_t_history_ring_b 2), .int (t_history_ring_length 2), .int (t_history_ring_shorter 2), .int (t_history_ring_longer 2), .int (t_history_ring_memory 2), .int (t_history_ring_limit 2), .int (t_history_ring_seasonDays 2), .int (t_history_ring_stopped 2), .int (t_history_ring_stopPart 2), .int (t_history_ring_stopReason 2)])), ((a_t_history_ring_b 2), .inl (G.2.1, 60, .inl (t_history_ring_row 2))), ((a_t_history_ring_e 3), .inr (2, [.ref (a_t_history_ring_b 3), .int (t_history_ring_length 3), .int (t_history_ring_shorter 3), .int (t_history_ring_longer 3), .int (t_history_ring_memory 3), .int (t_history_ring_limit 3), .int (t_history_ring_seasonDays 3), .int (t_history_ring_stopped 3), .int (t_history_ring_stopPart 3), .int (t_history_ring_stopReason 3)])), ((a_t_history_ring_b 3), .inl (G.2.1, 60, .inl (t_history_ring_row 3))), ((a_t_history_ring_e 4), .inr (2, [.ref (a_t_history_ring_b 4), .int (t_history_ring_length 4), .int (t_history_ring_shorter 4), .int (t_history_ring_longer 4), .int (t_history_ring_memory 4), .int (t_history_ring_limit 4), .int (t_history_ring_seasonDays 4), .int (t_history_ring_stopped 4), .int (t_history_ring_stopPart 4), .int (t_history_ring_stopReason 4)])), ((a_t_history_ring_b 4), .inl (G.2.1, 60, .inl (t_history_ring_row 4))), ((a_t_history_ring_e 5), .inr (2, [.ref (a_t_history_ring_b 5), .int (t_history_ring_length 5), .int (t_history_ring_shorter 5), .int (t_history_ring_longer 5), .int (t_history_ring_memory 5), .int (t_history_ring_limit 5), .int (t_history_ring_seasonDays 5), .int (t_history_ring_stopped 5), .int (t_history_ring_stopPart 5), .int (t_history_ring_stopReason 5)])), ((a_t_history_ring_b 5), .inl (G.2.1, 60, .inl (t_history_ring_row 5)))] rE (some (.int rr)) [(a_t, .inr (7, [.ref a_t_now, .ref a_t_trial, .ref a_t_snapshot, .int t_snapshotTaken, .ref a_t_history, .ref a_t_text, .ref a_t_works, .ref a_t_highs, .ref a_t_trade])), (a_t_now, .inr (2, [.ref a_t_now_row, .int w_t_now_length, .int w_t_now_shorter, .int w_t_now_longer, .int w_t_now_memory, .int w_t_now_limit, .int w_t_now_seasonDays, .int w_t_now_stopped, .int w_t_now_stopPart, .int w_t_now_stopReason])), (a_t_now_row, .inl (G.2.1, 60, .inl w_t_now_row)), (a_t_snapshot, .inr (2, [.ref a_t_snapshot_row, .int t_snapshot_length, .int t_snapshot_shorter, .int t_snapshot_longer, .int t_snapshot_memory, .int t_snapshot_limit, .int t_snapshot_seasonDays, .int t_snapshot_stopped, .int t_snapshot_stopPart, .int t_snapshot_stopReason])), (a_t_snapshot_row, .inl (G.2.1, 60, .inl t_snapshot_row)), (a_t_history, .inr (1, [.ref a_t_history_ring, .int w_t_history_oldest, .int w_t_history_count])), (a_t_history_ring, .inl (G.2.2.2, 6, .inr (.inr (.inr (.inr (fun j => some (a_t_history_ring_e j))))))), ((a_t_history_ring_e 0), .inr (2, [.ref (a_t_history_ring_b 0), .int (w_t_history_ring_length 0), .int (w_t_history_ring_shorter 0), .int (w_t_history_ring_longer 0), .int (w_t_history_ring_memory 0), .int (w_t_history_ring_limit 0), .int (w_t_history_ring_seasonDays 0), .int (w_t_history_ring_stopped 0), .int (w_t_history_ring_stopPart 0), .int (w_t_history_ring_stopReason 0)])), ((a_t_history_ring_b 0), .inl (G.2.1, 60, .inl (w_t_history_ring_row 0))), ((a_t_history_ring_e 1), .inr (2, [.ref (a_t_history_ring_b 1), .int (w_t_history_ring_length 1), .int (w_t_history_ring_shorter 1), .int (w_t_history_ring_longer 1), .int (w_t_history_ring_memory 1), .int (w_t_history_ring_limit 1), .int (w_t_history_ring_seasonDays 1), .int (w_t_history_ring_stopped 1), .int (w_t_history_ring_stopPart 1), .int (w_t_history_ring_stopReason 1)])), ((a_t_history_ring_b 1), .inl (G.2.1, 60, .inl (w_t_history_ring_row 1))), ((a_t_history_ring_e 2), .inr (2, [.ref (a_t_history_ring_b 2), .int (w_t_history_ring_length 2), .int (w_t_history_ring_shorter 2), .int (w_t_history_ring_longer 2), .int (w_t_history_ring_memory 2), .int (w_t_history_ring_limit 2), .int (w_t_history_ring_seasonDays 2), .int (w_t_history_ring_stopped 2), .int (w_t_history_ring_stopPart 2), .int (w_t_history_ring_stopReason 2)])), ((a_t_history_ring_b 2), .inl (G.2.1, 60, .inl (w_t_history_ring_row 2))), ((a_t_history_ring_e 3), .inr (2, [.ref (a_t_history_ring_b 3), .int (w_t_history_ring_length 3), .int (w_t_history_ring_shorter 3), .int (w_t_history_ring_longer 3), .int (w_t_history_ring_memory 3), .int (w_t_history_ring_limit 3), .int (w_t_history_ring_seasonDays 3), .int (w_t_history_ring_stopped 3), .int (w_t_history_ring_stopPart 3), .int (w_t_history_ring_stopReason 3)])), ((a_t_history_ring_b 3), .inl (G.2.1, 60, .inl (w_t_history_ring_row 3))), ((a_t_history_ring_e 4), .inr (2, [.ref (a_t_history_ring_b 4), .int (w_t_history_ring_length 4), .int (w_t_history_ring_shorter 4), .int (w_t_history_ring_longer 4), .int (w_t_history_ring_memory 4), .int (w_t_history_ring_limit 4), .int (w_t_history_ring_seasonDays 4), .int (w_t_history_ring_stopped 4), .int (w_t_history_ring_stopPart 4), .int (w_t_history_ring_stopReason 4)])), ((a_t_history_ring_b 4), .inl (G.2.1, 60, .inl (w_t_history_ring_row 4))), ((a_t_history_ring_e 5), .inr (2, [.ref (a_t_history_ring_b 5), .int (w_t_history_ring_length 5), .int (w_t_history_ring_shorter 5), .int (w_t_history_ring_longer 5), .int (w_t_history_ring_memory 5), .int (w_t_history_ring_limit 5), .int (w_t_history_ring_seasonDays 5), .int (w_t_history_ring_stopped 5), .int (w_t_history_ring_stopPart 5), .int (w_t_history_ring_stopReason 5)])), ((a_t_history_ring_b 5), .inl (G.2.1, 60, .inl (w_t_history_ring_row 5)))] := by
  refine XM.ofW (C := RX11) (by decide) rfl (Nat.le_of_ble_eq_true rfl) ?_
  intro p e s m below meth c A hF hr hlk hG hA hP hD hZ hout ls hl
  have hl : lv_has ls 1 [(0, .ref a_t)] := hl
  have hx := hF.1
  have hb := hF.2.1
  have hml := hF.2.2.1
  have hown := hF.2.2.2.1
  have hts := hF.2.2.2.2
  have hS : va_S A s.heap s.heap [] := va_S.rf
  unfold f_X11_restore at hf
  refine lv_aload_n hx hb dX11_restore_0 rfl (lv_at hl 0 rfl) ?_
  refine gf (C := RX11) (T := TX11) (N := 9) (ci := 7) (v := .int t_snapshotTaken) hF hG hP inX11 0 rfl rfl 3 (by decide) q207 rfl rfl dX11_restore_1 ?_
  refine lv_if_ne (tgt := 17) hx hb dX11_restore_4 (by decide) (fun c0 => ?_) (fun c0 => ?_)
  · have hf := (if_neg c0).symm.trans hf
    refine lv_aload_n hx hb dX11_restore_17 rfl (lv_at hl 0 rfl) ?_
    refine gf (C := RX11) (T := TX11) (N := 9) (ci := 7) (v := .ref a_t_history) hF hG hP inX11 0 rfl rfl 4 (by decide) q208 rfl rfl dX11_restore_18 ?_
    refine lv_aload_n hx hb dX11_restore_21 rfl (lv_at hl 0 rfl) ?_
    refine gf (C := RX11) (T := TX11) (N := 9) (ci := 7) (v := .ref a_t_now) hF hG hP inX11 0 rfl rfl 0 (by decide) q204 rfl rfl dX11_restore_22 ?_
    obtain ⟨t_history_oldest_1, t_history_count_2, t_history_ring_row_3, t_history_ring_length_4, t_history_ring_shorter_5, t_history_ring_longer_6, t_history_ring_memory_7, t_history_ring_limit_8, t_history_ring_seasonDays_9, t_history_ring_stopped_10, t_history_ring_stopPart_11, t_history_ring_stopReason_12, hq, hf⟩ := bd12_some hf
    refine wrVN (As := [.ref a_t_now]) (rest := []) (wn := [(a_t, .inr (7, [.ref a_t_now, .ref a_t_trial, .ref a_t_snapshot, .int t_snapshotTaken, .ref a_t_history, .ref a_t_text, .ref a_t_works, .ref a_t_highs, .ref a_t_trade])), (a_t_now, .inr (2, [.ref a_t_now_row, .int t_now_length, .int t_now_shorter, .int t_now_longer, .int t_now_memory, .int t_now_limit, .int t_now_seasonDays, .int t_now_stopped, .int t_now_stopPart, .int t_now_stopReason])), (a_t_now_row, .inl (G.2.1, 60, .inl t_now_row)), (a_t_snapshot, .inr (2, [.ref a_t_snapshot_row, .int t_snapshot_length, .int t_snapshot_shorter, .int t_snapshot_longer, .int t_snapshot_memory, .int t_snapshot_limit, .int t_snapshot_seasonDays, .int t_snapshot_stopped, .int t_snapshot_stopPart, .int t_snapshot_stopReason])), (a_t_snapshot_row, .inl (G.2.1, 60, .inl t_snapshot_row)), (a_t_history, .inr (1, [.ref a_t_history_ring, .int t_history_oldest_1, .int t_history_count_2])), (a_t_history_ring, .inl (G.2.2.2, 6, .inr (.inr (.inr (.inr (fun j => some (a_t_history_ring_e j))))))), ((a_t_history_ring_e 0), .inr (2, [.ref (a_t_history_ring_b 0), .int (t_history_ring_length_4 0), .int (t_history_ring_shorter_5 0), .int (t_history_ring_longer_6 0), .int (t_history_ring_memory_7 0), .int (t_history_ring_limit_8 0), .int (t_history_ring_seasonDays_9 0), .int (t_history_ring_stopped_10 0), .int (t_history_ring_stopPart_11 0), .int (t_history_ring_stopReason_12 0)])), ((a_t_history_ring_b 0), .inl (G.2.1, 60, .inl (t_history_ring_row_3 0))), ((a_t_history_ring_e 1), .inr (2, [.ref (a_t_history_ring_b 1), .int (t_history_ring_length_4 1), .int (t_history_ring_shorter_5 1), .int (t_history_ring_longer_6 1), .int (t_history_ring_memory_7 1), .int (t_history_ring_limit_8 1), .int (t_history_ring_seasonDays_9 1), .int (t_history_ring_stopped_10 1), .int (t_history_ring_stopPart_11 1), .int (t_history_ring_stopReason_12 1)])), ((a_t_history_ring_b 1), .inl (G.2.1, 60, .inl (t_history_ring_row_3 1))), ((a_t_history_ring_e 2), .inr (2, [.ref (a_t_history_ring_b 2), .int (t_history_ring_length_4 2), .int (t_history_ring_shorter_5 2), .int (t_history_ring_longer_6 2), .int (t_history_ring_memory_7 2), .int (t_history_ring_limit_8 2), .int (t_history_ring_seasonDays_9 2), .int (t_history_ring_stopped_10 2), .int (t_history_ring_stopPart_11 2), .int (t_history_ring_stopReason_12 2)])), ((a_t_history_ring_b 2), .inl (G.2.1, 60, .inl (t_history_ring_row_3 2))), ((a_t_history_ring_e 3), .inr (2, [.ref (a_t_history_ring_b 3), .int (t_history_ring_length_4 3), .int (t_history_ring_shorter_5 3), .int (t_history_ring_longer_6 3), .int (t_history_ring_memory_7 3), .int (t_history_ring_limit_8 3), .int (t_history_ring_seasonDays_9 3), .int (t_history_ring_stopped_10 3), .int (t_history_ring_stopPart_11 3), .int (t_history_ring_stopReason_12 3)])), ((a_t_history_ring_b 3), .inl (G.2.1, 60, .inl (t_history_ring_row_3 3))), ((a_t_history_ring_e 4), .inr (2, [.ref (a_t_history_ring_b 4), .int (t_history_ring_length_4 4), .int (t_history_ring_shorter_5 4), .int (t_history_ring_longer_6 4), .int (t_history_ring_memory_7 4), .int (t_history_ring_limit_8 4), .int (t_history_ring_seasonDays_9 4), .int (t_history_ring_stopped_10 4), .int (t_history_ring_stopPart_11 4), .int (t_history_ring_stopReason_12 4)])), ((a_t_history_ring_b 4), .inl (G.2.1, 60, .inl (t_history_ring_row_3 4))), ((a_t_history_ring_e 5), .inr (2, [.ref (a_t_history_ring_b 5), .int (t_history_ring_length_4 5), .int (t_history_ring_shorter_5 5), .int (t_history_ring_longer_6 5), .int (t_history_ring_memory_7 5), .int (t_history_ring_limit_8 5), .int (t_history_ring_seasonDays_9 5), .int (t_history_ring_stopped_10 5), .int (t_history_ring_stopPart_11 5), .int (t_history_ring_stopReason_12 5)])), ((a_t_history_ring_b 5), .inl (G.2.1, 60, .inl (t_history_ring_row_3 5)))]) hF hG hP hD hS hA hl.1 (c_X3_save l G a_t_history t_history_oldest t_history_count a_t_history_ring a_t_history_ring_e a_t_history_ring_b t_history_ring_row t_history_ring_length t_history_ring_shorter t_history_ring_longer t_history_ring_memory t_history_ring_limit t_history_ring_seasonDays t_history_ring_stopped t_history_ring_stopPart t_history_ring_stopReason a_t_now t_now_length t_now_shorter t_now_longer t_now_memory t_now_limit t_now_seasonDays t_now_stopped t_now_stopPart t_now_stopReason a_t_now_row t_now_row t_history_oldest_1 t_history_count_2 t_history_ring_row_3 t_history_ring_length_4 t_history_ring_shorter_5 t_history_ring_longer_6 t_history_ring_memory_7 t_history_ring_limit_8 t_history_ring_seasonDays_9 t_history_ring_stopped_10 t_history_ring_stopPart_11 t_history_ring_stopReason_12 hq) k_X3_save n236 [5, 6, 7, 8, 9, 10, 11, 12, 13, 14, 15, 16, 17, 18, 1, 2] [0, 3, 4] [0, 17, 18, 1, 2, 3, 4, 5, 6, 7, 8, 9, 10, 11, 12, 13, 14, 15, 16] rfl rfl rfl rfl ⟨rfl, rfl⟩ (by decide) ⟨5, 1, _, _, rfl, rfl, rfl⟩ rfl rfl (Nat.le_of_ble_eq_true rfl) ⟨(Nat.le_of_ble_eq_true rfl), (Nat.le_of_ble_eq_true rfl)⟩ ⟨(Nat.le_of_ble_eq_true rfl), (Nat.le_of_ble_eq_true rfl)⟩ dX11_restore_25 (fun H locs hP hD hS => ?_)
    refine lv_aload_n hx hb dX11_restore_28 rfl (lv_at hl 0 rfl) ?_
    refine gf (C := RX11) (T := TX11) (N := 9) (ci := 7) (v := .ref a_t_now) hF hG hP inX11 0 rfl rfl 0 (by decide) q204 rfl rfl dX11_restore_29 ?_
    refine lv_aload_n hx hb dX11_restore_32 rfl (lv_at hl 0 rfl) ?_
    refine gf (C := RX11) (T := TX11) (N := 9) (ci := 7) (v := .ref a_t_snapshot) hF hG hP inX11 0 rfl rfl 2 (by decide) q206 rfl rfl dX11_restore_33 ?_
    obtain ⟨t_now_length_13, t_now_shorter_14, t_now_longer_15, t_now_memory_16, t_now_limit_17, t_now_seasonDays_18, t_now_stopped_19, t_now_stopPart_20, t_now_stopReason_21, t_now_row_22, hq, hf⟩ := bd10_some hf
    refine wrVN (As := [.ref a_t_snapshot]) (rest := []) (wn := [(a_t, .inr (7, [.ref a_t_now, .ref a_t_trial, .ref a_t_snapshot, .int t_snapshotTaken, .ref a_t_history, .ref a_t_text, .ref a_t_works, .ref a_t_highs, .ref a_t_trade])), (a_t_now, .inr (2, [.ref a_t_now_row, .int t_now_length_13, .int t_now_shorter_14, .int t_now_longer_15, .int t_now_memory_16, .int t_now_limit_17, .int t_now_seasonDays_18, .int t_now_stopped_19, .int t_now_stopPart_20, .int t_now_stopReason_21])), (a_t_now_row, .inl (G.2.1, 60, .inl t_now_row_22)), (a_t_snapshot, .inr (2, [.ref a_t_snapshot_row, .int t_snapshot_length, .int t_snapshot_shorter, .int t_snapshot_longer, .int t_snapshot_memory, .int t_snapshot_limit, .int t_snapshot_seasonDays, .int t_snapshot_stopped, .int t_snapshot_stopPart, .int t_snapshot_stopReason])), (a_t_snapshot_row, .inl (G.2.1, 60, .inl t_snapshot_row)), (a_t_history, .inr (1, [.ref a_t_history_ring, .int t_history_oldest_1, .int t_history_count_2])), (a_t_history_ring, .inl (G.2.2.2, 6, .inr (.inr (.inr (.inr (fun j => some (a_t_history_ring_e j))))))), ((a_t_history_ring_e 0), .inr (2, [.ref (a_t_history_ring_b 0), .int (t_history_ring_length_4 0), .int (t_history_ring_shorter_5 0), .int (t_history_ring_longer_6 0), .int (t_history_ring_memory_7 0), .int (t_history_ring_limit_8 0), .int (t_history_ring_seasonDays_9 0), .int (t_history_ring_stopped_10 0), .int (t_history_ring_stopPart_11 0), .int (t_history_ring_stopReason_12 0)])), ((a_t_history_ring_b 0), .inl (G.2.1, 60, .inl (t_history_ring_row_3 0))), ((a_t_history_ring_e 1), .inr (2, [.ref (a_t_history_ring_b 1), .int (t_history_ring_length_4 1), .int (t_history_ring_shorter_5 1), .int (t_history_ring_longer_6 1), .int (t_history_ring_memory_7 1), .int (t_history_ring_limit_8 1), .int (t_history_ring_seasonDays_9 1), .int (t_history_ring_stopped_10 1), .int (t_history_ring_stopPart_11 1), .int (t_history_ring_stopReason_12 1)])), ((a_t_history_ring_b 1), .inl (G.2.1, 60, .inl (t_history_ring_row_3 1))), ((a_t_history_ring_e 2), .inr (2, [.ref (a_t_history_ring_b 2), .int (t_history_ring_length_4 2), .int (t_history_ring_shorter_5 2), .int (t_history_ring_longer_6 2), .int (t_history_ring_memory_7 2), .int (t_history_ring_limit_8 2), .int (t_history_ring_seasonDays_9 2), .int (t_history_ring_stopped_10 2), .int (t_history_ring_stopPart_11 2), .int (t_history_ring_stopReason_12 2)])), ((a_t_history_ring_b 2), .inl (G.2.1, 60, .inl (t_history_ring_row_3 2))), ((a_t_history_ring_e 3), .inr (2, [.ref (a_t_history_ring_b 3), .int (t_history_ring_length_4 3), .int (t_history_ring_shorter_5 3), .int (t_history_ring_longer_6 3), .int (t_history_ring_memory_7 3), .int (t_history_ring_limit_8 3), .int (t_history_ring_seasonDays_9 3), .int (t_history_ring_stopped_10 3), .int (t_history_ring_stopPart_11 3), .int (t_history_ring_stopReason_12 3)])), ((a_t_history_ring_b 3), .inl (G.2.1, 60, .inl (t_history_ring_row_3 3))), ((a_t_history_ring_e 4), .inr (2, [.ref (a_t_history_ring_b 4), .int (t_history_ring_length_4 4), .int (t_history_ring_shorter_5 4), .int (t_history_ring_longer_6 4), .int (t_history_ring_memory_7 4), .int (t_history_ring_limit_8 4), .int (t_history_ring_seasonDays_9 4), .int (t_history_ring_stopped_10 4), .int (t_history_ring_stopPart_11 4), .int (t_history_ring_stopReason_12 4)])), ((a_t_history_ring_b 4), .inl (G.2.1, 60, .inl (t_history_ring_row_3 4))), ((a_t_history_ring_e 5), .inr (2, [.ref (a_t_history_ring_b 5), .int (t_history_ring_length_4 5), .int (t_history_ring_shorter_5 5), .int (t_history_ring_longer_6 5), .int (t_history_ring_memory_7 5), .int (t_history_ring_limit_8 5), .int (t_history_ring_seasonDays_9 5), .int (t_history_ring_stopped_10 5), .int (t_history_ring_stopPart_11 5), .int (t_history_ring_stopReason_12 5)])), ((a_t_history_ring_b 5), .inl (G.2.1, 60, .inl (t_history_ring_row_3 5)))]) hF hG hP hD hS hA hl.1 (c_X6_copyFrom l G a_t_now t_now_length t_now_shorter t_now_longer t_now_memory t_now_limit t_now_seasonDays t_now_stopped t_now_stopPart t_now_stopReason a_t_now_row t_now_row a_t_snapshot t_snapshot_length t_snapshot_shorter t_snapshot_longer t_snapshot_memory t_snapshot_limit t_snapshot_seasonDays t_snapshot_stopped t_snapshot_stopPart t_snapshot_stopReason a_t_snapshot_row t_snapshot_row t_now_length_13 t_now_shorter_14 t_now_longer_15 t_now_memory_16 t_now_limit_17 t_now_seasonDays_18 t_now_stopped_19 t_now_stopPart_20 t_now_stopReason_21 t_now_row_22 hq) k_X6_copyFrom n346 [1, 2, 3, 4] [0, 5, 6, 7, 8, 9, 10, 11, 12, 13, 14, 15, 16, 17, 18] [0, 15, 16, 17, 18, 1, 2, 3, 4, 5, 6, 7, 8, 9, 10, 11, 12, 13, 14] rfl rfl rfl rfl ⟨rfl, rfl⟩ (by decide) ⟨1, 2, _, _, rfl, rfl, rfl⟩ rfl rfl (Nat.le_of_ble_eq_true rfl) ⟨(Nat.le_of_ble_eq_true rfl), (Nat.le_of_ble_eq_true rfl)⟩ ⟨(Nat.le_of_ble_eq_true rfl), (Nat.le_of_ble_eq_true rfl)⟩ dX11_restore_36 (fun H locs hP hD hS => ?_)
    refine lv_aload_n hx hb dX11_restore_39 rfl (lv_at hl 0 rfl) ?_
    refine gf (C := RX11) (T := TX11) (N := 9) (ci := 7) (v := .ref a_t_now) hF hG hP inX11 0 rfl rfl 0 (by decide) q204 rfl rfl dX11_restore_40 ?_
    refine gfN (C := RX6) (T := TX6) (N := 10) (ci := 2) (v := .int t_now_length_13) hF hG hP inX6 1 rfl rfl 1 (by decide) n39 rfl rfl dX11_restore_43 ?_
    have hf : (some ("", t_now_length_13, t_now_length_13, t_now_shorter_14, t_now_longer_15, t_now_memory_16, t_now_limit_17, t_now_seasonDays_18, t_now_stopped_19, t_now_stopPart_20, t_now_stopReason_21, t_now_row_22, t_history_oldest_1, t_history_count_2, t_history_ring_row_3, t_history_ring_length_4, t_history_ring_shorter_5, t_history_ring_longer_6, t_history_ring_memory_7, t_history_ring_limit_8, t_history_ring_seasonDays_9, t_history_ring_stopped_10, t_history_ring_stopPart_11, t_history_ring_stopReason_12) : Option (String × Int32 × Int32 × Int32 × Int32 × Int32 × Int32 × Int32 × Int32 × Int32 × Int32 × (Nat → Int32) × Int32 × Int32 × (Nat → (Nat → Int32)) × (Nat → Int32) × (Nat → Int32) × (Nat → Int32) × (Nat → Int32) × (Nat → Int32) × (Nat → Int32) × (Nat → Int32) × (Nat → Int32) × (Nat → Int32))) = some (rE, rr, w_t_now_length, w_t_now_shorter, w_t_now_longer, w_t_now_memory, w_t_now_limit, w_t_now_seasonDays, w_t_now_stopped, w_t_now_stopPart, w_t_now_stopReason, w_t_now_row, w_t_history_oldest, w_t_history_count, w_t_history_ring_row, w_t_history_ring_length, w_t_history_ring_shorter, w_t_history_ring_longer, w_t_history_ring_memory, w_t_history_ring_limit, w_t_history_ring_seasonDays, w_t_history_ring_stopped, w_t_history_ring_stopPart, w_t_history_ring_stopReason) := hf
    cases hf
    exact xe_i hF hr hlk hP hD hS (Nat.le_of_ble_eq_true rfl) (Nat.le_of_ble_eq_true rfl) dX11_restore_46 rfl
  · have hf := (if_pos c0).symm.trans hf
    have hf : (some ("java/lang/IllegalStateException", 0, t_now_length, t_now_shorter, t_now_longer, t_now_memory, t_now_limit, t_now_seasonDays, t_now_stopped, t_now_stopPart, t_now_stopReason, t_now_row, t_history_oldest, t_history_count, t_history_ring_row, t_history_ring_length, t_history_ring_shorter, t_history_ring_longer, t_history_ring_memory, t_history_ring_limit, t_history_ring_seasonDays, t_history_ring_stopped, t_history_ring_stopPart, t_history_ring_stopReason) : Option (String × Int32 × Int32 × Int32 × Int32 × Int32 × Int32 × Int32 × Int32 × Int32 × Int32 × (Nat → Int32) × Int32 × Int32 × (Nat → (Nat → Int32)) × (Nat → Int32) × (Nat → Int32) × (Nat → Int32) × (Nat → Int32) × (Nat → Int32) × (Nat → Int32) × (Nat → Int32) × (Nat → Int32) × (Nat → Int32))) = some (rE, rr, w_t_now_length, w_t_now_shorter, w_t_now_longer, w_t_now_memory, w_t_now_limit, w_t_now_seasonDays, w_t_now_stopped, w_t_now_stopPart, w_t_now_stopReason, w_t_now_row, w_t_history_oldest, w_t_history_count, w_t_history_ring_row, w_t_history_ring_length, w_t_history_ring_shorter, w_t_history_ring_longer, w_t_history_ring_memory, w_t_history_ring_limit, w_t_history_ring_seasonDays, w_t_history_ring_stopped, w_t_history_ring_stopPart, w_t_history_ring_stopReason) := hf
    cases hf
    exact thS (is := 180) hF hG hst (by decide +kernel) hP hD hS hA hZ hl.1 hout hlk dX11_restore_7 dX11_restore_10 dX11_restore_11 dX11_restore_13 dX11_restore_16 (Nat.le_of_ble_eq_true rfl) (Nat.le_of_ble_eq_true rfl) (Nat.le_of_ble_eq_true rfl) (Nat.le_of_ble_eq_true rfl) (Nat.le_of_ble_eq_true rfl) (Nat.le_of_ble_eq_true rfl)
def f_X11_priceOf (t_now_length : Int32) (t_now_row : Nat → Int32) (x1 : Int32) : Option (String × Int32) := bd1 (f_X11_requireDay t_now_length x1) (fun (e_1 : String) => if e_1 = "" then (bd1 (f_X6_at t_now_row x1) (fun (r_2 : Int32) => some ("", r_2))) else some (e_1, 0))
theorem k_X11_priceOf : KV yX11_priceOf cX11_priceOf 2 (some .int) 1 := ⟨qc_yX11_priceOf, q1, ⟨by decide +kernel, by decide +kernel, by decide +kernel⟩, qi_yX11_priceOf, qs_yX11_priceOf⟩
abbrev mc_X11_priceOf : Nat := 1
abbrev ms_X11_priceOf : Nat := 6
abbrev RM_X11_priceOf : Room := { frames := 9, cells := 1, slots := 6, locals := 141 }
set_option maxHeartbeats 4000000 in
set_option maxRecDepth 100000 in
theorem c_X11_priceOf (l : Launch) (G : GP) (a_t : Nat) (a_t_trial : Nat) (a_t_snapshot : Nat) (t_snapshotTaken : Int32) (a_t_history : Nat) (a_t_text : Nat) (a_t_works : Nat) (a_t_highs : Nat) (a_t_trade : Nat) (a_t_now : Nat) (t_now_length : Int32) (t_now_shorter : Int32) (t_now_longer : Int32) (t_now_memory : Int32) (t_now_limit : Int32) (t_now_seasonDays : Int32) (t_now_stopped : Int32) (t_now_stopPart : Int32) (t_now_stopReason : Int32) (a_t_now_row : Nat) (t_now_row : Nat → Int32) (x1 : Int32) (rE : String) (rr : Int32) (hf : f_X11_priceOf t_now_length t_now_row x1 = some (rE, rr)) (hst : l.stackTraces = false) : XM l yX11_priceOf cX11_priceOf 2 (some .int) 9 141 1 6 G [.ref a_t, .int x1] [(a_t, .inr (7, [.ref a_t_now, .ref a_t_trial, .ref a_t_snapshot, .int t_snapshotTaken, .ref a_t_history, .ref a_t_text, .ref a_t_works, .ref a_t_highs, .ref a_t_trade])), (a_t_now, .inr (2, [.ref a_t_now_row, .int t_now_length, .int t_now_shorter, .int t_now_longer, .int t_now_memory, .int t_now_limit, .int t_now_seasonDays, .int t_now_stopped, .int t_now_stopPart, .int t_now_stopReason])), (a_t_now_row, .inl (G.2.1, 60, .inl t_now_row))] rE (some (.int rr)) [(a_t, .inr (7, [.ref a_t_now, .ref a_t_trial, .ref a_t_snapshot, .int t_snapshotTaken, .ref a_t_history, .ref a_t_text, .ref a_t_works, .ref a_t_highs, .ref a_t_trade])), (a_t_now, .inr (2, [.ref a_t_now_row, .int t_now_length, .int t_now_shorter, .int t_now_longer, .int t_now_memory, .int t_now_limit, .int t_now_seasonDays, .int t_now_stopped, .int t_now_stopPart, .int t_now_stopReason])), (a_t_now_row, .inl (G.2.1, 60, .inl t_now_row))] := by
  refine XM.ofW (C := RX11) (by decide) rfl (Nat.le_of_ble_eq_true rfl) ?_
  intro p e s m below meth c A hF hr hlk hG hA hP hD hZ hout ls hl
  have hl : lv_has ls 2 [(0, .ref a_t), (1, .int x1)] := hl
  have hx := hF.1
  have hb := hF.2.1
  have hml := hF.2.2.1
  have hown := hF.2.2.2.1
  have hts := hF.2.2.2.2
  have hS : va_S A s.heap s.heap [] := va_S.rf
  unfold f_X11_priceOf at hf
  refine lv_aload_n hx hb dX11_priceOf_0 rfl (lv_at hl 0 rfl) ?_
  refine lv_iload_n hx hb dX11_priceOf_1 rfl (lv_at hl 1 rfl) ?_
  obtain ⟨e_1, hq, hf⟩ := bd1_some hf
  refine xwV (As := [.int x1]) (rest := []) (wn := [(a_t, .inr (7, [.ref a_t_now, .ref a_t_trial, .ref a_t_snapshot, .int t_snapshotTaken, .ref a_t_history, .ref a_t_text, .ref a_t_works, .ref a_t_highs, .ref a_t_trade])), (a_t_now, .inr (2, [.ref a_t_now_row, .int t_now_length, .int t_now_shorter, .int t_now_longer, .int t_now_memory, .int t_now_limit, .int t_now_seasonDays, .int t_now_stopped, .int t_now_stopPart, .int t_now_stopReason])), (a_t_now_row, .inl (G.2.1, 60, .inl t_now_row))]) hF hG hP hD hS hA hZ hl.1 (c_X11_requireDay l G a_t a_t_trial a_t_snapshot t_snapshotTaken a_t_history a_t_text a_t_works a_t_highs a_t_trade a_t_now a_t_now_row t_now_length t_now_shorter t_now_longer t_now_memory t_now_limit t_now_seasonDays t_now_stopped t_now_stopPart t_now_stopReason x1 e_1 hq hst) k_X11_requireDay q680 [0, 1] [2] [1, 2, 0] rfl rfl rfl rfl ⟨rfl, rfl⟩ (by decide) ⟨0, 7, _, _, rfl, rfl, rfl⟩ rfl rfl (Nat.le_of_ble_eq_true rfl) ⟨(Nat.le_of_ble_eq_true rfl), (Nat.le_of_ble_eq_true rfl)⟩ ⟨(Nat.le_of_ble_eq_true rfl), (Nat.le_of_ble_eq_true rfl)⟩ dX11_priceOf_2 (fun hE ce q9 H locs hP hD hS hce hcv hcl => ?_) (fun hE H locs hP hD hS => ?_)
  · have hf := (if_neg hE).symm.trans hf
    have hf : (some (e_1, 0) : Option (String × Int32)) = some (rE, rr) := hf
    cases hf
    exact xo hout hlk hE hP hD hS hce hcv hcl (Nat.le_of_ble_eq_true rfl) (Nat.le_of_ble_eq_true rfl)
  have hf := (if_pos hE).symm.trans hf
  refine lv_aload_n hx hb dX11_priceOf_5 rfl (lv_at hl 0 rfl) ?_
  refine gf (C := RX11) (T := TX11) (N := 9) (ci := 7) (v := .ref a_t_now) hF hG hP inX11 0 rfl rfl 0 (by decide) q204 rfl rfl dX11_priceOf_6 ?_
  refine lv_iload_n hx hb dX11_priceOf_9 rfl (lv_at hl 1 rfl) ?_
  obtain ⟨r_2, hq, hf⟩ := bd1_some hf
  refine rdVN (As := [.int x1]) (rest := []) hF hG hP hl.1 (c_X6_at l G a_t_now t_now_length t_now_shorter t_now_longer t_now_memory t_now_limit t_now_seasonDays t_now_stopped t_now_stopPart t_now_stopReason a_t_now_row t_now_row x1 r_2 hq) k_X6_at n450 [1, 2] rfl ⟨1, 2, _, _, rfl, rfl, rfl⟩ rfl rfl (Nat.le_of_ble_eq_true rfl) ⟨(Nat.le_of_ble_eq_true rfl), (Nat.le_of_ble_eq_true rfl)⟩ ⟨(Nat.le_of_ble_eq_true rfl), (Nat.le_of_ble_eq_true rfl)⟩ dX11_priceOf_10 ?_
  have hf : (some ("", r_2) : Option (String × Int32)) = some (rE, rr) := hf
  cases hf
  exact xe_i hF hr hlk hP hD hS (Nat.le_of_ble_eq_true rfl) (Nat.le_of_ble_eq_true rfl) dX11_priceOf_13 rfl
def f_X11_mean (t_now_length : Int32) (t_now_row : Nat → Int32) (x1 : Int32) (x2 : Int32) : Option (String × Int32) := bd1 (f_X11_requireDay t_now_length x1) (fun (e_1 : String) => if e_1 = "" then (bd1 (f_X11_requireRange x2 1 20) (fun (e_2 : String) => if e_2 = "" then (bd1 (f_X4_byAdding t_now_row x1 x2) (fun (r_3 : Int32) => some ("", r_3))) else some (e_2, 0))) else some (e_1, 0))
theorem k_X11_mean : KV yX11_mean cX11_mean 3 (some .int) 2 := ⟨qc_yX11_mean, q1, ⟨by decide +kernel, by decide +kernel, by decide +kernel⟩, qi_yX11_mean, qs_yX11_mean⟩
abbrev mc_X11_mean : Nat := 2
abbrev ms_X11_mean : Nat := 12
abbrev RM_X11_mean : Room := { frames := 9, cells := 2, slots := 12, locals := 142 }
set_option maxHeartbeats 4000000 in
set_option maxRecDepth 100000 in
theorem c_X11_mean (l : Launch) (G : GP) (a_t : Nat) (a_t_trial : Nat) (a_t_snapshot : Nat) (t_snapshotTaken : Int32) (a_t_history : Nat) (a_t_text : Nat) (a_t_works : Nat) (a_t_highs : Nat) (a_t_trade : Nat) (a_t_now : Nat) (t_now_length : Int32) (t_now_shorter : Int32) (t_now_longer : Int32) (t_now_memory : Int32) (t_now_limit : Int32) (t_now_seasonDays : Int32) (t_now_stopped : Int32) (t_now_stopPart : Int32) (t_now_stopReason : Int32) (a_t_now_row : Nat) (t_now_row : Nat → Int32) (x1 : Int32) (x2 : Int32) (rE : String) (rr : Int32) (hf : f_X11_mean t_now_length t_now_row x1 x2 = some (rE, rr)) (hst : l.stackTraces = false) : XM l yX11_mean cX11_mean 3 (some .int) 9 142 2 12 G [.ref a_t, .int x1, .int x2] [(a_t, .inr (7, [.ref a_t_now, .ref a_t_trial, .ref a_t_snapshot, .int t_snapshotTaken, .ref a_t_history, .ref a_t_text, .ref a_t_works, .ref a_t_highs, .ref a_t_trade])), (a_t_now, .inr (2, [.ref a_t_now_row, .int t_now_length, .int t_now_shorter, .int t_now_longer, .int t_now_memory, .int t_now_limit, .int t_now_seasonDays, .int t_now_stopped, .int t_now_stopPart, .int t_now_stopReason])), (a_t_now_row, .inl (G.2.1, 60, .inl t_now_row))] rE (some (.int rr)) [(a_t, .inr (7, [.ref a_t_now, .ref a_t_trial, .ref a_t_snapshot, .int t_snapshotTaken, .ref a_t_history, .ref a_t_text, .ref a_t_works, .ref a_t_highs, .ref a_t_trade])), (a_t_now, .inr (2, [.ref a_t_now_row, .int t_now_length, .int t_now_shorter, .int t_now_longer, .int t_now_memory, .int t_now_limit, .int t_now_seasonDays, .int t_now_stopped, .int t_now_stopPart, .int t_now_stopReason])), (a_t_now_row, .inl (G.2.1, 60, .inl t_now_row))] := by
  refine XM.ofW (C := RX11) (by decide) rfl (Nat.le_of_ble_eq_true rfl) ?_
  intro p e s m below meth c A hF hr hlk hG hA hP hD hZ hout ls hl
  have hl : lv_has ls 3 [(0, .ref a_t), (1, .int x1), (2, .int x2)] := hl
  have hx := hF.1
  have hb := hF.2.1
  have hml := hF.2.2.1
  have hown := hF.2.2.2.1
  have hts := hF.2.2.2.2
  have hS : va_S A s.heap s.heap [] := va_S.rf
  unfold f_X11_mean at hf
  refine lv_aload_n hx hb dX11_mean_0 rfl (lv_at hl 0 rfl) ?_
  refine lv_iload_n hx hb dX11_mean_1 rfl (lv_at hl 1 rfl) ?_
  obtain ⟨e_1, hq, hf⟩ := bd1_some hf
  refine xwV (As := [.int x1]) (rest := []) (wn := [(a_t, .inr (7, [.ref a_t_now, .ref a_t_trial, .ref a_t_snapshot, .int t_snapshotTaken, .ref a_t_history, .ref a_t_text, .ref a_t_works, .ref a_t_highs, .ref a_t_trade])), (a_t_now, .inr (2, [.ref a_t_now_row, .int t_now_length, .int t_now_shorter, .int t_now_longer, .int t_now_memory, .int t_now_limit, .int t_now_seasonDays, .int t_now_stopped, .int t_now_stopPart, .int t_now_stopReason])), (a_t_now_row, .inl (G.2.1, 60, .inl t_now_row))]) hF hG hP hD hS hA hZ hl.1 (c_X11_requireDay l G a_t a_t_trial a_t_snapshot t_snapshotTaken a_t_history a_t_text a_t_works a_t_highs a_t_trade a_t_now a_t_now_row t_now_length t_now_shorter t_now_longer t_now_memory t_now_limit t_now_seasonDays t_now_stopped t_now_stopPart t_now_stopReason x1 e_1 hq hst) k_X11_requireDay q680 [0, 1] [2] [1, 2, 0] rfl rfl rfl rfl ⟨rfl, rfl⟩ (by decide) ⟨0, 7, _, _, rfl, rfl, rfl⟩ rfl rfl (Nat.le_of_ble_eq_true rfl) ⟨(Nat.le_of_ble_eq_true rfl), (Nat.le_of_ble_eq_true rfl)⟩ ⟨(Nat.le_of_ble_eq_true rfl), (Nat.le_of_ble_eq_true rfl)⟩ dX11_mean_2 (fun hE ce q9 H locs hP hD hS hce hcv hcl => ?_) (fun hE H locs hP hD hS => ?_)
  · have hf := (if_neg hE).symm.trans hf
    have hf : (some (e_1, 0) : Option (String × Int32)) = some (rE, rr) := hf
    cases hf
    exact xo hout hlk hE hP hD hS hce hcv hcl (Nat.le_of_ble_eq_true rfl) (Nat.le_of_ble_eq_true rfl)
  have hf := (if_pos hE).symm.trans hf
  refine lv_iload_n hx hb dX11_mean_5 rfl (lv_at hl 2 rfl) ?_
  refine lv_iconst (v := 1) hx hb dX11_mean_6 (by decide) ?_
  refine lv_bipush (v := 20) hx hb dX11_mean_7 (by decide) ?_
  obtain ⟨e_2, hq, hf⟩ := bd1_some hf
  refine xwS (As := [.int x2, .int 1, .int 20]) (rest := []) (wn := [(a_t, .inr (7, [.ref a_t_now, .ref a_t_trial, .ref a_t_snapshot, .int t_snapshotTaken, .ref a_t_history, .ref a_t_text, .ref a_t_works, .ref a_t_highs, .ref a_t_trade])), (a_t_now, .inr (2, [.ref a_t_now_row, .int t_now_length, .int t_now_shorter, .int t_now_longer, .int t_now_memory, .int t_now_limit, .int t_now_seasonDays, .int t_now_stopped, .int t_now_stopPart, .int t_now_stopReason])), (a_t_now_row, .inl (G.2.1, 60, .inl t_now_row))]) hF hG hP hD hS hA hZ hl.1 (c_X11_requireRange l G x2 1 20 e_2 hq hst) k_X11_requireRange q581 [] [0, 1, 2] [0, 1, 2] rfl rfl rfl rfl ⟨rfl, rfl⟩ (by decide) rfl rfl (Nat.le_of_ble_eq_true rfl) ⟨(Nat.le_of_ble_eq_true rfl), (Nat.le_of_ble_eq_true rfl)⟩ ⟨(Nat.le_of_ble_eq_true rfl), (Nat.le_of_ble_eq_true rfl)⟩ dX11_mean_9 (fun hE ce q9 H locs hP hD hS hce hcv hcl => ?_) (fun hE H locs hP hD hS => ?_)
  · have hf := (if_neg hE).symm.trans hf
    have hf : (some (e_2, 0) : Option (String × Int32)) = some (rE, rr) := hf
    cases hf
    exact xo hout hlk hE hP hD hS hce hcv hcl (Nat.le_of_ble_eq_true rfl) (Nat.le_of_ble_eq_true rfl)
  have hf := (if_pos hE).symm.trans hf
  refine lv_aload_n hx hb dX11_mean_12 rfl (lv_at hl 0 rfl) ?_
  refine gf (C := RX11) (T := TX11) (N := 9) (ci := 7) (v := .ref a_t_now) hF hG hP inX11 0 rfl rfl 0 (by decide) q204 rfl rfl dX11_mean_13 ?_
  refine lv_iload_n hx hb dX11_mean_16 rfl (lv_at hl 1 rfl) ?_
  refine lv_iload_n hx hb dX11_mean_17 rfl (lv_at hl 2 rfl) ?_
  obtain ⟨r_3, hq, hf⟩ := bd1_some hf
  refine rdSN (As := [.ref a_t_now, .int x1, .int x2]) (rest := []) hF hG hP hl.1 (c_X4_byAdding l G a_t_now t_now_length t_now_shorter t_now_longer t_now_memory t_now_limit t_now_seasonDays t_now_stopped t_now_stopPart t_now_stopReason a_t_now_row t_now_row x1 x2 r_3 hq) k_X4_byAdding n451 [1, 2] rfl rfl rfl (Nat.le_of_ble_eq_true rfl) ⟨(Nat.le_of_ble_eq_true rfl), (Nat.le_of_ble_eq_true rfl)⟩ ⟨(Nat.le_of_ble_eq_true rfl), (Nat.le_of_ble_eq_true rfl)⟩ dX11_mean_18 ?_
  have hf : (some ("", r_3) : Option (String × Int32)) = some (rE, rr) := hf
  cases hf
  exact xe_i hF hr hlk hP hD hS (Nat.le_of_ble_eq_true rfl) (Nat.le_of_ble_eq_true rfl) dX11_mean_21 rfl
def f_X11_meanBySums (t_now_length : Int32) (t_now_row : Nat → Int32) (x1 : Int32) (x2 : Int32) : Option (String × Int32) := bd1 (f_X11_requireDay t_now_length x1) (fun (e_1 : String) => if e_1 = "" then (bd1 (f_X11_requireRange x2 1 20) (fun (e_2 : String) => if e_2 = "" then (bd1 (f_X4_bySums t_now_row x1 x2) (fun (r_3 : Int32) => some ("", r_3))) else some (e_2, 0))) else some (e_1, 0))
theorem k_X11_meanBySums : KV yX11_meanBySums cX11_meanBySums 3 (some .int) 2 := ⟨qc_yX11_meanBySums, q1, ⟨by decide +kernel, by decide +kernel, by decide +kernel⟩, qi_yX11_meanBySums, qs_yX11_meanBySums⟩
abbrev mc_X11_meanBySums : Nat := 2
abbrev ms_X11_meanBySums : Nat := 12
abbrev RM_X11_meanBySums : Room := { frames := 9, cells := 2, slots := 12, locals := 142 }
set_option maxHeartbeats 4000000 in
set_option maxRecDepth 100000 in
theorem c_X11_meanBySums (l : Launch) (G : GP) (a_t : Nat) (a_t_trial : Nat) (a_t_snapshot : Nat) (t_snapshotTaken : Int32) (a_t_history : Nat) (a_t_text : Nat) (a_t_works : Nat) (a_t_highs : Nat) (a_t_trade : Nat) (a_t_now : Nat) (t_now_length : Int32) (t_now_shorter : Int32) (t_now_longer : Int32) (t_now_memory : Int32) (t_now_limit : Int32) (t_now_seasonDays : Int32) (t_now_stopped : Int32) (t_now_stopPart : Int32) (t_now_stopReason : Int32) (a_t_now_row : Nat) (t_now_row : Nat → Int32) (x1 : Int32) (x2 : Int32) (rE : String) (rr : Int32) (hf : f_X11_meanBySums t_now_length t_now_row x1 x2 = some (rE, rr)) (hst : l.stackTraces = false) : XM l yX11_meanBySums cX11_meanBySums 3 (some .int) 9 142 2 12 G [.ref a_t, .int x1, .int x2] [(a_t, .inr (7, [.ref a_t_now, .ref a_t_trial, .ref a_t_snapshot, .int t_snapshotTaken, .ref a_t_history, .ref a_t_text, .ref a_t_works, .ref a_t_highs, .ref a_t_trade])), (a_t_now, .inr (2, [.ref a_t_now_row, .int t_now_length, .int t_now_shorter, .int t_now_longer, .int t_now_memory, .int t_now_limit, .int t_now_seasonDays, .int t_now_stopped, .int t_now_stopPart, .int t_now_stopReason])), (a_t_now_row, .inl (G.2.1, 60, .inl t_now_row))] rE (some (.int rr)) [(a_t, .inr (7, [.ref a_t_now, .ref a_t_trial, .ref a_t_snapshot, .int t_snapshotTaken, .ref a_t_history, .ref a_t_text, .ref a_t_works, .ref a_t_highs, .ref a_t_trade])), (a_t_now, .inr (2, [.ref a_t_now_row, .int t_now_length, .int t_now_shorter, .int t_now_longer, .int t_now_memory, .int t_now_limit, .int t_now_seasonDays, .int t_now_stopped, .int t_now_stopPart, .int t_now_stopReason])), (a_t_now_row, .inl (G.2.1, 60, .inl t_now_row))] := by
  refine XM.ofW (C := RX11) (by decide) rfl (Nat.le_of_ble_eq_true rfl) ?_
  intro p e s m below meth c A hF hr hlk hG hA hP hD hZ hout ls hl
  have hl : lv_has ls 3 [(0, .ref a_t), (1, .int x1), (2, .int x2)] := hl
  have hx := hF.1
  have hb := hF.2.1
  have hml := hF.2.2.1
  have hown := hF.2.2.2.1
  have hts := hF.2.2.2.2
  have hS : va_S A s.heap s.heap [] := va_S.rf
  unfold f_X11_meanBySums at hf
  refine lv_aload_n hx hb dX11_meanBySums_0 rfl (lv_at hl 0 rfl) ?_
  refine lv_iload_n hx hb dX11_meanBySums_1 rfl (lv_at hl 1 rfl) ?_
  obtain ⟨e_1, hq, hf⟩ := bd1_some hf
  refine xwV (As := [.int x1]) (rest := []) (wn := [(a_t, .inr (7, [.ref a_t_now, .ref a_t_trial, .ref a_t_snapshot, .int t_snapshotTaken, .ref a_t_history, .ref a_t_text, .ref a_t_works, .ref a_t_highs, .ref a_t_trade])), (a_t_now, .inr (2, [.ref a_t_now_row, .int t_now_length, .int t_now_shorter, .int t_now_longer, .int t_now_memory, .int t_now_limit, .int t_now_seasonDays, .int t_now_stopped, .int t_now_stopPart, .int t_now_stopReason])), (a_t_now_row, .inl (G.2.1, 60, .inl t_now_row))]) hF hG hP hD hS hA hZ hl.1 (c_X11_requireDay l G a_t a_t_trial a_t_snapshot t_snapshotTaken a_t_history a_t_text a_t_works a_t_highs a_t_trade a_t_now a_t_now_row t_now_length t_now_shorter t_now_longer t_now_memory t_now_limit t_now_seasonDays t_now_stopped t_now_stopPart t_now_stopReason x1 e_1 hq hst) k_X11_requireDay q680 [0, 1] [2] [1, 2, 0] rfl rfl rfl rfl ⟨rfl, rfl⟩ (by decide) ⟨0, 7, _, _, rfl, rfl, rfl⟩ rfl rfl (Nat.le_of_ble_eq_true rfl) ⟨(Nat.le_of_ble_eq_true rfl), (Nat.le_of_ble_eq_true rfl)⟩ ⟨(Nat.le_of_ble_eq_true rfl), (Nat.le_of_ble_eq_true rfl)⟩ dX11_meanBySums_2 (fun hE ce q9 H locs hP hD hS hce hcv hcl => ?_) (fun hE H locs hP hD hS => ?_)
  · have hf := (if_neg hE).symm.trans hf
    have hf : (some (e_1, 0) : Option (String × Int32)) = some (rE, rr) := hf
    cases hf
    exact xo hout hlk hE hP hD hS hce hcv hcl (Nat.le_of_ble_eq_true rfl) (Nat.le_of_ble_eq_true rfl)
  have hf := (if_pos hE).symm.trans hf
  refine lv_iload_n hx hb dX11_meanBySums_5 rfl (lv_at hl 2 rfl) ?_
  refine lv_iconst (v := 1) hx hb dX11_meanBySums_6 (by decide) ?_
  refine lv_bipush (v := 20) hx hb dX11_meanBySums_7 (by decide) ?_
  obtain ⟨e_2, hq, hf⟩ := bd1_some hf
  refine xwS (As := [.int x2, .int 1, .int 20]) (rest := []) (wn := [(a_t, .inr (7, [.ref a_t_now, .ref a_t_trial, .ref a_t_snapshot, .int t_snapshotTaken, .ref a_t_history, .ref a_t_text, .ref a_t_works, .ref a_t_highs, .ref a_t_trade])), (a_t_now, .inr (2, [.ref a_t_now_row, .int t_now_length, .int t_now_shorter, .int t_now_longer, .int t_now_memory, .int t_now_limit, .int t_now_seasonDays, .int t_now_stopped, .int t_now_stopPart, .int t_now_stopReason])), (a_t_now_row, .inl (G.2.1, 60, .inl t_now_row))]) hF hG hP hD hS hA hZ hl.1 (c_X11_requireRange l G x2 1 20 e_2 hq hst) k_X11_requireRange q581 [] [0, 1, 2] [0, 1, 2] rfl rfl rfl rfl ⟨rfl, rfl⟩ (by decide) rfl rfl (Nat.le_of_ble_eq_true rfl) ⟨(Nat.le_of_ble_eq_true rfl), (Nat.le_of_ble_eq_true rfl)⟩ ⟨(Nat.le_of_ble_eq_true rfl), (Nat.le_of_ble_eq_true rfl)⟩ dX11_meanBySums_9 (fun hE ce q9 H locs hP hD hS hce hcv hcl => ?_) (fun hE H locs hP hD hS => ?_)
  · have hf := (if_neg hE).symm.trans hf
    have hf : (some (e_2, 0) : Option (String × Int32)) = some (rE, rr) := hf
    cases hf
    exact xo hout hlk hE hP hD hS hce hcv hcl (Nat.le_of_ble_eq_true rfl) (Nat.le_of_ble_eq_true rfl)
  have hf := (if_pos hE).symm.trans hf
  refine lv_aload_n hx hb dX11_meanBySums_12 rfl (lv_at hl 0 rfl) ?_
  refine gf (C := RX11) (T := TX11) (N := 9) (ci := 7) (v := .ref a_t_now) hF hG hP inX11 0 rfl rfl 0 (by decide) q204 rfl rfl dX11_meanBySums_13 ?_
  refine lv_iload_n hx hb dX11_meanBySums_16 rfl (lv_at hl 1 rfl) ?_
  refine lv_iload_n hx hb dX11_meanBySums_17 rfl (lv_at hl 2 rfl) ?_
  obtain ⟨r_3, hq, hf⟩ := bd1_some hf
  refine rdSN (As := [.ref a_t_now, .int x1, .int x2]) (rest := []) hF hG hP hl.1 (c_X4_bySums l G a_t_now t_now_length t_now_shorter t_now_longer t_now_memory t_now_limit t_now_seasonDays t_now_stopped t_now_stopPart t_now_stopReason a_t_now_row t_now_row x1 x2 r_3 hq) k_X4_bySums n452 [1, 2] rfl rfl rfl (Nat.le_of_ble_eq_true rfl) ⟨(Nat.le_of_ble_eq_true rfl), (Nat.le_of_ble_eq_true rfl)⟩ ⟨(Nat.le_of_ble_eq_true rfl), (Nat.le_of_ble_eq_true rfl)⟩ dX11_meanBySums_18 ?_
  have hf : (some ("", r_3) : Option (String × Int32)) = some (rE, rr) := hf
  cases hf
  exact xe_i hF hr hlk hP hD hS (Nat.le_of_ble_eq_true rfl) (Nat.le_of_ble_eq_true rfl) dX11_meanBySums_21 rfl
def f_X11_weightedMean (t_now_length : Int32) (t_now_longer : Int32) (t_now_row : Nat → Int32) (x1 : Int32) : Option (String × Int32) := bd1 (f_X11_requireDay t_now_length x1) (fun (e_1 : String) => if e_1 = "" then (bd1 (f_X4_weighted t_now_longer t_now_row x1) (fun (r_2 : Int32) => some ("", r_2))) else some (e_1, 0))
theorem k_X11_weightedMean : KV yX11_weightedMean cX11_weightedMean 2 (some .int) 1 := ⟨qc_yX11_weightedMean, q1, ⟨by decide +kernel, by decide +kernel, by decide +kernel⟩, qi_yX11_weightedMean, qs_yX11_weightedMean⟩
abbrev mc_X11_weightedMean : Nat := 1
abbrev ms_X11_weightedMean : Nat := 6
abbrev RM_X11_weightedMean : Room := { frames := 9, cells := 1, slots := 6, locals := 141 }
set_option maxHeartbeats 4000000 in
set_option maxRecDepth 100000 in
theorem c_X11_weightedMean (l : Launch) (G : GP) (a_t : Nat) (a_t_trial : Nat) (a_t_snapshot : Nat) (t_snapshotTaken : Int32) (a_t_history : Nat) (a_t_text : Nat) (a_t_works : Nat) (a_t_highs : Nat) (a_t_trade : Nat) (a_t_now : Nat) (t_now_length : Int32) (t_now_shorter : Int32) (t_now_longer : Int32) (t_now_memory : Int32) (t_now_limit : Int32) (t_now_seasonDays : Int32) (t_now_stopped : Int32) (t_now_stopPart : Int32) (t_now_stopReason : Int32) (a_t_now_row : Nat) (t_now_row : Nat → Int32) (x1 : Int32) (rE : String) (rr : Int32) (hf : f_X11_weightedMean t_now_length t_now_longer t_now_row x1 = some (rE, rr)) (hst : l.stackTraces = false) : XM l yX11_weightedMean cX11_weightedMean 2 (some .int) 9 141 1 6 G [.ref a_t, .int x1] [(a_t, .inr (7, [.ref a_t_now, .ref a_t_trial, .ref a_t_snapshot, .int t_snapshotTaken, .ref a_t_history, .ref a_t_text, .ref a_t_works, .ref a_t_highs, .ref a_t_trade])), (a_t_now, .inr (2, [.ref a_t_now_row, .int t_now_length, .int t_now_shorter, .int t_now_longer, .int t_now_memory, .int t_now_limit, .int t_now_seasonDays, .int t_now_stopped, .int t_now_stopPart, .int t_now_stopReason])), (a_t_now_row, .inl (G.2.1, 60, .inl t_now_row))] rE (some (.int rr)) [(a_t, .inr (7, [.ref a_t_now, .ref a_t_trial, .ref a_t_snapshot, .int t_snapshotTaken, .ref a_t_history, .ref a_t_text, .ref a_t_works, .ref a_t_highs, .ref a_t_trade])), (a_t_now, .inr (2, [.ref a_t_now_row, .int t_now_length, .int t_now_shorter, .int t_now_longer, .int t_now_memory, .int t_now_limit, .int t_now_seasonDays, .int t_now_stopped, .int t_now_stopPart, .int t_now_stopReason])), (a_t_now_row, .inl (G.2.1, 60, .inl t_now_row))] := by
  refine XM.ofW (C := RX11) (by decide) rfl (Nat.le_of_ble_eq_true rfl) ?_
  intro p e s m below meth c A hF hr hlk hG hA hP hD hZ hout ls hl
  have hl : lv_has ls 2 [(0, .ref a_t), (1, .int x1)] := hl
  have hx := hF.1
  have hb := hF.2.1
  have hml := hF.2.2.1
  have hown := hF.2.2.2.1
  have hts := hF.2.2.2.2
  have hS : va_S A s.heap s.heap [] := va_S.rf
  unfold f_X11_weightedMean at hf
  refine lv_aload_n hx hb dX11_weightedMean_0 rfl (lv_at hl 0 rfl) ?_
  refine lv_iload_n hx hb dX11_weightedMean_1 rfl (lv_at hl 1 rfl) ?_
  obtain ⟨e_1, hq, hf⟩ := bd1_some hf
  refine xwV (As := [.int x1]) (rest := []) (wn := [(a_t, .inr (7, [.ref a_t_now, .ref a_t_trial, .ref a_t_snapshot, .int t_snapshotTaken, .ref a_t_history, .ref a_t_text, .ref a_t_works, .ref a_t_highs, .ref a_t_trade])), (a_t_now, .inr (2, [.ref a_t_now_row, .int t_now_length, .int t_now_shorter, .int t_now_longer, .int t_now_memory, .int t_now_limit, .int t_now_seasonDays, .int t_now_stopped, .int t_now_stopPart, .int t_now_stopReason])), (a_t_now_row, .inl (G.2.1, 60, .inl t_now_row))]) hF hG hP hD hS hA hZ hl.1 (c_X11_requireDay l G a_t a_t_trial a_t_snapshot t_snapshotTaken a_t_history a_t_text a_t_works a_t_highs a_t_trade a_t_now a_t_now_row t_now_length t_now_shorter t_now_longer t_now_memory t_now_limit t_now_seasonDays t_now_stopped t_now_stopPart t_now_stopReason x1 e_1 hq hst) k_X11_requireDay q680 [0, 1] [2] [1, 2, 0] rfl rfl rfl rfl ⟨rfl, rfl⟩ (by decide) ⟨0, 7, _, _, rfl, rfl, rfl⟩ rfl rfl (Nat.le_of_ble_eq_true rfl) ⟨(Nat.le_of_ble_eq_true rfl), (Nat.le_of_ble_eq_true rfl)⟩ ⟨(Nat.le_of_ble_eq_true rfl), (Nat.le_of_ble_eq_true rfl)⟩ dX11_weightedMean_2 (fun hE ce q9 H locs hP hD hS hce hcv hcl => ?_) (fun hE H locs hP hD hS => ?_)
  · have hf := (if_neg hE).symm.trans hf
    have hf : (some (e_1, 0) : Option (String × Int32)) = some (rE, rr) := hf
    cases hf
    exact xo hout hlk hE hP hD hS hce hcv hcl (Nat.le_of_ble_eq_true rfl) (Nat.le_of_ble_eq_true rfl)
  have hf := (if_pos hE).symm.trans hf
  refine lv_aload_n hx hb dX11_weightedMean_5 rfl (lv_at hl 0 rfl) ?_
  refine gf (C := RX11) (T := TX11) (N := 9) (ci := 7) (v := .ref a_t_now) hF hG hP inX11 0 rfl rfl 0 (by decide) q204 rfl rfl dX11_weightedMean_6 ?_
  refine lv_iload_n hx hb dX11_weightedMean_9 rfl (lv_at hl 1 rfl) ?_
  obtain ⟨r_2, hq, hf⟩ := bd1_some hf
  refine rdSN (As := [.ref a_t_now, .int x1]) (rest := []) hF hG hP hl.1 (c_X4_weighted l G a_t_now t_now_length t_now_shorter t_now_longer t_now_memory t_now_limit t_now_seasonDays t_now_stopped t_now_stopPart t_now_stopReason a_t_now_row t_now_row x1 r_2 hq) k_X4_weighted n458 [1, 2] rfl rfl rfl (Nat.le_of_ble_eq_true rfl) ⟨(Nat.le_of_ble_eq_true rfl), (Nat.le_of_ble_eq_true rfl)⟩ ⟨(Nat.le_of_ble_eq_true rfl), (Nat.le_of_ble_eq_true rfl)⟩ dX11_weightedMean_10 ?_
  have hf : (some ("", r_2) : Option (String × Int32)) = some (rE, rr) := hf
  cases hf
  exact xe_i hF hr hlk hP hD hS (Nat.le_of_ble_eq_true rfl) (Nat.le_of_ble_eq_true rfl) dX11_weightedMean_13 rfl
def f_X11_smoothed (t_now_length : Int32) (t_now_memory : Int32) (t_now_row : Nat → Int32) (x1 : Int32) : Option (String × Int32) := bd1 (f_X11_requireDay t_now_length x1) (fun (e_1 : String) => if e_1 = "" then (bd1 (f_X4_smoothedForwards t_now_memory t_now_row x1) (fun (r_2 : Int32) => some ("", r_2))) else some (e_1, 0))
theorem k_X11_smoothed : KV yX11_smoothed cX11_smoothed 2 (some .int) 1 := ⟨qc_yX11_smoothed, q1, ⟨by decide +kernel, by decide +kernel, by decide +kernel⟩, qi_yX11_smoothed, qs_yX11_smoothed⟩
abbrev mc_X11_smoothed : Nat := 1
abbrev ms_X11_smoothed : Nat := 6
abbrev RM_X11_smoothed : Room := { frames := 9, cells := 1, slots := 6, locals := 141 }
set_option maxHeartbeats 4000000 in
set_option maxRecDepth 100000 in
theorem c_X11_smoothed (l : Launch) (G : GP) (a_t : Nat) (a_t_trial : Nat) (a_t_snapshot : Nat) (t_snapshotTaken : Int32) (a_t_history : Nat) (a_t_text : Nat) (a_t_works : Nat) (a_t_highs : Nat) (a_t_trade : Nat) (a_t_now : Nat) (t_now_length : Int32) (t_now_shorter : Int32) (t_now_longer : Int32) (t_now_memory : Int32) (t_now_limit : Int32) (t_now_seasonDays : Int32) (t_now_stopped : Int32) (t_now_stopPart : Int32) (t_now_stopReason : Int32) (a_t_now_row : Nat) (t_now_row : Nat → Int32) (x1 : Int32) (rE : String) (rr : Int32) (hf : f_X11_smoothed t_now_length t_now_memory t_now_row x1 = some (rE, rr)) (hst : l.stackTraces = false) : XM l yX11_smoothed cX11_smoothed 2 (some .int) 9 141 1 6 G [.ref a_t, .int x1] [(a_t, .inr (7, [.ref a_t_now, .ref a_t_trial, .ref a_t_snapshot, .int t_snapshotTaken, .ref a_t_history, .ref a_t_text, .ref a_t_works, .ref a_t_highs, .ref a_t_trade])), (a_t_now, .inr (2, [.ref a_t_now_row, .int t_now_length, .int t_now_shorter, .int t_now_longer, .int t_now_memory, .int t_now_limit, .int t_now_seasonDays, .int t_now_stopped, .int t_now_stopPart, .int t_now_stopReason])), (a_t_now_row, .inl (G.2.1, 60, .inl t_now_row))] rE (some (.int rr)) [(a_t, .inr (7, [.ref a_t_now, .ref a_t_trial, .ref a_t_snapshot, .int t_snapshotTaken, .ref a_t_history, .ref a_t_text, .ref a_t_works, .ref a_t_highs, .ref a_t_trade])), (a_t_now, .inr (2, [.ref a_t_now_row, .int t_now_length, .int t_now_shorter, .int t_now_longer, .int t_now_memory, .int t_now_limit, .int t_now_seasonDays, .int t_now_stopped, .int t_now_stopPart, .int t_now_stopReason])), (a_t_now_row, .inl (G.2.1, 60, .inl t_now_row))] := by
  refine XM.ofW (C := RX11) (by decide) rfl (Nat.le_of_ble_eq_true rfl) ?_
  intro p e s m below meth c A hF hr hlk hG hA hP hD hZ hout ls hl
  have hl : lv_has ls 2 [(0, .ref a_t), (1, .int x1)] := hl
  have hx := hF.1
  have hb := hF.2.1
  have hml := hF.2.2.1
  have hown := hF.2.2.2.1
  have hts := hF.2.2.2.2
  have hS : va_S A s.heap s.heap [] := va_S.rf
  unfold f_X11_smoothed at hf
  refine lv_aload_n hx hb dX11_smoothed_0 rfl (lv_at hl 0 rfl) ?_
  refine lv_iload_n hx hb dX11_smoothed_1 rfl (lv_at hl 1 rfl) ?_
  obtain ⟨e_1, hq, hf⟩ := bd1_some hf
  refine xwV (As := [.int x1]) (rest := []) (wn := [(a_t, .inr (7, [.ref a_t_now, .ref a_t_trial, .ref a_t_snapshot, .int t_snapshotTaken, .ref a_t_history, .ref a_t_text, .ref a_t_works, .ref a_t_highs, .ref a_t_trade])), (a_t_now, .inr (2, [.ref a_t_now_row, .int t_now_length, .int t_now_shorter, .int t_now_longer, .int t_now_memory, .int t_now_limit, .int t_now_seasonDays, .int t_now_stopped, .int t_now_stopPart, .int t_now_stopReason])), (a_t_now_row, .inl (G.2.1, 60, .inl t_now_row))]) hF hG hP hD hS hA hZ hl.1 (c_X11_requireDay l G a_t a_t_trial a_t_snapshot t_snapshotTaken a_t_history a_t_text a_t_works a_t_highs a_t_trade a_t_now a_t_now_row t_now_length t_now_shorter t_now_longer t_now_memory t_now_limit t_now_seasonDays t_now_stopped t_now_stopPart t_now_stopReason x1 e_1 hq hst) k_X11_requireDay q680 [0, 1] [2] [1, 2, 0] rfl rfl rfl rfl ⟨rfl, rfl⟩ (by decide) ⟨0, 7, _, _, rfl, rfl, rfl⟩ rfl rfl (Nat.le_of_ble_eq_true rfl) ⟨(Nat.le_of_ble_eq_true rfl), (Nat.le_of_ble_eq_true rfl)⟩ ⟨(Nat.le_of_ble_eq_true rfl), (Nat.le_of_ble_eq_true rfl)⟩ dX11_smoothed_2 (fun hE ce q9 H locs hP hD hS hce hcv hcl => ?_) (fun hE H locs hP hD hS => ?_)
  · have hf := (if_neg hE).symm.trans hf
    have hf : (some (e_1, 0) : Option (String × Int32)) = some (rE, rr) := hf
    cases hf
    exact xo hout hlk hE hP hD hS hce hcv hcl (Nat.le_of_ble_eq_true rfl) (Nat.le_of_ble_eq_true rfl)
  have hf := (if_pos hE).symm.trans hf
  refine lv_aload_n hx hb dX11_smoothed_5 rfl (lv_at hl 0 rfl) ?_
  refine gf (C := RX11) (T := TX11) (N := 9) (ci := 7) (v := .ref a_t_now) hF hG hP inX11 0 rfl rfl 0 (by decide) q204 rfl rfl dX11_smoothed_6 ?_
  refine lv_iload_n hx hb dX11_smoothed_9 rfl (lv_at hl 1 rfl) ?_
  obtain ⟨r_2, hq, hf⟩ := bd1_some hf
  refine rdSN (As := [.ref a_t_now, .int x1]) (rest := []) hF hG hP hl.1 (c_X4_smoothedForwards l G a_t_now t_now_length t_now_shorter t_now_longer t_now_memory t_now_limit t_now_seasonDays t_now_stopped t_now_stopPart t_now_stopReason a_t_now_row t_now_row x1 r_2 hq) k_X4_smoothedForwards n461 [1, 2] rfl rfl rfl (Nat.le_of_ble_eq_true rfl) ⟨(Nat.le_of_ble_eq_true rfl), (Nat.le_of_ble_eq_true rfl)⟩ ⟨(Nat.le_of_ble_eq_true rfl), (Nat.le_of_ble_eq_true rfl)⟩ dX11_smoothed_10 ?_
  have hf : (some ("", r_2) : Option (String × Int32)) = some (rE, rr) := hf
  cases hf
  exact xe_i hF hr hlk hP hD hS (Nat.le_of_ble_eq_true rfl) (Nat.le_of_ble_eq_true rfl) dX11_smoothed_13 rfl
def f_X11_smoothedBack (t_now_length : Int32) (t_now_memory : Int32) (t_now_row : Nat → Int32) (x1 : Int32) : Option (String × Int32) := bd1 (f_X11_requireDay t_now_length x1) (fun (e_1 : String) => if e_1 = "" then (bd1 (f_X4_smoothedByRecursion t_now_memory t_now_row 70 x1 0) (fun (r_2 : Int32) => some ("", r_2))) else some (e_1, 0))
theorem k_X11_smoothedBack : KV yX11_smoothedBack cX11_smoothedBack 2 (some .int) 1 := ⟨qc_yX11_smoothedBack, q1, ⟨by decide +kernel, by decide +kernel, by decide +kernel⟩, qi_yX11_smoothedBack, qs_yX11_smoothedBack⟩
abbrev mc_X11_smoothedBack : Nat := 1
abbrev ms_X11_smoothedBack : Nat := 6
abbrev RM_X11_smoothedBack : Room := { frames := 73, cells := 1, slots := 6, locals := 2213 }
set_option maxHeartbeats 4000000 in
set_option maxRecDepth 100000 in
theorem c_X11_smoothedBack (l : Launch) (G : GP) (a_t : Nat) (a_t_trial : Nat) (a_t_snapshot : Nat) (t_snapshotTaken : Int32) (a_t_history : Nat) (a_t_text : Nat) (a_t_works : Nat) (a_t_highs : Nat) (a_t_trade : Nat) (a_t_now : Nat) (t_now_length : Int32) (t_now_shorter : Int32) (t_now_longer : Int32) (t_now_memory : Int32) (t_now_limit : Int32) (t_now_seasonDays : Int32) (t_now_stopped : Int32) (t_now_stopPart : Int32) (t_now_stopReason : Int32) (a_t_now_row : Nat) (t_now_row : Nat → Int32) (x1 : Int32) (rE : String) (rr : Int32) (hf : f_X11_smoothedBack t_now_length t_now_memory t_now_row x1 = some (rE, rr)) (hst : l.stackTraces = false) : XM l yX11_smoothedBack cX11_smoothedBack 2 (some .int) 73 2213 1 6 G [.ref a_t, .int x1] [(a_t, .inr (7, [.ref a_t_now, .ref a_t_trial, .ref a_t_snapshot, .int t_snapshotTaken, .ref a_t_history, .ref a_t_text, .ref a_t_works, .ref a_t_highs, .ref a_t_trade])), (a_t_now, .inr (2, [.ref a_t_now_row, .int t_now_length, .int t_now_shorter, .int t_now_longer, .int t_now_memory, .int t_now_limit, .int t_now_seasonDays, .int t_now_stopped, .int t_now_stopPart, .int t_now_stopReason])), (a_t_now_row, .inl (G.2.1, 60, .inl t_now_row))] rE (some (.int rr)) [(a_t, .inr (7, [.ref a_t_now, .ref a_t_trial, .ref a_t_snapshot, .int t_snapshotTaken, .ref a_t_history, .ref a_t_text, .ref a_t_works, .ref a_t_highs, .ref a_t_trade])), (a_t_now, .inr (2, [.ref a_t_now_row, .int t_now_length, .int t_now_shorter, .int t_now_longer, .int t_now_memory, .int t_now_limit, .int t_now_seasonDays, .int t_now_stopped, .int t_now_stopPart, .int t_now_stopReason])), (a_t_now_row, .inl (G.2.1, 60, .inl t_now_row))] := by
  refine XM.ofW (C := RX11) (by decide) rfl (Nat.le_of_ble_eq_true rfl) ?_
  intro p e s m below meth c A hF hr hlk hG hA hP hD hZ hout ls hl
  have hl : lv_has ls 2 [(0, .ref a_t), (1, .int x1)] := hl
  have hx := hF.1
  have hb := hF.2.1
  have hml := hF.2.2.1
  have hown := hF.2.2.2.1
  have hts := hF.2.2.2.2
  have hS : va_S A s.heap s.heap [] := va_S.rf
  unfold f_X11_smoothedBack at hf
  refine lv_aload_n hx hb dX11_smoothedBack_0 rfl (lv_at hl 0 rfl) ?_
  refine lv_iload_n hx hb dX11_smoothedBack_1 rfl (lv_at hl 1 rfl) ?_
  obtain ⟨e_1, hq, hf⟩ := bd1_some hf
  refine xwV (As := [.int x1]) (rest := []) (wn := [(a_t, .inr (7, [.ref a_t_now, .ref a_t_trial, .ref a_t_snapshot, .int t_snapshotTaken, .ref a_t_history, .ref a_t_text, .ref a_t_works, .ref a_t_highs, .ref a_t_trade])), (a_t_now, .inr (2, [.ref a_t_now_row, .int t_now_length, .int t_now_shorter, .int t_now_longer, .int t_now_memory, .int t_now_limit, .int t_now_seasonDays, .int t_now_stopped, .int t_now_stopPart, .int t_now_stopReason])), (a_t_now_row, .inl (G.2.1, 60, .inl t_now_row))]) hF hG hP hD hS hA hZ hl.1 (c_X11_requireDay l G a_t a_t_trial a_t_snapshot t_snapshotTaken a_t_history a_t_text a_t_works a_t_highs a_t_trade a_t_now a_t_now_row t_now_length t_now_shorter t_now_longer t_now_memory t_now_limit t_now_seasonDays t_now_stopped t_now_stopPart t_now_stopReason x1 e_1 hq hst) k_X11_requireDay q680 [0, 1] [2] [1, 2, 0] rfl rfl rfl rfl ⟨rfl, rfl⟩ (by decide) ⟨0, 7, _, _, rfl, rfl, rfl⟩ rfl rfl (Nat.le_of_ble_eq_true rfl) ⟨(Nat.le_of_ble_eq_true rfl), (Nat.le_of_ble_eq_true rfl)⟩ ⟨(Nat.le_of_ble_eq_true rfl), (Nat.le_of_ble_eq_true rfl)⟩ dX11_smoothedBack_2 (fun hE ce q9 H locs hP hD hS hce hcv hcl => ?_) (fun hE H locs hP hD hS => ?_)
  · have hf := (if_neg hE).symm.trans hf
    have hf : (some (e_1, 0) : Option (String × Int32)) = some (rE, rr) := hf
    cases hf
    exact xo hout hlk hE hP hD hS hce hcv hcl (Nat.le_of_ble_eq_true rfl) (Nat.le_of_ble_eq_true rfl)
  have hf := (if_pos hE).symm.trans hf
  refine lv_aload_n hx hb dX11_smoothedBack_5 rfl (lv_at hl 0 rfl) ?_
  refine gf (C := RX11) (T := TX11) (N := 9) (ci := 7) (v := .ref a_t_now) hF hG hP inX11 0 rfl rfl 0 (by decide) q204 rfl rfl dX11_smoothedBack_6 ?_
  refine lv_iload_n hx hb dX11_smoothedBack_9 rfl (lv_at hl 1 rfl) ?_
  refine lv_iconst (v := 0) hx hb dX11_smoothedBack_10 (by decide) ?_
  obtain ⟨r_2, hq, hf⟩ := bd1_some hf
  refine rdSN (As := [.ref a_t_now, .int x1, .int 0]) (rest := []) hF hG hP hl.1 (c_X4_smoothedByRecursion l G a_t_now t_now_length t_now_shorter t_now_longer t_now_memory t_now_limit t_now_seasonDays t_now_stopped t_now_stopPart t_now_stopReason a_t_now_row t_now_row 70 x1 0 r_2 hq) k_X4_smoothedByRecursion n467 [1, 2] rfl rfl rfl (Nat.le_of_ble_eq_true rfl) ⟨(Nat.le_of_ble_eq_true rfl), (Nat.le_of_ble_eq_true rfl)⟩ ⟨(Nat.le_of_ble_eq_true rfl), (Nat.le_of_ble_eq_true rfl)⟩ dX11_smoothedBack_11 ?_
  have hf : (some ("", r_2) : Option (String × Int32)) = some (rE, rr) := hf
  cases hf
  exact xe_i hF hr hlk hP hD hS (Nat.le_of_ble_eq_true rfl) (Nat.le_of_ble_eq_true rfl) dX11_smoothedBack_14 rfl
def f_X11_median (t_now_length : Int32) (t_now_shorter : Int32) (t_now_row : Nat → Int32) (x1 : Int32) : Option (String × Int32) := bd1 (f_X11_requireDay t_now_length x1) (fun (e_1 : String) => if e_1 = "" then (bd1 (f_X0_middle t_now_shorter t_now_row x1) (fun (r_2 : Int32) => some ("", r_2))) else some (e_1, 0))
theorem k_X11_median : KV yX11_median cX11_median 2 (some .int) 1 := ⟨qc_yX11_median, q1, ⟨by decide +kernel, by decide +kernel, by decide +kernel⟩, qi_yX11_median, qs_yX11_median⟩
abbrev mc_X11_median : Nat := 1
abbrev ms_X11_median : Nat := 6
abbrev RM_X11_median : Room := { frames := 9, cells := 1, slots := 6, locals := 141 }
set_option maxHeartbeats 4000000 in
set_option maxRecDepth 100000 in
theorem c_X11_median (l : Launch) (G : GP) (a_t : Nat) (a_t_trial : Nat) (a_t_snapshot : Nat) (t_snapshotTaken : Int32) (a_t_history : Nat) (a_t_text : Nat) (a_t_works : Nat) (a_t_highs : Nat) (a_t_trade : Nat) (a_t_now : Nat) (t_now_length : Int32) (t_now_shorter : Int32) (t_now_longer : Int32) (t_now_memory : Int32) (t_now_limit : Int32) (t_now_seasonDays : Int32) (t_now_stopped : Int32) (t_now_stopPart : Int32) (t_now_stopReason : Int32) (a_t_now_row : Nat) (t_now_row : Nat → Int32) (x1 : Int32) (rE : String) (rr : Int32) (hf : f_X11_median t_now_length t_now_shorter t_now_row x1 = some (rE, rr)) (hst : l.stackTraces = false) : XM l yX11_median cX11_median 2 (some .int) 9 141 1 6 G [.ref a_t, .int x1] [(a_t, .inr (7, [.ref a_t_now, .ref a_t_trial, .ref a_t_snapshot, .int t_snapshotTaken, .ref a_t_history, .ref a_t_text, .ref a_t_works, .ref a_t_highs, .ref a_t_trade])), (a_t_now, .inr (2, [.ref a_t_now_row, .int t_now_length, .int t_now_shorter, .int t_now_longer, .int t_now_memory, .int t_now_limit, .int t_now_seasonDays, .int t_now_stopped, .int t_now_stopPart, .int t_now_stopReason])), (a_t_now_row, .inl (G.2.1, 60, .inl t_now_row))] rE (some (.int rr)) [(a_t, .inr (7, [.ref a_t_now, .ref a_t_trial, .ref a_t_snapshot, .int t_snapshotTaken, .ref a_t_history, .ref a_t_text, .ref a_t_works, .ref a_t_highs, .ref a_t_trade])), (a_t_now, .inr (2, [.ref a_t_now_row, .int t_now_length, .int t_now_shorter, .int t_now_longer, .int t_now_memory, .int t_now_limit, .int t_now_seasonDays, .int t_now_stopped, .int t_now_stopPart, .int t_now_stopReason])), (a_t_now_row, .inl (G.2.1, 60, .inl t_now_row))] := by
  refine XM.ofW (C := RX11) (by decide) rfl (Nat.le_of_ble_eq_true rfl) ?_
  intro p e s m below meth c A hF hr hlk hG hA hP hD hZ hout ls hl
  have hl : lv_has ls 2 [(0, .ref a_t), (1, .int x1)] := hl
  have hx := hF.1
  have hb := hF.2.1
  have hml := hF.2.2.1
  have hown := hF.2.2.2.1
  have hts := hF.2.2.2.2
  have hS : va_S A s.heap s.heap [] := va_S.rf
  unfold f_X11_median at hf
  refine lv_aload_n hx hb dX11_median_0 rfl (lv_at hl 0 rfl) ?_
  refine lv_iload_n hx hb dX11_median_1 rfl (lv_at hl 1 rfl) ?_
  obtain ⟨e_1, hq, hf⟩ := bd1_some hf
  refine xwV (As := [.int x1]) (rest := []) (wn := [(a_t, .inr (7, [.ref a_t_now, .ref a_t_trial, .ref a_t_snapshot, .int t_snapshotTaken, .ref a_t_history, .ref a_t_text, .ref a_t_works, .ref a_t_highs, .ref a_t_trade])), (a_t_now, .inr (2, [.ref a_t_now_row, .int t_now_length, .int t_now_shorter, .int t_now_longer, .int t_now_memory, .int t_now_limit, .int t_now_seasonDays, .int t_now_stopped, .int t_now_stopPart, .int t_now_stopReason])), (a_t_now_row, .inl (G.2.1, 60, .inl t_now_row))]) hF hG hP hD hS hA hZ hl.1 (c_X11_requireDay l G a_t a_t_trial a_t_snapshot t_snapshotTaken a_t_history a_t_text a_t_works a_t_highs a_t_trade a_t_now a_t_now_row t_now_length t_now_shorter t_now_longer t_now_memory t_now_limit t_now_seasonDays t_now_stopped t_now_stopPart t_now_stopReason x1 e_1 hq hst) k_X11_requireDay q680 [0, 1] [2] [1, 2, 0] rfl rfl rfl rfl ⟨rfl, rfl⟩ (by decide) ⟨0, 7, _, _, rfl, rfl, rfl⟩ rfl rfl (Nat.le_of_ble_eq_true rfl) ⟨(Nat.le_of_ble_eq_true rfl), (Nat.le_of_ble_eq_true rfl)⟩ ⟨(Nat.le_of_ble_eq_true rfl), (Nat.le_of_ble_eq_true rfl)⟩ dX11_median_2 (fun hE ce q9 H locs hP hD hS hce hcv hcl => ?_) (fun hE H locs hP hD hS => ?_)
  · have hf := (if_neg hE).symm.trans hf
    have hf : (some (e_1, 0) : Option (String × Int32)) = some (rE, rr) := hf
    cases hf
    exact xo hout hlk hE hP hD hS hce hcv hcl (Nat.le_of_ble_eq_true rfl) (Nat.le_of_ble_eq_true rfl)
  have hf := (if_pos hE).symm.trans hf
  refine lv_aload_n hx hb dX11_median_5 rfl (lv_at hl 0 rfl) ?_
  refine gf (C := RX11) (T := TX11) (N := 9) (ci := 7) (v := .ref a_t_now) hF hG hP inX11 0 rfl rfl 0 (by decide) q204 rfl rfl dX11_median_6 ?_
  refine lv_iload_n hx hb dX11_median_9 rfl (lv_at hl 1 rfl) ?_
  obtain ⟨r_2, hq, hf⟩ := bd1_some hf
  refine rdSN (As := [.ref a_t_now, .int x1]) (rest := []) hF hG hP hl.1 (c_X0_middle l G a_t_now t_now_length t_now_shorter t_now_longer t_now_memory t_now_limit t_now_seasonDays t_now_stopped t_now_stopPart t_now_stopReason a_t_now_row t_now_row x1 r_2 hq) k_X0_middle n471 [1, 2] rfl rfl rfl (Nat.le_of_ble_eq_true rfl) ⟨(Nat.le_of_ble_eq_true rfl), (Nat.le_of_ble_eq_true rfl)⟩ ⟨(Nat.le_of_ble_eq_true rfl), (Nat.le_of_ble_eq_true rfl)⟩ dX11_median_10 ?_
  have hf : (some ("", r_2) : Option (String × Int32)) = some (rE, rr) := hf
  cases hf
  exact xe_i hF hr hlk hP hD hS (Nat.le_of_ble_eq_true rfl) (Nat.le_of_ble_eq_true rfl) dX11_median_13 rfl
def f_X11_isCrease (t_now_length : Int32) (t_now_shorter : Int32) (t_now_limit : Int32) (t_now_row : Nat → Int32) (x1 : Int32) : Option (String × Int32) := bd1 (f_X11_requireDay t_now_length x1) (fun (e_1 : String) => if e_1 = "" then (bd1 (f_X0_standsOut t_now_shorter t_now_limit t_now_row x1) (fun (r_2 : Int32) => gd (r_2 &&& 1 = r_2) (some ("", r_2)))) else some (e_1, 0))
theorem k_X11_isCrease : KV yX11_isCrease cX11_isCrease 2 (some .boolean) 1 := ⟨qc_yX11_isCrease, q1, ⟨by decide +kernel, by decide +kernel, by decide +kernel⟩, qi_yX11_isCrease, qs_yX11_isCrease⟩
abbrev mc_X11_isCrease : Nat := 1
abbrev ms_X11_isCrease : Nat := 6
abbrev RM_X11_isCrease : Room := { frames := 9, cells := 1, slots := 6, locals := 141 }
set_option maxHeartbeats 4000000 in
set_option maxRecDepth 100000 in
theorem c_X11_isCrease (l : Launch) (G : GP) (a_t : Nat) (a_t_trial : Nat) (a_t_snapshot : Nat) (t_snapshotTaken : Int32) (a_t_history : Nat) (a_t_text : Nat) (a_t_works : Nat) (a_t_highs : Nat) (a_t_trade : Nat) (a_t_now : Nat) (t_now_length : Int32) (t_now_shorter : Int32) (t_now_longer : Int32) (t_now_memory : Int32) (t_now_limit : Int32) (t_now_seasonDays : Int32) (t_now_stopped : Int32) (t_now_stopPart : Int32) (t_now_stopReason : Int32) (a_t_now_row : Nat) (t_now_row : Nat → Int32) (x1 : Int32) (rE : String) (rr : Int32) (hf : f_X11_isCrease t_now_length t_now_shorter t_now_limit t_now_row x1 = some (rE, rr)) (hst : l.stackTraces = false) : XM l yX11_isCrease cX11_isCrease 2 (some .boolean) 9 141 1 6 G [.ref a_t, .int x1] [(a_t, .inr (7, [.ref a_t_now, .ref a_t_trial, .ref a_t_snapshot, .int t_snapshotTaken, .ref a_t_history, .ref a_t_text, .ref a_t_works, .ref a_t_highs, .ref a_t_trade])), (a_t_now, .inr (2, [.ref a_t_now_row, .int t_now_length, .int t_now_shorter, .int t_now_longer, .int t_now_memory, .int t_now_limit, .int t_now_seasonDays, .int t_now_stopped, .int t_now_stopPart, .int t_now_stopReason])), (a_t_now_row, .inl (G.2.1, 60, .inl t_now_row))] rE (some (.int rr)) [(a_t, .inr (7, [.ref a_t_now, .ref a_t_trial, .ref a_t_snapshot, .int t_snapshotTaken, .ref a_t_history, .ref a_t_text, .ref a_t_works, .ref a_t_highs, .ref a_t_trade])), (a_t_now, .inr (2, [.ref a_t_now_row, .int t_now_length, .int t_now_shorter, .int t_now_longer, .int t_now_memory, .int t_now_limit, .int t_now_seasonDays, .int t_now_stopped, .int t_now_stopPart, .int t_now_stopReason])), (a_t_now_row, .inl (G.2.1, 60, .inl t_now_row))] := by
  refine XM.ofW (C := RX11) (by decide) rfl (Nat.le_of_ble_eq_true rfl) ?_
  intro p e s m below meth c A hF hr hlk hG hA hP hD hZ hout ls hl
  have hl : lv_has ls 2 [(0, .ref a_t), (1, .int x1)] := hl
  have hx := hF.1
  have hb := hF.2.1
  have hml := hF.2.2.1
  have hown := hF.2.2.2.1
  have hts := hF.2.2.2.2
  have hS : va_S A s.heap s.heap [] := va_S.rf
  unfold f_X11_isCrease at hf
  refine lv_aload_n hx hb dX11_isCrease_0 rfl (lv_at hl 0 rfl) ?_
  refine lv_iload_n hx hb dX11_isCrease_1 rfl (lv_at hl 1 rfl) ?_
  obtain ⟨e_1, hq, hf⟩ := bd1_some hf
  refine xwV (As := [.int x1]) (rest := []) (wn := [(a_t, .inr (7, [.ref a_t_now, .ref a_t_trial, .ref a_t_snapshot, .int t_snapshotTaken, .ref a_t_history, .ref a_t_text, .ref a_t_works, .ref a_t_highs, .ref a_t_trade])), (a_t_now, .inr (2, [.ref a_t_now_row, .int t_now_length, .int t_now_shorter, .int t_now_longer, .int t_now_memory, .int t_now_limit, .int t_now_seasonDays, .int t_now_stopped, .int t_now_stopPart, .int t_now_stopReason])), (a_t_now_row, .inl (G.2.1, 60, .inl t_now_row))]) hF hG hP hD hS hA hZ hl.1 (c_X11_requireDay l G a_t a_t_trial a_t_snapshot t_snapshotTaken a_t_history a_t_text a_t_works a_t_highs a_t_trade a_t_now a_t_now_row t_now_length t_now_shorter t_now_longer t_now_memory t_now_limit t_now_seasonDays t_now_stopped t_now_stopPart t_now_stopReason x1 e_1 hq hst) k_X11_requireDay q680 [0, 1] [2] [1, 2, 0] rfl rfl rfl rfl ⟨rfl, rfl⟩ (by decide) ⟨0, 7, _, _, rfl, rfl, rfl⟩ rfl rfl (Nat.le_of_ble_eq_true rfl) ⟨(Nat.le_of_ble_eq_true rfl), (Nat.le_of_ble_eq_true rfl)⟩ ⟨(Nat.le_of_ble_eq_true rfl), (Nat.le_of_ble_eq_true rfl)⟩ dX11_isCrease_2 (fun hE ce q9 H locs hP hD hS hce hcv hcl => ?_) (fun hE H locs hP hD hS => ?_)
  · have hf := (if_neg hE).symm.trans hf
    have hf : (some (e_1, 0) : Option (String × Int32)) = some (rE, rr) := hf
    cases hf
    exact xo hout hlk hE hP hD hS hce hcv hcl (Nat.le_of_ble_eq_true rfl) (Nat.le_of_ble_eq_true rfl)
  have hf := (if_pos hE).symm.trans hf
  refine lv_aload_n hx hb dX11_isCrease_5 rfl (lv_at hl 0 rfl) ?_
  refine gf (C := RX11) (T := TX11) (N := 9) (ci := 7) (v := .ref a_t_now) hF hG hP inX11 0 rfl rfl 0 (by decide) q204 rfl rfl dX11_isCrease_6 ?_
  refine lv_iload_n hx hb dX11_isCrease_9 rfl (lv_at hl 1 rfl) ?_
  obtain ⟨r_2, hq, hf⟩ := bd1_some hf
  refine rdSN (As := [.ref a_t_now, .int x1]) (rest := []) hF hG hP hl.1 (c_X0_standsOut l G a_t_now t_now_length t_now_shorter t_now_longer t_now_memory t_now_limit t_now_seasonDays t_now_stopped t_now_stopPart t_now_stopReason a_t_now_row t_now_row x1 r_2 hq) k_X0_standsOut n472 [1, 2] rfl rfl rfl (Nat.le_of_ble_eq_true rfl) ⟨(Nat.le_of_ble_eq_true rfl), (Nat.le_of_ble_eq_true rfl)⟩ ⟨(Nat.le_of_ble_eq_true rfl), (Nat.le_of_ble_eq_true rfl)⟩ dX11_isCrease_10 ?_
  obtain ⟨hz, hf⟩ := gd_some hf
  have hf : (some ("", r_2) : Option (String × Int32)) = some (rE, rr) := hf
  cases hf
  exact xe_z hF hr hlk hP hD hS (Nat.le_of_ble_eq_true rfl) (Nat.le_of_ble_eq_true rfl) dX11_isCrease_13 hz rfl
def f_X11_high (t_now_length : Int32) (t_now_longer : Int32) (t_now_row : Nat → Int32) (x1 : Int32) : Option (String × Int32) := bd1 (f_X11_requireDay t_now_length x1) (fun (e_1 : String) => if e_1 = "" then (bd1 (f_X2_byLooking t_now_longer t_now_row x1) (fun (r_2 : Int32) => some ("", r_2))) else some (e_1, 0))
theorem k_X11_high : KV yX11_high cX11_high 2 (some .int) 1 := ⟨qc_yX11_high, q1, ⟨by decide +kernel, by decide +kernel, by decide +kernel⟩, qi_yX11_high, qs_yX11_high⟩
abbrev mc_X11_high : Nat := 1
abbrev ms_X11_high : Nat := 6
abbrev RM_X11_high : Room := { frames := 9, cells := 1, slots := 6, locals := 141 }
set_option maxHeartbeats 4000000 in
set_option maxRecDepth 100000 in
theorem c_X11_high (l : Launch) (G : GP) (a_t : Nat) (a_t_trial : Nat) (a_t_snapshot : Nat) (t_snapshotTaken : Int32) (a_t_history : Nat) (a_t_text : Nat) (a_t_works : Nat) (a_t_highs : Nat) (a_t_trade : Nat) (a_t_now : Nat) (t_now_length : Int32) (t_now_shorter : Int32) (t_now_longer : Int32) (t_now_memory : Int32) (t_now_limit : Int32) (t_now_seasonDays : Int32) (t_now_stopped : Int32) (t_now_stopPart : Int32) (t_now_stopReason : Int32) (a_t_now_row : Nat) (t_now_row : Nat → Int32) (x1 : Int32) (rE : String) (rr : Int32) (hf : f_X11_high t_now_length t_now_longer t_now_row x1 = some (rE, rr)) (hst : l.stackTraces = false) : XM l yX11_high cX11_high 2 (some .int) 9 141 1 6 G [.ref a_t, .int x1] [(a_t, .inr (7, [.ref a_t_now, .ref a_t_trial, .ref a_t_snapshot, .int t_snapshotTaken, .ref a_t_history, .ref a_t_text, .ref a_t_works, .ref a_t_highs, .ref a_t_trade])), (a_t_now, .inr (2, [.ref a_t_now_row, .int t_now_length, .int t_now_shorter, .int t_now_longer, .int t_now_memory, .int t_now_limit, .int t_now_seasonDays, .int t_now_stopped, .int t_now_stopPart, .int t_now_stopReason])), (a_t_now_row, .inl (G.2.1, 60, .inl t_now_row))] rE (some (.int rr)) [(a_t, .inr (7, [.ref a_t_now, .ref a_t_trial, .ref a_t_snapshot, .int t_snapshotTaken, .ref a_t_history, .ref a_t_text, .ref a_t_works, .ref a_t_highs, .ref a_t_trade])), (a_t_now, .inr (2, [.ref a_t_now_row, .int t_now_length, .int t_now_shorter, .int t_now_longer, .int t_now_memory, .int t_now_limit, .int t_now_seasonDays, .int t_now_stopped, .int t_now_stopPart, .int t_now_stopReason])), (a_t_now_row, .inl (G.2.1, 60, .inl t_now_row))] := by
  refine XM.ofW (C := RX11) (by decide) rfl (Nat.le_of_ble_eq_true rfl) ?_
  intro p e s m below meth c A hF hr hlk hG hA hP hD hZ hout ls hl
  have hl : lv_has ls 2 [(0, .ref a_t), (1, .int x1)] := hl
  have hx := hF.1
  have hb := hF.2.1
  have hml := hF.2.2.1
  have hown := hF.2.2.2.1
  have hts := hF.2.2.2.2
  have hS : va_S A s.heap s.heap [] := va_S.rf
  unfold f_X11_high at hf
  refine lv_aload_n hx hb dX11_high_0 rfl (lv_at hl 0 rfl) ?_
  refine lv_iload_n hx hb dX11_high_1 rfl (lv_at hl 1 rfl) ?_
  obtain ⟨e_1, hq, hf⟩ := bd1_some hf
  refine xwV (As := [.int x1]) (rest := []) (wn := [(a_t, .inr (7, [.ref a_t_now, .ref a_t_trial, .ref a_t_snapshot, .int t_snapshotTaken, .ref a_t_history, .ref a_t_text, .ref a_t_works, .ref a_t_highs, .ref a_t_trade])), (a_t_now, .inr (2, [.ref a_t_now_row, .int t_now_length, .int t_now_shorter, .int t_now_longer, .int t_now_memory, .int t_now_limit, .int t_now_seasonDays, .int t_now_stopped, .int t_now_stopPart, .int t_now_stopReason])), (a_t_now_row, .inl (G.2.1, 60, .inl t_now_row))]) hF hG hP hD hS hA hZ hl.1 (c_X11_requireDay l G a_t a_t_trial a_t_snapshot t_snapshotTaken a_t_history a_t_text a_t_works a_t_highs a_t_trade a_t_now a_t_now_row t_now_length t_now_shorter t_now_longer t_now_memory t_now_limit t_now_seasonDays t_now_stopped t_now_stopPart t_now_stopReason x1 e_1 hq hst) k_X11_requireDay q680 [0, 1] [2] [1, 2, 0] rfl rfl rfl rfl ⟨rfl, rfl⟩ (by decide) ⟨0, 7, _, _, rfl, rfl, rfl⟩ rfl rfl (Nat.le_of_ble_eq_true rfl) ⟨(Nat.le_of_ble_eq_true rfl), (Nat.le_of_ble_eq_true rfl)⟩ ⟨(Nat.le_of_ble_eq_true rfl), (Nat.le_of_ble_eq_true rfl)⟩ dX11_high_2 (fun hE ce q9 H locs hP hD hS hce hcv hcl => ?_) (fun hE H locs hP hD hS => ?_)
  · have hf := (if_neg hE).symm.trans hf
    have hf : (some (e_1, 0) : Option (String × Int32)) = some (rE, rr) := hf
    cases hf
    exact xo hout hlk hE hP hD hS hce hcv hcl (Nat.le_of_ble_eq_true rfl) (Nat.le_of_ble_eq_true rfl)
  have hf := (if_pos hE).symm.trans hf
  refine lv_aload_n hx hb dX11_high_5 rfl (lv_at hl 0 rfl) ?_
  refine gf (C := RX11) (T := TX11) (N := 9) (ci := 7) (v := .ref a_t_now) hF hG hP inX11 0 rfl rfl 0 (by decide) q204 rfl rfl dX11_high_6 ?_
  refine lv_iload_n hx hb dX11_high_9 rfl (lv_at hl 1 rfl) ?_
  obtain ⟨r_2, hq, hf⟩ := bd1_some hf
  refine rdSN (As := [.ref a_t_now, .int x1]) (rest := []) hF hG hP hl.1 (c_X2_byLooking l G a_t_now t_now_length t_now_shorter t_now_longer t_now_memory t_now_limit t_now_seasonDays t_now_stopped t_now_stopPart t_now_stopReason a_t_now_row t_now_row x1 r_2 hq) k_X2_byLooking n473 [1, 2] rfl rfl rfl (Nat.le_of_ble_eq_true rfl) ⟨(Nat.le_of_ble_eq_true rfl), (Nat.le_of_ble_eq_true rfl)⟩ ⟨(Nat.le_of_ble_eq_true rfl), (Nat.le_of_ble_eq_true rfl)⟩ dX11_high_10 ?_
  have hf : (some ("", r_2) : Option (String × Int32)) = some (rE, rr) := hf
  cases hf
  exact xe_i hF hr hlk hP hD hS (Nat.le_of_ble_eq_true rfl) (Nat.le_of_ble_eq_true rfl) dX11_high_13 rfl
def f_X11_highByCandidates (t_now_length : Int32) (t_now_longer : Int32) (t_now_row : Nat → Int32) (t_highs_front : Int32) (t_highs_end : Int32) (t_highs_candidates : Nat → Int32) (x1 : Int32) : Option (String × Int32 × Int32 × Int32 × (Nat → Int32)) := bd1 (f_X11_requireDay t_now_length x1) (fun (e_1 : String) => if e_1 = "" then (bd4 (f_X2_byRow t_highs_front t_highs_end t_highs_candidates t_now_longer t_now_row x1) (fun (r_2 : Int32) (t_highs_front_3 : Int32) (t_highs_end_4 : Int32) (t_highs_candidates_5 : Nat → Int32) => some ("", r_2, t_highs_front_3, t_highs_end_4, t_highs_candidates_5))) else some (e_1, 0, t_highs_front, t_highs_end, t_highs_candidates))
theorem k_X11_highByCandidates : KV yX11_highByCandidates cX11_highByCandidates 2 (some .int) 1 := ⟨qc_yX11_highByCandidates, q1, ⟨by decide +kernel, by decide +kernel, by decide +kernel⟩, qi_yX11_highByCandidates, qs_yX11_highByCandidates⟩
abbrev mc_X11_highByCandidates : Nat := 1
abbrev ms_X11_highByCandidates : Nat := 6
abbrev RM_X11_highByCandidates : Room := { frames := 9, cells := 1, slots := 6, locals := 141 }
set_option maxHeartbeats 4000000 in
set_option maxRecDepth 100000 in
theorem c_X11_highByCandidates (l : Launch) (G : GP) (a_t : Nat) (a_t_trial : Nat) (a_t_snapshot : Nat) (t_snapshotTaken : Int32) (a_t_history : Nat) (a_t_text : Nat) (a_t_works : Nat) (a_t_trade : Nat) (a_t_now : Nat) (t_now_length : Int32) (t_now_shorter : Int32) (t_now_longer : Int32) (t_now_memory : Int32) (t_now_limit : Int32) (t_now_seasonDays : Int32) (t_now_stopped : Int32) (t_now_stopPart : Int32) (t_now_stopReason : Int32) (a_t_now_row : Nat) (t_now_row : Nat → Int32) (a_t_highs : Nat) (t_highs_front : Int32) (t_highs_end : Int32) (a_t_highs_candidates : Nat) (t_highs_candidates : Nat → Int32) (x1 : Int32) (rE : String) (rr : Int32) (w_t_highs_front : Int32) (w_t_highs_end : Int32) (w_t_highs_candidates : Nat → Int32) (hf : f_X11_highByCandidates t_now_length t_now_longer t_now_row t_highs_front t_highs_end t_highs_candidates x1 = some (rE, rr, w_t_highs_front, w_t_highs_end, w_t_highs_candidates)) (hst : l.stackTraces = false) : XM l yX11_highByCandidates cX11_highByCandidates 2 (some .int) 9 141 1 6 G [.ref a_t, .int x1] [(a_t, .inr (7, [.ref a_t_now, .ref a_t_trial, .ref a_t_snapshot, .int t_snapshotTaken, .ref a_t_history, .ref a_t_text, .ref a_t_works, .ref a_t_highs, .ref a_t_trade])), (a_t_now, .inr (2, [.ref a_t_now_row, .int t_now_length, .int t_now_shorter, .int t_now_longer, .int t_now_memory, .int t_now_limit, .int t_now_seasonDays, .int t_now_stopped, .int t_now_stopPart, .int t_now_stopReason])), (a_t_now_row, .inl (G.2.1, 60, .inl t_now_row)), (a_t_highs, .inr (0, [.ref a_t_highs_candidates, .int t_highs_front, .int t_highs_end])), (a_t_highs_candidates, .inl (G.2.1, 60, .inl t_highs_candidates))] rE (some (.int rr)) [(a_t, .inr (7, [.ref a_t_now, .ref a_t_trial, .ref a_t_snapshot, .int t_snapshotTaken, .ref a_t_history, .ref a_t_text, .ref a_t_works, .ref a_t_highs, .ref a_t_trade])), (a_t_now, .inr (2, [.ref a_t_now_row, .int t_now_length, .int t_now_shorter, .int t_now_longer, .int t_now_memory, .int t_now_limit, .int t_now_seasonDays, .int t_now_stopped, .int t_now_stopPart, .int t_now_stopReason])), (a_t_now_row, .inl (G.2.1, 60, .inl t_now_row)), (a_t_highs, .inr (0, [.ref a_t_highs_candidates, .int w_t_highs_front, .int w_t_highs_end])), (a_t_highs_candidates, .inl (G.2.1, 60, .inl w_t_highs_candidates))] := by
  refine XM.ofW (C := RX11) (by decide) rfl (Nat.le_of_ble_eq_true rfl) ?_
  intro p e s m below meth c A hF hr hlk hG hA hP hD hZ hout ls hl
  have hl : lv_has ls 2 [(0, .ref a_t), (1, .int x1)] := hl
  have hx := hF.1
  have hb := hF.2.1
  have hml := hF.2.2.1
  have hown := hF.2.2.2.1
  have hts := hF.2.2.2.2
  have hS : va_S A s.heap s.heap [] := va_S.rf
  unfold f_X11_highByCandidates at hf
  refine lv_aload_n hx hb dX11_highByCandidates_0 rfl (lv_at hl 0 rfl) ?_
  refine lv_iload_n hx hb dX11_highByCandidates_1 rfl (lv_at hl 1 rfl) ?_
  obtain ⟨e_1, hq, hf⟩ := bd1_some hf
  refine xwV (As := [.int x1]) (rest := []) (wn := [(a_t, .inr (7, [.ref a_t_now, .ref a_t_trial, .ref a_t_snapshot, .int t_snapshotTaken, .ref a_t_history, .ref a_t_text, .ref a_t_works, .ref a_t_highs, .ref a_t_trade])), (a_t_now, .inr (2, [.ref a_t_now_row, .int t_now_length, .int t_now_shorter, .int t_now_longer, .int t_now_memory, .int t_now_limit, .int t_now_seasonDays, .int t_now_stopped, .int t_now_stopPart, .int t_now_stopReason])), (a_t_now_row, .inl (G.2.1, 60, .inl t_now_row)), (a_t_highs, .inr (0, [.ref a_t_highs_candidates, .int t_highs_front, .int t_highs_end])), (a_t_highs_candidates, .inl (G.2.1, 60, .inl t_highs_candidates))]) hF hG hP hD hS hA hZ hl.1 (c_X11_requireDay l G a_t a_t_trial a_t_snapshot t_snapshotTaken a_t_history a_t_text a_t_works a_t_highs a_t_trade a_t_now a_t_now_row t_now_length t_now_shorter t_now_longer t_now_memory t_now_limit t_now_seasonDays t_now_stopped t_now_stopPart t_now_stopReason x1 e_1 hq hst) k_X11_requireDay q680 [0, 1] [2, 3, 4] [3, 4, 0, 1, 2] rfl rfl rfl rfl ⟨rfl, rfl⟩ (by decide) ⟨0, 7, _, _, rfl, rfl, rfl⟩ rfl rfl (Nat.le_of_ble_eq_true rfl) ⟨(Nat.le_of_ble_eq_true rfl), (Nat.le_of_ble_eq_true rfl)⟩ ⟨(Nat.le_of_ble_eq_true rfl), (Nat.le_of_ble_eq_true rfl)⟩ dX11_highByCandidates_2 (fun hE ce q9 H locs hP hD hS hce hcv hcl => ?_) (fun hE H locs hP hD hS => ?_)
  · have hf := (if_neg hE).symm.trans hf
    have hf : (some (e_1, 0, t_highs_front, t_highs_end, t_highs_candidates) : Option (String × Int32 × Int32 × Int32 × (Nat → Int32))) = some (rE, rr, w_t_highs_front, w_t_highs_end, w_t_highs_candidates) := hf
    cases hf
    exact xo hout hlk hE hP hD hS hce hcv hcl (Nat.le_of_ble_eq_true rfl) (Nat.le_of_ble_eq_true rfl)
  have hf := (if_pos hE).symm.trans hf
  refine lv_aload_n hx hb dX11_highByCandidates_5 rfl (lv_at hl 0 rfl) ?_
  refine gf (C := RX11) (T := TX11) (N := 9) (ci := 7) (v := .ref a_t_highs) hF hG hP inX11 0 rfl rfl 7 (by decide) q211 rfl rfl dX11_highByCandidates_6 ?_
  refine lv_aload_n hx hb dX11_highByCandidates_9 rfl (lv_at hl 0 rfl) ?_
  refine gf (C := RX11) (T := TX11) (N := 9) (ci := 7) (v := .ref a_t_now) hF hG hP inX11 0 rfl rfl 0 (by decide) q204 rfl rfl dX11_highByCandidates_10 ?_
  refine lv_iload_n hx hb dX11_highByCandidates_13 rfl (lv_at hl 1 rfl) ?_
  obtain ⟨r_2, t_highs_front_3, t_highs_end_4, t_highs_candidates_5, hq, hf⟩ := bd4_some hf
  refine wrVN (As := [.ref a_t_now, .int x1]) (rest := []) (wn := [(a_t, .inr (7, [.ref a_t_now, .ref a_t_trial, .ref a_t_snapshot, .int t_snapshotTaken, .ref a_t_history, .ref a_t_text, .ref a_t_works, .ref a_t_highs, .ref a_t_trade])), (a_t_now, .inr (2, [.ref a_t_now_row, .int t_now_length, .int t_now_shorter, .int t_now_longer, .int t_now_memory, .int t_now_limit, .int t_now_seasonDays, .int t_now_stopped, .int t_now_stopPart, .int t_now_stopReason])), (a_t_now_row, .inl (G.2.1, 60, .inl t_now_row)), (a_t_highs, .inr (0, [.ref a_t_highs_candidates, .int t_highs_front_3, .int t_highs_end_4])), (a_t_highs_candidates, .inl (G.2.1, 60, .inl t_highs_candidates_5))]) hF hG hP hD hS hA hl.1 (c_X2_byRow l G a_t_highs t_highs_front t_highs_end a_t_highs_candidates t_highs_candidates a_t_now t_now_length t_now_shorter t_now_longer t_now_memory t_now_limit t_now_seasonDays t_now_stopped t_now_stopPart t_now_stopReason a_t_now_row t_now_row x1 r_2 t_highs_front_3 t_highs_end_4 t_highs_candidates_5 hq) k_X2_byRow n477 [3, 4, 1, 2] [0] [0, 3, 4, 1, 2] rfl rfl rfl rfl ⟨rfl, rfl⟩ (by decide) ⟨3, 0, _, _, rfl, rfl, rfl⟩ rfl rfl (Nat.le_of_ble_eq_true rfl) ⟨(Nat.le_of_ble_eq_true rfl), (Nat.le_of_ble_eq_true rfl)⟩ ⟨(Nat.le_of_ble_eq_true rfl), (Nat.le_of_ble_eq_true rfl)⟩ dX11_highByCandidates_14 (fun H locs hP hD hS => ?_)
  have hf : (some ("", r_2, t_highs_front_3, t_highs_end_4, t_highs_candidates_5) : Option (String × Int32 × Int32 × Int32 × (Nat → Int32))) = some (rE, rr, w_t_highs_front, w_t_highs_end, w_t_highs_candidates) := hf
  cases hf
  exact xe_i hF hr hlk hP hD hS (Nat.le_of_ble_eq_true rfl) (Nat.le_of_ble_eq_true rfl) dX11_highByCandidates_17 rfl
def f_X11_crossing (t_now_length : Int32) (t_now_shorter : Int32) (t_now_longer : Int32) (t_now_row : Nat → Int32) (x1 : Int32) : Option (String × Int32) := bd1 (f_X11_requireDay t_now_length x1) (fun (e_1 : String) => if e_1 = "" then (bd1 (f_X9_crossingAt t_now_shorter t_now_longer t_now_row x1) (fun (r_2 : Int32) => some ("", r_2))) else some (e_1, 0))
theorem k_X11_crossing : KV yX11_crossing cX11_crossing 2 (some .int) 1 := ⟨qc_yX11_crossing, q1, ⟨by decide +kernel, by decide +kernel, by decide +kernel⟩, qi_yX11_crossing, qs_yX11_crossing⟩
abbrev mc_X11_crossing : Nat := 1
abbrev ms_X11_crossing : Nat := 6
abbrev RM_X11_crossing : Room := { frames := 9, cells := 1, slots := 6, locals := 141 }
set_option maxHeartbeats 4000000 in
set_option maxRecDepth 100000 in
theorem c_X11_crossing (l : Launch) (G : GP) (a_t : Nat) (a_t_trial : Nat) (a_t_snapshot : Nat) (t_snapshotTaken : Int32) (a_t_history : Nat) (a_t_text : Nat) (a_t_works : Nat) (a_t_highs : Nat) (a_t_trade : Nat) (a_t_now : Nat) (t_now_length : Int32) (t_now_shorter : Int32) (t_now_longer : Int32) (t_now_memory : Int32) (t_now_limit : Int32) (t_now_seasonDays : Int32) (t_now_stopped : Int32) (t_now_stopPart : Int32) (t_now_stopReason : Int32) (a_t_now_row : Nat) (t_now_row : Nat → Int32) (x1 : Int32) (rE : String) (rr : Int32) (hf : f_X11_crossing t_now_length t_now_shorter t_now_longer t_now_row x1 = some (rE, rr)) (hst : l.stackTraces = false) : XM l yX11_crossing cX11_crossing 2 (some .int) 9 141 1 6 G [.ref a_t, .int x1] [(a_t, .inr (7, [.ref a_t_now, .ref a_t_trial, .ref a_t_snapshot, .int t_snapshotTaken, .ref a_t_history, .ref a_t_text, .ref a_t_works, .ref a_t_highs, .ref a_t_trade])), (a_t_now, .inr (2, [.ref a_t_now_row, .int t_now_length, .int t_now_shorter, .int t_now_longer, .int t_now_memory, .int t_now_limit, .int t_now_seasonDays, .int t_now_stopped, .int t_now_stopPart, .int t_now_stopReason])), (a_t_now_row, .inl (G.2.1, 60, .inl t_now_row))] rE (some (.int rr)) [(a_t, .inr (7, [.ref a_t_now, .ref a_t_trial, .ref a_t_snapshot, .int t_snapshotTaken, .ref a_t_history, .ref a_t_text, .ref a_t_works, .ref a_t_highs, .ref a_t_trade])), (a_t_now, .inr (2, [.ref a_t_now_row, .int t_now_length, .int t_now_shorter, .int t_now_longer, .int t_now_memory, .int t_now_limit, .int t_now_seasonDays, .int t_now_stopped, .int t_now_stopPart, .int t_now_stopReason])), (a_t_now_row, .inl (G.2.1, 60, .inl t_now_row))] := by
  refine XM.ofW (C := RX11) (by decide) rfl (Nat.le_of_ble_eq_true rfl) ?_
  intro p e s m below meth c A hF hr hlk hG hA hP hD hZ hout ls hl
  have hl : lv_has ls 2 [(0, .ref a_t), (1, .int x1)] := hl
  have hx := hF.1
  have hb := hF.2.1
  have hml := hF.2.2.1
  have hown := hF.2.2.2.1
  have hts := hF.2.2.2.2
  have hS : va_S A s.heap s.heap [] := va_S.rf
  unfold f_X11_crossing at hf
  refine lv_aload_n hx hb dX11_crossing_0 rfl (lv_at hl 0 rfl) ?_
  refine lv_iload_n hx hb dX11_crossing_1 rfl (lv_at hl 1 rfl) ?_
  obtain ⟨e_1, hq, hf⟩ := bd1_some hf
  refine xwV (As := [.int x1]) (rest := []) (wn := [(a_t, .inr (7, [.ref a_t_now, .ref a_t_trial, .ref a_t_snapshot, .int t_snapshotTaken, .ref a_t_history, .ref a_t_text, .ref a_t_works, .ref a_t_highs, .ref a_t_trade])), (a_t_now, .inr (2, [.ref a_t_now_row, .int t_now_length, .int t_now_shorter, .int t_now_longer, .int t_now_memory, .int t_now_limit, .int t_now_seasonDays, .int t_now_stopped, .int t_now_stopPart, .int t_now_stopReason])), (a_t_now_row, .inl (G.2.1, 60, .inl t_now_row))]) hF hG hP hD hS hA hZ hl.1 (c_X11_requireDay l G a_t a_t_trial a_t_snapshot t_snapshotTaken a_t_history a_t_text a_t_works a_t_highs a_t_trade a_t_now a_t_now_row t_now_length t_now_shorter t_now_longer t_now_memory t_now_limit t_now_seasonDays t_now_stopped t_now_stopPart t_now_stopReason x1 e_1 hq hst) k_X11_requireDay q680 [0, 1] [2] [1, 2, 0] rfl rfl rfl rfl ⟨rfl, rfl⟩ (by decide) ⟨0, 7, _, _, rfl, rfl, rfl⟩ rfl rfl (Nat.le_of_ble_eq_true rfl) ⟨(Nat.le_of_ble_eq_true rfl), (Nat.le_of_ble_eq_true rfl)⟩ ⟨(Nat.le_of_ble_eq_true rfl), (Nat.le_of_ble_eq_true rfl)⟩ dX11_crossing_2 (fun hE ce q9 H locs hP hD hS hce hcv hcl => ?_) (fun hE H locs hP hD hS => ?_)
  · have hf := (if_neg hE).symm.trans hf
    have hf : (some (e_1, 0) : Option (String × Int32)) = some (rE, rr) := hf
    cases hf
    exact xo hout hlk hE hP hD hS hce hcv hcl (Nat.le_of_ble_eq_true rfl) (Nat.le_of_ble_eq_true rfl)
  have hf := (if_pos hE).symm.trans hf
  refine lv_aload_n hx hb dX11_crossing_5 rfl (lv_at hl 0 rfl) ?_
  refine gf (C := RX11) (T := TX11) (N := 9) (ci := 7) (v := .ref a_t_now) hF hG hP inX11 0 rfl rfl 0 (by decide) q204 rfl rfl dX11_crossing_6 ?_
  refine lv_iload_n hx hb dX11_crossing_9 rfl (lv_at hl 1 rfl) ?_
  obtain ⟨r_2, hq, hf⟩ := bd1_some hf
  refine rdSN (As := [.ref a_t_now, .int x1]) (rest := []) hF hG hP hl.1 (c_X9_crossingAt l G a_t_now t_now_length t_now_shorter t_now_longer t_now_memory t_now_limit t_now_seasonDays t_now_stopped t_now_stopPart t_now_stopReason a_t_now_row t_now_row x1 r_2 hq) k_X9_crossingAt n493 [1, 2] rfl rfl rfl (Nat.le_of_ble_eq_true rfl) ⟨(Nat.le_of_ble_eq_true rfl), (Nat.le_of_ble_eq_true rfl)⟩ ⟨(Nat.le_of_ble_eq_true rfl), (Nat.le_of_ble_eq_true rfl)⟩ dX11_crossing_10 ?_
  have hf : (some ("", r_2) : Option (String × Int32)) = some (rE, rr) := hf
  cases hf
  exact xe_i hF hr hlk hP hD hS (Nat.le_of_ble_eq_true rfl) (Nat.le_of_ble_eq_true rfl) dX11_crossing_13 rfl
def l_X9_runTo_6 (p1_shorter : Int32) (p1_longer : Int32) (p1_row : Nat → Int32) (x2 : Int32) : Nat → Int32 → Int64 → Int32 → Option (Int64 × Int32)
  | 0, _, _, _ => none
  | n + 1, i3_3, t_coins_4, t_held_5 => (if x2 < i3_3 then some (t_coins_4, t_held_5) else bd2 (f_X9_pass t_coins_4 t_held_5 p1_shorter p1_longer p1_row i3_3) (fun (t_coins_8 : Int64) (t_held_9 : Int32) => l_X9_runTo_6 p1_shorter p1_longer p1_row x2 n (i3_3 + 1) t_coins_8 t_held_9))
def f_X9_runTo (t_coins : Int64) (t_held : Int32) (p1_shorter : Int32) (p1_longer : Int32) (p1_row : Nat → Int32) (x2 : Int32) : Option (Int64 × Int32) := bd2 (f_X9_start t_coins t_held) (fun (t_coins_1 : Int64) (t_held_2 : Int32) => bd2 (l_X9_runTo_6 p1_shorter p1_longer p1_row x2 1000 0 t_coins_1 t_held_2) (fun (t_coins_6 : Int64) (t_held_7 : Int32) => some (t_coins_6, t_held_7)))
theorem k_X9_runTo : KV yX9_runTo cX9_runTo 4 none 2 := ⟨qc_yX9_runTo, q8, ⟨by decide +kernel, by decide +kernel, by decide +kernel⟩, qi_yX9_runTo, qs_yX9_runTo⟩
abbrev RM_X9_runTo : Room := { frames := 5, cells := 0, slots := 0, locals := 121 }
set_option maxHeartbeats 4000000 in
set_option maxRecDepth 100000 in
theorem c_X9_runTo (l : Launch) (G : GP) (a_t : Nat) (t_coins : Int64) (t_held : Int32) (a_p1 : Nat) (p1_length : Int32) (p1_shorter : Int32) (p1_longer : Int32) (p1_memory : Int32) (p1_limit : Int32) (p1_seasonDays : Int32) (p1_stopped : Int32) (p1_stopPart : Int32) (p1_stopReason : Int32) (a_p1_row : Nat) (p1_row : Nat → Int32) (x2 : Int32) (w_t_coins : Int64) (w_t_held : Int32) (hf : f_X9_runTo t_coins t_held p1_shorter p1_longer p1_row x2 = some (w_t_coins, w_t_held)) : WM l yX9_runTo cX9_runTo 4 none 5 121 G [.ref a_t, .ref a_p1, .int x2] [(a_t, .inr (5, [.long t_coins, .int t_held])), (a_p1, .inr (2, [.ref a_p1_row, .int p1_length, .int p1_shorter, .int p1_longer, .int p1_memory, .int p1_limit, .int p1_seasonDays, .int p1_stopped, .int p1_stopPart, .int p1_stopReason])), (a_p1_row, .inl (G.2.1, 60, .inl p1_row))] none [(a_t, .inr (5, [.long w_t_coins, .int w_t_held])), (a_p1, .inr (2, [.ref a_p1_row, .int p1_length, .int p1_shorter, .int p1_longer, .int p1_memory, .int p1_limit, .int p1_seasonDays, .int p1_stopped, .int p1_stopPart, .int p1_stopReason])), (a_p1_row, .inl (G.2.1, 60, .inl p1_row))] := by
  refine WM.ofW (C := RX9) (by decide) rfl (Nat.le_of_ble_eq_true rfl) ?_
  intro p e s m below meth c A hF hr hlk hG hA hP hD ls hl
  have hl : lv_has ls 4 [(0, .ref a_t), (1, .ref a_p1), (2, .int x2)] := hl
  have hx := hF.1
  have hb := hF.2.1
  have hml := hF.2.2.1
  have hown := hF.2.2.2.1
  have hts := hF.2.2.2.2
  have hS : va_S A s.heap s.heap [] := va_S.rf
  unfold f_X9_runTo at hf
  refine lv_aload_n hx hb dX9_runTo_0 rfl (lv_at hl 0 rfl) ?_
  obtain ⟨t_coins_1, t_held_2, hq, hf⟩ := bd2_some hf
  refine wrV (As := []) (rest := []) (wn := [(a_t, .inr (5, [.long t_coins_1, .int t_held_2])), (a_p1, .inr (2, [.ref a_p1_row, .int p1_length, .int p1_shorter, .int p1_longer, .int p1_memory, .int p1_limit, .int p1_seasonDays, .int p1_stopped, .int p1_stopPart, .int p1_stopReason])), (a_p1_row, .inl (G.2.1, 60, .inl p1_row))]) hF hG hP hD hS hA hl.1 (c_X9_start l G a_t t_coins t_held t_coins_1 t_held_2 hq) k_X9_start q955 [0] [1, 2] [2, 0, 1] rfl rfl rfl rfl ⟨rfl, rfl⟩ (by decide) ⟨0, 5, _, _, rfl, rfl, rfl⟩ rfl rfl (Nat.le_of_ble_eq_true rfl) ⟨(Nat.le_of_ble_eq_true rfl), (Nat.le_of_ble_eq_true rfl)⟩ ⟨(Nat.le_of_ble_eq_true rfl), (Nat.le_of_ble_eq_true rfl)⟩ dX9_runTo_1 (fun H locs hP hD hS => ?_)
  refine lv_iconst (v := 0) hx hb dX9_runTo_4 (by decide) ?_
  refine lv_istore_n (lv' := [(3, .int 0), (0, .ref a_t), (1, .ref a_p1), (2, .int x2)]) hx hb dX9_runTo_5 rfl hl (by decide) rfl (fun ls hl => ?_)
  obtain ⟨t_coins_6, t_held_7, hq, hf⟩ := bd2_some hf
  have K6 : ∀ (H : Heap) (locs : List Loc), va_P G.1 vwCl ([(a_t, .inr (5, [.long t_coins_6, .int t_held_7])), (a_p1, .inr (2, [.ref a_p1_row, .int p1_length, .int p1_shorter, .int p1_longer, .int p1_memory, .int p1_limit, .int p1_seasonDays, .int p1_stopped, .int p1_stopPart, .int p1_stopReason])), (a_p1_row, .inl (G.2.1, 60, .inl p1_row))] : va_W) H → va_D A ([(a_t, .inr (5, [.long t_coins_6, .int t_held_7])), (a_p1, .inr (2, [.ref a_p1_row, .int p1_length, .int p1_shorter, .int p1_longer, .int p1_memory, .int p1_limit, .int p1_seasonDays, .int p1_stopped, .int p1_stopPart, .int p1_stopReason])), (a_p1_row, .inl (G.2.1, 60, .inl p1_row))] : va_W) → va_S A s.heap H locs → ∀ ls : Array Slot, lv_has ls 4 [] → W p l e RM_X9_runTo s m [.ref a_t, .ref a_p1, .int x2].toArray below meth c H locs 0 0 (MQ below (wrQ none G [(a_t, .inr (5, [.long w_t_coins, .int w_t_held])), (a_p1, .inr (2, [.ref a_p1_row, .int p1_length, .int p1_shorter, .int p1_longer, .int p1_memory, .int p1_limit, .int p1_seasonDays, .int p1_stopped, .int p1_stopPart, .int p1_stopReason])), (a_p1_row, .inl (G.2.1, 60, .inl p1_row))] A) [.ref a_t, .ref a_p1, .int x2].toArray s 0 0 A) (F0 m 23 ls []) := by
    intro H locs hP hD hS ls hl
    have hf : (some (t_coins_6, t_held_7) : Option (Int64 × Int32)) = some (w_t_coins, w_t_held) := hf
    cases hf
    exact we_v hF hr hlk hP hD hS dX9_runTo_23 rfl
  clear hf
  have L6 : ∀ (n : Nat) (i3_3 : Int32) (t_coins_4 : Int64) (t_held_5 : Int32), l_X9_runTo_6 p1_shorter p1_longer p1_row x2 n i3_3 t_coins_4 t_held_5 = some (t_coins_6, t_held_7) → ∀ (H : Heap) (locs : List Loc), va_P G.1 vwCl ([(a_t, .inr (5, [.long t_coins_4, .int t_held_5])), (a_p1, .inr (2, [.ref a_p1_row, .int p1_length, .int p1_shorter, .int p1_longer, .int p1_memory, .int p1_limit, .int p1_seasonDays, .int p1_stopped, .int p1_stopPart, .int p1_stopReason])), (a_p1_row, .inl (G.2.1, 60, .inl p1_row))] : va_W) H → va_D A ([(a_t, .inr (5, [.long t_coins_4, .int t_held_5])), (a_p1, .inr (2, [.ref a_p1_row, .int p1_length, .int p1_shorter, .int p1_longer, .int p1_memory, .int p1_limit, .int p1_seasonDays, .int p1_stopped, .int p1_stopPart, .int p1_stopReason])), (a_p1_row, .inl (G.2.1, 60, .inl p1_row))] : va_W) → va_S A s.heap H locs → ∀ ls : Array Slot, lv_has ls 4 [(0, .ref a_t), (1, .ref a_p1), (2, .int x2), (3, .int i3_3)] → W p l e RM_X9_runTo s m [.ref a_t, .ref a_p1, .int x2].toArray below meth c H locs 0 0 (MQ below (wrQ none G [(a_t, .inr (5, [.long w_t_coins, .int w_t_held])), (a_p1, .inr (2, [.ref a_p1_row, .int p1_length, .int p1_shorter, .int p1_longer, .int p1_memory, .int p1_limit, .int p1_seasonDays, .int p1_stopped, .int p1_stopPart, .int p1_stopReason])), (a_p1_row, .inl (G.2.1, 60, .inl p1_row))] A) [.ref a_t, .ref a_p1, .int x2].toArray s 0 0 A) (F0 m 6 ls []) := by
    intro n
    induction n with
    | zero =>
      intro i3_3 t_coins_4 t_held_5 hf
      exact nomatch (show none = some (t_coins_6, t_held_7) from hf)
    | succ n ih =>
      intro i3_3 t_coins_4 t_held_5 hf H locs hP hD hS ls hl
      rw [l_X9_runTo_6] at hf
      refine lv_iload_n hx hb dX9_runTo_6 rfl (lv_at hl 3 rfl) ?_
      refine lv_iload_n hx hb dX9_runTo_7 rfl (lv_at hl 2 rfl) ?_
      refine lv_icmp_gt (tgt := 23) hx hb dX9_runTo_8 (by decide) (fun c0 => ?_) (fun c0 => ?_)
      · have hf := (if_pos c0).symm.trans hf
        have hf : (some (t_coins_4, t_held_5) : Option (Int64 × Int32)) = some (t_coins_6, t_held_7) := hf
        cases hf
        exact K6 _ _ hP hD hS ls (lv_sub hl [] rfl)
      · have hf := (if_neg c0).symm.trans hf
        refine lv_aload_n hx hb dX9_runTo_11 rfl (lv_at hl 0 rfl) ?_
        refine lv_aload_n hx hb dX9_runTo_12 rfl (lv_at hl 1 rfl) ?_
        refine lv_iload_n hx hb dX9_runTo_13 rfl (lv_at hl 3 rfl) ?_
        obtain ⟨t_coins_8, t_held_9, hq, hf⟩ := bd2_some hf
        refine wrV (As := [.ref a_p1, .int i3_3]) (rest := []) (wn := [(a_t, .inr (5, [.long t_coins_8, .int t_held_9])), (a_p1, .inr (2, [.ref a_p1_row, .int p1_length, .int p1_shorter, .int p1_longer, .int p1_memory, .int p1_limit, .int p1_seasonDays, .int p1_stopped, .int p1_stopPart, .int p1_stopReason])), (a_p1_row, .inl (G.2.1, 60, .inl p1_row))]) hF hG hP hD hS hA hl.1 (c_X9_pass l G a_t t_coins_4 t_held_5 a_p1 p1_length p1_shorter p1_longer p1_memory p1_limit p1_seasonDays p1_stopped p1_stopPart p1_stopReason a_p1_row p1_row i3_3 t_coins_8 t_held_9 hq) k_X9_pass q956 [0, 1, 2] [] [0, 1, 2] rfl rfl rfl rfl ⟨rfl, rfl⟩ (by decide) ⟨0, 5, _, _, rfl, rfl, rfl⟩ rfl rfl (Nat.le_of_ble_eq_true rfl) ⟨(Nat.le_of_ble_eq_true rfl), (Nat.le_of_ble_eq_true rfl)⟩ ⟨(Nat.le_of_ble_eq_true rfl), (Nat.le_of_ble_eq_true rfl)⟩ dX9_runTo_14 (fun H locs hP hD hS => ?_)
        refine lv_iinc (v := (i3_3 + 1)) (lv' := [(3, .int (i3_3 + 1)), (0, .ref a_t), (1, .ref a_p1), (2, .int x2)]) hx hb dX9_runTo_17 hl (k := 3) rfl rfl (by decide) rfl (fun ls hl => ?_)
        refine lv_goto (tgt := 6) hx hb dX9_runTo_20 (by decide) ?_
        exact ih (i3_3 + 1) t_coins_8 t_held_9 hf _ _ hP hD hS ls (lv_sub hl [1, 2, 3, 0] rfl)
  exact L6 1000 0 t_coins_1 t_held_2 hq _ _ hP hD hS ls (lv_sub hl [1, 2, 3, 0] rfl)
def f_X11_pieces (t_now_length : Int32) (t_now_shorter : Int32) (t_now_longer : Int32) (t_now_row : Nat → Int32) (t_trade_coins : Int64) (t_trade_held : Int32) (x1 : Int32) : Option (String × Int32 × Int64 × Int32) := bd1 (f_X11_requireDay t_now_length x1) (fun (e_1 : String) => if e_1 = "" then (bd2 (f_X9_runTo t_trade_coins t_trade_held t_now_shorter t_now_longer t_now_row x1) (fun (t_trade_coins_2 : Int64) (t_trade_held_3 : Int32) => some ("", t_trade_held_3, t_trade_coins_2, t_trade_held_3))) else some (e_1, 0, t_trade_coins, t_trade_held))
theorem k_X11_pieces : KV yX11_pieces cX11_pieces 2 (some .int) 1 := ⟨qc_yX11_pieces, q1, ⟨by decide +kernel, by decide +kernel, by decide +kernel⟩, qi_yX11_pieces, qs_yX11_pieces⟩
abbrev mc_X11_pieces : Nat := 1
abbrev ms_X11_pieces : Nat := 6
abbrev RM_X11_pieces : Room := { frames := 9, cells := 1, slots := 6, locals := 144 }
set_option maxHeartbeats 4000000 in
set_option maxRecDepth 100000 in
theorem c_X11_pieces (l : Launch) (G : GP) (a_t : Nat) (a_t_trial : Nat) (a_t_snapshot : Nat) (t_snapshotTaken : Int32) (a_t_history : Nat) (a_t_text : Nat) (a_t_works : Nat) (a_t_highs : Nat) (a_t_now : Nat) (t_now_length : Int32) (t_now_shorter : Int32) (t_now_longer : Int32) (t_now_memory : Int32) (t_now_limit : Int32) (t_now_seasonDays : Int32) (t_now_stopped : Int32) (t_now_stopPart : Int32) (t_now_stopReason : Int32) (a_t_now_row : Nat) (t_now_row : Nat → Int32) (a_t_trade : Nat) (t_trade_coins : Int64) (t_trade_held : Int32) (x1 : Int32) (rE : String) (rr : Int32) (w_t_trade_coins : Int64) (w_t_trade_held : Int32) (hf : f_X11_pieces t_now_length t_now_shorter t_now_longer t_now_row t_trade_coins t_trade_held x1 = some (rE, rr, w_t_trade_coins, w_t_trade_held)) (hst : l.stackTraces = false) : XM l yX11_pieces cX11_pieces 2 (some .int) 9 144 1 6 G [.ref a_t, .int x1] [(a_t, .inr (7, [.ref a_t_now, .ref a_t_trial, .ref a_t_snapshot, .int t_snapshotTaken, .ref a_t_history, .ref a_t_text, .ref a_t_works, .ref a_t_highs, .ref a_t_trade])), (a_t_now, .inr (2, [.ref a_t_now_row, .int t_now_length, .int t_now_shorter, .int t_now_longer, .int t_now_memory, .int t_now_limit, .int t_now_seasonDays, .int t_now_stopped, .int t_now_stopPart, .int t_now_stopReason])), (a_t_now_row, .inl (G.2.1, 60, .inl t_now_row)), (a_t_trade, .inr (5, [.long t_trade_coins, .int t_trade_held]))] rE (some (.int rr)) [(a_t, .inr (7, [.ref a_t_now, .ref a_t_trial, .ref a_t_snapshot, .int t_snapshotTaken, .ref a_t_history, .ref a_t_text, .ref a_t_works, .ref a_t_highs, .ref a_t_trade])), (a_t_now, .inr (2, [.ref a_t_now_row, .int t_now_length, .int t_now_shorter, .int t_now_longer, .int t_now_memory, .int t_now_limit, .int t_now_seasonDays, .int t_now_stopped, .int t_now_stopPart, .int t_now_stopReason])), (a_t_now_row, .inl (G.2.1, 60, .inl t_now_row)), (a_t_trade, .inr (5, [.long w_t_trade_coins, .int w_t_trade_held]))] := by
  refine XM.ofW (C := RX11) (by decide) rfl (Nat.le_of_ble_eq_true rfl) ?_
  intro p e s m below meth c A hF hr hlk hG hA hP hD hZ hout ls hl
  have hl : lv_has ls 2 [(0, .ref a_t), (1, .int x1)] := hl
  have hx := hF.1
  have hb := hF.2.1
  have hml := hF.2.2.1
  have hown := hF.2.2.2.1
  have hts := hF.2.2.2.2
  have hS : va_S A s.heap s.heap [] := va_S.rf
  unfold f_X11_pieces at hf
  refine lv_aload_n hx hb dX11_pieces_0 rfl (lv_at hl 0 rfl) ?_
  refine lv_iload_n hx hb dX11_pieces_1 rfl (lv_at hl 1 rfl) ?_
  obtain ⟨e_1, hq, hf⟩ := bd1_some hf
  refine xwV (As := [.int x1]) (rest := []) (wn := [(a_t, .inr (7, [.ref a_t_now, .ref a_t_trial, .ref a_t_snapshot, .int t_snapshotTaken, .ref a_t_history, .ref a_t_text, .ref a_t_works, .ref a_t_highs, .ref a_t_trade])), (a_t_now, .inr (2, [.ref a_t_now_row, .int t_now_length, .int t_now_shorter, .int t_now_longer, .int t_now_memory, .int t_now_limit, .int t_now_seasonDays, .int t_now_stopped, .int t_now_stopPart, .int t_now_stopReason])), (a_t_now_row, .inl (G.2.1, 60, .inl t_now_row)), (a_t_trade, .inr (5, [.long t_trade_coins, .int t_trade_held]))]) hF hG hP hD hS hA hZ hl.1 (c_X11_requireDay l G a_t a_t_trial a_t_snapshot t_snapshotTaken a_t_history a_t_text a_t_works a_t_highs a_t_trade a_t_now a_t_now_row t_now_length t_now_shorter t_now_longer t_now_memory t_now_limit t_now_seasonDays t_now_stopped t_now_stopPart t_now_stopReason x1 e_1 hq hst) k_X11_requireDay q680 [0, 1] [2, 3] [2, 3, 0, 1] rfl rfl rfl rfl ⟨rfl, rfl⟩ (by decide) ⟨0, 7, _, _, rfl, rfl, rfl⟩ rfl rfl (Nat.le_of_ble_eq_true rfl) ⟨(Nat.le_of_ble_eq_true rfl), (Nat.le_of_ble_eq_true rfl)⟩ ⟨(Nat.le_of_ble_eq_true rfl), (Nat.le_of_ble_eq_true rfl)⟩ dX11_pieces_2 (fun hE ce q9 H locs hP hD hS hce hcv hcl => ?_) (fun hE H locs hP hD hS => ?_)
  · have hf := (if_neg hE).symm.trans hf
    have hf : (some (e_1, 0, t_trade_coins, t_trade_held) : Option (String × Int32 × Int64 × Int32)) = some (rE, rr, w_t_trade_coins, w_t_trade_held) := hf
    cases hf
    exact xo hout hlk hE hP hD hS hce hcv hcl (Nat.le_of_ble_eq_true rfl) (Nat.le_of_ble_eq_true rfl)
  have hf := (if_pos hE).symm.trans hf
  refine lv_aload_n hx hb dX11_pieces_5 rfl (lv_at hl 0 rfl) ?_
  refine gf (C := RX11) (T := TX11) (N := 9) (ci := 7) (v := .ref a_t_trade) hF hG hP inX11 0 rfl rfl 8 (by decide) q212 rfl rfl dX11_pieces_6 ?_
  refine lv_aload_n hx hb dX11_pieces_9 rfl (lv_at hl 0 rfl) ?_
  refine gf (C := RX11) (T := TX11) (N := 9) (ci := 7) (v := .ref a_t_now) hF hG hP inX11 0 rfl rfl 0 (by decide) q204 rfl rfl dX11_pieces_10 ?_
  refine lv_iload_n hx hb dX11_pieces_13 rfl (lv_at hl 1 rfl) ?_
  obtain ⟨t_trade_coins_2, t_trade_held_3, hq, hf⟩ := bd2_some hf
  refine wrVN (As := [.ref a_t_now, .int x1]) (rest := []) (wn := [(a_t, .inr (7, [.ref a_t_now, .ref a_t_trial, .ref a_t_snapshot, .int t_snapshotTaken, .ref a_t_history, .ref a_t_text, .ref a_t_works, .ref a_t_highs, .ref a_t_trade])), (a_t_now, .inr (2, [.ref a_t_now_row, .int t_now_length, .int t_now_shorter, .int t_now_longer, .int t_now_memory, .int t_now_limit, .int t_now_seasonDays, .int t_now_stopped, .int t_now_stopPart, .int t_now_stopReason])), (a_t_now_row, .inl (G.2.1, 60, .inl t_now_row)), (a_t_trade, .inr (5, [.long t_trade_coins_2, .int t_trade_held_3]))]) hF hG hP hD hS hA hl.1 (c_X9_runTo l G a_t_trade t_trade_coins t_trade_held a_t_now t_now_length t_now_shorter t_now_longer t_now_memory t_now_limit t_now_seasonDays t_now_stopped t_now_stopPart t_now_stopReason a_t_now_row t_now_row x1 t_trade_coins_2 t_trade_held_3 hq) k_X9_runTo n951 [3, 1, 2] [0] [0, 2, 3, 1] rfl rfl rfl rfl ⟨rfl, rfl⟩ (by decide) ⟨3, 5, _, _, rfl, rfl, rfl⟩ rfl rfl (Nat.le_of_ble_eq_true rfl) ⟨(Nat.le_of_ble_eq_true rfl), (Nat.le_of_ble_eq_true rfl)⟩ ⟨(Nat.le_of_ble_eq_true rfl), (Nat.le_of_ble_eq_true rfl)⟩ dX11_pieces_14 (fun H locs hP hD hS => ?_)
  refine lv_aload_n hx hb dX11_pieces_17 rfl (lv_at hl 0 rfl) ?_
  refine gf (C := RX11) (T := TX11) (N := 9) (ci := 7) (v := .ref a_t_trade) hF hG hP inX11 0 rfl rfl 8 (by decide) q212 rfl rfl dX11_pieces_18 ?_
  refine gfN (C := RX9) (T := TX9) (N := 2) (ci := 5) (v := .int t_trade_held_3) hF hG hP inX9 3 rfl rfl 1 (by decide) n198 rfl rfl dX11_pieces_21 ?_
  have hf : (some ("", t_trade_held_3, t_trade_coins_2, t_trade_held_3) : Option (String × Int32 × Int64 × Int32)) = some (rE, rr, w_t_trade_coins, w_t_trade_held) := hf
  cases hf
  exact xe_i hF hr hlk hP hD hS (Nat.le_of_ble_eq_true rfl) (Nat.le_of_ble_eq_true rfl) dX11_pieces_24 rfl
def f_X11_worth (t_now_length : Int32) (t_now_shorter : Int32) (t_now_longer : Int32) (t_now_row : Nat → Int32) (t_trade_coins : Int64) (t_trade_held : Int32) (x1 : Int32) : Option (String × Int64 × Int64 × Int32) := bd1 (f_X11_requireDay t_now_length x1) (fun (e_1 : String) => if e_1 = "" then (bd2 (f_X9_runTo t_trade_coins t_trade_held t_now_shorter t_now_longer t_now_row x1) (fun (t_trade_coins_2 : Int64) (t_trade_held_3 : Int32) => bd1 (f_X9_valueAt t_trade_coins_2 t_trade_held_3 t_now_row x1) (fun (r_4 : Int64) => some ("", r_4, t_trade_coins_2, t_trade_held_3)))) else some (e_1, 0, t_trade_coins, t_trade_held))
theorem k_X11_worth : KV yX11_worth cX11_worth 2 (some .long) 1 := ⟨qc_yX11_worth, q1, ⟨by decide +kernel, by decide +kernel, by decide +kernel⟩, qi_yX11_worth, qs_yX11_worth⟩
abbrev mc_X11_worth : Nat := 1
abbrev ms_X11_worth : Nat := 6
abbrev RM_X11_worth : Room := { frames := 9, cells := 1, slots := 6, locals := 144 }
set_option maxHeartbeats 4000000 in
set_option maxRecDepth 100000 in
theorem c_X11_worth (l : Launch) (G : GP) (a_t : Nat) (a_t_trial : Nat) (a_t_snapshot : Nat) (t_snapshotTaken : Int32) (a_t_history : Nat) (a_t_text : Nat) (a_t_works : Nat) (a_t_highs : Nat) (a_t_now : Nat) (t_now_length : Int32) (t_now_shorter : Int32) (t_now_longer : Int32) (t_now_memory : Int32) (t_now_limit : Int32) (t_now_seasonDays : Int32) (t_now_stopped : Int32) (t_now_stopPart : Int32) (t_now_stopReason : Int32) (a_t_now_row : Nat) (t_now_row : Nat → Int32) (a_t_trade : Nat) (t_trade_coins : Int64) (t_trade_held : Int32) (x1 : Int32) (rE : String) (rr : Int64) (w_t_trade_coins : Int64) (w_t_trade_held : Int32) (hf : f_X11_worth t_now_length t_now_shorter t_now_longer t_now_row t_trade_coins t_trade_held x1 = some (rE, rr, w_t_trade_coins, w_t_trade_held)) (hst : l.stackTraces = false) : XM l yX11_worth cX11_worth 2 (some .long) 9 144 1 6 G [.ref a_t, .int x1] [(a_t, .inr (7, [.ref a_t_now, .ref a_t_trial, .ref a_t_snapshot, .int t_snapshotTaken, .ref a_t_history, .ref a_t_text, .ref a_t_works, .ref a_t_highs, .ref a_t_trade])), (a_t_now, .inr (2, [.ref a_t_now_row, .int t_now_length, .int t_now_shorter, .int t_now_longer, .int t_now_memory, .int t_now_limit, .int t_now_seasonDays, .int t_now_stopped, .int t_now_stopPart, .int t_now_stopReason])), (a_t_now_row, .inl (G.2.1, 60, .inl t_now_row)), (a_t_trade, .inr (5, [.long t_trade_coins, .int t_trade_held]))] rE (some (.long rr)) [(a_t, .inr (7, [.ref a_t_now, .ref a_t_trial, .ref a_t_snapshot, .int t_snapshotTaken, .ref a_t_history, .ref a_t_text, .ref a_t_works, .ref a_t_highs, .ref a_t_trade])), (a_t_now, .inr (2, [.ref a_t_now_row, .int t_now_length, .int t_now_shorter, .int t_now_longer, .int t_now_memory, .int t_now_limit, .int t_now_seasonDays, .int t_now_stopped, .int t_now_stopPart, .int t_now_stopReason])), (a_t_now_row, .inl (G.2.1, 60, .inl t_now_row)), (a_t_trade, .inr (5, [.long w_t_trade_coins, .int w_t_trade_held]))] := by
  refine XM.ofW (C := RX11) (by decide) rfl (Nat.le_of_ble_eq_true rfl) ?_
  intro p e s m below meth c A hF hr hlk hG hA hP hD hZ hout ls hl
  have hl : lv_has ls 2 [(0, .ref a_t), (1, .int x1)] := hl
  have hx := hF.1
  have hb := hF.2.1
  have hml := hF.2.2.1
  have hown := hF.2.2.2.1
  have hts := hF.2.2.2.2
  have hS : va_S A s.heap s.heap [] := va_S.rf
  unfold f_X11_worth at hf
  refine lv_aload_n hx hb dX11_worth_0 rfl (lv_at hl 0 rfl) ?_
  refine lv_iload_n hx hb dX11_worth_1 rfl (lv_at hl 1 rfl) ?_
  obtain ⟨e_1, hq, hf⟩ := bd1_some hf
  refine xwV (As := [.int x1]) (rest := []) (wn := [(a_t, .inr (7, [.ref a_t_now, .ref a_t_trial, .ref a_t_snapshot, .int t_snapshotTaken, .ref a_t_history, .ref a_t_text, .ref a_t_works, .ref a_t_highs, .ref a_t_trade])), (a_t_now, .inr (2, [.ref a_t_now_row, .int t_now_length, .int t_now_shorter, .int t_now_longer, .int t_now_memory, .int t_now_limit, .int t_now_seasonDays, .int t_now_stopped, .int t_now_stopPart, .int t_now_stopReason])), (a_t_now_row, .inl (G.2.1, 60, .inl t_now_row)), (a_t_trade, .inr (5, [.long t_trade_coins, .int t_trade_held]))]) hF hG hP hD hS hA hZ hl.1 (c_X11_requireDay l G a_t a_t_trial a_t_snapshot t_snapshotTaken a_t_history a_t_text a_t_works a_t_highs a_t_trade a_t_now a_t_now_row t_now_length t_now_shorter t_now_longer t_now_memory t_now_limit t_now_seasonDays t_now_stopped t_now_stopPart t_now_stopReason x1 e_1 hq hst) k_X11_requireDay q680 [0, 1] [2, 3] [2, 3, 0, 1] rfl rfl rfl rfl ⟨rfl, rfl⟩ (by decide) ⟨0, 7, _, _, rfl, rfl, rfl⟩ rfl rfl (Nat.le_of_ble_eq_true rfl) ⟨(Nat.le_of_ble_eq_true rfl), (Nat.le_of_ble_eq_true rfl)⟩ ⟨(Nat.le_of_ble_eq_true rfl), (Nat.le_of_ble_eq_true rfl)⟩ dX11_worth_2 (fun hE ce q9 H locs hP hD hS hce hcv hcl => ?_) (fun hE H locs hP hD hS => ?_)
  · have hf := (if_neg hE).symm.trans hf
    have hf : (some (e_1, 0, t_trade_coins, t_trade_held) : Option (String × Int64 × Int64 × Int32)) = some (rE, rr, w_t_trade_coins, w_t_trade_held) := hf
    cases hf
    exact xo hout hlk hE hP hD hS hce hcv hcl (Nat.le_of_ble_eq_true rfl) (Nat.le_of_ble_eq_true rfl)
  have hf := (if_pos hE).symm.trans hf
  refine lv_aload_n hx hb dX11_worth_5 rfl (lv_at hl 0 rfl) ?_
  refine gf (C := RX11) (T := TX11) (N := 9) (ci := 7) (v := .ref a_t_trade) hF hG hP inX11 0 rfl rfl 8 (by decide) q212 rfl rfl dX11_worth_6 ?_
  refine lv_aload_n hx hb dX11_worth_9 rfl (lv_at hl 0 rfl) ?_
  refine gf (C := RX11) (T := TX11) (N := 9) (ci := 7) (v := .ref a_t_now) hF hG hP inX11 0 rfl rfl 0 (by decide) q204 rfl rfl dX11_worth_10 ?_
  refine lv_iload_n hx hb dX11_worth_13 rfl (lv_at hl 1 rfl) ?_
  obtain ⟨t_trade_coins_2, t_trade_held_3, hq, hf⟩ := bd2_some hf
  refine wrVN (As := [.ref a_t_now, .int x1]) (rest := []) (wn := [(a_t, .inr (7, [.ref a_t_now, .ref a_t_trial, .ref a_t_snapshot, .int t_snapshotTaken, .ref a_t_history, .ref a_t_text, .ref a_t_works, .ref a_t_highs, .ref a_t_trade])), (a_t_now, .inr (2, [.ref a_t_now_row, .int t_now_length, .int t_now_shorter, .int t_now_longer, .int t_now_memory, .int t_now_limit, .int t_now_seasonDays, .int t_now_stopped, .int t_now_stopPart, .int t_now_stopReason])), (a_t_now_row, .inl (G.2.1, 60, .inl t_now_row)), (a_t_trade, .inr (5, [.long t_trade_coins_2, .int t_trade_held_3]))]) hF hG hP hD hS hA hl.1 (c_X9_runTo l G a_t_trade t_trade_coins t_trade_held a_t_now t_now_length t_now_shorter t_now_longer t_now_memory t_now_limit t_now_seasonDays t_now_stopped t_now_stopPart t_now_stopReason a_t_now_row t_now_row x1 t_trade_coins_2 t_trade_held_3 hq) k_X9_runTo n951 [3, 1, 2] [0] [0, 2, 3, 1] rfl rfl rfl rfl ⟨rfl, rfl⟩ (by decide) ⟨3, 5, _, _, rfl, rfl, rfl⟩ rfl rfl (Nat.le_of_ble_eq_true rfl) ⟨(Nat.le_of_ble_eq_true rfl), (Nat.le_of_ble_eq_true rfl)⟩ ⟨(Nat.le_of_ble_eq_true rfl), (Nat.le_of_ble_eq_true rfl)⟩ dX11_worth_14 (fun H locs hP hD hS => ?_)
  refine lv_aload_n hx hb dX11_worth_17 rfl (lv_at hl 0 rfl) ?_
  refine gf (C := RX11) (T := TX11) (N := 9) (ci := 7) (v := .ref a_t_trade) hF hG hP inX11 0 rfl rfl 8 (by decide) q212 rfl rfl dX11_worth_18 ?_
  refine lv_aload_n hx hb dX11_worth_21 rfl (lv_at hl 0 rfl) ?_
  refine gf (C := RX11) (T := TX11) (N := 9) (ci := 7) (v := .ref a_t_now) hF hG hP inX11 0 rfl rfl 0 (by decide) q204 rfl rfl dX11_worth_22 ?_
  refine lv_iload_n hx hb dX11_worth_25 rfl (lv_at hl 1 rfl) ?_
  obtain ⟨r_4, hq, hf⟩ := bd1_some hf
  refine rdVN (As := [.ref a_t_now, .int x1]) (rest := []) hF hG hP hl.1 (c_X9_valueAt l G a_t_trade t_trade_coins_2 t_trade_held_3 a_t_now t_now_length t_now_shorter t_now_longer t_now_memory t_now_limit t_now_seasonDays t_now_stopped t_now_stopPart t_now_stopReason a_t_now_row t_now_row x1 r_4 hq) k_X9_valueAt n503 [3, 1, 2] rfl ⟨3, 5, _, _, rfl, rfl, rfl⟩ rfl rfl (Nat.le_of_ble_eq_true rfl) ⟨(Nat.le_of_ble_eq_true rfl), (Nat.le_of_ble_eq_true rfl)⟩ ⟨(Nat.le_of_ble_eq_true rfl), (Nat.le_of_ble_eq_true rfl)⟩ dX11_worth_26 ?_
  have hf : (some ("", r_4, t_trade_coins_2, t_trade_held_3) : Option (String × Int64 × Int64 × Int32)) = some (rE, rr, w_t_trade_coins, w_t_trade_held) := hf
  cases hf
  exact xe_l hF hr hlk hP hD hS (Nat.le_of_ble_eq_true rfl) (Nat.le_of_ble_eq_true rfl) dX11_worth_29 rfl
def f_X11_seasonIndex (t_now_length : Int32) (t_now_seasonDays : Int32) (t_now_row : Nat → Int32) (x1 : Int32) : Option (String × Int32) := (if x1 < 0 then some ("java/lang/IndexOutOfBoundsException", 0) else (if x1 < t_now_seasonDays then bd1 (f_X5_daysOf t_now_seasonDays x1 t_now_length) (fun (r_1 : Int32) => (if r_1 = 0 then some ("java/lang/IllegalStateException", 0) else bd1 (f_X5_index t_now_length t_now_seasonDays t_now_row x1) (fun (r_2 : Int32) => some ("", r_2)))) else some ("java/lang/IndexOutOfBoundsException", 0)))
theorem k_X11_seasonIndex : KV yX11_seasonIndex cX11_seasonIndex 2 (some .int) 1 := ⟨qc_yX11_seasonIndex, q1, ⟨by decide +kernel, by decide +kernel, by decide +kernel⟩, qi_yX11_seasonIndex, qs_yX11_seasonIndex⟩
abbrev mc_X11_seasonIndex : Nat := 1
abbrev ms_X11_seasonIndex : Nat := 6
abbrev RM_X11_seasonIndex : Room := { frames := 8, cells := 1, slots := 6, locals := 120 }
set_option maxHeartbeats 4000000 in
set_option maxRecDepth 100000 in
theorem c_X11_seasonIndex (l : Launch) (G : GP) (a_t : Nat) (a_t_trial : Nat) (a_t_snapshot : Nat) (t_snapshotTaken : Int32) (a_t_history : Nat) (a_t_text : Nat) (a_t_works : Nat) (a_t_highs : Nat) (a_t_trade : Nat) (a_t_now : Nat) (t_now_length : Int32) (t_now_shorter : Int32) (t_now_longer : Int32) (t_now_memory : Int32) (t_now_limit : Int32) (t_now_seasonDays : Int32) (t_now_stopped : Int32) (t_now_stopPart : Int32) (t_now_stopReason : Int32) (a_t_now_row : Nat) (t_now_row : Nat → Int32) (x1 : Int32) (rE : String) (rr : Int32) (hf : f_X11_seasonIndex t_now_length t_now_seasonDays t_now_row x1 = some (rE, rr)) (hst : l.stackTraces = false) : XM l yX11_seasonIndex cX11_seasonIndex 2 (some .int) 8 120 1 6 G [.ref a_t, .int x1] [(a_t, .inr (7, [.ref a_t_now, .ref a_t_trial, .ref a_t_snapshot, .int t_snapshotTaken, .ref a_t_history, .ref a_t_text, .ref a_t_works, .ref a_t_highs, .ref a_t_trade])), (a_t_now, .inr (2, [.ref a_t_now_row, .int t_now_length, .int t_now_shorter, .int t_now_longer, .int t_now_memory, .int t_now_limit, .int t_now_seasonDays, .int t_now_stopped, .int t_now_stopPart, .int t_now_stopReason])), (a_t_now_row, .inl (G.2.1, 60, .inl t_now_row))] rE (some (.int rr)) [(a_t, .inr (7, [.ref a_t_now, .ref a_t_trial, .ref a_t_snapshot, .int t_snapshotTaken, .ref a_t_history, .ref a_t_text, .ref a_t_works, .ref a_t_highs, .ref a_t_trade])), (a_t_now, .inr (2, [.ref a_t_now_row, .int t_now_length, .int t_now_shorter, .int t_now_longer, .int t_now_memory, .int t_now_limit, .int t_now_seasonDays, .int t_now_stopped, .int t_now_stopPart, .int t_now_stopReason])), (a_t_now_row, .inl (G.2.1, 60, .inl t_now_row))] := by
  refine XM.ofW (C := RX11) (by decide) rfl (Nat.le_of_ble_eq_true rfl) ?_
  intro p e s m below meth c A hF hr hlk hG hA hP hD hZ hout ls hl
  have hl : lv_has ls 2 [(0, .ref a_t), (1, .int x1)] := hl
  have hx := hF.1
  have hb := hF.2.1
  have hml := hF.2.2.1
  have hown := hF.2.2.2.1
  have hts := hF.2.2.2.2
  have hS : va_S A s.heap s.heap [] := va_S.rf
  unfold f_X11_seasonIndex at hf
  refine lv_iload_n hx hb dX11_seasonIndex_0 rfl (lv_at hl 1 rfl) ?_
  refine lv_if_lt (tgt := 15) hx hb dX11_seasonIndex_1 (by decide) (fun c0 => ?_) (fun c0 => ?_)
  · have hf := (if_pos c0).symm.trans hf
    have hf : (some ("java/lang/IndexOutOfBoundsException", 0) : Option (String × Int32)) = some (rE, rr) := hf
    cases hf
    exact thI (is := 240) hF hG hst (by decide +kernel) hP hD hS hA hZ hl.1 hout hlk dX11_seasonIndex_15 dX11_seasonIndex_18 dX11_seasonIndex_19 dX11_seasonIndex_21 dX11_seasonIndex_24 (Nat.le_of_ble_eq_true rfl) (Nat.le_of_ble_eq_true rfl) (Nat.le_of_ble_eq_true rfl) (Nat.le_of_ble_eq_true rfl) (Nat.le_of_ble_eq_true rfl) (Nat.le_of_ble_eq_true rfl)
  · have hf := (if_neg c0).symm.trans hf
    refine lv_iload_n hx hb dX11_seasonIndex_4 rfl (lv_at hl 1 rfl) ?_
    refine lv_aload_n hx hb dX11_seasonIndex_5 rfl (lv_at hl 0 rfl) ?_
    refine gf (C := RX11) (T := TX11) (N := 9) (ci := 7) (v := .ref a_t_now) hF hG hP inX11 0 rfl rfl 0 (by decide) q204 rfl rfl dX11_seasonIndex_6 ?_
    refine gfN (C := RX6) (T := TX6) (N := 10) (ci := 2) (v := .int t_now_seasonDays) hF hG hP inX6 1 rfl rfl 6 (by decide) n68 rfl rfl dX11_seasonIndex_9 ?_
    refine lv_icmp_lt (tgt := 25) hx hb dX11_seasonIndex_12 (by decide) (fun c0 => ?_) (fun c0 => ?_)
    · have hf := (if_pos c0).symm.trans hf
      refine lv_aload_n hx hb dX11_seasonIndex_25 rfl (lv_at hl 0 rfl) ?_
      refine gf (C := RX11) (T := TX11) (N := 9) (ci := 7) (v := .ref a_t_now) hF hG hP inX11 0 rfl rfl 0 (by decide) q204 rfl rfl dX11_seasonIndex_26 ?_
      refine lv_iload_n hx hb dX11_seasonIndex_29 rfl (lv_at hl 1 rfl) ?_
      refine lv_aload_n hx hb dX11_seasonIndex_30 rfl (lv_at hl 0 rfl) ?_
      refine gf (C := RX11) (T := TX11) (N := 9) (ci := 7) (v := .ref a_t_now) hF hG hP inX11 0 rfl rfl 0 (by decide) q204 rfl rfl dX11_seasonIndex_31 ?_
      refine gfN (C := RX6) (T := TX6) (N := 10) (ci := 2) (v := .int t_now_length) hF hG hP inX6 1 rfl rfl 1 (by decide) n39 rfl rfl dX11_seasonIndex_34 ?_
      obtain ⟨r_1, hq, hf⟩ := bd1_some hf
      refine rdSN (As := [.ref a_t_now, .int x1, .int t_now_length]) (rest := []) hF hG hP hl.1 (c_X5_daysOf l G a_t_now a_t_now_row t_now_length t_now_shorter t_now_longer t_now_memory t_now_limit t_now_seasonDays t_now_stopped t_now_stopPart t_now_stopReason x1 t_now_length r_1 hq) k_X5_daysOf n528 [1] rfl rfl rfl (Nat.le_of_ble_eq_true rfl) ⟨(Nat.le_of_ble_eq_true rfl), (Nat.le_of_ble_eq_true rfl)⟩ ⟨(Nat.zero_le _), (Nat.zero_le _)⟩ dX11_seasonIndex_37 ?_
      refine lv_if_ne (tgt := 53) hx hb dX11_seasonIndex_40 (by decide) (fun c0 => ?_) (fun c0 => ?_)
      · have hf := (if_neg c0).symm.trans hf
        refine lv_aload_n hx hb dX11_seasonIndex_53 rfl (lv_at hl 0 rfl) ?_
        refine gf (C := RX11) (T := TX11) (N := 9) (ci := 7) (v := .ref a_t_now) hF hG hP inX11 0 rfl rfl 0 (by decide) q204 rfl rfl dX11_seasonIndex_54 ?_
        refine lv_iload_n hx hb dX11_seasonIndex_57 rfl (lv_at hl 1 rfl) ?_
        obtain ⟨r_2, hq, hf⟩ := bd1_some hf
        refine rdSN (As := [.ref a_t_now, .int x1]) (rest := []) hF hG hP hl.1 (c_X5_index l G a_t_now t_now_length t_now_shorter t_now_longer t_now_memory t_now_limit t_now_seasonDays t_now_stopped t_now_stopPart t_now_stopReason a_t_now_row t_now_row x1 r_2 hq) k_X5_index n529 [1, 2] rfl rfl rfl (Nat.le_of_ble_eq_true rfl) ⟨(Nat.le_of_ble_eq_true rfl), (Nat.le_of_ble_eq_true rfl)⟩ ⟨(Nat.zero_le _), (Nat.zero_le _)⟩ dX11_seasonIndex_58 ?_
        have hf : (some ("", r_2) : Option (String × Int32)) = some (rE, rr) := hf
        cases hf
        exact xe_i hF hr hlk hP hD hS (Nat.le_of_ble_eq_true rfl) (Nat.le_of_ble_eq_true rfl) dX11_seasonIndex_61 rfl
      · have hf := (if_pos c0).symm.trans hf
        have hf : (some ("java/lang/IllegalStateException", 0) : Option (String × Int32)) = some (rE, rr) := hf
        cases hf
        exact thS (is := 248) hF hG hst (by decide +kernel) hP hD hS hA hZ hl.1 hout hlk dX11_seasonIndex_43 dX11_seasonIndex_46 dX11_seasonIndex_47 dX11_seasonIndex_49 dX11_seasonIndex_52 (Nat.le_of_ble_eq_true rfl) (Nat.le_of_ble_eq_true rfl) (Nat.le_of_ble_eq_true rfl) (Nat.le_of_ble_eq_true rfl) (Nat.le_of_ble_eq_true rfl) (Nat.le_of_ble_eq_true rfl)
    · have hf := (if_neg c0).symm.trans hf
      have hf : (some ("java/lang/IndexOutOfBoundsException", 0) : Option (String × Int32)) = some (rE, rr) := hf
      cases hf
      exact thI (is := 240) hF hG hst (by decide +kernel) hP hD hS hA hZ hl.1 hout hlk dX11_seasonIndex_15 dX11_seasonIndex_18 dX11_seasonIndex_19 dX11_seasonIndex_21 dX11_seasonIndex_24 (Nat.le_of_ble_eq_true rfl) (Nat.le_of_ble_eq_true rfl) (Nat.le_of_ble_eq_true rfl) (Nat.le_of_ble_eq_true rfl) (Nat.le_of_ble_eq_true rfl) (Nat.le_of_ble_eq_true rfl)
def f_X11_barePrice (t_now_length : Int32) (t_now_seasonDays : Int32) (t_now_row : Nat → Int32) (x1 : Int32) : Option (String × Int64) := bd1 (f_X11_requireDay t_now_length x1) (fun (e_1 : String) => if e_1 = "" then (bd1 (f_X5_bare t_now_length t_now_seasonDays t_now_row x1) (fun (r_2 : Int64) => some ("", r_2))) else some (e_1, 0))
theorem k_X11_barePrice : KV yX11_barePrice cX11_barePrice 2 (some .long) 1 := ⟨qc_yX11_barePrice, q1, ⟨by decide +kernel, by decide +kernel, by decide +kernel⟩, qi_yX11_barePrice, qs_yX11_barePrice⟩
abbrev mc_X11_barePrice : Nat := 1
abbrev ms_X11_barePrice : Nat := 6
abbrev RM_X11_barePrice : Room := { frames := 9, cells := 1, slots := 6, locals := 141 }
set_option maxHeartbeats 4000000 in
set_option maxRecDepth 100000 in
theorem c_X11_barePrice (l : Launch) (G : GP) (a_t : Nat) (a_t_trial : Nat) (a_t_snapshot : Nat) (t_snapshotTaken : Int32) (a_t_history : Nat) (a_t_text : Nat) (a_t_works : Nat) (a_t_highs : Nat) (a_t_trade : Nat) (a_t_now : Nat) (t_now_length : Int32) (t_now_shorter : Int32) (t_now_longer : Int32) (t_now_memory : Int32) (t_now_limit : Int32) (t_now_seasonDays : Int32) (t_now_stopped : Int32) (t_now_stopPart : Int32) (t_now_stopReason : Int32) (a_t_now_row : Nat) (t_now_row : Nat → Int32) (x1 : Int32) (rE : String) (rr : Int64) (hf : f_X11_barePrice t_now_length t_now_seasonDays t_now_row x1 = some (rE, rr)) (hst : l.stackTraces = false) : XM l yX11_barePrice cX11_barePrice 2 (some .long) 9 141 1 6 G [.ref a_t, .int x1] [(a_t, .inr (7, [.ref a_t_now, .ref a_t_trial, .ref a_t_snapshot, .int t_snapshotTaken, .ref a_t_history, .ref a_t_text, .ref a_t_works, .ref a_t_highs, .ref a_t_trade])), (a_t_now, .inr (2, [.ref a_t_now_row, .int t_now_length, .int t_now_shorter, .int t_now_longer, .int t_now_memory, .int t_now_limit, .int t_now_seasonDays, .int t_now_stopped, .int t_now_stopPart, .int t_now_stopReason])), (a_t_now_row, .inl (G.2.1, 60, .inl t_now_row))] rE (some (.long rr)) [(a_t, .inr (7, [.ref a_t_now, .ref a_t_trial, .ref a_t_snapshot, .int t_snapshotTaken, .ref a_t_history, .ref a_t_text, .ref a_t_works, .ref a_t_highs, .ref a_t_trade])), (a_t_now, .inr (2, [.ref a_t_now_row, .int t_now_length, .int t_now_shorter, .int t_now_longer, .int t_now_memory, .int t_now_limit, .int t_now_seasonDays, .int t_now_stopped, .int t_now_stopPart, .int t_now_stopReason])), (a_t_now_row, .inl (G.2.1, 60, .inl t_now_row))] := by
  refine XM.ofW (C := RX11) (by decide) rfl (Nat.le_of_ble_eq_true rfl) ?_
  intro p e s m below meth c A hF hr hlk hG hA hP hD hZ hout ls hl
  have hl : lv_has ls 2 [(0, .ref a_t), (1, .int x1)] := hl
  have hx := hF.1
  have hb := hF.2.1
  have hml := hF.2.2.1
  have hown := hF.2.2.2.1
  have hts := hF.2.2.2.2
  have hS : va_S A s.heap s.heap [] := va_S.rf
  unfold f_X11_barePrice at hf
  refine lv_aload_n hx hb dX11_barePrice_0 rfl (lv_at hl 0 rfl) ?_
  refine lv_iload_n hx hb dX11_barePrice_1 rfl (lv_at hl 1 rfl) ?_
  obtain ⟨e_1, hq, hf⟩ := bd1_some hf
  refine xwV (As := [.int x1]) (rest := []) (wn := [(a_t, .inr (7, [.ref a_t_now, .ref a_t_trial, .ref a_t_snapshot, .int t_snapshotTaken, .ref a_t_history, .ref a_t_text, .ref a_t_works, .ref a_t_highs, .ref a_t_trade])), (a_t_now, .inr (2, [.ref a_t_now_row, .int t_now_length, .int t_now_shorter, .int t_now_longer, .int t_now_memory, .int t_now_limit, .int t_now_seasonDays, .int t_now_stopped, .int t_now_stopPart, .int t_now_stopReason])), (a_t_now_row, .inl (G.2.1, 60, .inl t_now_row))]) hF hG hP hD hS hA hZ hl.1 (c_X11_requireDay l G a_t a_t_trial a_t_snapshot t_snapshotTaken a_t_history a_t_text a_t_works a_t_highs a_t_trade a_t_now a_t_now_row t_now_length t_now_shorter t_now_longer t_now_memory t_now_limit t_now_seasonDays t_now_stopped t_now_stopPart t_now_stopReason x1 e_1 hq hst) k_X11_requireDay q680 [0, 1] [2] [1, 2, 0] rfl rfl rfl rfl ⟨rfl, rfl⟩ (by decide) ⟨0, 7, _, _, rfl, rfl, rfl⟩ rfl rfl (Nat.le_of_ble_eq_true rfl) ⟨(Nat.le_of_ble_eq_true rfl), (Nat.le_of_ble_eq_true rfl)⟩ ⟨(Nat.le_of_ble_eq_true rfl), (Nat.le_of_ble_eq_true rfl)⟩ dX11_barePrice_2 (fun hE ce q9 H locs hP hD hS hce hcv hcl => ?_) (fun hE H locs hP hD hS => ?_)
  · have hf := (if_neg hE).symm.trans hf
    have hf : (some (e_1, 0) : Option (String × Int64)) = some (rE, rr) := hf
    cases hf
    exact xo hout hlk hE hP hD hS hce hcv hcl (Nat.le_of_ble_eq_true rfl) (Nat.le_of_ble_eq_true rfl)
  have hf := (if_pos hE).symm.trans hf
  refine lv_aload_n hx hb dX11_barePrice_5 rfl (lv_at hl 0 rfl) ?_
  refine gf (C := RX11) (T := TX11) (N := 9) (ci := 7) (v := .ref a_t_now) hF hG hP inX11 0 rfl rfl 0 (by decide) q204 rfl rfl dX11_barePrice_6 ?_
  refine lv_iload_n hx hb dX11_barePrice_9 rfl (lv_at hl 1 rfl) ?_
  obtain ⟨r_2, hq, hf⟩ := bd1_some hf
  refine rdSN (As := [.ref a_t_now, .int x1]) (rest := []) hF hG hP hl.1 (c_X5_bare l G a_t_now t_now_length t_now_shorter t_now_longer t_now_memory t_now_limit t_now_seasonDays t_now_stopped t_now_stopPart t_now_stopReason a_t_now_row t_now_row x1 r_2 hq) k_X5_bare n507 [1, 2] rfl rfl rfl (Nat.le_of_ble_eq_true rfl) ⟨(Nat.le_of_ble_eq_true rfl), (Nat.le_of_ble_eq_true rfl)⟩ ⟨(Nat.le_of_ble_eq_true rfl), (Nat.le_of_ble_eq_true rfl)⟩ dX11_barePrice_10 ?_
  have hf : (some ("", r_2) : Option (String × Int64)) = some (rE, rr) := hf
  cases hf
  exact xe_l hF hr hlk hP hD hS (Nat.le_of_ble_eq_true rfl) (Nat.le_of_ble_eq_true rfl) dX11_barePrice_13 rfl
def f_X11_requirePrices (t_now_length : Int32) (x1 : Int32) : Option (String) := (if x1 ≤ t_now_length then some "" else some "java/lang/IllegalStateException")
theorem k_X11_requirePrices : KV yX11_requirePrices cX11_requirePrices 2 none 1 := ⟨qc_yX11_requirePrices, q1, ⟨by decide +kernel, by decide +kernel, by decide +kernel⟩, qi_yX11_requirePrices, qs_yX11_requirePrices⟩
abbrev mc_X11_requirePrices : Nat := 1
abbrev ms_X11_requirePrices : Nat := 6
abbrev RM_X11_requirePrices : Room := { frames := 8, cells := 1, slots := 6, locals := 120 }
set_option maxHeartbeats 4000000 in
set_option maxRecDepth 100000 in
theorem c_X11_requirePrices (l : Launch) (G : GP) (a_t : Nat) (a_t_trial : Nat) (a_t_snapshot : Nat) (t_snapshotTaken : Int32) (a_t_history : Nat) (a_t_text : Nat) (a_t_works : Nat) (a_t_highs : Nat) (a_t_trade : Nat) (a_t_now : Nat) (a_t_now_row : Nat) (t_now_length : Int32) (t_now_shorter : Int32) (t_now_longer : Int32) (t_now_memory : Int32) (t_now_limit : Int32) (t_now_seasonDays : Int32) (t_now_stopped : Int32) (t_now_stopPart : Int32) (t_now_stopReason : Int32) (x1 : Int32) (rE : String) (hf : f_X11_requirePrices t_now_length x1 = some rE) (hst : l.stackTraces = false) : XM l yX11_requirePrices cX11_requirePrices 2 none 8 120 1 6 G [.ref a_t, .int x1] [(a_t, .inr (7, [.ref a_t_now, .ref a_t_trial, .ref a_t_snapshot, .int t_snapshotTaken, .ref a_t_history, .ref a_t_text, .ref a_t_works, .ref a_t_highs, .ref a_t_trade])), (a_t_now, .inr (2, [.ref a_t_now_row, .int t_now_length, .int t_now_shorter, .int t_now_longer, .int t_now_memory, .int t_now_limit, .int t_now_seasonDays, .int t_now_stopped, .int t_now_stopPart, .int t_now_stopReason]))] rE none [(a_t, .inr (7, [.ref a_t_now, .ref a_t_trial, .ref a_t_snapshot, .int t_snapshotTaken, .ref a_t_history, .ref a_t_text, .ref a_t_works, .ref a_t_highs, .ref a_t_trade])), (a_t_now, .inr (2, [.ref a_t_now_row, .int t_now_length, .int t_now_shorter, .int t_now_longer, .int t_now_memory, .int t_now_limit, .int t_now_seasonDays, .int t_now_stopped, .int t_now_stopPart, .int t_now_stopReason]))] := by
  refine XM.ofW (C := RX11) (by decide) rfl (Nat.le_of_ble_eq_true rfl) ?_
  intro p e s m below meth c A hF hr hlk hG hA hP hD hZ hout ls hl
  have hl : lv_has ls 2 [(0, .ref a_t), (1, .int x1)] := hl
  have hx := hF.1
  have hb := hF.2.1
  have hml := hF.2.2.1
  have hown := hF.2.2.2.1
  have hts := hF.2.2.2.2
  have hS : va_S A s.heap s.heap [] := va_S.rf
  unfold f_X11_requirePrices at hf
  refine lv_aload_n hx hb dX11_requirePrices_0 rfl (lv_at hl 0 rfl) ?_
  refine gf (C := RX11) (T := TX11) (N := 9) (ci := 7) (v := .ref a_t_now) hF hG hP inX11 0 rfl rfl 0 (by decide) q204 rfl rfl dX11_requirePrices_1 ?_
  refine gfN (C := RX6) (T := TX6) (N := 10) (ci := 2) (v := .int t_now_length) hF hG hP inX6 1 rfl rfl 1 (by decide) n39 rfl rfl dX11_requirePrices_4 ?_
  refine lv_iload_n hx hb dX11_requirePrices_7 rfl (lv_at hl 1 rfl) ?_
  refine lv_icmp_ge (tgt := 22) hx hb dX11_requirePrices_8 (by decide) (fun c0 => ?_) (fun c0 => ?_)
  · have hf := (if_pos c0).symm.trans hf
    have hf : (some "" : Option (String)) = some rE := hf
    cases hf
    exact xe_v hF hr hlk hP hD hS (Nat.le_of_ble_eq_true rfl) (Nat.le_of_ble_eq_true rfl) dX11_requirePrices_22 rfl
  · have hf := (if_neg c0).symm.trans hf
    have hf : (some "java/lang/IllegalStateException" : Option (String)) = some rE := hf
    cases hf
    exact thSW (is := 334) hF hG hst (by decide +kernel) hP hD hS hA hZ hl.1 hout hlk dX11_requirePrices_11 dX11_requirePrices_14 dX11_requirePrices_15 dX11_requirePrices_18 dX11_requirePrices_21 (Nat.le_of_ble_eq_true rfl) (Nat.le_of_ble_eq_true rfl) (Nat.le_of_ble_eq_true rfl) (Nat.le_of_ble_eq_true rfl) (Nat.le_of_ble_eq_true rfl) (Nat.le_of_ble_eq_true rfl)
def f_X11_forecast (t_now_length : Int32) (t_now_shorter : Int32) (t_now_longer : Int32) (t_now_memory : Int32) (t_now_seasonDays : Int32) (t_now_row : Nat → Int32) (x1 : Int32) : Option (String × Int32) := bd1 (f_X11_requireRange x1 0 3) (fun (e_1 : String) => if e_1 = "" then (bd1 (f_X11_requirePrices t_now_length 1) (fun (e_2 : String) => if e_2 = "" then (bd1 (f_X1_behind t_now_shorter t_now_longer t_now_memory t_now_seasonDays t_now_row x1 t_now_length) (fun (r_3 : Int32) => some ("", r_3))) else some (e_2, 0))) else some (e_1, 0))
theorem k_X11_forecast : KV yX11_forecast cX11_forecast 2 (some .int) 1 := ⟨qc_yX11_forecast, q1, ⟨by decide +kernel, by decide +kernel, by decide +kernel⟩, qi_yX11_forecast, qs_yX11_forecast⟩
abbrev mc_X11_forecast : Nat := 2
abbrev ms_X11_forecast : Nat := 12
abbrev RM_X11_forecast : Room := { frames := 9, cells := 2, slots := 12, locals := 142 }
set_option maxHeartbeats 4000000 in
set_option maxRecDepth 100000 in
theorem c_X11_forecast (l : Launch) (G : GP) (a_t : Nat) (a_t_trial : Nat) (a_t_snapshot : Nat) (t_snapshotTaken : Int32) (a_t_history : Nat) (a_t_text : Nat) (a_t_works : Nat) (a_t_highs : Nat) (a_t_trade : Nat) (a_t_now : Nat) (t_now_length : Int32) (t_now_shorter : Int32) (t_now_longer : Int32) (t_now_memory : Int32) (t_now_limit : Int32) (t_now_seasonDays : Int32) (t_now_stopped : Int32) (t_now_stopPart : Int32) (t_now_stopReason : Int32) (a_t_now_row : Nat) (t_now_row : Nat → Int32) (x1 : Int32) (rE : String) (rr : Int32) (hf : f_X11_forecast t_now_length t_now_shorter t_now_longer t_now_memory t_now_seasonDays t_now_row x1 = some (rE, rr)) (hst : l.stackTraces = false) : XM l yX11_forecast cX11_forecast 2 (some .int) 9 142 2 12 G [.ref a_t, .int x1] [(a_t, .inr (7, [.ref a_t_now, .ref a_t_trial, .ref a_t_snapshot, .int t_snapshotTaken, .ref a_t_history, .ref a_t_text, .ref a_t_works, .ref a_t_highs, .ref a_t_trade])), (a_t_now, .inr (2, [.ref a_t_now_row, .int t_now_length, .int t_now_shorter, .int t_now_longer, .int t_now_memory, .int t_now_limit, .int t_now_seasonDays, .int t_now_stopped, .int t_now_stopPart, .int t_now_stopReason])), (a_t_now_row, .inl (G.2.1, 60, .inl t_now_row))] rE (some (.int rr)) [(a_t, .inr (7, [.ref a_t_now, .ref a_t_trial, .ref a_t_snapshot, .int t_snapshotTaken, .ref a_t_history, .ref a_t_text, .ref a_t_works, .ref a_t_highs, .ref a_t_trade])), (a_t_now, .inr (2, [.ref a_t_now_row, .int t_now_length, .int t_now_shorter, .int t_now_longer, .int t_now_memory, .int t_now_limit, .int t_now_seasonDays, .int t_now_stopped, .int t_now_stopPart, .int t_now_stopReason])), (a_t_now_row, .inl (G.2.1, 60, .inl t_now_row))] := by
  refine XM.ofW (C := RX11) (by decide) rfl (Nat.le_of_ble_eq_true rfl) ?_
  intro p e s m below meth c A hF hr hlk hG hA hP hD hZ hout ls hl
  have hl : lv_has ls 2 [(0, .ref a_t), (1, .int x1)] := hl
  have hx := hF.1
  have hb := hF.2.1
  have hml := hF.2.2.1
  have hown := hF.2.2.2.1
  have hts := hF.2.2.2.2
  have hS : va_S A s.heap s.heap [] := va_S.rf
  unfold f_X11_forecast at hf
  refine lv_iload_n hx hb dX11_forecast_0 rfl (lv_at hl 1 rfl) ?_
  refine lv_iconst (v := 0) hx hb dX11_forecast_1 (by decide) ?_
  refine lv_iconst (v := 3) hx hb dX11_forecast_2 (by decide) ?_
  obtain ⟨e_1, hq, hf⟩ := bd1_some hf
  refine xwS (As := [.int x1, .int 0, .int 3]) (rest := []) (wn := [(a_t, .inr (7, [.ref a_t_now, .ref a_t_trial, .ref a_t_snapshot, .int t_snapshotTaken, .ref a_t_history, .ref a_t_text, .ref a_t_works, .ref a_t_highs, .ref a_t_trade])), (a_t_now, .inr (2, [.ref a_t_now_row, .int t_now_length, .int t_now_shorter, .int t_now_longer, .int t_now_memory, .int t_now_limit, .int t_now_seasonDays, .int t_now_stopped, .int t_now_stopPart, .int t_now_stopReason])), (a_t_now_row, .inl (G.2.1, 60, .inl t_now_row))]) hF hG hP hD hS hA hZ hl.1 (c_X11_requireRange l G x1 0 3 e_1 hq hst) k_X11_requireRange q581 [] [0, 1, 2] [0, 1, 2] rfl rfl rfl rfl ⟨rfl, rfl⟩ (by decide) rfl rfl (Nat.le_of_ble_eq_true rfl) ⟨(Nat.le_of_ble_eq_true rfl), (Nat.le_of_ble_eq_true rfl)⟩ ⟨(Nat.le_of_ble_eq_true rfl), (Nat.le_of_ble_eq_true rfl)⟩ dX11_forecast_3 (fun hE ce q9 H locs hP hD hS hce hcv hcl => ?_) (fun hE H locs hP hD hS => ?_)
  · have hf := (if_neg hE).symm.trans hf
    have hf : (some (e_1, 0) : Option (String × Int32)) = some (rE, rr) := hf
    cases hf
    exact xo hout hlk hE hP hD hS hce hcv hcl (Nat.le_of_ble_eq_true rfl) (Nat.le_of_ble_eq_true rfl)
  have hf := (if_pos hE).symm.trans hf
  refine lv_aload_n hx hb dX11_forecast_6 rfl (lv_at hl 0 rfl) ?_
  refine lv_iconst (v := 1) hx hb dX11_forecast_7 (by decide) ?_
  obtain ⟨e_2, hq, hf⟩ := bd1_some hf
  refine xwV (As := [.int 1]) (rest := []) (wn := [(a_t, .inr (7, [.ref a_t_now, .ref a_t_trial, .ref a_t_snapshot, .int t_snapshotTaken, .ref a_t_history, .ref a_t_text, .ref a_t_works, .ref a_t_highs, .ref a_t_trade])), (a_t_now, .inr (2, [.ref a_t_now_row, .int t_now_length, .int t_now_shorter, .int t_now_longer, .int t_now_memory, .int t_now_limit, .int t_now_seasonDays, .int t_now_stopped, .int t_now_stopPart, .int t_now_stopReason])), (a_t_now_row, .inl (G.2.1, 60, .inl t_now_row))]) hF hG hP hD hS hA hZ hl.1 (c_X11_requirePrices l G a_t a_t_trial a_t_snapshot t_snapshotTaken a_t_history a_t_text a_t_works a_t_highs a_t_trade a_t_now a_t_now_row t_now_length t_now_shorter t_now_longer t_now_memory t_now_limit t_now_seasonDays t_now_stopped t_now_stopPart t_now_stopReason 1 e_2 hq hst) k_X11_requirePrices q987 [0, 1] [2] [1, 2, 0] rfl rfl rfl rfl ⟨rfl, rfl⟩ (by decide) ⟨0, 7, _, _, rfl, rfl, rfl⟩ rfl rfl (Nat.le_of_ble_eq_true rfl) ⟨(Nat.le_of_ble_eq_true rfl), (Nat.le_of_ble_eq_true rfl)⟩ ⟨(Nat.le_of_ble_eq_true rfl), (Nat.le_of_ble_eq_true rfl)⟩ dX11_forecast_8 (fun hE ce q9 H locs hP hD hS hce hcv hcl => ?_) (fun hE H locs hP hD hS => ?_)
  · have hf := (if_neg hE).symm.trans hf
    have hf : (some (e_2, 0) : Option (String × Int32)) = some (rE, rr) := hf
    cases hf
    exact xo hout hlk hE hP hD hS hce hcv hcl (Nat.le_of_ble_eq_true rfl) (Nat.le_of_ble_eq_true rfl)
  have hf := (if_pos hE).symm.trans hf
  refine lv_aload_n hx hb dX11_forecast_11 rfl (lv_at hl 0 rfl) ?_
  refine gf (C := RX11) (T := TX11) (N := 9) (ci := 7) (v := .ref a_t_now) hF hG hP inX11 0 rfl rfl 0 (by decide) q204 rfl rfl dX11_forecast_12 ?_
  refine lv_iload_n hx hb dX11_forecast_15 rfl (lv_at hl 1 rfl) ?_
  refine lv_aload_n hx hb dX11_forecast_16 rfl (lv_at hl 0 rfl) ?_
  refine gf (C := RX11) (T := TX11) (N := 9) (ci := 7) (v := .ref a_t_now) hF hG hP inX11 0 rfl rfl 0 (by decide) q204 rfl rfl dX11_forecast_17 ?_
  refine gfN (C := RX6) (T := TX6) (N := 10) (ci := 2) (v := .int t_now_length) hF hG hP inX6 1 rfl rfl 1 (by decide) n39 rfl rfl dX11_forecast_20 ?_
  obtain ⟨r_3, hq, hf⟩ := bd1_some hf
  refine rdSN (As := [.ref a_t_now, .int x1, .int t_now_length]) (rest := []) hF hG hP hl.1 (c_X1_behind l G a_t_now t_now_length t_now_shorter t_now_longer t_now_memory t_now_limit t_now_seasonDays t_now_stopped t_now_stopPart t_now_stopReason a_t_now_row t_now_row x1 t_now_length r_3 hq) k_X1_behind n536 [1, 2] rfl rfl rfl (Nat.le_of_ble_eq_true rfl) ⟨(Nat.le_of_ble_eq_true rfl), (Nat.le_of_ble_eq_true rfl)⟩ ⟨(Nat.le_of_ble_eq_true rfl), (Nat.le_of_ble_eq_true rfl)⟩ dX11_forecast_23 ?_
  have hf : (some ("", r_3) : Option (String × Int32)) = some (rE, rr) := hf
  cases hf
  exact xe_i hF hr hlk hP hD hS (Nat.le_of_ble_eq_true rfl) (Nat.le_of_ble_eq_true rfl) dX11_forecast_26 rfl
def f_X11_error (t_now_length : Int32) (t_now_shorter : Int32) (t_now_longer : Int32) (t_now_memory : Int32) (t_now_seasonDays : Int32) (t_now_row : Nat → Int32) (x1 : Int32) : Option (String × Int32) := bd1 (f_X11_requireRange x1 0 3) (fun (e_1 : String) => if e_1 = "" then (bd1 (f_X11_requirePrices t_now_length 2) (fun (e_2 : String) => if e_2 = "" then (bd1 (f_X1_missOf t_now_length t_now_shorter t_now_longer t_now_memory t_now_seasonDays t_now_row x1) (fun (r_3 : Int32) => some ("", r_3))) else some (e_2, 0))) else some (e_1, 0))
theorem k_X11_error : KV yX11_error cX11_error 2 (some .int) 1 := ⟨qc_yX11_error, q1, ⟨by decide +kernel, by decide +kernel, by decide +kernel⟩, qi_yX11_error, qs_yX11_error⟩
abbrev mc_X11_error : Nat := 2
abbrev ms_X11_error : Nat := 12
abbrev RM_X11_error : Room := { frames := 9, cells := 2, slots := 12, locals := 142 }
set_option maxHeartbeats 4000000 in
set_option maxRecDepth 100000 in
theorem c_X11_error (l : Launch) (G : GP) (a_t : Nat) (a_t_trial : Nat) (a_t_snapshot : Nat) (t_snapshotTaken : Int32) (a_t_history : Nat) (a_t_text : Nat) (a_t_works : Nat) (a_t_highs : Nat) (a_t_trade : Nat) (a_t_now : Nat) (t_now_length : Int32) (t_now_shorter : Int32) (t_now_longer : Int32) (t_now_memory : Int32) (t_now_limit : Int32) (t_now_seasonDays : Int32) (t_now_stopped : Int32) (t_now_stopPart : Int32) (t_now_stopReason : Int32) (a_t_now_row : Nat) (t_now_row : Nat → Int32) (x1 : Int32) (rE : String) (rr : Int32) (hf : f_X11_error t_now_length t_now_shorter t_now_longer t_now_memory t_now_seasonDays t_now_row x1 = some (rE, rr)) (hst : l.stackTraces = false) : XM l yX11_error cX11_error 2 (some .int) 9 142 2 12 G [.ref a_t, .int x1] [(a_t, .inr (7, [.ref a_t_now, .ref a_t_trial, .ref a_t_snapshot, .int t_snapshotTaken, .ref a_t_history, .ref a_t_text, .ref a_t_works, .ref a_t_highs, .ref a_t_trade])), (a_t_now, .inr (2, [.ref a_t_now_row, .int t_now_length, .int t_now_shorter, .int t_now_longer, .int t_now_memory, .int t_now_limit, .int t_now_seasonDays, .int t_now_stopped, .int t_now_stopPart, .int t_now_stopReason])), (a_t_now_row, .inl (G.2.1, 60, .inl t_now_row))] rE (some (.int rr)) [(a_t, .inr (7, [.ref a_t_now, .ref a_t_trial, .ref a_t_snapshot, .int t_snapshotTaken, .ref a_t_history, .ref a_t_text, .ref a_t_works, .ref a_t_highs, .ref a_t_trade])), (a_t_now, .inr (2, [.ref a_t_now_row, .int t_now_length, .int t_now_shorter, .int t_now_longer, .int t_now_memory, .int t_now_limit, .int t_now_seasonDays, .int t_now_stopped, .int t_now_stopPart, .int t_now_stopReason])), (a_t_now_row, .inl (G.2.1, 60, .inl t_now_row))] := by
  refine XM.ofW (C := RX11) (by decide) rfl (Nat.le_of_ble_eq_true rfl) ?_
  intro p e s m below meth c A hF hr hlk hG hA hP hD hZ hout ls hl
  have hl : lv_has ls 2 [(0, .ref a_t), (1, .int x1)] := hl
  have hx := hF.1
  have hb := hF.2.1
  have hml := hF.2.2.1
  have hown := hF.2.2.2.1
  have hts := hF.2.2.2.2
  have hS : va_S A s.heap s.heap [] := va_S.rf
  unfold f_X11_error at hf
  refine lv_iload_n hx hb dX11_error_0 rfl (lv_at hl 1 rfl) ?_
  refine lv_iconst (v := 0) hx hb dX11_error_1 (by decide) ?_
  refine lv_iconst (v := 3) hx hb dX11_error_2 (by decide) ?_
  obtain ⟨e_1, hq, hf⟩ := bd1_some hf
  refine xwS (As := [.int x1, .int 0, .int 3]) (rest := []) (wn := [(a_t, .inr (7, [.ref a_t_now, .ref a_t_trial, .ref a_t_snapshot, .int t_snapshotTaken, .ref a_t_history, .ref a_t_text, .ref a_t_works, .ref a_t_highs, .ref a_t_trade])), (a_t_now, .inr (2, [.ref a_t_now_row, .int t_now_length, .int t_now_shorter, .int t_now_longer, .int t_now_memory, .int t_now_limit, .int t_now_seasonDays, .int t_now_stopped, .int t_now_stopPart, .int t_now_stopReason])), (a_t_now_row, .inl (G.2.1, 60, .inl t_now_row))]) hF hG hP hD hS hA hZ hl.1 (c_X11_requireRange l G x1 0 3 e_1 hq hst) k_X11_requireRange q581 [] [0, 1, 2] [0, 1, 2] rfl rfl rfl rfl ⟨rfl, rfl⟩ (by decide) rfl rfl (Nat.le_of_ble_eq_true rfl) ⟨(Nat.le_of_ble_eq_true rfl), (Nat.le_of_ble_eq_true rfl)⟩ ⟨(Nat.le_of_ble_eq_true rfl), (Nat.le_of_ble_eq_true rfl)⟩ dX11_error_3 (fun hE ce q9 H locs hP hD hS hce hcv hcl => ?_) (fun hE H locs hP hD hS => ?_)
  · have hf := (if_neg hE).symm.trans hf
    have hf : (some (e_1, 0) : Option (String × Int32)) = some (rE, rr) := hf
    cases hf
    exact xo hout hlk hE hP hD hS hce hcv hcl (Nat.le_of_ble_eq_true rfl) (Nat.le_of_ble_eq_true rfl)
  have hf := (if_pos hE).symm.trans hf
  refine lv_aload_n hx hb dX11_error_6 rfl (lv_at hl 0 rfl) ?_
  refine lv_iconst (v := 2) hx hb dX11_error_7 (by decide) ?_
  obtain ⟨e_2, hq, hf⟩ := bd1_some hf
  refine xwV (As := [.int 2]) (rest := []) (wn := [(a_t, .inr (7, [.ref a_t_now, .ref a_t_trial, .ref a_t_snapshot, .int t_snapshotTaken, .ref a_t_history, .ref a_t_text, .ref a_t_works, .ref a_t_highs, .ref a_t_trade])), (a_t_now, .inr (2, [.ref a_t_now_row, .int t_now_length, .int t_now_shorter, .int t_now_longer, .int t_now_memory, .int t_now_limit, .int t_now_seasonDays, .int t_now_stopped, .int t_now_stopPart, .int t_now_stopReason])), (a_t_now_row, .inl (G.2.1, 60, .inl t_now_row))]) hF hG hP hD hS hA hZ hl.1 (c_X11_requirePrices l G a_t a_t_trial a_t_snapshot t_snapshotTaken a_t_history a_t_text a_t_works a_t_highs a_t_trade a_t_now a_t_now_row t_now_length t_now_shorter t_now_longer t_now_memory t_now_limit t_now_seasonDays t_now_stopped t_now_stopPart t_now_stopReason 2 e_2 hq hst) k_X11_requirePrices q987 [0, 1] [2] [1, 2, 0] rfl rfl rfl rfl ⟨rfl, rfl⟩ (by decide) ⟨0, 7, _, _, rfl, rfl, rfl⟩ rfl rfl (Nat.le_of_ble_eq_true rfl) ⟨(Nat.le_of_ble_eq_true rfl), (Nat.le_of_ble_eq_true rfl)⟩ ⟨(Nat.le_of_ble_eq_true rfl), (Nat.le_of_ble_eq_true rfl)⟩ dX11_error_8 (fun hE ce q9 H locs hP hD hS hce hcv hcl => ?_) (fun hE H locs hP hD hS => ?_)
  · have hf := (if_neg hE).symm.trans hf
    have hf : (some (e_2, 0) : Option (String × Int32)) = some (rE, rr) := hf
    cases hf
    exact xo hout hlk hE hP hD hS hce hcv hcl (Nat.le_of_ble_eq_true rfl) (Nat.le_of_ble_eq_true rfl)
  have hf := (if_pos hE).symm.trans hf
  refine lv_aload_n hx hb dX11_error_11 rfl (lv_at hl 0 rfl) ?_
  refine gf (C := RX11) (T := TX11) (N := 9) (ci := 7) (v := .ref a_t_now) hF hG hP inX11 0 rfl rfl 0 (by decide) q204 rfl rfl dX11_error_12 ?_
  refine lv_iload_n hx hb dX11_error_15 rfl (lv_at hl 1 rfl) ?_
  obtain ⟨r_3, hq, hf⟩ := bd1_some hf
  refine rdSN (As := [.ref a_t_now, .int x1]) (rest := []) hF hG hP hl.1 (c_X1_missOf l G a_t_now t_now_length t_now_shorter t_now_longer t_now_memory t_now_limit t_now_seasonDays t_now_stopped t_now_stopPart t_now_stopReason a_t_now_row t_now_row x1 r_3 hq) k_X1_missOf n546 [1, 2] rfl rfl rfl (Nat.le_of_ble_eq_true rfl) ⟨(Nat.le_of_ble_eq_true rfl), (Nat.le_of_ble_eq_true rfl)⟩ ⟨(Nat.le_of_ble_eq_true rfl), (Nat.le_of_ble_eq_true rfl)⟩ dX11_error_16 ?_
  have hf : (some ("", r_3) : Option (String × Int32)) = some (rE, rr) := hf
  cases hf
  exact xe_i hF hr hlk hP hD hS (Nat.le_of_ble_eq_true rfl) (Nat.le_of_ble_eq_true rfl) dX11_error_19 rfl
