def f_X11_setMemory (t_now_length : Int32) (t_now_shorter : Int32) (t_now_longer : Int32) (t_now_memory : Int32) (t_now_limit : Int32) (t_now_seasonDays : Int32) (t_now_stopped : Int32) (t_now_stopPart : Int32) (t_now_stopReason : Int32) (t_now_row : Nat → Int32) (t_history_oldest : Int32) (t_history_count : Int32) (t_history_ring_row : Nat → (Nat → Int32)) (t_history_ring_length : Nat → Int32) (t_history_ring_shorter : Nat → Int32) (t_history_ring_longer : Nat → Int32) (t_history_ring_memory : Nat → Int32) (t_history_ring_limit : Nat → Int32) (t_history_ring_seasonDays : Nat → Int32) (t_history_ring_stopped : Nat → Int32) (t_history_ring_stopPart : Nat → Int32) (t_history_ring_stopReason : Nat → Int32) (x1 : Int32) : Option (Int32 × Int32 × Int32 × Int32 × (Nat → (Nat → Int32)) × (Nat → Int32) × (Nat → Int32) × (Nat → Int32) × (Nat → Int32) × (Nat → Int32) × (Nat → Int32) × (Nat → Int32) × (Nat → Int32) × (Nat → Int32)) := bd0 (f_X11_requireRange x1 0 9) (fun _ => bd12 (f_X3_save t_history_oldest t_history_count t_history_ring_row t_history_ring_length t_history_ring_shorter t_history_ring_longer t_history_ring_memory t_history_ring_limit t_history_ring_seasonDays t_history_ring_stopped t_history_ring_stopPart t_history_ring_stopReason t_now_length t_now_shorter t_now_longer t_now_memory t_now_limit t_now_seasonDays t_now_stopped t_now_stopPart t_now_stopReason t_now_row) (fun (t_history_oldest_1 : Int32) (t_history_count_2 : Int32) (t_history_ring_row_3 : Nat → (Nat → Int32)) (t_history_ring_length_4 : Nat → Int32) (t_history_ring_shorter_5 : Nat → Int32) (t_history_ring_longer_6 : Nat → Int32) (t_history_ring_memory_7 : Nat → Int32) (t_history_ring_limit_8 : Nat → Int32) (t_history_ring_seasonDays_9 : Nat → Int32) (t_history_ring_stopped_10 : Nat → Int32) (t_history_ring_stopPart_11 : Nat → Int32) (t_history_ring_stopReason_12 : Nat → Int32) => some (t_now_memory, x1, t_history_oldest_1, t_history_count_2, t_history_ring_row_3, t_history_ring_length_4, t_history_ring_shorter_5, t_history_ring_longer_6, t_history_ring_memory_7, t_history_ring_limit_8, t_history_ring_seasonDays_9, t_history_ring_stopped_10, t_history_ring_stopPart_11, t_history_ring_stopReason_12)))
theorem k_X11_setMemory : KV yX11_setMemory cX11_setMemory 3 (some .int) 1 := ⟨qc_yX11_setMemory, q1, ⟨by decide +kernel, by decide +kernel, by decide +kernel⟩, qi_yX11_setMemory, qs_yX11_setMemory⟩
abbrev RM_X11_setMemory : Room := { frames := 3, cells := 0, slots := 0, locals := 83 }
set_option maxHeartbeats 4000000 in
set_option maxRecDepth 100000 in
theorem c_X11_setMemory (l : Launch) (G : GP) (a_t : Nat) (a_t_trial : Nat) (a_t_snapshot : Nat) (t_snapshotTaken : Int32) (a_t_text : Nat) (a_t_works : Nat) (a_t_highs : Nat) (a_t_trade : Nat) (a_t_now : Nat) (t_now_length : Int32) (t_now_shorter : Int32) (t_now_longer : Int32) (t_now_memory : Int32) (t_now_limit : Int32) (t_now_seasonDays : Int32) (t_now_stopped : Int32) (t_now_stopPart : Int32) (t_now_stopReason : Int32) (a_t_now_row : Nat) (t_now_row : Nat → Int32) (a_t_history : Nat) (t_history_oldest : Int32) (t_history_count : Int32) (a_t_history_ring : Nat) (a_t_history_ring_e : Nat → Nat) (a_t_history_ring_b : Nat → Nat) (t_history_ring_row : Nat → (Nat → Int32)) (t_history_ring_length : Nat → Int32) (t_history_ring_shorter : Nat → Int32) (t_history_ring_longer : Nat → Int32) (t_history_ring_memory : Nat → Int32) (t_history_ring_limit : Nat → Int32) (t_history_ring_seasonDays : Nat → Int32) (t_history_ring_stopped : Nat → Int32) (t_history_ring_stopPart : Nat → Int32) (t_history_ring_stopReason : Nat → Int32) (x1 : Int32) (rr : Int32) (w_t_now_memory : Int32) (w_t_history_oldest : Int32) (w_t_history_count : Int32) (w_t_history_ring_row : Nat → (Nat → Int32)) (w_t_history_ring_length : Nat → Int32) (w_t_history_ring_shorter : Nat → Int32) (w_t_history_ring_longer : Nat → Int32) (w_t_history_ring_memory : Nat → Int32) (w_t_history_ring_limit : Nat → Int32) (w_t_history_ring_seasonDays : Nat → Int32) (w_t_history_ring_stopped : Nat → Int32) (w_t_history_ring_stopPart : Nat → Int32) (w_t_history_ring_stopReason : Nat → Int32) (hf : f_X11_setMemory t_now_length t_now_shorter t_now_longer t_now_memory t_now_limit t_now_seasonDays t_now_stopped t_now_stopPart t_now_stopReason t_now_row t_history_oldest t_history_count t_history_ring_row t_history_ring_length t_history_ring_shorter t_history_ring_longer t_history_ring_memory t_history_ring_limit t_history_ring_seasonDays t_history_ring_stopped t_history_ring_stopPart t_history_ring_stopReason x1 = some (rr, w_t_now_memory, w_t_history_oldest, w_t_history_count, w_t_history_ring_row, w_t_history_ring_length, w_t_history_ring_shorter, w_t_history_ring_longer, w_t_history_ring_memory, w_t_history_ring_limit, w_t_history_ring_seasonDays, w_t_history_ring_stopped, w_t_history_ring_stopPart, w_t_history_ring_stopReason)) : WM l yX11_setMemory cX11_setMemory 3 (some .int) 3 83 G [.ref a_t, .int x1] [(a_t, .inr (7, [.ref a_t_now, .ref a_t_trial, .ref a_t_snapshot, .int t_snapshotTaken, .ref a_t_history, .ref a_t_text, .ref a_t_works, .ref a_t_highs, .ref a_t_trade])), (a_t_now, .inr (2, [.ref a_t_now_row, .int t_now_length, .int t_now_shorter, .int t_now_longer, .int t_now_memory, .int t_now_limit, .int t_now_seasonDays, .int t_now_stopped, .int t_now_stopPart, .int t_now_stopReason])), (a_t_now_row, .inl (G.2.1, 60, .inl t_now_row)), (a_t_history, .inr (1, [.ref a_t_history_ring, .int t_history_oldest, .int t_history_count])), (a_t_history_ring, .inl (G.2.2.2, 6, .inr (.inr (.inr (.inr (fun j => some (a_t_history_ring_e j))))))), ((a_t_history_ring_e 0), .inr (2, [.ref (a_t_history_ring_b 0), .int (t_history_ring_length 0), .int (t_history_ring_shorter 0), .int (t_history_ring_longer 0), .int (t_history_ring_memory 0), .int (t_history_ring_limit 0), .int (t_history_ring_seasonDays 0), .int (t_history_ring_stopped 0), .int (t_history_ring_stopPart 0), .int (t_history_ring_stopReason 0)])), ((a_t_history_ring_b 0), .inl (G.2.1, 60, .inl (t_history_ring_row 0))), ((a_t_history_ring_e 1), .inr (2, [.ref (a_t_history_ring_b 1), .int (t_history_ring_length 1), .int (t_history_ring_shorter 1), .int (t_history_ring_longer 1), .int (t_history_ring_memory 1), .int (t_history_ring_limit 1), .int (t_history_ring_seasonDays 1), .int (t_history_ring_stopped 1), .int (t_history_ring_stopPart 1), .int (t_history_ring_stopReason 1)])), ((a_t_history_ring_b 1), .inl (G.2.1, 60, .inl (t_history_ring_row 1))), ((a_t_history_ring_e 2), .inr (2, [.ref (a_t_history_ring_b 2), .int (t_history_ring_length 2), .int (t_history_ring_shorter 2), .int (t_history_ring_longer 2), .int (t_history_ring_memory 2), .int (t_history_ring_limit 2), .int (t_history_ring_seasonDays 2), .int (t_history_ring_stopped 2), .int (t_history_ring_stopPart 2), .int (t_history_ring_stopReason 2)])), ((a_t_history_ring_b 2), .inl (G.2.1, 60, .inl (t_history_ring_row 2))), ((a_t_history_ring_e 3), .inr (2, [.ref (a_t_history_ring_b 3), .int (t_history_ring_length 3), .int (t_history_ring_shorter 3), .int (t_history_ring_longer 3), .int (t_history_ring_memory 3), .int (t_history_ring_limit 3), .int (t_history_ring_seasonDays 3), .int (t_history_ring_stopped 3), .int (t_history_ring_stopPart 3), .int (t_history_ring_stopReason 3)])), ((a_t_history_ring_b 3), .inl (G.2.1, 60, .inl (t_history_ring_row 3))), ((a_t_history_ring_e 4), .inr (2, [.ref (a_t_history_ring_b 4), .int (t_history_ring_length 4), .int (t_history_ring_shorter 4), .int (t_history_ring_longer 4), .int (t_history_ring_memory 4), .int (t_history_ring_limit 4), .int (t_history_ring_seasonDays 4), .int (t_history_ring_stopped 4), .int (t_history_ring_stopPart 4), .int (t_history_ring_stopReason 4)])), ((a_t_history_ring_b 4), .inl (G.2.1, 60, .inl (t_history_ring_row 4))), ((a_t_history_ring_e 5), .inr (2, [.ref (a_t_history_ring_b 5), .int (t_history_ring_length 5), .int (t_history_ring_shorter 5), .int (t_history_ring_longer 5), .int (t_history_ring_memory 5), .int (t_history_ring_limit 5), .int (t_history_ring_seasonDays 5), .int (t_history_ring_stopped 5), .int (t_history_ring_stopPart 5), .int (t_history_ring_stopReason 5)])), ((a_t_history_ring_b 5), .inl (G.2.1, 60, .inl (t_history_ring_row 5)))] (some (.int rr)) [(a_t, .inr (7, [.ref a_t_now, .ref a_t_trial, .ref a_t_snapshot, .int t_snapshotTaken, .ref a_t_history, .ref a_t_text, .ref a_t_works, .ref a_t_highs, .ref a_t_trade])), (a_t_now, .inr (2, [.ref a_t_now_row, .int t_now_length, .int t_now_shorter, .int t_now_longer, .int w_t_now_memory, .int t_now_limit, .int t_now_seasonDays, .int t_now_stopped, .int t_now_stopPart, .int t_now_stopReason])), (a_t_now_row, .inl (G.2.1, 60, .inl t_now_row)), (a_t_history, .inr (1, [.ref a_t_history_ring, .int w_t_history_oldest, .int w_t_history_count])), (a_t_history_ring, .inl (G.2.2.2, 6, .inr (.inr (.inr (.inr (fun j => some (a_t_history_ring_e j))))))), ((a_t_history_ring_e 0), .inr (2, [.ref (a_t_history_ring_b 0), .int (w_t_history_ring_length 0), .int (w_t_history_ring_shorter 0), .int (w_t_history_ring_longer 0), .int (w_t_history_ring_memory 0), .int (w_t_history_ring_limit 0), .int (w_t_history_ring_seasonDays 0), .int (w_t_history_ring_stopped 0), .int (w_t_history_ring_stopPart 0), .int (w_t_history_ring_stopReason 0)])), ((a_t_history_ring_b 0), .inl (G.2.1, 60, .inl (w_t_history_ring_row 0))), ((a_t_history_ring_e 1), .inr (2, [.ref (a_t_history_ring_b 1), .int (w_t_history_ring_length 1), .int (w_t_history_ring_shorter 1), .int (w_t_history_ring_longer 1), .int (w_t_history_ring_memory 1), .int (w_t_history_ring_limit 1), .int (w_t_history_ring_seasonDays 1), .int (w_t_history_ring_stopped 1), .int (w_t_history_ring_stopPart 1), .int (w_t_history_ring_stopReason 1)])), ((a_t_history_ring_b 1), .inl (G.2.1, 60, .inl (w_t_history_ring_row 1))), ((a_t_history_ring_e 2), .inr (2, [.ref (a_t_history_ring_b 2), .int (w_t_history_ring_length 2), .int (w_t_history_ring_shorter 2), .int (w_t_history_ring_longer 2), .int (w_t_history_ring_memory 2), .int (w_t_history_ring_limit 2), .int (w_t_history_ring_seasonDays 2), .int (w_t_history_ring_stopped 2), .int (w_t_history_ring_stopPart 2), .int (w_t_history_ring_stopReason 2)])), ((a_t_history_ring_b 2), .inl (G.2.1, 60, .inl (w_t_history_ring_row 2))), ((a_t_history_ring_e 3), .inr (2, [.ref (a_t_history_ring_b 3), .int (w_t_history_ring_length 3), .int (w_t_history_ring_shorter 3), .int (w_t_history_ring_longer 3), .int (w_t_history_ring_memory 3), .int (w_t_history_ring_limit 3), .int (w_t_history_ring_seasonDays 3), .int (w_t_history_ring_stopped 3), .int (w_t_history_ring_stopPart 3), .int (w_t_history_ring_stopReason 3)])), ((a_t_history_ring_b 3), .inl (G.2.1, 60, .inl (w_t_history_ring_row 3))), ((a_t_history_ring_e 4), .inr (2, [.ref (a_t_history_ring_b 4), .int (w_t_history_ring_length 4), .int (w_t_history_ring_shorter 4), .int (w_t_history_ring_longer 4), .int (w_t_history_ring_memory 4), .int (w_t_history_ring_limit 4), .int (w_t_history_ring_seasonDays 4), .int (w_t_history_ring_stopped 4), .int (w_t_history_ring_stopPart 4), .int (w_t_history_ring_stopReason 4)])), ((a_t_history_ring_b 4), .inl (G.2.1, 60, .inl (w_t_history_ring_row 4))), ((a_t_history_ring_e 5), .inr (2, [.ref (a_t_history_ring_b 5), .int (w_t_history_ring_length 5), .int (w_t_history_ring_shorter 5), .int (w_t_history_ring_longer 5), .int (w_t_history_ring_memory 5), .int (w_t_history_ring_limit 5), .int (w_t_history_ring_seasonDays 5), .int (w_t_history_ring_stopped 5), .int (w_t_history_ring_stopPart 5), .int (w_t_history_ring_stopReason 5)])), ((a_t_history_ring_b 5), .inl (G.2.1, 60, .inl (w_t_history_ring_row 5)))] := by
  refine WM.ofW (C := RX11) (by decide) rfl (Nat.le_of_ble_eq_true rfl) ?_
  intro p e s m below meth c A hF hr hlk hG hA hP hD ls hl
  have hl : lv_has ls 3 [(0, .ref a_t), (1, .int x1)] := hl
  have hx := hF.1
  have hb := hF.2.1
  have hml := hF.2.2.1
  have hown := hF.2.2.2.1
  have hts := hF.2.2.2.2
  have hS : va_S A s.heap s.heap [] := va_S.rf
  unfold f_X11_setMemory at hf
  refine lv_iload_n hx hb dX11_setMemory_0 rfl (lv_at hl 1 rfl) ?_
  refine lv_iconst (v := 0) hx hb dX11_setMemory_1 (by decide) ?_
  refine lv_bipush (v := 9) hx hb dX11_setMemory_2 (by decide) ?_
  obtain ⟨hq, hf⟩ := bd0_some hf
  refine rdS (As := [.int x1, .int 0, .int 9]) (rest := []) hF hG hP hl.1 (c_X11_requireRange l G x1 0 9 hq) k_X11_requireRange q442 [] rfl rfl rfl (Nat.le_of_ble_eq_true rfl) ⟨(Nat.le_of_ble_eq_true rfl), (Nat.le_of_ble_eq_true rfl)⟩ ⟨(Nat.zero_le _), (Nat.zero_le _)⟩ dX11_setMemory_4 ?_
  refine lv_aload_n hx hb dX11_setMemory_7 rfl (lv_at hl 0 rfl) ?_
  refine gf (C := RX11) (T := TX11) (N := 9) (ci := 7) (v := .ref a_t_history) hF hG hP inX11 0 rfl rfl 4 (by decide) q194 rfl rfl dX11_setMemory_8 ?_
  refine lv_aload_n hx hb dX11_setMemory_11 rfl (lv_at hl 0 rfl) ?_
  refine gf (C := RX11) (T := TX11) (N := 9) (ci := 7) (v := .ref a_t_now) hF hG hP inX11 0 rfl rfl 0 (by decide) q190 rfl rfl dX11_setMemory_12 ?_
  obtain ⟨t_history_oldest_1, t_history_count_2, t_history_ring_row_3, t_history_ring_length_4, t_history_ring_shorter_5, t_history_ring_longer_6, t_history_ring_memory_7, t_history_ring_limit_8, t_history_ring_seasonDays_9, t_history_ring_stopped_10, t_history_ring_stopPart_11, t_history_ring_stopReason_12, hq, hf⟩ := bd12_some hf
  refine wrVN (As := [.ref a_t_now]) (rest := []) (wn := [(a_t, .inr (7, [.ref a_t_now, .ref a_t_trial, .ref a_t_snapshot, .int t_snapshotTaken, .ref a_t_history, .ref a_t_text, .ref a_t_works, .ref a_t_highs, .ref a_t_trade])), (a_t_now, .inr (2, [.ref a_t_now_row, .int t_now_length, .int t_now_shorter, .int t_now_longer, .int t_now_memory, .int t_now_limit, .int t_now_seasonDays, .int t_now_stopped, .int t_now_stopPart, .int t_now_stopReason])), (a_t_now_row, .inl (G.2.1, 60, .inl t_now_row)), (a_t_history, .inr (1, [.ref a_t_history_ring, .int t_history_oldest_1, .int t_history_count_2])), (a_t_history_ring, .inl (G.2.2.2, 6, .inr (.inr (.inr (.inr (fun j => some (a_t_history_ring_e j))))))), ((a_t_history_ring_e 0), .inr (2, [.ref (a_t_history_ring_b 0), .int (t_history_ring_length_4 0), .int (t_history_ring_shorter_5 0), .int (t_history_ring_longer_6 0), .int (t_history_ring_memory_7 0), .int (t_history_ring_limit_8 0), .int (t_history_ring_seasonDays_9 0), .int (t_history_ring_stopped_10 0), .int (t_history_ring_stopPart_11 0), .int (t_history_ring_stopReason_12 0)])), ((a_t_history_ring_b 0), .inl (G.2.1, 60, .inl (t_history_ring_row_3 0))), ((a_t_history_ring_e 1), .inr (2, [.ref (a_t_history_ring_b 1), .int (t_history_ring_length_4 1), .int (t_history_ring_shorter_5 1), .int (t_history_ring_longer_6 1), .int (t_history_ring_memory_7 1), .int (t_history_ring_limit_8 1), .int (t_history_ring_seasonDays_9 1), .int (t_history_ring_stopped_10 1), .int (t_history_ring_stopPart_11 1), .int (t_history_ring_stopReason_12 1)])), ((a_t_history_ring_b 1), .inl (G.2.1, 60, .inl (t_history_ring_row_3 1))), ((a_t_history_ring_e 2), .inr (2, [.ref (a_t_history_ring_b 2), .int (t_history_ring_length_4 2), .int (t_history_ring_shorter_5 2), .int (t_history_ring_longer_6 2), .int (t_history_ring_memory_7 2), .int (t_history_ring_limit_8 2), .int (t_history_ring_seasonDays_9 2), .int (t_history_ring_stopped_10 2), .int (t_history_ring_stopPart_11 2), .int (t_history_ring_stopReason_12 2)])), ((a_t_history_ring_b 2), .inl (G.2.1, 60, .inl (t_history_ring_row_3 2))), ((a_t_history_ring_e 3), .inr (2, [.ref (a_t_history_ring_b 3), .int (t_history_ring_length_4 3), .int (t_history_ring_shorter_5 3), .int (t_history_ring_longer_6 3), .int (t_history_ring_memory_7 3), .int (t_history_ring_limit_8 3), .int (t_history_ring_seasonDays_9 3), .int (t_history_ring_stopped_10 3), .int (t_history_ring_stopPart_11 3), .int (t_history_ring_stopReason_12 3)])), ((a_t_history_ring_b 3), .inl (G.2.1, 60, .inl (t_history_ring_row_3 3))), ((a_t_history_ring_e 4), .inr (2, [.ref (a_t_history_ring_b 4), .int (t_history_ring_length_4 4), .int (t_history_ring_shorter_5 4), .int (t_history_ring_longer_6 4), .int (t_history_ring_memory_7 4), .int (t_history_ring_limit_8 4), .int (t_history_ring_seasonDays_9 4), .int (t_history_ring_stopped_10 4), .int (t_history_ring_stopPart_11 4), .int (t_history_ring_stopReason_12 4)])), ((a_t_history_ring_b 4), .inl (G.2.1, 60, .inl (t_history_ring_row_3 4))), ((a_t_history_ring_e 5), .inr (2, [.ref (a_t_history_ring_b 5), .int (t_history_ring_length_4 5), .int (t_history_ring_shorter_5 5), .int (t_history_ring_longer_6 5), .int (t_history_ring_memory_7 5), .int (t_history_ring_limit_8 5), .int (t_history_ring_seasonDays_9 5), .int (t_history_ring_stopped_10 5), .int (t_history_ring_stopPart_11 5), .int (t_history_ring_stopReason_12 5)])), ((a_t_history_ring_b 5), .inl (G.2.1, 60, .inl (t_history_ring_row_3 5)))]) hF hG hP hD hS hA hl.1 (c_X3_save l G a_t_history t_history_oldest t_history_count a_t_history_ring a_t_history_ring_e a_t_history_ring_b t_history_ring_row t_history_ring_length t_history_ring_shorter t_history_ring_longer t_history_ring_memory t_history_ring_limit t_history_ring_seasonDays t_history_ring_stopped t_history_ring_stopPart t_history_ring_stopReason a_t_now t_now_length t_now_shorter t_now_longer t_now_memory t_now_limit t_now_seasonDays t_now_stopped t_now_stopPart t_now_stopReason a_t_now_row t_now_row t_history_oldest_1 t_history_count_2 t_history_ring_row_3 t_history_ring_length_4 t_history_ring_shorter_5 t_history_ring_longer_6 t_history_ring_memory_7 t_history_ring_limit_8 t_history_ring_seasonDays_9 t_history_ring_stopped_10 t_history_ring_stopPart_11 t_history_ring_stopReason_12 hq) k_X3_save n462 [3, 4, 5, 6, 7, 8, 9, 10, 11, 12, 13, 14, 15, 16, 1, 2] [0] [0, 15, 16, 1, 2, 3, 4, 5, 6, 7, 8, 9, 10, 11, 12, 13, 14] rfl rfl rfl rfl ⟨rfl, rfl⟩ (by decide) ⟨3, 1, _, _, rfl, rfl, rfl⟩ rfl rfl (Nat.le_of_ble_eq_true rfl) ⟨(Nat.le_of_ble_eq_true rfl), (Nat.le_of_ble_eq_true rfl)⟩ ⟨(Nat.le_of_ble_eq_true rfl), (Nat.le_of_ble_eq_true rfl)⟩ dX11_setMemory_15 (fun H locs hP hD hS => ?_)
  refine lv_aload_n hx hb dX11_setMemory_18 rfl (lv_at hl 0 rfl) ?_
  refine gf (C := RX11) (T := TX11) (N := 9) (ci := 7) (v := .ref a_t_now) hF hG hP inX11 0 rfl rfl 0 (by decide) q190 rfl rfl dX11_setMemory_19 ?_
  refine gfN (C := RX6) (T := TX6) (N := 10) (ci := 2) (v := .int t_now_memory) hF hG hP inX6 1 rfl rfl 4 (by decide) n54 rfl rfl dX11_setMemory_22 ?_
  refine lv_istore_n (lv' := [(2, .int t_now_memory), (0, .ref a_t), (1, .int x1)]) hx hb dX11_setMemory_25 rfl hl (by decide) rfl (fun ls hl => ?_)
  refine lv_aload_n hx hb dX11_setMemory_26 rfl (lv_at hl 1 rfl) ?_
  refine gf (C := RX11) (T := TX11) (N := 9) (ci := 7) (v := .ref a_t_now) hF hG hP inX11 0 rfl rfl 0 (by decide) q190 rfl rfl dX11_setMemory_27 ?_
  refine lv_iload_n hx hb dX11_setMemory_30 rfl (lv_at hl 2 rfl) ?_
  refine pfN (C := RX6) (T := TX6) (N := 10) (ci := 2) (v := .int x1) (ty := .int) hF hG hP hD hS inX6 tyX6 tyX6_ok nmX6 1 rfl rfl 4 (by decide) n54 rfl rfl (by decide +kernel) rfl rfl (Nat.le_of_ble_eq_true rfl) dX11_setMemory_31 (fun H locs hP hD hS => ?_)
  replace hP : va_P G.1 vwCl [(a_t, .inr (7, [.ref a_t_now, .ref a_t_trial, .ref a_t_snapshot, .int t_snapshotTaken, .ref a_t_history, .ref a_t_text, .ref a_t_works, .ref a_t_highs, .ref a_t_trade])), (a_t_now, .inr (2, [.ref a_t_now_row, .int t_now_length, .int t_now_shorter, .int t_now_longer, .int x1, .int t_now_limit, .int t_now_seasonDays, .int t_now_stopped, .int t_now_stopPart, .int t_now_stopReason])), (a_t_now_row, .inl (G.2.1, 60, .inl t_now_row)), (a_t_history, .inr (1, [.ref a_t_history_ring, .int t_history_oldest_1, .int t_history_count_2])), (a_t_history_ring, .inl (G.2.2.2, 6, .inr (.inr (.inr (.inr (fun j => some (a_t_history_ring_e j))))))), ((a_t_history_ring_e 0), .inr (2, [.ref (a_t_history_ring_b 0), .int (t_history_ring_length_4 0), .int (t_history_ring_shorter_5 0), .int (t_history_ring_longer_6 0), .int (t_history_ring_memory_7 0), .int (t_history_ring_limit_8 0), .int (t_history_ring_seasonDays_9 0), .int (t_history_ring_stopped_10 0), .int (t_history_ring_stopPart_11 0), .int (t_history_ring_stopReason_12 0)])), ((a_t_history_ring_b 0), .inl (G.2.1, 60, .inl (t_history_ring_row_3 0))), ((a_t_history_ring_e 1), .inr (2, [.ref (a_t_history_ring_b 1), .int (t_history_ring_length_4 1), .int (t_history_ring_shorter_5 1), .int (t_history_ring_longer_6 1), .int (t_history_ring_memory_7 1), .int (t_history_ring_limit_8 1), .int (t_history_ring_seasonDays_9 1), .int (t_history_ring_stopped_10 1), .int (t_history_ring_stopPart_11 1), .int (t_history_ring_stopReason_12 1)])), ((a_t_history_ring_b 1), .inl (G.2.1, 60, .inl (t_history_ring_row_3 1))), ((a_t_history_ring_e 2), .inr (2, [.ref (a_t_history_ring_b 2), .int (t_history_ring_length_4 2), .int (t_history_ring_shorter_5 2), .int (t_history_ring_longer_6 2), .int (t_history_ring_memory_7 2), .int (t_history_ring_limit_8 2), .int (t_history_ring_seasonDays_9 2), .int (t_history_ring_stopped_10 2), .int (t_history_ring_stopPart_11 2), .int (t_history_ring_stopReason_12 2)])), ((a_t_history_ring_b 2), .inl (G.2.1, 60, .inl (t_history_ring_row_3 2))), ((a_t_history_ring_e 3), .inr (2, [.ref (a_t_history_ring_b 3), .int (t_history_ring_length_4 3), .int (t_history_ring_shorter_5 3), .int (t_history_ring_longer_6 3), .int (t_history_ring_memory_7 3), .int (t_history_ring_limit_8 3), .int (t_history_ring_seasonDays_9 3), .int (t_history_ring_stopped_10 3), .int (t_history_ring_stopPart_11 3), .int (t_history_ring_stopReason_12 3)])), ((a_t_history_ring_b 3), .inl (G.2.1, 60, .inl (t_history_ring_row_3 3))), ((a_t_history_ring_e 4), .inr (2, [.ref (a_t_history_ring_b 4), .int (t_history_ring_length_4 4), .int (t_history_ring_shorter_5 4), .int (t_history_ring_longer_6 4), .int (t_history_ring_memory_7 4), .int (t_history_ring_limit_8 4), .int (t_history_ring_seasonDays_9 4), .int (t_history_ring_stopped_10 4), .int (t_history_ring_stopPart_11 4), .int (t_history_ring_stopReason_12 4)])), ((a_t_history_ring_b 4), .inl (G.2.1, 60, .inl (t_history_ring_row_3 4))), ((a_t_history_ring_e 5), .inr (2, [.ref (a_t_history_ring_b 5), .int (t_history_ring_length_4 5), .int (t_history_ring_shorter_5 5), .int (t_history_ring_longer_6 5), .int (t_history_ring_memory_7 5), .int (t_history_ring_limit_8 5), .int (t_history_ring_seasonDays_9 5), .int (t_history_ring_stopped_10 5), .int (t_history_ring_stopPart_11 5), .int (t_history_ring_stopReason_12 5)])), ((a_t_history_ring_b 5), .inl (G.2.1, 60, .inl (t_history_ring_row_3 5)))] H := hP
  replace hD : va_D A [(a_t, .inr (7, [.ref a_t_now, .ref a_t_trial, .ref a_t_snapshot, .int t_snapshotTaken, .ref a_t_history, .ref a_t_text, .ref a_t_works, .ref a_t_highs, .ref a_t_trade])), (a_t_now, .inr (2, [.ref a_t_now_row, .int t_now_length, .int t_now_shorter, .int t_now_longer, .int x1, .int t_now_limit, .int t_now_seasonDays, .int t_now_stopped, .int t_now_stopPart, .int t_now_stopReason])), (a_t_now_row, .inl (G.2.1, 60, .inl t_now_row)), (a_t_history, .inr (1, [.ref a_t_history_ring, .int t_history_oldest_1, .int t_history_count_2])), (a_t_history_ring, .inl (G.2.2.2, 6, .inr (.inr (.inr (.inr (fun j => some (a_t_history_ring_e j))))))), ((a_t_history_ring_e 0), .inr (2, [.ref (a_t_history_ring_b 0), .int (t_history_ring_length_4 0), .int (t_history_ring_shorter_5 0), .int (t_history_ring_longer_6 0), .int (t_history_ring_memory_7 0), .int (t_history_ring_limit_8 0), .int (t_history_ring_seasonDays_9 0), .int (t_history_ring_stopped_10 0), .int (t_history_ring_stopPart_11 0), .int (t_history_ring_stopReason_12 0)])), ((a_t_history_ring_b 0), .inl (G.2.1, 60, .inl (t_history_ring_row_3 0))), ((a_t_history_ring_e 1), .inr (2, [.ref (a_t_history_ring_b 1), .int (t_history_ring_length_4 1), .int (t_history_ring_shorter_5 1), .int (t_history_ring_longer_6 1), .int (t_history_ring_memory_7 1), .int (t_history_ring_limit_8 1), .int (t_history_ring_seasonDays_9 1), .int (t_history_ring_stopped_10 1), .int (t_history_ring_stopPart_11 1), .int (t_history_ring_stopReason_12 1)])), ((a_t_history_ring_b 1), .inl (G.2.1, 60, .inl (t_history_ring_row_3 1))), ((a_t_history_ring_e 2), .inr (2, [.ref (a_t_history_ring_b 2), .int (t_history_ring_length_4 2), .int (t_history_ring_shorter_5 2), .int (t_history_ring_longer_6 2), .int (t_history_ring_memory_7 2), .int (t_history_ring_limit_8 2), .int (t_history_ring_seasonDays_9 2), .int (t_history_ring_stopped_10 2), .int (t_history_ring_stopPart_11 2), .int (t_history_ring_stopReason_12 2)])), ((a_t_history_ring_b 2), .inl (G.2.1, 60, .inl (t_history_ring_row_3 2))), ((a_t_history_ring_e 3), .inr (2, [.ref (a_t_history_ring_b 3), .int (t_history_ring_length_4 3), .int (t_history_ring_shorter_5 3), .int (t_history_ring_longer_6 3), .int (t_history_ring_memory_7 3), .int (t_history_ring_limit_8 3), .int (t_history_ring_seasonDays_9 3), .int (t_history_ring_stopped_10 3), .int (t_history_ring_stopPart_11 3), .int (t_history_ring_stopReason_12 3)])), ((a_t_history_ring_b 3), .inl (G.2.1, 60, .inl (t_history_ring_row_3 3))), ((a_t_history_ring_e 4), .inr (2, [.ref (a_t_history_ring_b 4), .int (t_history_ring_length_4 4), .int (t_history_ring_shorter_5 4), .int (t_history_ring_longer_6 4), .int (t_history_ring_memory_7 4), .int (t_history_ring_limit_8 4), .int (t_history_ring_seasonDays_9 4), .int (t_history_ring_stopped_10 4), .int (t_history_ring_stopPart_11 4), .int (t_history_ring_stopReason_12 4)])), ((a_t_history_ring_b 4), .inl (G.2.1, 60, .inl (t_history_ring_row_3 4))), ((a_t_history_ring_e 5), .inr (2, [.ref (a_t_history_ring_b 5), .int (t_history_ring_length_4 5), .int (t_history_ring_shorter_5 5), .int (t_history_ring_longer_6 5), .int (t_history_ring_memory_7 5), .int (t_history_ring_limit_8 5), .int (t_history_ring_seasonDays_9 5), .int (t_history_ring_stopped_10 5), .int (t_history_ring_stopPart_11 5), .int (t_history_ring_stopReason_12 5)])), ((a_t_history_ring_b 5), .inl (G.2.1, 60, .inl (t_history_ring_row_3 5)))] := hD
  refine lv_iload_n hx hb dX11_setMemory_34 rfl (lv_at hl 0 rfl) ?_
  have hf : (some (t_now_memory, x1, t_history_oldest_1, t_history_count_2, t_history_ring_row_3, t_history_ring_length_4, t_history_ring_shorter_5, t_history_ring_longer_6, t_history_ring_memory_7, t_history_ring_limit_8, t_history_ring_seasonDays_9, t_history_ring_stopped_10, t_history_ring_stopPart_11, t_history_ring_stopReason_12) : Option (Int32 × Int32 × Int32 × Int32 × (Nat → (Nat → Int32)) × (Nat → Int32) × (Nat → Int32) × (Nat → Int32) × (Nat → Int32) × (Nat → Int32) × (Nat → Int32) × (Nat → Int32) × (Nat → Int32) × (Nat → Int32))) = some (rr, w_t_now_memory, w_t_history_oldest, w_t_history_count, w_t_history_ring_row, w_t_history_ring_length, w_t_history_ring_shorter, w_t_history_ring_longer, w_t_history_ring_memory, w_t_history_ring_limit, w_t_history_ring_seasonDays, w_t_history_ring_stopped, w_t_history_ring_stopPart, w_t_history_ring_stopReason) := hf
  cases hf
  exact we_i hF hr hlk hP hD hS dX11_setMemory_35 rfl
def f_X11_setLimit (t_now_length : Int32) (t_now_shorter : Int32) (t_now_longer : Int32) (t_now_memory : Int32) (t_now_limit : Int32) (t_now_seasonDays : Int32) (t_now_stopped : Int32) (t_now_stopPart : Int32) (t_now_stopReason : Int32) (t_now_row : Nat → Int32) (t_history_oldest : Int32) (t_history_count : Int32) (t_history_ring_row : Nat → (Nat → Int32)) (t_history_ring_length : Nat → Int32) (t_history_ring_shorter : Nat → Int32) (t_history_ring_longer : Nat → Int32) (t_history_ring_memory : Nat → Int32) (t_history_ring_limit : Nat → Int32) (t_history_ring_seasonDays : Nat → Int32) (t_history_ring_stopped : Nat → Int32) (t_history_ring_stopPart : Nat → Int32) (t_history_ring_stopReason : Nat → Int32) (x1 : Int32) : Option (Int32 × Int32 × Int32 × Int32 × (Nat → (Nat → Int32)) × (Nat → Int32) × (Nat → Int32) × (Nat → Int32) × (Nat → Int32) × (Nat → Int32) × (Nat → Int32) × (Nat → Int32) × (Nat → Int32) × (Nat → Int32)) := bd0 (f_X11_requireRange x1 0 9999) (fun _ => bd12 (f_X3_save t_history_oldest t_history_count t_history_ring_row t_history_ring_length t_history_ring_shorter t_history_ring_longer t_history_ring_memory t_history_ring_limit t_history_ring_seasonDays t_history_ring_stopped t_history_ring_stopPart t_history_ring_stopReason t_now_length t_now_shorter t_now_longer t_now_memory t_now_limit t_now_seasonDays t_now_stopped t_now_stopPart t_now_stopReason t_now_row) (fun (t_history_oldest_1 : Int32) (t_history_count_2 : Int32) (t_history_ring_row_3 : Nat → (Nat → Int32)) (t_history_ring_length_4 : Nat → Int32) (t_history_ring_shorter_5 : Nat → Int32) (t_history_ring_longer_6 : Nat → Int32) (t_history_ring_memory_7 : Nat → Int32) (t_history_ring_limit_8 : Nat → Int32) (t_history_ring_seasonDays_9 : Nat → Int32) (t_history_ring_stopped_10 : Nat → Int32) (t_history_ring_stopPart_11 : Nat → Int32) (t_history_ring_stopReason_12 : Nat → Int32) => some (t_now_limit, x1, t_history_oldest_1, t_history_count_2, t_history_ring_row_3, t_history_ring_length_4, t_history_ring_shorter_5, t_history_ring_longer_6, t_history_ring_memory_7, t_history_ring_limit_8, t_history_ring_seasonDays_9, t_history_ring_stopped_10, t_history_ring_stopPart_11, t_history_ring_stopReason_12)))
theorem k_X11_setLimit : KV yX11_setLimit cX11_setLimit 3 (some .int) 1 := ⟨qc_yX11_setLimit, q1, ⟨by decide +kernel, by decide +kernel, by decide +kernel⟩, qi_yX11_setLimit, qs_yX11_setLimit⟩
abbrev RM_X11_setLimit : Room := { frames := 3, cells := 0, slots := 0, locals := 83 }
set_option maxHeartbeats 4000000 in
set_option maxRecDepth 100000 in
theorem c_X11_setLimit (l : Launch) (G : GP) (a_t : Nat) (a_t_trial : Nat) (a_t_snapshot : Nat) (t_snapshotTaken : Int32) (a_t_text : Nat) (a_t_works : Nat) (a_t_highs : Nat) (a_t_trade : Nat) (a_t_now : Nat) (t_now_length : Int32) (t_now_shorter : Int32) (t_now_longer : Int32) (t_now_memory : Int32) (t_now_limit : Int32) (t_now_seasonDays : Int32) (t_now_stopped : Int32) (t_now_stopPart : Int32) (t_now_stopReason : Int32) (a_t_now_row : Nat) (t_now_row : Nat → Int32) (a_t_history : Nat) (t_history_oldest : Int32) (t_history_count : Int32) (a_t_history_ring : Nat) (a_t_history_ring_e : Nat → Nat) (a_t_history_ring_b : Nat → Nat) (t_history_ring_row : Nat → (Nat → Int32)) (t_history_ring_length : Nat → Int32) (t_history_ring_shorter : Nat → Int32) (t_history_ring_longer : Nat → Int32) (t_history_ring_memory : Nat → Int32) (t_history_ring_limit : Nat → Int32) (t_history_ring_seasonDays : Nat → Int32) (t_history_ring_stopped : Nat → Int32) (t_history_ring_stopPart : Nat → Int32) (t_history_ring_stopReason : Nat → Int32) (x1 : Int32) (rr : Int32) (w_t_now_limit : Int32) (w_t_history_oldest : Int32) (w_t_history_count : Int32) (w_t_history_ring_row : Nat → (Nat → Int32)) (w_t_history_ring_length : Nat → Int32) (w_t_history_ring_shorter : Nat → Int32) (w_t_history_ring_longer : Nat → Int32) (w_t_history_ring_memory : Nat → Int32) (w_t_history_ring_limit : Nat → Int32) (w_t_history_ring_seasonDays : Nat → Int32) (w_t_history_ring_stopped : Nat → Int32) (w_t_history_ring_stopPart : Nat → Int32) (w_t_history_ring_stopReason : Nat → Int32) (hf : f_X11_setLimit t_now_length t_now_shorter t_now_longer t_now_memory t_now_limit t_now_seasonDays t_now_stopped t_now_stopPart t_now_stopReason t_now_row t_history_oldest t_history_count t_history_ring_row t_history_ring_length t_history_ring_shorter t_history_ring_longer t_history_ring_memory t_history_ring_limit t_history_ring_seasonDays t_history_ring_stopped t_history_ring_stopPart t_history_ring_stopReason x1 = some (rr, w_t_now_limit, w_t_history_oldest, w_t_history_count, w_t_history_ring_row, w_t_history_ring_length, w_t_history_ring_shorter, w_t_history_ring_longer, w_t_history_ring_memory, w_t_history_ring_limit, w_t_history_ring_seasonDays, w_t_history_ring_stopped, w_t_history_ring_stopPart, w_t_history_ring_stopReason)) : WM l yX11_setLimit cX11_setLimit 3 (some .int) 3 83 G [.ref a_t, .int x1] [(a_t, .inr (7, [.ref a_t_now, .ref a_t_trial, .ref a_t_snapshot, .int t_snapshotTaken, .ref a_t_history, .ref a_t_text, .ref a_t_works, .ref a_t_highs, .ref a_t_trade])), (a_t_now, .inr (2, [.ref a_t_now_row, .int t_now_length, .int t_now_shorter, .int t_now_longer, .int t_now_memory, .int t_now_limit, .int t_now_seasonDays, .int t_now_stopped, .int t_now_stopPart, .int t_now_stopReason])), (a_t_now_row, .inl (G.2.1, 60, .inl t_now_row)), (a_t_history, .inr (1, [.ref a_t_history_ring, .int t_history_oldest, .int t_history_count])), (a_t_history_ring, .inl (G.2.2.2, 6, .inr (.inr (.inr (.inr (fun j => some (a_t_history_ring_e j))))))), ((a_t_history_ring_e 0), .inr (2, [.ref (a_t_history_ring_b 0), .int (t_history_ring_length 0), .int (t_history_ring_shorter 0), .int (t_history_ring_longer 0), .int (t_history_ring_memory 0), .int (t_history_ring_limit 0), .int (t_history_ring_seasonDays 0), .int (t_history_ring_stopped 0), .int (t_history_ring_stopPart 0), .int (t_history_ring_stopReason 0)])), ((a_t_history_ring_b 0), .inl (G.2.1, 60, .inl (t_history_ring_row 0))), ((a_t_history_ring_e 1), .inr (2, [.ref (a_t_history_ring_b 1), .int (t_history_ring_length 1), .int (t_history_ring_shorter 1), .int (t_history_ring_longer 1), .int (t_history_ring_memory 1), .int (t_history_ring_limit 1), .int (t_history_ring_seasonDays 1), .int (t_history_ring_stopped 1), .int (t_history_ring_stopPart 1), .int (t_history_ring_stopReason 1)])), ((a_t_history_ring_b 1), .inl (G.2.1, 60, .inl (t_history_ring_row 1))), ((a_t_history_ring_e 2), .inr (2, [.ref (a_t_history_ring_b 2), .int (t_history_ring_length 2), .int (t_history_ring_shorter 2), .int (t_history_ring_longer 2), .int (t_history_ring_memory 2), .int (t_history_ring_limit 2), .int (t_history_ring_seasonDays 2), .int (t_history_ring_stopped 2), .int (t_history_ring_stopPart 2), .int (t_history_ring_stopReason 2)])), ((a_t_history_ring_b 2), .inl (G.2.1, 60, .inl (t_history_ring_row 2))), ((a_t_history_ring_e 3), .inr (2, [.ref (a_t_history_ring_b 3), .int (t_history_ring_length 3), .int (t_history_ring_shorter 3), .int (t_history_ring_longer 3), .int (t_history_ring_memory 3), .int (t_history_ring_limit 3), .int (t_history_ring_seasonDays 3), .int (t_history_ring_stopped 3), .int (t_history_ring_stopPart 3), .int (t_history_ring_stopReason 3)])), ((a_t_history_ring_b 3), .inl (G.2.1, 60, .inl (t_history_ring_row 3))), ((a_t_history_ring_e 4), .inr (2, [.ref (a_t_history_ring_b 4), .int (t_history_ring_length 4), .int (t_history_ring_shorter 4), .int (t_history_ring_longer 4), .int (t_history_ring_memory 4), .int (t_history_ring_limit 4), .int (t_history_ring_seasonDays 4), .int (t_history_ring_stopped 4), .int (t_history_ring_stopPart 4), .int (t_history_ring_stopReason 4)])), ((a_t_history_ring_b 4), .inl (G.2.1, 60, .inl (t_history_ring_row 4))), ((a_t_history_ring_e 5), .inr (2, [.ref (a_t_history_ring_b 5), .int (t_history_ring_length 5), .int (t_history_ring_shorter 5), .int (t_history_ring_longer 5), .int (t_history_ring_memory 5), .int (t_history_ring_limit 5), .int (t_history_ring_seasonDays 5), .int (t_history_ring_stopped 5), .int (t_history_ring_stopPart 5), .int (t_history_ring_stopReason 5)])), ((a_t_history_ring_b 5), .inl (G.2.1, 60, .inl (t_history_ring_row 5)))] (some (.int rr)) [(a_t, .inr (7, [.ref a_t_now, .ref a_t_trial, .ref a_t_snapshot, .int t_snapshotTaken, .ref a_t_history, .ref a_t_text, .ref a_t_works, .ref a_t_highs, .ref a_t_trade])), (a_t_now, .inr (2, [.ref a_t_now_row, .int t_now_length, .int t_now_shorter, .int t_now_longer, .int t_now_memory, .int w_t_now_limit, .int t_now_seasonDays, .int t_now_stopped, .int t_now_stopPart, .int t_now_stopReason])), (a_t_now_row, .inl (G.2.1, 60, .inl t_now_row)), (a_t_history, .inr (1, [.ref a_t_history_ring, .int w_t_history_oldest, .int w_t_history_count])), (a_t_history_ring, .inl (G.2.2.2, 6, .inr (.inr (.inr (.inr (fun j => some (a_t_history_ring_e j))))))), ((a_t_history_ring_e 0), .inr (2, [.ref (a_t_history_ring_b 0), .int (w_t_history_ring_length 0), .int (w_t_history_ring_shorter 0), .int (w_t_history_ring_longer 0), .int (w_t_history_ring_memory 0), .int (w_t_history_ring_limit 0), .int (w_t_history_ring_seasonDays 0), .int (w_t_history_ring_stopped 0), .int (w_t_history_ring_stopPart 0), .int (w_t_history_ring_stopReason 0)])), ((a_t_history_ring_b 0), .inl (G.2.1, 60, .inl (w_t_history_ring_row 0))), ((a_t_history_ring_e 1), .inr (2, [.ref (a_t_history_ring_b 1), .int (w_t_history_ring_length 1), .int (w_t_history_ring_shorter 1), .int (w_t_history_ring_longer 1), .int (w_t_history_ring_memory 1), .int (w_t_history_ring_limit 1), .int (w_t_history_ring_seasonDays 1), .int (w_t_history_ring_stopped 1), .int (w_t_history_ring_stopPart 1), .int (w_t_history_ring_stopReason 1)])), ((a_t_history_ring_b 1), .inl (G.2.1, 60, .inl (w_t_history_ring_row 1))), ((a_t_history_ring_e 2), .inr (2, [.ref (a_t_history_ring_b 2), .int (w_t_history_ring_length 2), .int (w_t_history_ring_shorter 2), .int (w_t_history_ring_longer 2), .int (w_t_history_ring_memory 2), .int (w_t_history_ring_limit 2), .int (w_t_history_ring_seasonDays 2), .int (w_t_history_ring_stopped 2), .int (w_t_history_ring_stopPart 2), .int (w_t_history_ring_stopReason 2)])), ((a_t_history_ring_b 2), .inl (G.2.1, 60, .inl (w_t_history_ring_row 2))), ((a_t_history_ring_e 3), .inr (2, [.ref (a_t_history_ring_b 3), .int (w_t_history_ring_length 3), .int (w_t_history_ring_shorter 3), .int (w_t_history_ring_longer 3), .int (w_t_history_ring_memory 3), .int (w_t_history_ring_limit 3), .int (w_t_history_ring_seasonDays 3), .int (w_t_history_ring_stopped 3), .int (w_t_history_ring_stopPart 3), .int (w_t_history_ring_stopReason 3)])), ((a_t_history_ring_b 3), .inl (G.2.1, 60, .inl (w_t_history_ring_row 3))), ((a_t_history_ring_e 4), .inr (2, [.ref (a_t_history_ring_b 4), .int (w_t_history_ring_length 4), .int (w_t_history_ring_shorter 4), .int (w_t_history_ring_longer 4), .int (w_t_history_ring_memory 4), .int (w_t_history_ring_limit 4), .int (w_t_history_ring_seasonDays 4), .int (w_t_history_ring_stopped 4), .int (w_t_history_ring_stopPart 4), .int (w_t_history_ring_stopReason 4)])), ((a_t_history_ring_b 4), .inl (G.2.1, 60, .inl (w_t_history_ring_row 4))), ((a_t_history_ring_e 5), .inr (2, [.ref (a_t_history_ring_b 5), .int (w_t_history_ring_length 5), .int (w_t_history_ring_shorter 5), .int (w_t_history_ring_longer 5), .int (w_t_history_ring_memory 5), .int (w_t_history_ring_limit 5), .int (w_t_history_ring_seasonDays 5), .int (w_t_history_ring_stopped 5), .int (w_t_history_ring_stopPart 5), .int (w_t_history_ring_stopReason 5)])), ((a_t_history_ring_b 5), .inl (G.2.1, 60, .inl (w_t_history_ring_row 5)))] := by
  refine WM.ofW (C := RX11) (by decide) rfl (Nat.le_of_ble_eq_true rfl) ?_
  intro p e s m below meth c A hF hr hlk hG hA hP hD ls hl
  have hl : lv_has ls 3 [(0, .ref a_t), (1, .int x1)] := hl
  have hx := hF.1
  have hb := hF.2.1
  have hml := hF.2.2.1
  have hown := hF.2.2.2.1
  have hts := hF.2.2.2.2
  have hS : va_S A s.heap s.heap [] := va_S.rf
  unfold f_X11_setLimit at hf
  refine lv_iload_n hx hb dX11_setLimit_0 rfl (lv_at hl 1 rfl) ?_
  refine lv_iconst (v := 0) hx hb dX11_setLimit_1 (by decide) ?_
  refine lv_sipush (v := 9999) hx hb dX11_setLimit_2 (by decide) ?_
  obtain ⟨hq, hf⟩ := bd0_some hf
  refine rdS (As := [.int x1, .int 0, .int 9999]) (rest := []) hF hG hP hl.1 (c_X11_requireRange l G x1 0 9999 hq) k_X11_requireRange q442 [] rfl rfl rfl (Nat.le_of_ble_eq_true rfl) ⟨(Nat.le_of_ble_eq_true rfl), (Nat.le_of_ble_eq_true rfl)⟩ ⟨(Nat.zero_le _), (Nat.zero_le _)⟩ dX11_setLimit_5 ?_
  refine lv_aload_n hx hb dX11_setLimit_8 rfl (lv_at hl 0 rfl) ?_
  refine gf (C := RX11) (T := TX11) (N := 9) (ci := 7) (v := .ref a_t_history) hF hG hP inX11 0 rfl rfl 4 (by decide) q194 rfl rfl dX11_setLimit_9 ?_
  refine lv_aload_n hx hb dX11_setLimit_12 rfl (lv_at hl 0 rfl) ?_
  refine gf (C := RX11) (T := TX11) (N := 9) (ci := 7) (v := .ref a_t_now) hF hG hP inX11 0 rfl rfl 0 (by decide) q190 rfl rfl dX11_setLimit_13 ?_
  obtain ⟨t_history_oldest_1, t_history_count_2, t_history_ring_row_3, t_history_ring_length_4, t_history_ring_shorter_5, t_history_ring_longer_6, t_history_ring_memory_7, t_history_ring_limit_8, t_history_ring_seasonDays_9, t_history_ring_stopped_10, t_history_ring_stopPart_11, t_history_ring_stopReason_12, hq, hf⟩ := bd12_some hf
  refine wrVN (As := [.ref a_t_now]) (rest := []) (wn := [(a_t, .inr (7, [.ref a_t_now, .ref a_t_trial, .ref a_t_snapshot, .int t_snapshotTaken, .ref a_t_history, .ref a_t_text, .ref a_t_works, .ref a_t_highs, .ref a_t_trade])), (a_t_now, .inr (2, [.ref a_t_now_row, .int t_now_length, .int t_now_shorter, .int t_now_longer, .int t_now_memory, .int t_now_limit, .int t_now_seasonDays, .int t_now_stopped, .int t_now_stopPart, .int t_now_stopReason])), (a_t_now_row, .inl (G.2.1, 60, .inl t_now_row)), (a_t_history, .inr (1, [.ref a_t_history_ring, .int t_history_oldest_1, .int t_history_count_2])), (a_t_history_ring, .inl (G.2.2.2, 6, .inr (.inr (.inr (.inr (fun j => some (a_t_history_ring_e j))))))), ((a_t_history_ring_e 0), .inr (2, [.ref (a_t_history_ring_b 0), .int (t_history_ring_length_4 0), .int (t_history_ring_shorter_5 0), .int (t_history_ring_longer_6 0), .int (t_history_ring_memory_7 0), .int (t_history_ring_limit_8 0), .int (t_history_ring_seasonDays_9 0), .int (t_history_ring_stopped_10 0), .int (t_history_ring_stopPart_11 0), .int (t_history_ring_stopReason_12 0)])), ((a_t_history_ring_b 0), .inl (G.2.1, 60, .inl (t_history_ring_row_3 0))), ((a_t_history_ring_e 1), .inr (2, [.ref (a_t_history_ring_b 1), .int (t_history_ring_length_4 1), .int (t_history_ring_shorter_5 1), .int (t_history_ring_longer_6 1), .int (t_history_ring_memory_7 1), .int (t_history_ring_limit_8 1), .int (t_history_ring_seasonDays_9 1), .int (t_history_ring_stopped_10 1), .int (t_history_ring_stopPart_11 1), .int (t_history_ring_stopReason_12 1)])), ((a_t_history_ring_b 1), .inl (G.2.1, 60, .inl (t_history_ring_row_3 1))), ((a_t_history_ring_e 2), .inr (2, [.ref (a_t_history_ring_b 2), .int (t_history_ring_length_4 2), .int (t_history_ring_shorter_5 2), .int (t_history_ring_longer_6 2), .int (t_history_ring_memory_7 2), .int (t_history_ring_limit_8 2), .int (t_history_ring_seasonDays_9 2), .int (t_history_ring_stopped_10 2), .int (t_history_ring_stopPart_11 2), .int (t_history_ring_stopReason_12 2)])), ((a_t_history_ring_b 2), .inl (G.2.1, 60, .inl (t_history_ring_row_3 2))), ((a_t_history_ring_e 3), .inr (2, [.ref (a_t_history_ring_b 3), .int (t_history_ring_length_4 3), .int (t_history_ring_shorter_5 3), .int (t_history_ring_longer_6 3), .int (t_history_ring_memory_7 3), .int (t_history_ring_limit_8 3), .int (t_history_ring_seasonDays_9 3), .int (t_history_ring_stopped_10 3), .int (t_history_ring_stopPart_11 3), .int (t_history_ring_stopReason_12 3)])), ((a_t_history_ring_b 3), .inl (G.2.1, 60, .inl (t_history_ring_row_3 3))), ((a_t_history_ring_e 4), .inr (2, [.ref (a_t_history_ring_b 4), .int (t_history_ring_length_4 4), .int (t_history_ring_shorter_5 4), .int (t_history_ring_longer_6 4), .int (t_history_ring_memory_7 4), .int (t_history_ring_limit_8 4), .int (t_history_ring_seasonDays_9 4), .int (t_history_ring_stopped_10 4), .int (t_history_ring_stopPart_11 4), .int (t_history_ring_stopReason_12 4)])), ((a_t_history_ring_b 4), .inl (G.2.1, 60, .inl (t_history_ring_row_3 4))), ((a_t_history_ring_e 5), .inr (2, [.ref (a_t_history_ring_b 5), .int (t_history_ring_length_4 5), .int (t_history_ring_shorter_5 5), .int (t_history_ring_longer_6 5), .int (t_history_ring_memory_7 5), .int (t_history_ring_limit_8 5), .int (t_history_ring_seasonDays_9 5), .int (t_history_ring_stopped_10 5), .int (t_history_ring_stopPart_11 5), .int (t_history_ring_stopReason_12 5)])), ((a_t_history_ring_b 5), .inl (G.2.1, 60, .inl (t_history_ring_row_3 5)))]) hF hG hP hD hS hA hl.1 (c_X3_save l G a_t_history t_history_oldest t_history_count a_t_history_ring a_t_history_ring_e a_t_history_ring_b t_history_ring_row t_history_ring_length t_history_ring_shorter t_history_ring_longer t_history_ring_memory t_history_ring_limit t_history_ring_seasonDays t_history_ring_stopped t_history_ring_stopPart t_history_ring_stopReason a_t_now t_now_length t_now_shorter t_now_longer t_now_memory t_now_limit t_now_seasonDays t_now_stopped t_now_stopPart t_now_stopReason a_t_now_row t_now_row t_history_oldest_1 t_history_count_2 t_history_ring_row_3 t_history_ring_length_4 t_history_ring_shorter_5 t_history_ring_longer_6 t_history_ring_memory_7 t_history_ring_limit_8 t_history_ring_seasonDays_9 t_history_ring_stopped_10 t_history_ring_stopPart_11 t_history_ring_stopReason_12 hq) k_X3_save n462 [3, 4, 5, 6, 7, 8, 9, 10, 11, 12, 13, 14, 15, 16, 1, 2] [0] [0, 15, 16, 1, 2, 3, 4, 5, 6, 7, 8, 9, 10, 11, 12, 13, 14] rfl rfl rfl rfl ⟨rfl, rfl⟩ (by decide) ⟨3, 1, _, _, rfl, rfl, rfl⟩ rfl rfl (Nat.le_of_ble_eq_true rfl) ⟨(Nat.le_of_ble_eq_true rfl), (Nat.le_of_ble_eq_true rfl)⟩ ⟨(Nat.le_of_ble_eq_true rfl), (Nat.le_of_ble_eq_true rfl)⟩ dX11_setLimit_16 (fun H locs hP hD hS => ?_)
  refine lv_aload_n hx hb dX11_setLimit_19 rfl (lv_at hl 0 rfl) ?_
  refine gf (C := RX11) (T := TX11) (N := 9) (ci := 7) (v := .ref a_t_now) hF hG hP inX11 0 rfl rfl 0 (by decide) q190 rfl rfl dX11_setLimit_20 ?_
  refine gfN (C := RX6) (T := TX6) (N := 10) (ci := 2) (v := .int t_now_limit) hF hG hP inX6 1 rfl rfl 5 (by decide) n57 rfl rfl dX11_setLimit_23 ?_
  refine lv_istore_n (lv' := [(2, .int t_now_limit), (0, .ref a_t), (1, .int x1)]) hx hb dX11_setLimit_26 rfl hl (by decide) rfl (fun ls hl => ?_)
  refine lv_aload_n hx hb dX11_setLimit_27 rfl (lv_at hl 1 rfl) ?_
  refine gf (C := RX11) (T := TX11) (N := 9) (ci := 7) (v := .ref a_t_now) hF hG hP inX11 0 rfl rfl 0 (by decide) q190 rfl rfl dX11_setLimit_28 ?_
  refine lv_iload_n hx hb dX11_setLimit_31 rfl (lv_at hl 2 rfl) ?_
  refine pfN (C := RX6) (T := TX6) (N := 10) (ci := 2) (v := .int x1) (ty := .int) hF hG hP hD hS inX6 tyX6 tyX6_ok nmX6 1 rfl rfl 5 (by decide) n57 rfl rfl (by decide +kernel) rfl rfl (Nat.le_of_ble_eq_true rfl) dX11_setLimit_32 (fun H locs hP hD hS => ?_)
  replace hP : va_P G.1 vwCl [(a_t, .inr (7, [.ref a_t_now, .ref a_t_trial, .ref a_t_snapshot, .int t_snapshotTaken, .ref a_t_history, .ref a_t_text, .ref a_t_works, .ref a_t_highs, .ref a_t_trade])), (a_t_now, .inr (2, [.ref a_t_now_row, .int t_now_length, .int t_now_shorter, .int t_now_longer, .int t_now_memory, .int x1, .int t_now_seasonDays, .int t_now_stopped, .int t_now_stopPart, .int t_now_stopReason])), (a_t_now_row, .inl (G.2.1, 60, .inl t_now_row)), (a_t_history, .inr (1, [.ref a_t_history_ring, .int t_history_oldest_1, .int t_history_count_2])), (a_t_history_ring, .inl (G.2.2.2, 6, .inr (.inr (.inr (.inr (fun j => some (a_t_history_ring_e j))))))), ((a_t_history_ring_e 0), .inr (2, [.ref (a_t_history_ring_b 0), .int (t_history_ring_length_4 0), .int (t_history_ring_shorter_5 0), .int (t_history_ring_longer_6 0), .int (t_history_ring_memory_7 0), .int (t_history_ring_limit_8 0), .int (t_history_ring_seasonDays_9 0), .int (t_history_ring_stopped_10 0), .int (t_history_ring_stopPart_11 0), .int (t_history_ring_stopReason_12 0)])), ((a_t_history_ring_b 0), .inl (G.2.1, 60, .inl (t_history_ring_row_3 0))), ((a_t_history_ring_e 1), .inr (2, [.ref (a_t_history_ring_b 1), .int (t_history_ring_length_4 1), .int (t_history_ring_shorter_5 1), .int (t_history_ring_longer_6 1), .int (t_history_ring_memory_7 1), .int (t_history_ring_limit_8 1), .int (t_history_ring_seasonDays_9 1), .int (t_history_ring_stopped_10 1), .int (t_history_ring_stopPart_11 1), .int (t_history_ring_stopReason_12 1)])), ((a_t_history_ring_b 1), .inl (G.2.1, 60, .inl (t_history_ring_row_3 1))), ((a_t_history_ring_e 2), .inr (2, [.ref (a_t_history_ring_b 2), .int (t_history_ring_length_4 2), .int (t_history_ring_shorter_5 2), .int (t_history_ring_longer_6 2), .int (t_history_ring_memory_7 2), .int (t_history_ring_limit_8 2), .int (t_history_ring_seasonDays_9 2), .int (t_history_ring_stopped_10 2), .int (t_history_ring_stopPart_11 2), .int (t_history_ring_stopReason_12 2)])), ((a_t_history_ring_b 2), .inl (G.2.1, 60, .inl (t_history_ring_row_3 2))), ((a_t_history_ring_e 3), .inr (2, [.ref (a_t_history_ring_b 3), .int (t_history_ring_length_4 3), .int (t_history_ring_shorter_5 3), .int (t_history_ring_longer_6 3), .int (t_history_ring_memory_7 3), .int (t_history_ring_limit_8 3), .int (t_history_ring_seasonDays_9 3), .int (t_history_ring_stopped_10 3), .int (t_history_ring_stopPart_11 3), .int (t_history_ring_stopReason_12 3)])), ((a_t_history_ring_b 3), .inl (G.2.1, 60, .inl (t_history_ring_row_3 3))), ((a_t_history_ring_e 4), .inr (2, [.ref (a_t_history_ring_b 4), .int (t_history_ring_length_4 4), .int (t_history_ring_shorter_5 4), .int (t_history_ring_longer_6 4), .int (t_history_ring_memory_7 4), .int (t_history_ring_limit_8 4), .int (t_history_ring_seasonDays_9 4), .int (t_history_ring_stopped_10 4), .int (t_history_ring_stopPart_11 4), .int (t_history_ring_stopReason_12 4)])), ((a_t_history_ring_b 4), .inl (G.2.1, 60, .inl (t_history_ring_row_3 4))), ((a_t_history_ring_e 5), .inr (2, [.ref (a_t_history_ring_b 5), .int (t_history_ring_length_4 5), .int (t_history_ring_shorter_5 5), .int (t_history_ring_longer_6 5), .int (t_history_ring_memory_7 5), .int (t_history_ring_limit_8 5), .int (t_history_ring_seasonDays_9 5), .int (t_history_ring_stopped_10 5), .int (t_history_ring_stopPart_11 5), .int (t_history_ring_stopReason_12 5)])), ((a_t_history_ring_b 5), .inl (G.2.1, 60, .inl (t_history_ring_row_3 5)))] H := hP
  replace hD : va_D A [(a_t, .inr (7, [.ref a_t_now, .ref a_t_trial, .ref a_t_snapshot, .int t_snapshotTaken, .ref a_t_history, .ref a_t_text, .ref a_t_works, .ref a_t_highs, .ref a_t_trade])), (a_t_now, .inr (2, [.ref a_t_now_row, .int t_now_length, .int t_now_shorter, .int t_now_longer, .int t_now_memory, .int x1, .int t_now_seasonDays, .int t_now_stopped, .int t_now_stopPart, .int t_now_stopReason])), (a_t_now_row, .inl (G.2.1, 60, .inl t_now_row)), (a_t_history, .inr (1, [.ref a_t_history_ring, .int t_history_oldest_1, .int t_history_count_2])), (a_t_history_ring, .inl (G.2.2.2, 6, .inr (.inr (.inr (.inr (fun j => some (a_t_history_ring_e j))))))), ((a_t_history_ring_e 0), .inr (2, [.ref (a_t_history_ring_b 0), .int (t_history_ring_length_4 0), .int (t_history_ring_shorter_5 0), .int (t_history_ring_longer_6 0), .int (t_history_ring_memory_7 0), .int (t_history_ring_limit_8 0), .int (t_history_ring_seasonDays_9 0), .int (t_history_ring_stopped_10 0), .int (t_history_ring_stopPart_11 0), .int (t_history_ring_stopReason_12 0)])), ((a_t_history_ring_b 0), .inl (G.2.1, 60, .inl (t_history_ring_row_3 0))), ((a_t_history_ring_e 1), .inr (2, [.ref (a_t_history_ring_b 1), .int (t_history_ring_length_4 1), .int (t_history_ring_shorter_5 1), .int (t_history_ring_longer_6 1), .int (t_history_ring_memory_7 1), .int (t_history_ring_limit_8 1), .int (t_history_ring_seasonDays_9 1), .int (t_history_ring_stopped_10 1), .int (t_history_ring_stopPart_11 1), .int (t_history_ring_stopReason_12 1)])), ((a_t_history_ring_b 1), .inl (G.2.1, 60, .inl (t_history_ring_row_3 1))), ((a_t_history_ring_e 2), .inr (2, [.ref (a_t_history_ring_b 2), .int (t_history_ring_length_4 2), .int (t_history_ring_shorter_5 2), .int (t_history_ring_longer_6 2), .int (t_history_ring_memory_7 2), .int (t_history_ring_limit_8 2), .int (t_history_ring_seasonDays_9 2), .int (t_history_ring_stopped_10 2), .int (t_history_ring_stopPart_11 2), .int (t_history_ring_stopReason_12 2)])), ((a_t_history_ring_b 2), .inl (G.2.1, 60, .inl (t_history_ring_row_3 2))), ((a_t_history_ring_e 3), .inr (2, [.ref (a_t_history_ring_b 3), .int (t_history_ring_length_4 3), .int (t_history_ring_shorter_5 3), .int (t_history_ring_longer_6 3), .int (t_history_ring_memory_7 3), .int (t_history_ring_limit_8 3), .int (t_history_ring_seasonDays_9 3), .int (t_history_ring_stopped_10 3), .int (t_history_ring_stopPart_11 3), .int (t_history_ring_stopReason_12 3)])), ((a_t_history_ring_b 3), .inl (G.2.1, 60, .inl (t_history_ring_row_3 3))), ((a_t_history_ring_e 4), .inr (2, [.ref (a_t_history_ring_b 4), .int (t_history_ring_length_4 4), .int (t_history_ring_shorter_5 4), .int (t_history_ring_longer_6 4), .int (t_history_ring_memory_7 4), .int (t_history_ring_limit_8 4), .int (t_history_ring_seasonDays_9 4), .int (t_history_ring_stopped_10 4), .int (t_history_ring_stopPart_11 4), .int (t_history_ring_stopReason_12 4)])), ((a_t_history_ring_b 4), .inl (G.2.1, 60, .inl (t_history_ring_row_3 4))), ((a_t_history_ring_e 5), .inr (2, [.ref (a_t_history_ring_b 5), .int (t_history_ring_length_4 5), .int (t_history_ring_shorter_5 5), .int (t_history_ring_longer_6 5), .int (t_history_ring_memory_7 5), .int (t_history_ring_limit_8 5), .int (t_history_ring_seasonDays_9 5), .int (t_history_ring_stopped_10 5), .int (t_history_ring_stopPart_11 5), .int (t_history_ring_stopReason_12 5)])), ((a_t_history_ring_b 5), .inl (G.2.1, 60, .inl (t_history_ring_row_3 5)))] := hD
  refine lv_iload_n hx hb dX11_setLimit_35 rfl (lv_at hl 0 rfl) ?_
  have hf : (some (t_now_limit, x1, t_history_oldest_1, t_history_count_2, t_history_ring_row_3, t_history_ring_length_4, t_history_ring_shorter_5, t_history_ring_longer_6, t_history_ring_memory_7, t_history_ring_limit_8, t_history_ring_seasonDays_9, t_history_ring_stopped_10, t_history_ring_stopPart_11, t_history_ring_stopReason_12) : Option (Int32 × Int32 × Int32 × Int32 × (Nat → (Nat → Int32)) × (Nat → Int32) × (Nat → Int32) × (Nat → Int32) × (Nat → Int32) × (Nat → Int32) × (Nat → Int32) × (Nat → Int32) × (Nat → Int32) × (Nat → Int32))) = some (rr, w_t_now_limit, w_t_history_oldest, w_t_history_count, w_t_history_ring_row, w_t_history_ring_length, w_t_history_ring_shorter, w_t_history_ring_longer, w_t_history_ring_memory, w_t_history_ring_limit, w_t_history_ring_seasonDays, w_t_history_ring_stopped, w_t_history_ring_stopPart, w_t_history_ring_stopReason) := hf
  cases hf
  exact we_i hF hr hlk hP hD hS dX11_setLimit_36 rfl
def f_X11_setSeason (t_now_length : Int32) (t_now_shorter : Int32) (t_now_longer : Int32) (t_now_memory : Int32) (t_now_limit : Int32) (t_now_seasonDays : Int32) (t_now_stopped : Int32) (t_now_stopPart : Int32) (t_now_stopReason : Int32) (t_now_row : Nat → Int32) (t_history_oldest : Int32) (t_history_count : Int32) (t_history_ring_row : Nat → (Nat → Int32)) (t_history_ring_length : Nat → Int32) (t_history_ring_shorter : Nat → Int32) (t_history_ring_longer : Nat → Int32) (t_history_ring_memory : Nat → Int32) (t_history_ring_limit : Nat → Int32) (t_history_ring_seasonDays : Nat → Int32) (t_history_ring_stopped : Nat → Int32) (t_history_ring_stopPart : Nat → Int32) (t_history_ring_stopReason : Nat → Int32) (x1 : Int32) : Option (Int32 × Int32 × Int32 × Int32 × (Nat → (Nat → Int32)) × (Nat → Int32) × (Nat → Int32) × (Nat → Int32) × (Nat → Int32) × (Nat → Int32) × (Nat → Int32) × (Nat → Int32) × (Nat → Int32) × (Nat → Int32)) := bd0 (f_X11_requireRange x1 2 7) (fun _ => bd12 (f_X3_save t_history_oldest t_history_count t_history_ring_row t_history_ring_length t_history_ring_shorter t_history_ring_longer t_history_ring_memory t_history_ring_limit t_history_ring_seasonDays t_history_ring_stopped t_history_ring_stopPart t_history_ring_stopReason t_now_length t_now_shorter t_now_longer t_now_memory t_now_limit t_now_seasonDays t_now_stopped t_now_stopPart t_now_stopReason t_now_row) (fun (t_history_oldest_1 : Int32) (t_history_count_2 : Int32) (t_history_ring_row_3 : Nat → (Nat → Int32)) (t_history_ring_length_4 : Nat → Int32) (t_history_ring_shorter_5 : Nat → Int32) (t_history_ring_longer_6 : Nat → Int32) (t_history_ring_memory_7 : Nat → Int32) (t_history_ring_limit_8 : Nat → Int32) (t_history_ring_seasonDays_9 : Nat → Int32) (t_history_ring_stopped_10 : Nat → Int32) (t_history_ring_stopPart_11 : Nat → Int32) (t_history_ring_stopReason_12 : Nat → Int32) => some (t_now_seasonDays, x1, t_history_oldest_1, t_history_count_2, t_history_ring_row_3, t_history_ring_length_4, t_history_ring_shorter_5, t_history_ring_longer_6, t_history_ring_memory_7, t_history_ring_limit_8, t_history_ring_seasonDays_9, t_history_ring_stopped_10, t_history_ring_stopPart_11, t_history_ring_stopReason_12)))
theorem k_X11_setSeason : KV yX11_setSeason cX11_setSeason 3 (some .int) 1 := ⟨qc_yX11_setSeason, q1, ⟨by decide +kernel, by decide +kernel, by decide +kernel⟩, qi_yX11_setSeason, qs_yX11_setSeason⟩
abbrev RM_X11_setSeason : Room := { frames := 3, cells := 0, slots := 0, locals := 83 }
set_option maxHeartbeats 4000000 in
set_option maxRecDepth 100000 in
theorem c_X11_setSeason (l : Launch) (G : GP) (a_t : Nat) (a_t_trial : Nat) (a_t_snapshot : Nat) (t_snapshotTaken : Int32) (a_t_text : Nat) (a_t_works : Nat) (a_t_highs : Nat) (a_t_trade : Nat) (a_t_now : Nat) (t_now_length : Int32) (t_now_shorter : Int32) (t_now_longer : Int32) (t_now_memory : Int32) (t_now_limit : Int32) (t_now_seasonDays : Int32) (t_now_stopped : Int32) (t_now_stopPart : Int32) (t_now_stopReason : Int32) (a_t_now_row : Nat) (t_now_row : Nat → Int32) (a_t_history : Nat) (t_history_oldest : Int32) (t_history_count : Int32) (a_t_history_ring : Nat) (a_t_history_ring_e : Nat → Nat) (a_t_history_ring_b : Nat → Nat) (t_history_ring_row : Nat → (Nat → Int32)) (t_history_ring_length : Nat → Int32) (t_history_ring_shorter : Nat → Int32) (t_history_ring_longer : Nat → Int32) (t_history_ring_memory : Nat → Int32) (t_history_ring_limit : Nat → Int32) (t_history_ring_seasonDays : Nat → Int32) (t_history_ring_stopped : Nat → Int32) (t_history_ring_stopPart : Nat → Int32) (t_history_ring_stopReason : Nat → Int32) (x1 : Int32) (rr : Int32) (w_t_now_seasonDays : Int32) (w_t_history_oldest : Int32) (w_t_history_count : Int32) (w_t_history_ring_row : Nat → (Nat → Int32)) (w_t_history_ring_length : Nat → Int32) (w_t_history_ring_shorter : Nat → Int32) (w_t_history_ring_longer : Nat → Int32) (w_t_history_ring_memory : Nat → Int32) (w_t_history_ring_limit : Nat → Int32) (w_t_history_ring_seasonDays : Nat → Int32) (w_t_history_ring_stopped : Nat → Int32) (w_t_history_ring_stopPart : Nat → Int32) (w_t_history_ring_stopReason : Nat → Int32) (hf : f_X11_setSeason t_now_length t_now_shorter t_now_longer t_now_memory t_now_limit t_now_seasonDays t_now_stopped t_now_stopPart t_now_stopReason t_now_row t_history_oldest t_history_count t_history_ring_row t_history_ring_length t_history_ring_shorter t_history_ring_longer t_history_ring_memory t_history_ring_limit t_history_ring_seasonDays t_history_ring_stopped t_history_ring_stopPart t_history_ring_stopReason x1 = some (rr, w_t_now_seasonDays, w_t_history_oldest, w_t_history_count, w_t_history_ring_row, w_t_history_ring_length, w_t_history_ring_shorter, w_t_history_ring_longer, w_t_history_ring_memory, w_t_history_ring_limit, w_t_history_ring_seasonDays, w_t_history_ring_stopped, w_t_history_ring_stopPart, w_t_history_ring_stopReason)) : WM l yX11_setSeason cX11_setSeason 3 (some .int) 3 83 G [.ref a_t, .int x1] [(a_t, .inr (7, [.ref a_t_now, .ref a_t_trial, .ref a_t_snapshot, .int t_snapshotTaken, .ref a_t_history, .ref a_t_text, .ref a_t_works, .ref a_t_highs, .ref a_t_trade])), (a_t_now, .inr (2, [.ref a_t_now_row, .int t_now_length, .int t_now_shorter, .int t_now_longer, .int t_now_memory, .int t_now_limit, .int t_now_seasonDays, .int t_now_stopped, .int t_now_stopPart, .int t_now_stopReason])), (a_t_now_row, .inl (G.2.1, 60, .inl t_now_row)), (a_t_history, .inr (1, [.ref a_t_history_ring, .int t_history_oldest, .int t_history_count])), (a_t_history_ring, .inl (G.2.2.2, 6, .inr (.inr (.inr (.inr (fun j => some (a_t_history_ring_e j))))))), ((a_t_history_ring_e 0), .inr (2, [.ref (a_t_history_ring_b 0), .int (t_history_ring_length 0), .int (t_history_ring_shorter 0), .int (t_history_ring_longer 0), .int (t_history_ring_memory 0), .int (t_history_ring_limit 0), .int (t_history_ring_seasonDays 0), .int (t_history_ring_stopped 0), .int (t_history_ring_stopPart 0), .int (t_history_ring_stopReason 0)])), ((a_t_history_ring_b 0), .inl (G.2.1, 60, .inl (t_history_ring_row 0))), ((a_t_history_ring_e 1), .inr (2, [.ref (a_t_history_ring_b 1), .int (t_history_ring_length 1), .int (t_history_ring_shorter 1), .int (t_history_ring_longer 1), .int (t_history_ring_memory 1), .int (t_history_ring_limit 1), .int (t_history_ring_seasonDays 1), .int (t_history_ring_stopped 1), .int (t_history_ring_stopPart 1), .int (t_history_ring_stopReason 1)])), ((a_t_history_ring_b 1), .inl (G.2.1, 60, .inl (t_history_ring_row 1))), ((a_t_history_ring_e 2), .inr (2, [.ref (a_t_history_ring_b 2), .int (t_history_ring_length 2), .int (t_history_ring_shorter 2), .int (t_history_ring_longer 2), .int (t_history_ring_memory 2), .int (t_history_ring_limit 2), .int (t_history_ring_seasonDays 2), .int (t_history_ring_stopped 2), .int (t_history_ring_stopPart 2), .int (t_history_ring_stopReason 2)])), ((a_t_history_ring_b 2), .inl (G.2.1, 60, .inl (t_history_ring_row 2))), ((a_t_history_ring_e 3), .inr (2, [.ref (a_t_history_ring_b 3), .int (t_history_ring_length 3), .int (t_history_ring_shorter 3), .int (t_history_ring_longer 3), .int (t_history_ring_memory 3), .int (t_history_ring_limit 3), .int (t_history_ring_seasonDays 3), .int (t_history_ring_stopped 3), .int (t_history_ring_stopPart 3), .int (t_history_ring_stopReason 3)])), ((a_t_history_ring_b 3), .inl (G.2.1, 60, .inl (t_history_ring_row 3))), ((a_t_history_ring_e 4), .inr (2, [.ref (a_t_history_ring_b 4), .int (t_history_ring_length 4), .int (t_history_ring_shorter 4), .int (t_history_ring_longer 4), .int (t_history_ring_memory 4), .int (t_history_ring_limit 4), .int (t_history_ring_seasonDays 4), .int (t_history_ring_stopped 4), .int (t_history_ring_stopPart 4), .int (t_history_ring_stopReason 4)])), ((a_t_history_ring_b 4), .inl (G.2.1, 60, .inl (t_history_ring_row 4))), ((a_t_history_ring_e 5), .inr (2, [.ref (a_t_history_ring_b 5), .int (t_history_ring_length 5), .int (t_history_ring_shorter 5), .int (t_history_ring_longer 5), .int (t_history_ring_memory 5), .int (t_history_ring_limit 5), .int (t_history_ring_seasonDays 5), .int (t_history_ring_stopped 5), .int (t_history_ring_stopPart 5), .int (t_history_ring_stopReason 5)])), ((a_t_history_ring_b 5), .inl (G.2.1, 60, .inl (t_history_ring_row 5)))] (some (.int rr)) [(a_t, .inr (7, [.ref a_t_now, .ref a_t_trial, .ref a_t_snapshot, .int t_snapshotTaken, .ref a_t_history, .ref a_t_text, .ref a_t_works, .ref a_t_highs, .ref a_t_trade])), (a_t_now, .inr (2, [.ref a_t_now_row, .int t_now_length, .int t_now_shorter, .int t_now_longer, .int t_now_memory, .int t_now_limit, .int w_t_now_seasonDays, .int t_now_stopped, .int t_now_stopPart, .int t_now_stopReason])), (a_t_now_row, .inl (G.2.1, 60, .inl t_now_row)), (a_t_history, .inr (1, [.ref a_t_history_ring, .int w_t_history_oldest, .int w_t_history_count])), (a_t_history_ring, .inl (G.2.2.2, 6, .inr (.inr (.inr (.inr (fun j => some (a_t_history_ring_e j))))))), ((a_t_history_ring_e 0), .inr (2, [.ref (a_t_history_ring_b 0), .int (w_t_history_ring_length 0), .int (w_t_history_ring_shorter 0), .int (w_t_history_ring_longer 0), .int (w_t_history_ring_memory 0), .int (w_t_history_ring_limit 0), .int (w_t_history_ring_seasonDays 0), .int (w_t_history_ring_stopped 0), .int (w_t_history_ring_stopPart 0), .int (w_t_history_ring_stopReason 0)])), ((a_t_history_ring_b 0), .inl (G.2.1, 60, .inl (w_t_history_ring_row 0))), ((a_t_history_ring_e 1), .inr (2, [.ref (a_t_history_ring_b 1), .int (w_t_history_ring_length 1), .int (w_t_history_ring_shorter 1), .int (w_t_history_ring_longer 1), .int (w_t_history_ring_memory 1), .int (w_t_history_ring_limit 1), .int (w_t_history_ring_seasonDays 1), .int (w_t_history_ring_stopped 1), .int (w_t_history_ring_stopPart 1), .int (w_t_history_ring_stopReason 1)])), ((a_t_history_ring_b 1), .inl (G.2.1, 60, .inl (w_t_history_ring_row 1))), ((a_t_history_ring_e 2), .inr (2, [.ref (a_t_history_ring_b 2), .int (w_t_history_ring_length 2), .int (w_t_history_ring_shorter 2), .int (w_t_history_ring_longer 2), .int (w_t_history_ring_memory 2), .int (w_t_history_ring_limit 2), .int (w_t_history_ring_seasonDays 2), .int (w_t_history_ring_stopped 2), .int (w_t_history_ring_stopPart 2), .int (w_t_history_ring_stopReason 2)])), ((a_t_history_ring_b 2), .inl (G.2.1, 60, .inl (w_t_history_ring_row 2))), ((a_t_history_ring_e 3), .inr (2, [.ref (a_t_history_ring_b 3), .int (w_t_history_ring_length 3), .int (w_t_history_ring_shorter 3), .int (w_t_history_ring_longer 3), .int (w_t_history_ring_memory 3), .int (w_t_history_ring_limit 3), .int (w_t_history_ring_seasonDays 3), .int (w_t_history_ring_stopped 3), .int (w_t_history_ring_stopPart 3), .int (w_t_history_ring_stopReason 3)])), ((a_t_history_ring_b 3), .inl (G.2.1, 60, .inl (w_t_history_ring_row 3))), ((a_t_history_ring_e 4), .inr (2, [.ref (a_t_history_ring_b 4), .int (w_t_history_ring_length 4), .int (w_t_history_ring_shorter 4), .int (w_t_history_ring_longer 4), .int (w_t_history_ring_memory 4), .int (w_t_history_ring_limit 4), .int (w_t_history_ring_seasonDays 4), .int (w_t_history_ring_stopped 4), .int (w_t_history_ring_stopPart 4), .int (w_t_history_ring_stopReason 4)])), ((a_t_history_ring_b 4), .inl (G.2.1, 60, .inl (w_t_history_ring_row 4))), ((a_t_history_ring_e 5), .inr (2, [.ref (a_t_history_ring_b 5), .int (w_t_history_ring_length 5), .int (w_t_history_ring_shorter 5), .int (w_t_history_ring_longer 5), .int (w_t_history_ring_memory 5), .int (w_t_history_ring_limit 5), .int (w_t_history_ring_seasonDays 5), .int (w_t_history_ring_stopped 5), .int (w_t_history_ring_stopPart 5), .int (w_t_history_ring_stopReason 5)])), ((a_t_history_ring_b 5), .inl (G.2.1, 60, .inl (w_t_history_ring_row 5)))] := by
  refine WM.ofW (C := RX11) (by decide) rfl (Nat.le_of_ble_eq_true rfl) ?_
  intro p e s m below meth c A hF hr hlk hG hA hP hD ls hl
  have hl : lv_has ls 3 [(0, .ref a_t), (1, .int x1)] := hl
  have hx := hF.1
  have hb := hF.2.1
  have hml := hF.2.2.1
  have hown := hF.2.2.2.1
  have hts := hF.2.2.2.2
  have hS : va_S A s.heap s.heap [] := va_S.rf
  unfold f_X11_setSeason at hf
  refine lv_iload_n hx hb dX11_setSeason_0 rfl (lv_at hl 1 rfl) ?_
  refine lv_iconst (v := 2) hx hb dX11_setSeason_1 (by decide) ?_
  refine lv_bipush (v := 7) hx hb dX11_setSeason_2 (by decide) ?_
  obtain ⟨hq, hf⟩ := bd0_some hf
  refine rdS (As := [.int x1, .int 2, .int 7]) (rest := []) hF hG hP hl.1 (c_X11_requireRange l G x1 2 7 hq) k_X11_requireRange q442 [] rfl rfl rfl (Nat.le_of_ble_eq_true rfl) ⟨(Nat.le_of_ble_eq_true rfl), (Nat.le_of_ble_eq_true rfl)⟩ ⟨(Nat.zero_le _), (Nat.zero_le _)⟩ dX11_setSeason_4 ?_
  refine lv_aload_n hx hb dX11_setSeason_7 rfl (lv_at hl 0 rfl) ?_
  refine gf (C := RX11) (T := TX11) (N := 9) (ci := 7) (v := .ref a_t_history) hF hG hP inX11 0 rfl rfl 4 (by decide) q194 rfl rfl dX11_setSeason_8 ?_
  refine lv_aload_n hx hb dX11_setSeason_11 rfl (lv_at hl 0 rfl) ?_
  refine gf (C := RX11) (T := TX11) (N := 9) (ci := 7) (v := .ref a_t_now) hF hG hP inX11 0 rfl rfl 0 (by decide) q190 rfl rfl dX11_setSeason_12 ?_
  obtain ⟨t_history_oldest_1, t_history_count_2, t_history_ring_row_3, t_history_ring_length_4, t_history_ring_shorter_5, t_history_ring_longer_6, t_history_ring_memory_7, t_history_ring_limit_8, t_history_ring_seasonDays_9, t_history_ring_stopped_10, t_history_ring_stopPart_11, t_history_ring_stopReason_12, hq, hf⟩ := bd12_some hf
  refine wrVN (As := [.ref a_t_now]) (rest := []) (wn := [(a_t, .inr (7, [.ref a_t_now, .ref a_t_trial, .ref a_t_snapshot, .int t_snapshotTaken, .ref a_t_history, .ref a_t_text, .ref a_t_works, .ref a_t_highs, .ref a_t_trade])), (a_t_now, .inr (2, [.ref a_t_now_row, .int t_now_length, .int t_now_shorter, .int t_now_longer, .int t_now_memory, .int t_now_limit, .int t_now_seasonDays, .int t_now_stopped, .int t_now_stopPart, .int t_now_stopReason])), (a_t_now_row, .inl (G.2.1, 60, .inl t_now_row)), (a_t_history, .inr (1, [.ref a_t_history_ring, .int t_history_oldest_1, .int t_history_count_2])), (a_t_history_ring, .inl (G.2.2.2, 6, .inr (.inr (.inr (.inr (fun j => some (a_t_history_ring_e j))))))), ((a_t_history_ring_e 0), .inr (2, [.ref (a_t_history_ring_b 0), .int (t_history_ring_length_4 0), .int (t_history_ring_shorter_5 0), .int (t_history_ring_longer_6 0), .int (t_history_ring_memory_7 0), .int (t_history_ring_limit_8 0), .int (t_history_ring_seasonDays_9 0), .int (t_history_ring_stopped_10 0), .int (t_history_ring_stopPart_11 0), .int (t_history_ring_stopReason_12 0)])), ((a_t_history_ring_b 0), .inl (G.2.1, 60, .inl (t_history_ring_row_3 0))), ((a_t_history_ring_e 1), .inr (2, [.ref (a_t_history_ring_b 1), .int (t_history_ring_length_4 1), .int (t_history_ring_shorter_5 1), .int (t_history_ring_longer_6 1), .int (t_history_ring_memory_7 1), .int (t_history_ring_limit_8 1), .int (t_history_ring_seasonDays_9 1), .int (t_history_ring_stopped_10 1), .int (t_history_ring_stopPart_11 1), .int (t_history_ring_stopReason_12 1)])), ((a_t_history_ring_b 1), .inl (G.2.1, 60, .inl (t_history_ring_row_3 1))), ((a_t_history_ring_e 2), .inr (2, [.ref (a_t_history_ring_b 2), .int (t_history_ring_length_4 2), .int (t_history_ring_shorter_5 2), .int (t_history_ring_longer_6 2), .int (t_history_ring_memory_7 2), .int (t_history_ring_limit_8 2), .int (t_history_ring_seasonDays_9 2), .int (t_history_ring_stopped_10 2), .int (t_history_ring_stopPart_11 2), .int (t_history_ring_stopReason_12 2)])), ((a_t_history_ring_b 2), .inl (G.2.1, 60, .inl (t_history_ring_row_3 2))), ((a_t_history_ring_e 3), .inr (2, [.ref (a_t_history_ring_b 3), .int (t_history_ring_length_4 3), .int (t_history_ring_shorter_5 3), .int (t_history_ring_longer_6 3), .int (t_history_ring_memory_7 3), .int (t_history_ring_limit_8 3), .int (t_history_ring_seasonDays_9 3), .int (t_history_ring_stopped_10 3), .int (t_history_ring_stopPart_11 3), .int (t_history_ring_stopReason_12 3)])), ((a_t_history_ring_b 3), .inl (G.2.1, 60, .inl (t_history_ring_row_3 3))), ((a_t_history_ring_e 4), .inr (2, [.ref (a_t_history_ring_b 4), .int (t_history_ring_length_4 4), .int (t_history_ring_shorter_5 4), .int (t_history_ring_longer_6 4), .int (t_history_ring_memory_7 4), .int (t_history_ring_limit_8 4), .int (t_history_ring_seasonDays_9 4), .int (t_history_ring_stopped_10 4), .int (t_history_ring_stopPart_11 4), .int (t_history_ring_stopReason_12 4)])), ((a_t_history_ring_b 4), .inl (G.2.1, 60, .inl (t_history_ring_row_3 4))), ((a_t_history_ring_e 5), .inr (2, [.ref (a_t_history_ring_b 5), .int (t_history_ring_length_4 5), .int (t_history_ring_shorter_5 5), .int (t_history_ring_longer_6 5), .int (t_history_ring_memory_7 5), .int (t_history_ring_limit_8 5), .int (t_history_ring_seasonDays_9 5), .int (t_history_ring_stopped_10 5), .int (t_history_ring_stopPart_11 5), .int (t_history_ring_stopReason_12 5)])), ((a_t_history_ring_b 5), .inl (G.2.1, 60, .inl (t_history_ring_row_3 5)))]) hF hG hP hD hS hA hl.1 (c_X3_save l G a_t_history t_history_oldest t_history_count a_t_history_ring a_t_history_ring_e a_t_history_ring_b t_history_ring_row t_history_ring_length t_history_ring_shorter t_history_ring_longer t_history_ring_memory t_history_ring_limit t_history_ring_seasonDays t_history_ring_stopped t_history_ring_stopPart t_history_ring_stopReason a_t_now t_now_length t_now_shorter t_now_longer t_now_memory t_now_limit t_now_seasonDays t_now_stopped t_now_stopPart t_now_stopReason a_t_now_row t_now_row t_history_oldest_1 t_history_count_2 t_history_ring_row_3 t_history_ring_length_4 t_history_ring_shorter_5 t_history_ring_longer_6 t_history_ring_memory_7 t_history_ring_limit_8 t_history_ring_seasonDays_9 t_history_ring_stopped_10 t_history_ring_stopPart_11 t_history_ring_stopReason_12 hq) k_X3_save n462 [3, 4, 5, 6, 7, 8, 9, 10, 11, 12, 13, 14, 15, 16, 1, 2] [0] [0, 15, 16, 1, 2, 3, 4, 5, 6, 7, 8, 9, 10, 11, 12, 13, 14] rfl rfl rfl rfl ⟨rfl, rfl⟩ (by decide) ⟨3, 1, _, _, rfl, rfl, rfl⟩ rfl rfl (Nat.le_of_ble_eq_true rfl) ⟨(Nat.le_of_ble_eq_true rfl), (Nat.le_of_ble_eq_true rfl)⟩ ⟨(Nat.le_of_ble_eq_true rfl), (Nat.le_of_ble_eq_true rfl)⟩ dX11_setSeason_15 (fun H locs hP hD hS => ?_)
  refine lv_aload_n hx hb dX11_setSeason_18 rfl (lv_at hl 0 rfl) ?_
  refine gf (C := RX11) (T := TX11) (N := 9) (ci := 7) (v := .ref a_t_now) hF hG hP inX11 0 rfl rfl 0 (by decide) q190 rfl rfl dX11_setSeason_19 ?_
  refine gfN (C := RX6) (T := TX6) (N := 10) (ci := 2) (v := .int t_now_seasonDays) hF hG hP inX6 1 rfl rfl 6 (by decide) n59 rfl rfl dX11_setSeason_22 ?_
  refine lv_istore_n (lv' := [(2, .int t_now_seasonDays), (0, .ref a_t), (1, .int x1)]) hx hb dX11_setSeason_25 rfl hl (by decide) rfl (fun ls hl => ?_)
  refine lv_aload_n hx hb dX11_setSeason_26 rfl (lv_at hl 1 rfl) ?_
  refine gf (C := RX11) (T := TX11) (N := 9) (ci := 7) (v := .ref a_t_now) hF hG hP inX11 0 rfl rfl 0 (by decide) q190 rfl rfl dX11_setSeason_27 ?_
  refine lv_iload_n hx hb dX11_setSeason_30 rfl (lv_at hl 2 rfl) ?_
  refine pfN (C := RX6) (T := TX6) (N := 10) (ci := 2) (v := .int x1) (ty := .int) hF hG hP hD hS inX6 tyX6 tyX6_ok nmX6 1 rfl rfl 6 (by decide) n59 rfl rfl (by decide +kernel) rfl rfl (Nat.le_of_ble_eq_true rfl) dX11_setSeason_31 (fun H locs hP hD hS => ?_)
  replace hP : va_P G.1 vwCl [(a_t, .inr (7, [.ref a_t_now, .ref a_t_trial, .ref a_t_snapshot, .int t_snapshotTaken, .ref a_t_history, .ref a_t_text, .ref a_t_works, .ref a_t_highs, .ref a_t_trade])), (a_t_now, .inr (2, [.ref a_t_now_row, .int t_now_length, .int t_now_shorter, .int t_now_longer, .int t_now_memory, .int t_now_limit, .int x1, .int t_now_stopped, .int t_now_stopPart, .int t_now_stopReason])), (a_t_now_row, .inl (G.2.1, 60, .inl t_now_row)), (a_t_history, .inr (1, [.ref a_t_history_ring, .int t_history_oldest_1, .int t_history_count_2])), (a_t_history_ring, .inl (G.2.2.2, 6, .inr (.inr (.inr (.inr (fun j => some (a_t_history_ring_e j))))))), ((a_t_history_ring_e 0), .inr (2, [.ref (a_t_history_ring_b 0), .int (t_history_ring_length_4 0), .int (t_history_ring_shorter_5 0), .int (t_history_ring_longer_6 0), .int (t_history_ring_memory_7 0), .int (t_history_ring_limit_8 0), .int (t_history_ring_seasonDays_9 0), .int (t_history_ring_stopped_10 0), .int (t_history_ring_stopPart_11 0), .int (t_history_ring_stopReason_12 0)])), ((a_t_history_ring_b 0), .inl (G.2.1, 60, .inl (t_history_ring_row_3 0))), ((a_t_history_ring_e 1), .inr (2, [.ref (a_t_history_ring_b 1), .int (t_history_ring_length_4 1), .int (t_history_ring_shorter_5 1), .int (t_history_ring_longer_6 1), .int (t_history_ring_memory_7 1), .int (t_history_ring_limit_8 1), .int (t_history_ring_seasonDays_9 1), .int (t_history_ring_stopped_10 1), .int (t_history_ring_stopPart_11 1), .int (t_history_ring_stopReason_12 1)])), ((a_t_history_ring_b 1), .inl (G.2.1, 60, .inl (t_history_ring_row_3 1))), ((a_t_history_ring_e 2), .inr (2, [.ref (a_t_history_ring_b 2), .int (t_history_ring_length_4 2), .int (t_history_ring_shorter_5 2), .int (t_history_ring_longer_6 2), .int (t_history_ring_memory_7 2), .int (t_history_ring_limit_8 2), .int (t_history_ring_seasonDays_9 2), .int (t_history_ring_stopped_10 2), .int (t_history_ring_stopPart_11 2), .int (t_history_ring_stopReason_12 2)])), ((a_t_history_ring_b 2), .inl (G.2.1, 60, .inl (t_history_ring_row_3 2))), ((a_t_history_ring_e 3), .inr (2, [.ref (a_t_history_ring_b 3), .int (t_history_ring_length_4 3), .int (t_history_ring_shorter_5 3), .int (t_history_ring_longer_6 3), .int (t_history_ring_memory_7 3), .int (t_history_ring_limit_8 3), .int (t_history_ring_seasonDays_9 3), .int (t_history_ring_stopped_10 3), .int (t_history_ring_stopPart_11 3), .int (t_history_ring_stopReason_12 3)])), ((a_t_history_ring_b 3), .inl (G.2.1, 60, .inl (t_history_ring_row_3 3))), ((a_t_history_ring_e 4), .inr (2, [.ref (a_t_history_ring_b 4), .int (t_history_ring_length_4 4), .int (t_history_ring_shorter_5 4), .int (t_history_ring_longer_6 4), .int (t_history_ring_memory_7 4), .int (t_history_ring_limit_8 4), .int (t_history_ring_seasonDays_9 4), .int (t_history_ring_stopped_10 4), .int (t_history_ring_stopPart_11 4), .int (t_history_ring_stopReason_12 4)])), ((a_t_history_ring_b 4), .inl (G.2.1, 60, .inl (t_history_ring_row_3 4))), ((a_t_history_ring_e 5), .inr (2, [.ref (a_t_history_ring_b 5), .int (t_history_ring_length_4 5), .int (t_history_ring_shorter_5 5), .int (t_history_ring_longer_6 5), .int (t_history_ring_memory_7 5), .int (t_history_ring_limit_8 5), .int (t_history_ring_seasonDays_9 5), .int (t_history_ring_stopped_10 5), .int (t_history_ring_stopPart_11 5), .int (t_history_ring_stopReason_12 5)])), ((a_t_history_ring_b 5), .inl (G.2.1, 60, .inl (t_history_ring_row_3 5)))] H := hP
  replace hD : va_D A [(a_t, .inr (7, [.ref a_t_now, .ref a_t_trial, .ref a_t_snapshot, .int t_snapshotTaken, .ref a_t_history, .ref a_t_text, .ref a_t_works, .ref a_t_highs, .ref a_t_trade])), (a_t_now, .inr (2, [.ref a_t_now_row, .int t_now_length, .int t_now_shorter, .int t_now_longer, .int t_now_memory, .int t_now_limit, .int x1, .int t_now_stopped, .int t_now_stopPart, .int t_now_stopReason])), (a_t_now_row, .inl (G.2.1, 60, .inl t_now_row)), (a_t_history, .inr (1, [.ref a_t_history_ring, .int t_history_oldest_1, .int t_history_count_2])), (a_t_history_ring, .inl (G.2.2.2, 6, .inr (.inr (.inr (.inr (fun j => some (a_t_history_ring_e j))))))), ((a_t_history_ring_e 0), .inr (2, [.ref (a_t_history_ring_b 0), .int (t_history_ring_length_4 0), .int (t_history_ring_shorter_5 0), .int (t_history_ring_longer_6 0), .int (t_history_ring_memory_7 0), .int (t_history_ring_limit_8 0), .int (t_history_ring_seasonDays_9 0), .int (t_history_ring_stopped_10 0), .int (t_history_ring_stopPart_11 0), .int (t_history_ring_stopReason_12 0)])), ((a_t_history_ring_b 0), .inl (G.2.1, 60, .inl (t_history_ring_row_3 0))), ((a_t_history_ring_e 1), .inr (2, [.ref (a_t_history_ring_b 1), .int (t_history_ring_length_4 1), .int (t_history_ring_shorter_5 1), .int (t_history_ring_longer_6 1), .int (t_history_ring_memory_7 1), .int (t_history_ring_limit_8 1), .int (t_history_ring_seasonDays_9 1), .int (t_history_ring_stopped_10 1), .int (t_history_ring_stopPart_11 1), .int (t_history_ring_stopReason_12 1)])), ((a_t_history_ring_b 1), .inl (G.2.1, 60, .inl (t_history_ring_row_3 1))), ((a_t_history_ring_e 2), .inr (2, [.ref (a_t_history_ring_b 2), .int (t_history_ring_length_4 2), .int (t_history_ring_shorter_5 2), .int (t_history_ring_longer_6 2), .int (t_history_ring_memory_7 2), .int (t_history_ring_limit_8 2), .int (t_history_ring_seasonDays_9 2), .int (t_history_ring_stopped_10 2), .int (t_history_ring_stopPart_11 2), .int (t_history_ring_stopReason_12 2)])), ((a_t_history_ring_b 2), .inl (G.2.1, 60, .inl (t_history_ring_row_3 2))), ((a_t_history_ring_e 3), .inr (2, [.ref (a_t_history_ring_b 3), .int (t_history_ring_length_4 3), .int (t_history_ring_shorter_5 3), .int (t_history_ring_longer_6 3), .int (t_history_ring_memory_7 3), .int (t_history_ring_limit_8 3), .int (t_history_ring_seasonDays_9 3), .int (t_history_ring_stopped_10 3), .int (t_history_ring_stopPart_11 3), .int (t_history_ring_stopReason_12 3)])), ((a_t_history_ring_b 3), .inl (G.2.1, 60, .inl (t_history_ring_row_3 3))), ((a_t_history_ring_e 4), .inr (2, [.ref (a_t_history_ring_b 4), .int (t_history_ring_length_4 4), .int (t_history_ring_shorter_5 4), .int (t_history_ring_longer_6 4), .int (t_history_ring_memory_7 4), .int (t_history_ring_limit_8 4), .int (t_history_ring_seasonDays_9 4), .int (t_history_ring_stopped_10 4), .int (t_history_ring_stopPart_11 4), .int (t_history_ring_stopReason_12 4)])), ((a_t_history_ring_b 4), .inl (G.2.1, 60, .inl (t_history_ring_row_3 4))), ((a_t_history_ring_e 5), .inr (2, [.ref (a_t_history_ring_b 5), .int (t_history_ring_length_4 5), .int (t_history_ring_shorter_5 5), .int (t_history_ring_longer_6 5), .int (t_history_ring_memory_7 5), .int (t_history_ring_limit_8 5), .int (t_history_ring_seasonDays_9 5), .int (t_history_ring_stopped_10 5), .int (t_history_ring_stopPart_11 5), .int (t_history_ring_stopReason_12 5)])), ((a_t_history_ring_b 5), .inl (G.2.1, 60, .inl (t_history_ring_row_3 5)))] := hD
  refine lv_iload_n hx hb dX11_setSeason_34 rfl (lv_at hl 0 rfl) ?_
  have hf : (some (t_now_seasonDays, x1, t_history_oldest_1, t_history_count_2, t_history_ring_row_3, t_history_ring_length_4, t_history_ring_shorter_5, t_history_ring_longer_6, t_history_ring_memory_7, t_history_ring_limit_8, t_history_ring_seasonDays_9, t_history_ring_stopped_10, t_history_ring_stopPart_11, t_history_ring_stopReason_12) : Option (Int32 × Int32 × Int32 × Int32 × (Nat → (Nat → Int32)) × (Nat → Int32) × (Nat → Int32) × (Nat → Int32) × (Nat → Int32) × (Nat → Int32) × (Nat → Int32) × (Nat → Int32) × (Nat → Int32) × (Nat → Int32))) = some (rr, w_t_now_seasonDays, w_t_history_oldest, w_t_history_count, w_t_history_ring_row, w_t_history_ring_length, w_t_history_ring_shorter, w_t_history_ring_longer, w_t_history_ring_memory, w_t_history_ring_limit, w_t_history_ring_seasonDays, w_t_history_ring_stopped, w_t_history_ring_stopPart, w_t_history_ring_stopReason) := hf
  cases hf
  exact we_i hF hr hlk hP hD hS dX11_setSeason_35 rfl
def l_X2_fallByPairs_16 (p0_length : Int32) (p0_row : Nat → Int32) (i2_2 : Int32) : Nat → Int32 → Int32 → Option (Int32)
  | 0, _, _ => none
  | n + 1, i1_4, i3_5 => (if p0_length ≤ i3_5 then some i1_4 else bd1 (f_X6_at p0_row i2_2) (fun (r_7 : Int32) => bd1 (f_X6_at p0_row i3_5) (fun (r_8 : Int32) => l_X2_fallByPairs_16 p0_length p0_row i2_2 n (if i1_4 < (r_7 - r_8) then (r_7 - r_8) else i1_4) (i3_5 + 1))))
def l_X2_fallByPairs_4 (p0_length : Int32) (p0_row : Nat → Int32) : Nat → Int32 → Int32 → Option (Int32)
  | 0, _, _ => none
  | n + 1, i1_1, i2_2 => (if p0_length ≤ i2_2 then some i1_1 else bd1 (l_X2_fallByPairs_16 p0_length p0_row i2_2 1000 i1_1 (i2_2 + 1)) (fun (o1_6 : Int32) => l_X2_fallByPairs_4 p0_length p0_row n o1_6 (i2_2 + 1)))
def f_X2_fallByPairs (p0_length : Int32) (p0_row : Nat → Int32) : Option (Int32) := bd1 (l_X2_fallByPairs_4 p0_length p0_row 1000 0 0) (fun (o1_3 : Int32) => some o1_3)
theorem k_X2_fallByPairs : KS yX2_fallByPairs cX2_fallByPairs 4 (some .int) 1 := ⟨qc_yX2_fallByPairs, q7, ⟨by decide +kernel, by decide +kernel, by decide +kernel⟩, qt_yX2_fallByPairs⟩
abbrev RM_X2_fallByPairs : Room := { frames := 1, cells := 0, slots := 0, locals := 30 }
set_option maxHeartbeats 4000000 in
set_option maxRecDepth 100000 in
theorem c_X2_fallByPairs (l : Launch) (G : GP) (a_p0 : Nat) (p0_length : Int32) (p0_shorter : Int32) (p0_longer : Int32) (p0_memory : Int32) (p0_limit : Int32) (p0_seasonDays : Int32) (p0_stopped : Int32) (p0_stopPart : Int32) (p0_stopReason : Int32) (a_p0_row : Nat) (p0_row : Nat → Int32) (rr : Int32) (hf : f_X2_fallByPairs p0_length p0_row = some rr) : RM l yX2_fallByPairs cX2_fallByPairs 4 (some .int) 1 30 G [.ref a_p0] [(a_p0, .inr (2, [.ref a_p0_row, .int p0_length, .int p0_shorter, .int p0_longer, .int p0_memory, .int p0_limit, .int p0_seasonDays, .int p0_stopped, .int p0_stopPart, .int p0_stopReason])), (a_p0_row, .inl (G.2.1, 60, .inl p0_row))] (some (.int rr)) := by
  refine RM.ofW (C := RX2) (by decide) rfl (Nat.le_of_ble_eq_true rfl) ?_
  intro p e s m below meth c hF hr hlk hG hP ls hl
  have hl : lv_has ls 4 [(0, .ref a_p0)] := hl
  have hx := hF.1
  have hb := hF.2.1
  have hml := hF.2.2.1
  have hown := hF.2.2.2.1
  have hts := hF.2.2.2.2
  unfold f_X2_fallByPairs at hf
  refine lv_iconst (v := 0) hx hb dX2_fallByPairs_0 (by decide) ?_
  refine lv_istore_n (lv' := [(1, .int 0), (0, .ref a_p0)]) hx hb dX2_fallByPairs_1 rfl hl (by decide) rfl (fun ls hl => ?_)
  refine lv_iconst (v := 0) hx hb dX2_fallByPairs_2 (by decide) ?_
  refine lv_istore_n (lv' := [(2, .int 0), (1, .int 0), (0, .ref a_p0)]) hx hb dX2_fallByPairs_3 rfl hl (by decide) rfl (fun ls hl => ?_)
  obtain ⟨o1_3, hq, hf⟩ := bd1_some hf
  have K4 : ∀ ls : Array Slot, lv_has ls 4 [(1, .int o1_3)] → W p l e RM_X2_fallByPairs s m [.ref a_p0].toArray below meth c s.heap [] 0 0 (MQ below (rdQ (some (.int rr))) [.ref a_p0].toArray s 0 0 (fun _ => False)) (F0 m 52 ls []) := by
    intro ls hl
    refine lv_iload_n hx hb dX2_fallByPairs_52 rfl (lv_at hl 0 rfl) ?_
    have hf : (some o1_3 : Option (Int32)) = some rr := hf
    cases hf
    exact re_i hF hr hlk dX2_fallByPairs_53 rfl
  clear hf
  have L4 : ∀ (n : Nat) (i1_1 : Int32) (i2_2 : Int32), l_X2_fallByPairs_4 p0_length p0_row n i1_1 i2_2 = some o1_3 → ∀ ls : Array Slot, lv_has ls 4 [(0, .ref a_p0), (1, .int i1_1), (2, .int i2_2)] → W p l e RM_X2_fallByPairs s m [.ref a_p0].toArray below meth c s.heap [] 0 0 (MQ below (rdQ (some (.int rr))) [.ref a_p0].toArray s 0 0 (fun _ => False)) (F0 m 4 ls []) := by
    intro n
    induction n with
    | zero =>
      intro i1_1 i2_2 hf
      exact nomatch (show none = some o1_3 from hf)
    | succ n ih =>
      intro i1_1 i2_2 hf ls hl
      rw [l_X2_fallByPairs_4] at hf
      refine lv_iload_n hx hb dX2_fallByPairs_4 rfl (lv_at hl 2 rfl) ?_
      refine lv_aload_n hx hb dX2_fallByPairs_5 rfl (lv_at hl 0 rfl) ?_
      refine gfN (C := RX6) (T := TX6) (N := 10) (ci := 2) (v := .int p0_length) hF hG hP inX6 0 rfl rfl 1 (by decide) n41 rfl rfl dX2_fallByPairs_6 ?_
      refine lv_icmp_ge (tgt := 52) hx hb dX2_fallByPairs_9 (by decide) (fun c0 => ?_) (fun c0 => ?_)
      · have hf := (if_pos c0).symm.trans hf
        have hf : (some i1_1 : Option (Int32)) = some o1_3 := hf
        cases hf
        exact K4 ls (lv_sub hl [1] rfl)
      · have hf := (if_neg c0).symm.trans hf
        refine lv_iload_n hx hb dX2_fallByPairs_12 rfl (lv_at hl 2 rfl) ?_
        refine lv_iconst (v := 1) hx hb dX2_fallByPairs_13 (by decide) ?_
        refine lv_iadd hx hb dX2_fallByPairs_14 ?_
        refine lv_istore_n (lv' := [(3, .int (i2_2 + 1)), (0, .ref a_p0), (1, .int i1_1), (2, .int i2_2)]) hx hb dX2_fallByPairs_15 rfl hl (by decide) rfl (fun ls hl => ?_)
        obtain ⟨o1_6, hq, hf⟩ := bd1_some hf
        have K16 : ∀ ls : Array Slot, lv_has ls 4 [(0, .ref a_p0), (1, .int o1_6), (2, .int i2_2)] → W p l e RM_X2_fallByPairs s m [.ref a_p0].toArray below meth c s.heap [] 0 0 (MQ below (rdQ (some (.int rr))) [.ref a_p0].toArray s 0 0 (fun _ => False)) (F0 m 46 ls []) := by
          intro ls hl
          refine lv_iinc (v := (i2_2 + 1)) (lv' := [(2, .int (i2_2 + 1)), (0, .ref a_p0), (1, .int o1_6)]) hx hb dX2_fallByPairs_46 hl (k := 2) rfl rfl (by decide) rfl (fun ls hl => ?_)
          refine lv_goto (tgt := 4) hx hb dX2_fallByPairs_49 (by decide) ?_
          exact ih o1_6 (i2_2 + 1) hf ls (lv_sub hl [1, 2, 0] rfl)
        clear hf
        have L16 : ∀ (n : Nat) (i1_4 : Int32) (i3_5 : Int32), l_X2_fallByPairs_16 p0_length p0_row i2_2 n i1_4 i3_5 = some o1_6 → ∀ ls : Array Slot, lv_has ls 4 [(0, .ref a_p0), (1, .int i1_4), (2, .int i2_2), (3, .int i3_5)] → W p l e RM_X2_fallByPairs s m [.ref a_p0].toArray below meth c s.heap [] 0 0 (MQ below (rdQ (some (.int rr))) [.ref a_p0].toArray s 0 0 (fun _ => False)) (F0 m 16 ls []) := by
          intro n
          induction n with
          | zero =>
            intro i1_4 i3_5 hf
            exact nomatch (show none = some o1_6 from hf)
          | succ n ih =>
            intro i1_4 i3_5 hf ls hl
            rw [l_X2_fallByPairs_16] at hf
            refine lv_iload_n hx hb dX2_fallByPairs_16 rfl (lv_at hl 3 rfl) ?_
            refine lv_aload_n hx hb dX2_fallByPairs_17 rfl (lv_at hl 0 rfl) ?_
            refine gfN (C := RX6) (T := TX6) (N := 10) (ci := 2) (v := .int p0_length) hF hG hP inX6 0 rfl rfl 1 (by decide) n41 rfl rfl dX2_fallByPairs_18 ?_
            refine lv_icmp_ge (tgt := 46) hx hb dX2_fallByPairs_21 (by decide) (fun c0 => ?_) (fun c0 => ?_)
            · have hf := (if_pos c0).symm.trans hf
              have hf : (some i1_4 : Option (Int32)) = some o1_6 := hf
              cases hf
              exact K16 ls (lv_sub hl [0, 1, 2] rfl)
            · have hf := (if_neg c0).symm.trans hf
              refine lv_iload_n hx hb dX2_fallByPairs_24 rfl (lv_at hl 1 rfl) ?_
              refine lv_aload_n hx hb dX2_fallByPairs_25 rfl (lv_at hl 0 rfl) ?_
              refine lv_iload_n hx hb dX2_fallByPairs_26 rfl (lv_at hl 2 rfl) ?_
              obtain ⟨r_7, hq, hf⟩ := bd1_some hf
              refine rdVN (As := [.int i2_2]) (rest := [.int i1_4]) hF hG hP hl.1 (c_X6_at l G a_p0 p0_length p0_shorter p0_longer p0_memory p0_limit p0_seasonDays p0_stopped p0_stopPart p0_stopReason a_p0_row p0_row i2_2 r_7 hq) k_X6_at n355 [0, 1] rfl ⟨0, 2, _, _, rfl, rfl, rfl⟩ rfl rfl (Nat.le_of_ble_eq_true rfl) ⟨(Nat.le_of_ble_eq_true rfl), (Nat.le_of_ble_eq_true rfl)⟩ ⟨(Nat.zero_le _), (Nat.zero_le _)⟩ dX2_fallByPairs_27 ?_
              refine lv_aload_n hx hb dX2_fallByPairs_30 rfl (lv_at hl 0 rfl) ?_
              refine lv_iload_n hx hb dX2_fallByPairs_31 rfl (lv_at hl 3 rfl) ?_
              obtain ⟨r_8, hq, hf⟩ := bd1_some hf
              refine rdVN (As := [.int i3_5]) (rest := [.int r_7, .int i1_4]) hF hG hP hl.1 (c_X6_at l G a_p0 p0_length p0_shorter p0_longer p0_memory p0_limit p0_seasonDays p0_stopped p0_stopPart p0_stopReason a_p0_row p0_row i3_5 r_8 hq) k_X6_at n355 [0, 1] rfl ⟨0, 2, _, _, rfl, rfl, rfl⟩ rfl rfl (Nat.le_of_ble_eq_true rfl) ⟨(Nat.le_of_ble_eq_true rfl), (Nat.le_of_ble_eq_true rfl)⟩ ⟨(Nat.zero_le _), (Nat.zero_le _)⟩ dX2_fallByPairs_32 ?_
              refine lv_isub hx hb dX2_fallByPairs_35 ?_
              refine va_mmax hx hb (hml.trans hl.1.symm) hown (hts _ (List.mem_cons_of_mem _ q356)) (hts _ (List.mem_cons_of_mem _ qt_yJ9_max_7cf53)) (hts _ (List.mem_cons_of_mem _ q11)) (hts _ (List.mem_cons_of_mem _ qc_yJ9_max_7cf53)) (Nat.le_of_ble_eq_true rfl) (Nat.le_of_ble_eq_true rfl) (Nat.zero_le _) (Nat.zero_le _) dX2_fallByPairs_36 ?_
              refine lv_istore_n (lv' := [(1, .int (if i1_4 < (r_7 - r_8) then (r_7 - r_8) else i1_4)), (0, .ref a_p0), (2, .int i2_2), (3, .int i3_5)]) hx hb dX2_fallByPairs_39 rfl hl (by decide) rfl (fun ls hl => ?_)
              refine lv_iinc (v := (i3_5 + 1)) (lv' := [(3, .int (i3_5 + 1)), (1, .int (if i1_4 < (r_7 - r_8) then (r_7 - r_8) else i1_4)), (0, .ref a_p0), (2, .int i2_2)]) hx hb dX2_fallByPairs_40 hl (k := 3) rfl rfl (by decide) rfl (fun ls hl => ?_)
              refine lv_goto (tgt := 16) hx hb dX2_fallByPairs_43 (by decide) ?_
              exact ih (if i1_4 < (r_7 - r_8) then (r_7 - r_8) else i1_4) (i3_5 + 1) hf ls (lv_sub hl [2, 1, 3, 0] rfl)
        exact L16 1000 i1_1 (i2_2 + 1) hq ls (lv_sub hl [1, 2, 3, 0] rfl)
  exact L4 1000 0 0 hq ls (lv_sub hl [2, 1, 0] rfl)
def f_X11_greatestFallByPairs (t_now_length : Int32) (t_now_row : Nat → Int32) : Option (Int32) := bd1 (f_X2_fallByPairs t_now_length t_now_row) (fun (r_1 : Int32) => some r_1)
theorem k_X11_greatestFallByPairs : KV yX11_greatestFallByPairs cX11_greatestFallByPairs 1 (some .int) 0 := ⟨qc_yX11_greatestFallByPairs, q1, ⟨by decide +kernel, by decide +kernel, by decide +kernel⟩, qi_yX11_greatestFallByPairs, qs_yX11_greatestFallByPairs⟩
abbrev RM_X11_greatestFallByPairs : Room := { frames := 2, cells := 0, slots := 0, locals := 53 }
set_option maxHeartbeats 4000000 in
set_option maxRecDepth 100000 in
theorem c_X11_greatestFallByPairs (l : Launch) (G : GP) (a_t : Nat) (a_t_trial : Nat) (a_t_snapshot : Nat) (t_snapshotTaken : Int32) (a_t_history : Nat) (a_t_text : Nat) (a_t_works : Nat) (a_t_highs : Nat) (a_t_trade : Nat) (a_t_now : Nat) (t_now_length : Int32) (t_now_shorter : Int32) (t_now_longer : Int32) (t_now_memory : Int32) (t_now_limit : Int32) (t_now_seasonDays : Int32) (t_now_stopped : Int32) (t_now_stopPart : Int32) (t_now_stopReason : Int32) (a_t_now_row : Nat) (t_now_row : Nat → Int32) (rr : Int32) (hf : f_X11_greatestFallByPairs t_now_length t_now_row = some rr) : RM l yX11_greatestFallByPairs cX11_greatestFallByPairs 1 (some .int) 2 53 G [.ref a_t] [(a_t, .inr (7, [.ref a_t_now, .ref a_t_trial, .ref a_t_snapshot, .int t_snapshotTaken, .ref a_t_history, .ref a_t_text, .ref a_t_works, .ref a_t_highs, .ref a_t_trade])), (a_t_now, .inr (2, [.ref a_t_now_row, .int t_now_length, .int t_now_shorter, .int t_now_longer, .int t_now_memory, .int t_now_limit, .int t_now_seasonDays, .int t_now_stopped, .int t_now_stopPart, .int t_now_stopReason])), (a_t_now_row, .inl (G.2.1, 60, .inl t_now_row))] (some (.int rr)) := by
  refine RM.ofW (C := RX11) (by decide) rfl (Nat.le_of_ble_eq_true rfl) ?_
  intro p e s m below meth c hF hr hlk hG hP ls hl
  have hl : lv_has ls 1 [(0, .ref a_t)] := hl
  have hx := hF.1
  have hb := hF.2.1
  have hml := hF.2.2.1
  have hown := hF.2.2.2.1
  have hts := hF.2.2.2.2
  unfold f_X11_greatestFallByPairs at hf
  refine lv_aload_n hx hb dX11_greatestFallByPairs_0 rfl (lv_at hl 0 rfl) ?_
  refine gf (C := RX11) (T := TX11) (N := 9) (ci := 7) (v := .ref a_t_now) hF hG hP inX11 0 rfl rfl 0 (by decide) q190 rfl rfl dX11_greatestFallByPairs_1 ?_
  obtain ⟨r_1, hq, hf⟩ := bd1_some hf
  refine rdSN (As := [.ref a_t_now]) (rest := []) hF hG hP hl.1 (c_X2_fallByPairs l G a_t_now t_now_length t_now_shorter t_now_longer t_now_memory t_now_limit t_now_seasonDays t_now_stopped t_now_stopPart t_now_stopReason a_t_now_row t_now_row r_1 hq) k_X2_fallByPairs n535 [1, 2] rfl rfl rfl (Nat.le_of_ble_eq_true rfl) ⟨(Nat.le_of_ble_eq_true rfl), (Nat.le_of_ble_eq_true rfl)⟩ ⟨(Nat.zero_le _), (Nat.zero_le _)⟩ dX11_greatestFallByPairs_4 ?_
  have hf : (some r_1 : Option (Int32)) = some rr := hf
  cases hf
  exact re_i hF hr hlk dX11_greatestFallByPairs_7 rfl
def l_X2_riseInARow_6 (p0_length : Int32) (p0_row : Nat → Int32) : Nat → Int32 → Int32 → Int32 → Option (Int32)
  | 0, _, _, _ => none
  | n + 1, i1_1, i2_2, i3_3 => (if p0_length ≤ i3_3 then some i1_1 else bd1 (f_X6_at p0_row i3_3) (fun (r_5 : Int32) => bd1 (f_X6_at p0_row (i3_3 - 1)) (fun (r_6 : Int32) => bd1 (if r_5 ≤ r_6 then some 0 else some (i2_2 + 1)) (fun (j_7 : Int32) => l_X2_riseInARow_6 p0_length p0_row n (if i1_1 < j_7 then j_7 else i1_1) j_7 (i3_3 + 1)))))
def f_X2_riseInARow (p0_length : Int32) (p0_row : Nat → Int32) : Option (Int32) := bd1 (l_X2_riseInARow_6 p0_length p0_row 1000 0 0 1) (fun (o1_4 : Int32) => some o1_4)
theorem k_X2_riseInARow : KS yX2_riseInARow cX2_riseInARow 4 (some .int) 1 := ⟨qc_yX2_riseInARow, q7, ⟨by decide +kernel, by decide +kernel, by decide +kernel⟩, qt_yX2_riseInARow⟩
abbrev RM_X2_riseInARow : Room := { frames := 1, cells := 0, slots := 0, locals := 30 }
set_option maxHeartbeats 4000000 in
set_option maxRecDepth 100000 in
theorem c_X2_riseInARow (l : Launch) (G : GP) (a_p0 : Nat) (p0_length : Int32) (p0_shorter : Int32) (p0_longer : Int32) (p0_memory : Int32) (p0_limit : Int32) (p0_seasonDays : Int32) (p0_stopped : Int32) (p0_stopPart : Int32) (p0_stopReason : Int32) (a_p0_row : Nat) (p0_row : Nat → Int32) (rr : Int32) (hf : f_X2_riseInARow p0_length p0_row = some rr) : RM l yX2_riseInARow cX2_riseInARow 4 (some .int) 1 30 G [.ref a_p0] [(a_p0, .inr (2, [.ref a_p0_row, .int p0_length, .int p0_shorter, .int p0_longer, .int p0_memory, .int p0_limit, .int p0_seasonDays, .int p0_stopped, .int p0_stopPart, .int p0_stopReason])), (a_p0_row, .inl (G.2.1, 60, .inl p0_row))] (some (.int rr)) := by
  refine RM.ofW (C := RX2) (by decide) rfl (Nat.le_of_ble_eq_true rfl) ?_
  intro p e s m below meth c hF hr hlk hG hP ls hl
  have hl : lv_has ls 4 [(0, .ref a_p0)] := hl
  have hx := hF.1
  have hb := hF.2.1
  have hml := hF.2.2.1
  have hown := hF.2.2.2.1
  have hts := hF.2.2.2.2
  unfold f_X2_riseInARow at hf
  refine lv_iconst (v := 0) hx hb dX2_riseInARow_0 (by decide) ?_
  refine lv_istore_n (lv' := [(1, .int 0), (0, .ref a_p0)]) hx hb dX2_riseInARow_1 rfl hl (by decide) rfl (fun ls hl => ?_)
  refine lv_iconst (v := 0) hx hb dX2_riseInARow_2 (by decide) ?_
  refine lv_istore_n (lv' := [(2, .int 0), (1, .int 0), (0, .ref a_p0)]) hx hb dX2_riseInARow_3 rfl hl (by decide) rfl (fun ls hl => ?_)
  refine lv_iconst (v := 1) hx hb dX2_riseInARow_4 (by decide) ?_
  refine lv_istore_n (lv' := [(3, .int 1), (2, .int 0), (1, .int 0), (0, .ref a_p0)]) hx hb dX2_riseInARow_5 rfl hl (by decide) rfl (fun ls hl => ?_)
  obtain ⟨o1_4, hq, hf⟩ := bd1_some hf
  have K6 : ∀ ls : Array Slot, lv_has ls 4 [(1, .int o1_4)] → W p l e RM_X2_riseInARow s m [.ref a_p0].toArray below meth c s.heap [] 0 0 (MQ below (rdQ (some (.int rr))) [.ref a_p0].toArray s 0 0 (fun _ => False)) (F0 m 49 ls []) := by
    intro ls hl
    refine lv_iload_n hx hb dX2_riseInARow_49 rfl (lv_at hl 0 rfl) ?_
    have hf : (some o1_4 : Option (Int32)) = some rr := hf
    cases hf
    exact re_i hF hr hlk dX2_riseInARow_50 rfl
  clear hf
  have L6 : ∀ (n : Nat) (i1_1 : Int32) (i2_2 : Int32) (i3_3 : Int32), l_X2_riseInARow_6 p0_length p0_row n i1_1 i2_2 i3_3 = some o1_4 → ∀ ls : Array Slot, lv_has ls 4 [(0, .ref a_p0), (1, .int i1_1), (2, .int i2_2), (3, .int i3_3)] → W p l e RM_X2_riseInARow s m [.ref a_p0].toArray below meth c s.heap [] 0 0 (MQ below (rdQ (some (.int rr))) [.ref a_p0].toArray s 0 0 (fun _ => False)) (F0 m 6 ls []) := by
    intro n
    induction n with
    | zero =>
      intro i1_1 i2_2 i3_3 hf
      exact nomatch (show none = some o1_4 from hf)
    | succ n ih =>
      intro i1_1 i2_2 i3_3 hf ls hl
      rw [l_X2_riseInARow_6] at hf
      refine lv_iload_n hx hb dX2_riseInARow_6 rfl (lv_at hl 3 rfl) ?_
      refine lv_aload_n hx hb dX2_riseInARow_7 rfl (lv_at hl 0 rfl) ?_
      refine gfN (C := RX6) (T := TX6) (N := 10) (ci := 2) (v := .int p0_length) hF hG hP inX6 0 rfl rfl 1 (by decide) n41 rfl rfl dX2_riseInARow_8 ?_
      refine lv_icmp_ge (tgt := 49) hx hb dX2_riseInARow_11 (by decide) (fun c0 => ?_) (fun c0 => ?_)
      · have hf := (if_pos c0).symm.trans hf
        have hf : (some i1_1 : Option (Int32)) = some o1_4 := hf
        cases hf
        exact K6 ls (lv_sub hl [1] rfl)
      · have hf := (if_neg c0).symm.trans hf
        refine lv_aload_n hx hb dX2_riseInARow_14 rfl (lv_at hl 0 rfl) ?_
        refine lv_iload_n hx hb dX2_riseInARow_15 rfl (lv_at hl 3 rfl) ?_
        obtain ⟨r_5, hq, hf⟩ := bd1_some hf
        refine rdVN (As := [.int i3_3]) (rest := []) hF hG hP hl.1 (c_X6_at l G a_p0 p0_length p0_shorter p0_longer p0_memory p0_limit p0_seasonDays p0_stopped p0_stopPart p0_stopReason a_p0_row p0_row i3_3 r_5 hq) k_X6_at n355 [0, 1] rfl ⟨0, 2, _, _, rfl, rfl, rfl⟩ rfl rfl (Nat.le_of_ble_eq_true rfl) ⟨(Nat.le_of_ble_eq_true rfl), (Nat.le_of_ble_eq_true rfl)⟩ ⟨(Nat.zero_le _), (Nat.zero_le _)⟩ dX2_riseInARow_16 ?_
        refine lv_aload_n hx hb dX2_riseInARow_19 rfl (lv_at hl 0 rfl) ?_
        refine lv_iload_n hx hb dX2_riseInARow_20 rfl (lv_at hl 3 rfl) ?_
        refine lv_iconst (v := 1) hx hb dX2_riseInARow_21 (by decide) ?_
        refine lv_isub hx hb dX2_riseInARow_22 ?_
        obtain ⟨r_6, hq, hf⟩ := bd1_some hf
        refine rdVN (As := [.int (i3_3 - 1)]) (rest := [.int r_5]) hF hG hP hl.1 (c_X6_at l G a_p0 p0_length p0_shorter p0_longer p0_memory p0_limit p0_seasonDays p0_stopped p0_stopPart p0_stopReason a_p0_row p0_row (i3_3 - 1) r_6 hq) k_X6_at n355 [0, 1] rfl ⟨0, 2, _, _, rfl, rfl, rfl⟩ rfl rfl (Nat.le_of_ble_eq_true rfl) ⟨(Nat.le_of_ble_eq_true rfl), (Nat.le_of_ble_eq_true rfl)⟩ ⟨(Nat.zero_le _), (Nat.zero_le _)⟩ dX2_riseInARow_23 ?_
        obtain ⟨j_7, hq, hf⟩ := bd1_some hf
        have J36 : ∀ ls : Array Slot, lv_has ls 4 [(0, .ref a_p0), (1, .int i1_1), (3, .int i3_3)] → W p l e RM_X2_riseInARow s m [.ref a_p0].toArray below meth c s.heap [] 0 0 (MQ below (rdQ (some (.int rr))) [.ref a_p0].toArray s 0 0 (fun _ => False)) (F0 m 36 ls [.int j_7]) := by
          intro ls hl
          refine lv_istore_n (lv' := [(2, .int j_7), (0, .ref a_p0), (1, .int i1_1), (3, .int i3_3)]) hx hb dX2_riseInARow_36 rfl hl (by decide) rfl (fun ls hl => ?_)
          refine lv_iload_n hx hb dX2_riseInARow_37 rfl (lv_at hl 2 rfl) ?_
          refine lv_iload_n hx hb dX2_riseInARow_38 rfl (lv_at hl 0 rfl) ?_
          refine va_mmax hx hb (hml.trans hl.1.symm) hown (hts _ (List.mem_cons_of_mem _ q356)) (hts _ (List.mem_cons_of_mem _ qt_yJ9_max_7cf53)) (hts _ (List.mem_cons_of_mem _ q11)) (hts _ (List.mem_cons_of_mem _ qc_yJ9_max_7cf53)) (Nat.le_of_ble_eq_true rfl) (Nat.le_of_ble_eq_true rfl) (Nat.zero_le _) (Nat.zero_le _) dX2_riseInARow_39 ?_
          refine lv_istore_n (lv' := [(1, .int (if i1_1 < j_7 then j_7 else i1_1)), (2, .int j_7), (0, .ref a_p0), (3, .int i3_3)]) hx hb dX2_riseInARow_42 rfl hl (by decide) rfl (fun ls hl => ?_)
          refine lv_iinc (v := (i3_3 + 1)) (lv' := [(3, .int (i3_3 + 1)), (1, .int (if i1_1 < j_7 then j_7 else i1_1)), (2, .int j_7), (0, .ref a_p0)]) hx hb dX2_riseInARow_43 hl (k := 3) rfl rfl (by decide) rfl (fun ls hl => ?_)
          refine lv_goto (tgt := 6) hx hb dX2_riseInARow_46 (by decide) ?_
          exact ih (if i1_1 < j_7 then j_7 else i1_1) j_7 (i3_3 + 1) hf ls (lv_sub hl [3, 1, 2, 0] rfl)
        clear hf
        have hf := hq
        clear hq
        refine lv_icmp_le (tgt := 35) hx hb dX2_riseInARow_26 (by decide) (fun c0 => ?_) (fun c0 => ?_)
        · have hf := (if_pos c0).symm.trans hf
          refine lv_iconst (v := 0) hx hb dX2_riseInARow_35 (by decide) ?_
          have hf : (some 0 : Option (Int32)) = some j_7 := hf
          cases hf
          exact J36 ls (lv_sub hl [0, 1, 3] rfl)
        · have hf := (if_neg c0).symm.trans hf
          refine lv_iload_n hx hb dX2_riseInARow_29 rfl (lv_at hl 2 rfl) ?_
          refine lv_iconst (v := 1) hx hb dX2_riseInARow_30 (by decide) ?_
          refine lv_iadd hx hb dX2_riseInARow_31 ?_
          refine lv_goto (tgt := 36) hx hb dX2_riseInARow_32 (by decide) ?_
          have hf : (some (i2_2 + 1) : Option (Int32)) = some j_7 := hf
          cases hf
          exact J36 ls (lv_sub hl [0, 1, 3] rfl)
  exact L6 1000 0 0 1 hq ls (lv_sub hl [3, 2, 1, 0] rfl)
def f_X11_longestRise (t_now_length : Int32) (t_now_row : Nat → Int32) : Option (Int32) := bd1 (f_X2_riseInARow t_now_length t_now_row) (fun (r_1 : Int32) => some r_1)
theorem k_X11_longestRise : KV yX11_longestRise cX11_longestRise 1 (some .int) 0 := ⟨qc_yX11_longestRise, q1, ⟨by decide +kernel, by decide +kernel, by decide +kernel⟩, qi_yX11_longestRise, qs_yX11_longestRise⟩
abbrev RM_X11_longestRise : Room := { frames := 2, cells := 0, slots := 0, locals := 53 }
set_option maxHeartbeats 4000000 in
set_option maxRecDepth 100000 in
theorem c_X11_longestRise (l : Launch) (G : GP) (a_t : Nat) (a_t_trial : Nat) (a_t_snapshot : Nat) (t_snapshotTaken : Int32) (a_t_history : Nat) (a_t_text : Nat) (a_t_works : Nat) (a_t_highs : Nat) (a_t_trade : Nat) (a_t_now : Nat) (t_now_length : Int32) (t_now_shorter : Int32) (t_now_longer : Int32) (t_now_memory : Int32) (t_now_limit : Int32) (t_now_seasonDays : Int32) (t_now_stopped : Int32) (t_now_stopPart : Int32) (t_now_stopReason : Int32) (a_t_now_row : Nat) (t_now_row : Nat → Int32) (rr : Int32) (hf : f_X11_longestRise t_now_length t_now_row = some rr) : RM l yX11_longestRise cX11_longestRise 1 (some .int) 2 53 G [.ref a_t] [(a_t, .inr (7, [.ref a_t_now, .ref a_t_trial, .ref a_t_snapshot, .int t_snapshotTaken, .ref a_t_history, .ref a_t_text, .ref a_t_works, .ref a_t_highs, .ref a_t_trade])), (a_t_now, .inr (2, [.ref a_t_now_row, .int t_now_length, .int t_now_shorter, .int t_now_longer, .int t_now_memory, .int t_now_limit, .int t_now_seasonDays, .int t_now_stopped, .int t_now_stopPart, .int t_now_stopReason])), (a_t_now_row, .inl (G.2.1, 60, .inl t_now_row))] (some (.int rr)) := by
  refine RM.ofW (C := RX11) (by decide) rfl (Nat.le_of_ble_eq_true rfl) ?_
  intro p e s m below meth c hF hr hlk hG hP ls hl
  have hl : lv_has ls 1 [(0, .ref a_t)] := hl
  have hx := hF.1
  have hb := hF.2.1
  have hml := hF.2.2.1
  have hown := hF.2.2.2.1
  have hts := hF.2.2.2.2
  unfold f_X11_longestRise at hf
  refine lv_aload_n hx hb dX11_longestRise_0 rfl (lv_at hl 0 rfl) ?_
  refine gf (C := RX11) (T := TX11) (N := 9) (ci := 7) (v := .ref a_t_now) hF hG hP inX11 0 rfl rfl 0 (by decide) q190 rfl rfl dX11_longestRise_1 ?_
  obtain ⟨r_1, hq, hf⟩ := bd1_some hf
  refine rdSN (As := [.ref a_t_now]) (rest := []) hF hG hP hl.1 (c_X2_riseInARow l G a_t_now t_now_length t_now_shorter t_now_longer t_now_memory t_now_limit t_now_seasonDays t_now_stopped t_now_stopPart t_now_stopReason a_t_now_row t_now_row r_1 hq) k_X2_riseInARow n542 [1, 2] rfl rfl rfl (Nat.le_of_ble_eq_true rfl) ⟨(Nat.le_of_ble_eq_true rfl), (Nat.le_of_ble_eq_true rfl)⟩ ⟨(Nat.zero_le _), (Nat.zero_le _)⟩ dX11_longestRise_4 ?_
  have hf : (some r_1 : Option (Int32)) = some rr := hf
  cases hf
  exact re_i hF hr hlk dX11_longestRise_7 rfl
def f_X11_divided (x0 : Int64) (x2 : Int64) : Option (Int64) := (if (lg_cmp x2 0) ≤ 0 then some 0 else gd (¬ x2 = 0) (some (x0 / x2)))
theorem k_X11_divided : KS yX11_divided cX11_divided 4 (some .long) 2 := ⟨qc_yX11_divided, q1, ⟨by decide +kernel, by decide +kernel, by decide +kernel⟩, qt_yX11_divided⟩
abbrev RM_X11_divided : Room := { frames := 0, cells := 0, slots := 0, locals := 0 }
set_option maxHeartbeats 4000000 in
set_option maxRecDepth 100000 in
theorem c_X11_divided (l : Launch) (G : GP) (x0 : Int64) (x2 : Int64) (rr : Int64) (hf : f_X11_divided x0 x2 = some rr) : RM l yX11_divided cX11_divided 4 (some .long) 0 0 G [.long x0, .long x2] [] (some (.long rr)) := by
  refine RM.ofW (C := RX11) (by decide) rfl (Nat.le_of_ble_eq_true rfl) ?_
  intro p e s m below meth c hF hr hlk hG hP ls hl
  have hl : lv_has ls 4 [(0, .long x0), (2, .long x2)] := hl
  have hx := hF.1
  have hb := hF.2.1
  have hml := hF.2.2.1
  have hown := hF.2.2.2.1
  have hts := hF.2.2.2.2
  unfold f_X11_divided at hf
  refine lv_lload_n hx hb dX11_divided_0 rfl (lv_at hl 1 rfl) ?_
  refine lv_lconst (v := 0) hx hb dX11_divided_1 (by decide) ?_
  refine W.lcmp hx hb dX11_divided_2 ?_
  refine lv_if_le (tgt := 12) hx hb dX11_divided_3 (by decide) (fun c0 => ?_) (fun c0 => ?_)
  · have hf := (if_pos c0).symm.trans hf
    refine lv_lconst (v := 0) hx hb dX11_divided_12 (by decide) ?_
    have hf : (some 0 : Option (Int64)) = some rr := hf
    cases hf
    exact re_l hF hr hlk dX11_divided_13 rfl
  · have hf := (if_neg c0).symm.trans hf
    refine lv_lload_n hx hb dX11_divided_6 rfl (lv_at hl 0 rfl) ?_
    refine lv_lload_n hx hb dX11_divided_7 rfl (lv_at hl 1 rfl) ?_
    obtain ⟨hg, hf⟩ := gd_some hf
    refine lv_ldiv hx hb dX11_divided_8 hg ?_
    refine lv_goto (tgt := 13) hx hb dX11_divided_9 (by decide) ?_
    have hf : (some (x0 / x2) : Option (Int64)) = some rr := hf
    cases hf
    exact re_l hF hr hlk dX11_divided_13 rfl
def l_X4_byAdding_12 (p0_row : Nat → Int32) (x1 : Int32) : Nat → Int64 → Int32 → Option (Int64)
  | 0, _, _ => none
  | n + 1, i4_2, i6_3 => (if x1 < i6_3 then some i4_2 else bd1 (f_X6_at p0_row i6_3) (fun (r_5 : Int32) => l_X4_byAdding_12 p0_row x1 n (i4_2 + (Int32.toInt64 r_5)) (i6_3 + 1)))
def f_X4_byAdding (p0_row : Nat → Int32) (x1 : Int32) (x2 : Int32) : Option (Int32) := bd1 (f_X4_firstOf x1 x2) (fun (r_1 : Int32) => bd1 (l_X4_byAdding_12 p0_row x1 1000 0 r_1) (fun (o4_4 : Int64) => bd1 (f_X11_divided (1000 * o4_4) (Int32.toInt64 ((x1 - r_1) + 1))) (fun (r_6 : Int64) => some (Int64.toInt32 r_6))))
theorem k_X4_byAdding : KS yX4_byAdding cX4_byAdding 7 (some .int) 3 := ⟨qc_yX4_byAdding, q10, ⟨by decide +kernel, by decide +kernel, by decide +kernel⟩, qt_yX4_byAdding⟩
abbrev RM_X4_byAdding : Room := { frames := 1, cells := 0, slots := 0, locals := 23 }
set_option maxHeartbeats 4000000 in
set_option maxRecDepth 100000 in
theorem c_X4_byAdding (l : Launch) (G : GP) (a_p0 : Nat) (p0_length : Int32) (p0_shorter : Int32) (p0_longer : Int32) (p0_memory : Int32) (p0_limit : Int32) (p0_seasonDays : Int32) (p0_stopped : Int32) (p0_stopPart : Int32) (p0_stopReason : Int32) (a_p0_row : Nat) (p0_row : Nat → Int32) (x1 : Int32) (x2 : Int32) (rr : Int32) (hf : f_X4_byAdding p0_row x1 x2 = some rr) : RM l yX4_byAdding cX4_byAdding 7 (some .int) 1 23 G [.ref a_p0, .int x1, .int x2] [(a_p0, .inr (2, [.ref a_p0_row, .int p0_length, .int p0_shorter, .int p0_longer, .int p0_memory, .int p0_limit, .int p0_seasonDays, .int p0_stopped, .int p0_stopPart, .int p0_stopReason])), (a_p0_row, .inl (G.2.1, 60, .inl p0_row))] (some (.int rr)) := by
  refine RM.ofW (C := RX4) (by decide) rfl (Nat.le_of_ble_eq_true rfl) ?_
  intro p e s m below meth c hF hr hlk hG hP ls hl
  have hl : lv_has ls 7 [(0, .ref a_p0), (1, .int x1), (2, .int x2)] := hl
  have hx := hF.1
  have hb := hF.2.1
  have hml := hF.2.2.1
  have hown := hF.2.2.2.1
  have hts := hF.2.2.2.2
  unfold f_X4_byAdding at hf
  refine lv_iload_n hx hb dX4_byAdding_0 rfl (lv_at hl 1 rfl) ?_
  refine lv_iload_n hx hb dX4_byAdding_1 rfl (lv_at hl 2 rfl) ?_
  obtain ⟨r_1, hq, hf⟩ := bd1_some hf
  refine rdS (As := [.int x1, .int x2]) (rest := []) hF hG hP hl.1 (c_X4_firstOf l G x1 x2 r_1 hq) k_X4_firstOf q558 [] rfl rfl rfl (Nat.le_of_ble_eq_true rfl) ⟨(Nat.le_of_ble_eq_true rfl), (Nat.le_of_ble_eq_true rfl)⟩ ⟨(Nat.zero_le _), (Nat.zero_le _)⟩ dX4_byAdding_2 ?_
  refine lv_istore_n (lv' := [(3, .int r_1), (0, .ref a_p0), (1, .int x1), (2, .int x2)]) hx hb dX4_byAdding_5 rfl hl (by decide) rfl (fun ls hl => ?_)
  refine lv_lconst (v := 0) hx hb dX4_byAdding_6 (by decide) ?_
  refine lv_lstore (lv' := [(4, .long 0), (3, .int r_1), (0, .ref a_p0), (1, .int x1), (2, .int x2)]) hx hb dX4_byAdding_7 hl (by decide) rfl (fun ls hl => ?_)
  refine lv_iload_n hx hb dX4_byAdding_9 rfl (lv_at hl 1 rfl) ?_
  refine lv_istore (lv' := [(6, .int r_1), (4, .long 0), (3, .int r_1), (0, .ref a_p0), (1, .int x1), (2, .int x2)]) hx hb dX4_byAdding_10 hl (by decide) rfl (fun ls hl => ?_)
  obtain ⟨o4_4, hq, hf⟩ := bd1_some hf
  have K12 : ∀ ls : Array Slot, lv_has ls 7 [(1, .int x1), (3, .int r_1), (4, .long o4_4)] → W p l e RM_X4_byAdding s m [.ref a_p0, .int x1, .int x2].toArray below meth c s.heap [] 0 0 (MQ below (rdQ (some (.int rr))) [.ref a_p0, .int x1, .int x2].toArray s 0 0 (fun _ => False)) (F0 m 36 ls []) := by
    intro ls hl
    refine lv_ldc2 (v := 1000) hx hb hown (hts _ (List.mem_cons_of_mem _ q559)) dX4_byAdding_36 ?_
    refine lv_lload hx hb dX4_byAdding_39 (lv_at hl 2 rfl) ?_
    refine lv_lmul hx hb dX4_byAdding_41 ?_
    refine lv_iload_n hx hb dX4_byAdding_42 rfl (lv_at hl 0 rfl) ?_
    refine lv_iload_n hx hb dX4_byAdding_43 rfl (lv_at hl 1 rfl) ?_
    refine lv_isub hx hb dX4_byAdding_44 ?_
    refine lv_iconst (v := 1) hx hb dX4_byAdding_45 (by decide) ?_
    refine lv_iadd hx hb dX4_byAdding_46 ?_
    refine lv_i2l (v := (Int32.toInt64 ((x1 - r_1) + 1))) hx hb dX4_byAdding_47 rfl ?_
    obtain ⟨r_6, hq, hf⟩ := bd1_some hf
    refine rdSN (As := [.long (1000 * o4_4), .long (Int32.toInt64 ((x1 - r_1) + 1))]) (rest := []) hF hG hP hl.1 (c_X11_divided l G (1000 * o4_4) (Int32.toInt64 ((x1 - r_1) + 1)) r_6 hq) k_X11_divided n560 [] rfl rfl rfl (Nat.le_of_ble_eq_true rfl) ⟨(Nat.le_of_ble_eq_true rfl), (Nat.le_of_ble_eq_true rfl)⟩ ⟨(Nat.zero_le _), (Nat.zero_le _)⟩ dX4_byAdding_48 ?_
    refine lv_l2i (v := (Int64.toInt32 r_6)) hx hb dX4_byAdding_51 rfl ?_
    have hf : (some (Int64.toInt32 r_6) : Option (Int32)) = some rr := hf
    cases hf
    exact re_i hF hr hlk dX4_byAdding_52 rfl
  clear hf
  have L12 : ∀ (n : Nat) (i4_2 : Int64) (i6_3 : Int32), l_X4_byAdding_12 p0_row x1 n i4_2 i6_3 = some o4_4 → ∀ ls : Array Slot, lv_has ls 7 [(0, .ref a_p0), (1, .int x1), (3, .int r_1), (4, .long i4_2), (6, .int i6_3)] → W p l e RM_X4_byAdding s m [.ref a_p0, .int x1, .int x2].toArray below meth c s.heap [] 0 0 (MQ below (rdQ (some (.int rr))) [.ref a_p0, .int x1, .int x2].toArray s 0 0 (fun _ => False)) (F0 m 12 ls []) := by
    intro n
    induction n with
    | zero =>
      intro i4_2 i6_3 hf
      exact nomatch (show none = some o4_4 from hf)
    | succ n ih =>
      intro i4_2 i6_3 hf ls hl
      rw [l_X4_byAdding_12] at hf
      refine lv_iload hx hb dX4_byAdding_12 (lv_at hl 4 rfl) ?_
      refine lv_iload_n hx hb dX4_byAdding_14 rfl (lv_at hl 1 rfl) ?_
      refine lv_icmp_gt (tgt := 36) hx hb dX4_byAdding_15 (by decide) (fun c0 => ?_) (fun c0 => ?_)
      · have hf := (if_pos c0).symm.trans hf
        have hf : (some i4_2 : Option (Int64)) = some o4_4 := hf
        cases hf
        exact K12 ls (lv_sub hl [1, 2, 3] rfl)
      · have hf := (if_neg c0).symm.trans hf
        refine lv_lload hx hb dX4_byAdding_18 (lv_at hl 3 rfl) ?_
        refine lv_aload_n hx hb dX4_byAdding_20 rfl (lv_at hl 0 rfl) ?_
        refine lv_iload hx hb dX4_byAdding_21 (lv_at hl 4 rfl) ?_
        obtain ⟨r_5, hq, hf⟩ := bd1_some hf
        refine rdVN (As := [.int i6_3]) (rest := [.long i4_2]) hF hG hP hl.1 (c_X6_at l G a_p0 p0_length p0_shorter p0_longer p0_memory p0_limit p0_seasonDays p0_stopped p0_stopPart p0_stopReason a_p0_row p0_row i6_3 r_5 hq) k_X6_at n411 [0, 1] rfl ⟨0, 2, _, _, rfl, rfl, rfl⟩ rfl rfl (Nat.le_of_ble_eq_true rfl) ⟨(Nat.le_of_ble_eq_true rfl), (Nat.le_of_ble_eq_true rfl)⟩ ⟨(Nat.zero_le _), (Nat.zero_le _)⟩ dX4_byAdding_23 ?_
        refine lv_i2l (v := (Int32.toInt64 r_5)) hx hb dX4_byAdding_26 rfl ?_
        refine lv_ladd hx hb dX4_byAdding_27 ?_
        refine lv_lstore (lv' := [(4, .long (i4_2 + (Int32.toInt64 r_5))), (0, .ref a_p0), (1, .int x1), (3, .int r_1), (6, .int i6_3)]) hx hb dX4_byAdding_28 hl (by decide) rfl (fun ls hl => ?_)
        refine lv_iinc (v := (i6_3 + 1)) (lv' := [(6, .int (i6_3 + 1)), (4, .long (i4_2 + (Int32.toInt64 r_5))), (0, .ref a_p0), (1, .int x1), (3, .int r_1)]) hx hb dX4_byAdding_30 hl (k := 4) rfl rfl (by decide) rfl (fun ls hl => ?_)
        refine lv_goto (tgt := 12) hx hb dX4_byAdding_33 (by decide) ?_
        exact ih (i4_2 + (Int32.toInt64 r_5)) (i6_3 + 1) hf ls (lv_sub hl [2, 3, 4, 1, 0] rfl)
  exact L12 1000 0 r_1 hq ls (lv_sub hl [3, 4, 2, 1, 0] rfl)
def f_X9_sideAt (p0_shorter : Int32) (p0_longer : Int32) (p0_row : Nat → Int32) (x1 : Int32) : Option (Int32) := bd1 (f_X4_byAdding p0_row x1 p0_shorter) (fun (r_1 : Int32) => bd1 (f_X4_byAdding p0_row x1 p0_longer) (fun (r_2 : Int32) => (if r_1 = r_2 then some 0 else (if r_1 ≤ r_2 then some (-1) else some 1))))
theorem k_X9_sideAt : KS yX9_sideAt cX9_sideAt 4 (some .int) 2 := ⟨qc_yX9_sideAt, q8, ⟨by decide +kernel, by decide +kernel, by decide +kernel⟩, qt_yX9_sideAt⟩
abbrev RM_X9_sideAt : Room := { frames := 2, cells := 0, slots := 0, locals := 49 }
set_option maxHeartbeats 4000000 in
set_option maxRecDepth 100000 in
theorem c_X9_sideAt (l : Launch) (G : GP) (a_p0 : Nat) (p0_length : Int32) (p0_shorter : Int32) (p0_longer : Int32) (p0_memory : Int32) (p0_limit : Int32) (p0_seasonDays : Int32) (p0_stopped : Int32) (p0_stopPart : Int32) (p0_stopReason : Int32) (a_p0_row : Nat) (p0_row : Nat → Int32) (x1 : Int32) (rr : Int32) (hf : f_X9_sideAt p0_shorter p0_longer p0_row x1 = some rr) : RM l yX9_sideAt cX9_sideAt 4 (some .int) 2 49 G [.ref a_p0, .int x1] [(a_p0, .inr (2, [.ref a_p0_row, .int p0_length, .int p0_shorter, .int p0_longer, .int p0_memory, .int p0_limit, .int p0_seasonDays, .int p0_stopped, .int p0_stopPart, .int p0_stopReason])), (a_p0_row, .inl (G.2.1, 60, .inl p0_row))] (some (.int rr)) := by
  refine RM.ofW (C := RX9) (by decide) rfl (Nat.le_of_ble_eq_true rfl) ?_
  intro p e s m below meth c hF hr hlk hG hP ls hl
  have hl : lv_has ls 4 [(0, .ref a_p0), (1, .int x1)] := hl
  have hx := hF.1
  have hb := hF.2.1
  have hml := hF.2.2.1
  have hown := hF.2.2.2.1
  have hts := hF.2.2.2.2
  unfold f_X9_sideAt at hf
  refine lv_aload_n hx hb dX9_sideAt_0 rfl (lv_at hl 0 rfl) ?_
  refine lv_iload_n hx hb dX9_sideAt_1 rfl (lv_at hl 1 rfl) ?_
  refine lv_aload_n hx hb dX9_sideAt_2 rfl (lv_at hl 0 rfl) ?_
  refine gfN (C := RX6) (T := TX6) (N := 10) (ci := 2) (v := .int p0_shorter) hF hG hP inX6 0 rfl rfl 2 (by decide) n45 rfl rfl dX9_sideAt_3 ?_
  obtain ⟨r_1, hq, hf⟩ := bd1_some hf
  refine rdSN (As := [.ref a_p0, .int x1, .int p0_shorter]) (rest := []) hF hG hP hl.1 (c_X4_byAdding l G a_p0 p0_length p0_shorter p0_longer p0_memory p0_limit p0_seasonDays p0_stopped p0_stopPart p0_stopReason a_p0_row p0_row x1 p0_shorter r_1 hq) k_X4_byAdding n555 [0, 1] rfl rfl rfl (Nat.le_of_ble_eq_true rfl) ⟨(Nat.le_of_ble_eq_true rfl), (Nat.le_of_ble_eq_true rfl)⟩ ⟨(Nat.zero_le _), (Nat.zero_le _)⟩ dX9_sideAt_6 ?_
  refine lv_istore_n (lv' := [(2, .int r_1), (0, .ref a_p0), (1, .int x1)]) hx hb dX9_sideAt_9 rfl hl (by decide) rfl (fun ls hl => ?_)
  refine lv_aload_n hx hb dX9_sideAt_10 rfl (lv_at hl 1 rfl) ?_
  refine lv_iload_n hx hb dX9_sideAt_11 rfl (lv_at hl 2 rfl) ?_
  refine lv_aload_n hx hb dX9_sideAt_12 rfl (lv_at hl 1 rfl) ?_
  refine gfN (C := RX6) (T := TX6) (N := 10) (ci := 2) (v := .int p0_longer) hF hG hP inX6 0 rfl rfl 3 (by decide) n50 rfl rfl dX9_sideAt_13 ?_
  obtain ⟨r_2, hq, hf⟩ := bd1_some hf
  refine rdSN (As := [.ref a_p0, .int x1, .int p0_longer]) (rest := []) hF hG hP hl.1 (c_X4_byAdding l G a_p0 p0_length p0_shorter p0_longer p0_memory p0_limit p0_seasonDays p0_stopped p0_stopPart p0_stopReason a_p0_row p0_row x1 p0_longer r_2 hq) k_X4_byAdding n555 [0, 1] rfl rfl rfl (Nat.le_of_ble_eq_true rfl) ⟨(Nat.le_of_ble_eq_true rfl), (Nat.le_of_ble_eq_true rfl)⟩ ⟨(Nat.zero_le _), (Nat.zero_le _)⟩ dX9_sideAt_16 ?_
  refine lv_istore_n (lv' := [(3, .int r_2), (2, .int r_1), (0, .ref a_p0), (1, .int x1)]) hx hb dX9_sideAt_19 rfl hl (by decide) rfl (fun ls hl => ?_)
  refine lv_iload_n hx hb dX9_sideAt_20 rfl (lv_at hl 1 rfl) ?_
  refine lv_iload_n hx hb dX9_sideAt_21 rfl (lv_at hl 0 rfl) ?_
  refine lv_icmp_ne (tgt := 27) hx hb dX9_sideAt_22 (by decide) (fun c0 => ?_) (fun c0 => ?_)
  · have hf := (if_neg c0).symm.trans hf
    refine lv_iload_n hx hb dX9_sideAt_27 rfl (lv_at hl 1 rfl) ?_
    refine lv_iload_n hx hb dX9_sideAt_28 rfl (lv_at hl 0 rfl) ?_
    refine lv_icmp_le (tgt := 36) hx hb dX9_sideAt_29 (by decide) (fun c0 => ?_) (fun c0 => ?_)
    · have hf := (if_pos c0).symm.trans hf
      refine lv_iconst (v := (-1)) hx hb dX9_sideAt_36 (by decide) ?_
      have hf : (some (-1) : Option (Int32)) = some rr := hf
      cases hf
      exact re_i hF hr hlk dX9_sideAt_37 rfl
    · have hf := (if_neg c0).symm.trans hf
      refine lv_iconst (v := 1) hx hb dX9_sideAt_32 (by decide) ?_
      refine lv_goto (tgt := 37) hx hb dX9_sideAt_33 (by decide) ?_
      have hf : (some 1 : Option (Int32)) = some rr := hf
      cases hf
      exact re_i hF hr hlk dX9_sideAt_37 rfl
  · have hf := (if_pos c0).symm.trans hf
    refine lv_iconst (v := 0) hx hb dX9_sideAt_25 (by decide) ?_
    have hf : (some 0 : Option (Int32)) = some rr := hf
    cases hf
    exact re_i hF hr hlk dX9_sideAt_26 rfl
def f_X9_crossingAt (p0_shorter : Int32) (p0_longer : Int32) (p0_row : Nat → Int32) (x1 : Int32) : Option (Int32) := (if 1 ≤ x1 then bd1 (f_X9_sideAt p0_shorter p0_longer p0_row x1) (fun (r_1 : Int32) => bd1 (f_X9_sideAt p0_shorter p0_longer p0_row (x1 - 1)) (fun (r_2 : Int32) => (if r_1 = r_2 then some 0 else some r_1))) else some 0)
theorem k_X9_crossingAt : KS yX9_crossingAt cX9_crossingAt 3 (some .int) 2 := ⟨qc_yX9_crossingAt, q8, ⟨by decide +kernel, by decide +kernel, by decide +kernel⟩, qt_yX9_crossingAt⟩
abbrev RM_X9_crossingAt : Room := { frames := 3, cells := 0, slots := 0, locals := 72 }
set_option maxHeartbeats 4000000 in
set_option maxRecDepth 100000 in
theorem c_X9_crossingAt (l : Launch) (G : GP) (a_p0 : Nat) (p0_length : Int32) (p0_shorter : Int32) (p0_longer : Int32) (p0_memory : Int32) (p0_limit : Int32) (p0_seasonDays : Int32) (p0_stopped : Int32) (p0_stopPart : Int32) (p0_stopReason : Int32) (a_p0_row : Nat) (p0_row : Nat → Int32) (x1 : Int32) (rr : Int32) (hf : f_X9_crossingAt p0_shorter p0_longer p0_row x1 = some rr) : RM l yX9_crossingAt cX9_crossingAt 3 (some .int) 3 72 G [.ref a_p0, .int x1] [(a_p0, .inr (2, [.ref a_p0_row, .int p0_length, .int p0_shorter, .int p0_longer, .int p0_memory, .int p0_limit, .int p0_seasonDays, .int p0_stopped, .int p0_stopPart, .int p0_stopReason])), (a_p0_row, .inl (G.2.1, 60, .inl p0_row))] (some (.int rr)) := by
  refine RM.ofW (C := RX9) (by decide) rfl (Nat.le_of_ble_eq_true rfl) ?_
  intro p e s m below meth c hF hr hlk hG hP ls hl
  have hl : lv_has ls 3 [(0, .ref a_p0), (1, .int x1)] := hl
  have hx := hF.1
  have hb := hF.2.1
  have hml := hF.2.2.1
  have hown := hF.2.2.2.1
  have hts := hF.2.2.2.2
  unfold f_X9_crossingAt at hf
  refine lv_iload_n hx hb dX9_crossingAt_0 rfl (lv_at hl 1 rfl) ?_
  refine lv_iconst (v := 1) hx hb dX9_crossingAt_1 (by decide) ?_
  refine lv_icmp_ge (tgt := 7) hx hb dX9_crossingAt_2 (by decide) (fun c0 => ?_) (fun c0 => ?_)
  · have hf := (if_pos c0).symm.trans hf
    refine lv_aload_n hx hb dX9_crossingAt_7 rfl (lv_at hl 0 rfl) ?_
    refine lv_iload_n hx hb dX9_crossingAt_8 rfl (lv_at hl 1 rfl) ?_
    obtain ⟨r_1, hq, hf⟩ := bd1_some hf
    refine rdS (As := [.ref a_p0, .int x1]) (rest := []) hF hG hP hl.1 (c_X9_sideAt l G a_p0 p0_length p0_shorter p0_longer p0_memory p0_limit p0_seasonDays p0_stopped p0_stopPart p0_stopReason a_p0_row p0_row x1 r_1 hq) k_X9_sideAt q552 [0, 1] rfl rfl rfl (Nat.le_of_ble_eq_true rfl) ⟨(Nat.le_of_ble_eq_true rfl), (Nat.le_of_ble_eq_true rfl)⟩ ⟨(Nat.zero_le _), (Nat.zero_le _)⟩ dX9_crossingAt_9 ?_
    refine lv_istore_n (lv' := [(2, .int r_1), (0, .ref a_p0), (1, .int x1)]) hx hb dX9_crossingAt_12 rfl hl (by decide) rfl (fun ls hl => ?_)
    refine lv_iload_n hx hb dX9_crossingAt_13 rfl (lv_at hl 0 rfl) ?_
    refine lv_aload_n hx hb dX9_crossingAt_14 rfl (lv_at hl 1 rfl) ?_
    refine lv_iload_n hx hb dX9_crossingAt_15 rfl (lv_at hl 2 rfl) ?_
    refine lv_iconst (v := 1) hx hb dX9_crossingAt_16 (by decide) ?_
    refine lv_isub hx hb dX9_crossingAt_17 ?_
    obtain ⟨r_2, hq, hf⟩ := bd1_some hf
    refine rdS (As := [.ref a_p0, .int (x1 - 1)]) (rest := [.int r_1]) hF hG hP hl.1 (c_X9_sideAt l G a_p0 p0_length p0_shorter p0_longer p0_memory p0_limit p0_seasonDays p0_stopped p0_stopPart p0_stopReason a_p0_row p0_row (x1 - 1) r_2 hq) k_X9_sideAt q552 [0, 1] rfl rfl rfl (Nat.le_of_ble_eq_true rfl) ⟨(Nat.le_of_ble_eq_true rfl), (Nat.le_of_ble_eq_true rfl)⟩ ⟨(Nat.zero_le _), (Nat.zero_le _)⟩ dX9_crossingAt_18 ?_
    refine lv_icmp_ne (tgt := 28) hx hb dX9_crossingAt_21 (by decide) (fun c0 => ?_) (fun c0 => ?_)
    · have hf := (if_neg c0).symm.trans hf
      refine lv_iload_n hx hb dX9_crossingAt_28 rfl (lv_at hl 0 rfl) ?_
      have hf : (some r_1 : Option (Int32)) = some rr := hf
      cases hf
      exact re_i hF hr hlk dX9_crossingAt_29 rfl
    · have hf := (if_pos c0).symm.trans hf
      refine lv_iconst (v := 0) hx hb dX9_crossingAt_24 (by decide) ?_
      refine lv_goto (tgt := 29) hx hb dX9_crossingAt_25 (by decide) ?_
      have hf : (some 0 : Option (Int32)) = some rr := hf
      cases hf
      exact re_i hF hr hlk dX9_crossingAt_29 rfl
  · have hf := (if_neg c0).symm.trans hf
    refine lv_iconst (v := 0) hx hb dX9_crossingAt_5 (by decide) ?_
    have hf : (some 0 : Option (Int32)) = some rr := hf
    cases hf
    exact re_i hF hr hlk dX9_crossingAt_6 rfl
def f_X11_crossing (t_now_length : Int32) (t_now_shorter : Int32) (t_now_longer : Int32) (t_now_row : Nat → Int32) (x1 : Int32) : Option (Int32) := bd0 (f_X11_requireDay t_now_length x1) (fun _ => bd1 (f_X9_crossingAt t_now_shorter t_now_longer t_now_row x1) (fun (r_1 : Int32) => some r_1))
theorem k_X11_crossing : KV yX11_crossing cX11_crossing 2 (some .int) 1 := ⟨qc_yX11_crossing, q1, ⟨by decide +kernel, by decide +kernel, by decide +kernel⟩, qi_yX11_crossing, qs_yX11_crossing⟩
abbrev RM_X11_crossing : Room := { frames := 4, cells := 0, slots := 0, locals := 94 }
set_option maxHeartbeats 4000000 in
set_option maxRecDepth 100000 in
theorem c_X11_crossing (l : Launch) (G : GP) (a_t : Nat) (a_t_trial : Nat) (a_t_snapshot : Nat) (t_snapshotTaken : Int32) (a_t_history : Nat) (a_t_text : Nat) (a_t_works : Nat) (a_t_highs : Nat) (a_t_trade : Nat) (a_t_now : Nat) (t_now_length : Int32) (t_now_shorter : Int32) (t_now_longer : Int32) (t_now_memory : Int32) (t_now_limit : Int32) (t_now_seasonDays : Int32) (t_now_stopped : Int32) (t_now_stopPart : Int32) (t_now_stopReason : Int32) (a_t_now_row : Nat) (t_now_row : Nat → Int32) (x1 : Int32) (rr : Int32) (hf : f_X11_crossing t_now_length t_now_shorter t_now_longer t_now_row x1 = some rr) : RM l yX11_crossing cX11_crossing 2 (some .int) 4 94 G [.ref a_t, .int x1] [(a_t, .inr (7, [.ref a_t_now, .ref a_t_trial, .ref a_t_snapshot, .int t_snapshotTaken, .ref a_t_history, .ref a_t_text, .ref a_t_works, .ref a_t_highs, .ref a_t_trade])), (a_t_now, .inr (2, [.ref a_t_now_row, .int t_now_length, .int t_now_shorter, .int t_now_longer, .int t_now_memory, .int t_now_limit, .int t_now_seasonDays, .int t_now_stopped, .int t_now_stopPart, .int t_now_stopReason])), (a_t_now_row, .inl (G.2.1, 60, .inl t_now_row))] (some (.int rr)) := by
  refine RM.ofW (C := RX11) (by decide) rfl (Nat.le_of_ble_eq_true rfl) ?_
  intro p e s m below meth c hF hr hlk hG hP ls hl
  have hl : lv_has ls 2 [(0, .ref a_t), (1, .int x1)] := hl
  have hx := hF.1
  have hb := hF.2.1
  have hml := hF.2.2.1
  have hown := hF.2.2.2.1
  have hts := hF.2.2.2.2
  unfold f_X11_crossing at hf
  refine lv_aload_n hx hb dX11_crossing_0 rfl (lv_at hl 0 rfl) ?_
  refine lv_iload_n hx hb dX11_crossing_1 rfl (lv_at hl 1 rfl) ?_
  obtain ⟨hq, hf⟩ := bd0_some hf
  refine rdV (As := [.int x1]) (rest := []) hF hG hP hl.1 (c_X11_requireDay l G a_t a_t_trial a_t_snapshot t_snapshotTaken a_t_history a_t_text a_t_works a_t_highs a_t_trade a_t_now a_t_now_row t_now_length t_now_shorter t_now_longer t_now_memory t_now_limit t_now_seasonDays t_now_stopped t_now_stopPart t_now_stopReason x1 hq) k_X11_requireDay q379 [0, 1] rfl ⟨0, 7, _, _, rfl, rfl, rfl⟩ rfl rfl (Nat.le_of_ble_eq_true rfl) ⟨(Nat.le_of_ble_eq_true rfl), (Nat.le_of_ble_eq_true rfl)⟩ ⟨(Nat.zero_le _), (Nat.zero_le _)⟩ dX11_crossing_2 ?_
  refine lv_aload_n hx hb dX11_crossing_5 rfl (lv_at hl 0 rfl) ?_
  refine gf (C := RX11) (T := TX11) (N := 9) (ci := 7) (v := .ref a_t_now) hF hG hP inX11 0 rfl rfl 0 (by decide) q190 rfl rfl dX11_crossing_6 ?_
  refine lv_iload_n hx hb dX11_crossing_9 rfl (lv_at hl 1 rfl) ?_
  obtain ⟨r_1, hq, hf⟩ := bd1_some hf
  refine rdSN (As := [.ref a_t_now, .int x1]) (rest := []) hF hG hP hl.1 (c_X9_crossingAt l G a_t_now t_now_length t_now_shorter t_now_longer t_now_memory t_now_limit t_now_seasonDays t_now_stopped t_now_stopPart t_now_stopReason a_t_now_row t_now_row x1 r_1 hq) k_X9_crossingAt n549 [1, 2] rfl rfl rfl (Nat.le_of_ble_eq_true rfl) ⟨(Nat.le_of_ble_eq_true rfl), (Nat.le_of_ble_eq_true rfl)⟩ ⟨(Nat.zero_le _), (Nat.zero_le _)⟩ dX11_crossing_10 ?_
  have hf : (some r_1 : Option (Int32)) = some rr := hf
  cases hf
  exact re_i hF hr hlk dX11_crossing_13 rfl
def f_X11_mean (t_now_length : Int32) (t_now_row : Nat → Int32) (x1 : Int32) (x2 : Int32) : Option (Int32) := bd0 (f_X11_requireDay t_now_length x1) (fun _ => bd0 (f_X11_requireRange x2 1 20) (fun _ => bd1 (f_X4_byAdding t_now_row x1 x2) (fun (r_1 : Int32) => some r_1)))
theorem k_X11_mean : KV yX11_mean cX11_mean 3 (some .int) 2 := ⟨qc_yX11_mean, q1, ⟨by decide +kernel, by decide +kernel, by decide +kernel⟩, qi_yX11_mean, qs_yX11_mean⟩
abbrev RM_X11_mean : Room := { frames := 2, cells := 0, slots := 0, locals := 49 }
set_option maxHeartbeats 4000000 in
set_option maxRecDepth 100000 in
theorem c_X11_mean (l : Launch) (G : GP) (a_t : Nat) (a_t_trial : Nat) (a_t_snapshot : Nat) (t_snapshotTaken : Int32) (a_t_history : Nat) (a_t_text : Nat) (a_t_works : Nat) (a_t_highs : Nat) (a_t_trade : Nat) (a_t_now : Nat) (t_now_length : Int32) (t_now_shorter : Int32) (t_now_longer : Int32) (t_now_memory : Int32) (t_now_limit : Int32) (t_now_seasonDays : Int32) (t_now_stopped : Int32) (t_now_stopPart : Int32) (t_now_stopReason : Int32) (a_t_now_row : Nat) (t_now_row : Nat → Int32) (x1 : Int32) (x2 : Int32) (rr : Int32) (hf : f_X11_mean t_now_length t_now_row x1 x2 = some rr) : RM l yX11_mean cX11_mean 3 (some .int) 2 49 G [.ref a_t, .int x1, .int x2] [(a_t, .inr (7, [.ref a_t_now, .ref a_t_trial, .ref a_t_snapshot, .int t_snapshotTaken, .ref a_t_history, .ref a_t_text, .ref a_t_works, .ref a_t_highs, .ref a_t_trade])), (a_t_now, .inr (2, [.ref a_t_now_row, .int t_now_length, .int t_now_shorter, .int t_now_longer, .int t_now_memory, .int t_now_limit, .int t_now_seasonDays, .int t_now_stopped, .int t_now_stopPart, .int t_now_stopReason])), (a_t_now_row, .inl (G.2.1, 60, .inl t_now_row))] (some (.int rr)) := by
  refine RM.ofW (C := RX11) (by decide) rfl (Nat.le_of_ble_eq_true rfl) ?_
  intro p e s m below meth c hF hr hlk hG hP ls hl
  have hl : lv_has ls 3 [(0, .ref a_t), (1, .int x1), (2, .int x2)] := hl
  have hx := hF.1
  have hb := hF.2.1
  have hml := hF.2.2.1
  have hown := hF.2.2.2.1
  have hts := hF.2.2.2.2
  unfold f_X11_mean at hf
  refine lv_aload_n hx hb dX11_mean_0 rfl (lv_at hl 0 rfl) ?_
  refine lv_iload_n hx hb dX11_mean_1 rfl (lv_at hl 1 rfl) ?_
  obtain ⟨hq, hf⟩ := bd0_some hf
  refine rdV (As := [.int x1]) (rest := []) hF hG hP hl.1 (c_X11_requireDay l G a_t a_t_trial a_t_snapshot t_snapshotTaken a_t_history a_t_text a_t_works a_t_highs a_t_trade a_t_now a_t_now_row t_now_length t_now_shorter t_now_longer t_now_memory t_now_limit t_now_seasonDays t_now_stopped t_now_stopPart t_now_stopReason x1 hq) k_X11_requireDay q379 [0, 1] rfl ⟨0, 7, _, _, rfl, rfl, rfl⟩ rfl rfl (Nat.le_of_ble_eq_true rfl) ⟨(Nat.le_of_ble_eq_true rfl), (Nat.le_of_ble_eq_true rfl)⟩ ⟨(Nat.zero_le _), (Nat.zero_le _)⟩ dX11_mean_2 ?_
  refine lv_iload_n hx hb dX11_mean_5 rfl (lv_at hl 2 rfl) ?_
  refine lv_iconst (v := 1) hx hb dX11_mean_6 (by decide) ?_
  refine lv_bipush (v := 20) hx hb dX11_mean_7 (by decide) ?_
  obtain ⟨hq, hf⟩ := bd0_some hf
  refine rdS (As := [.int x2, .int 1, .int 20]) (rest := []) hF hG hP hl.1 (c_X11_requireRange l G x2 1 20 hq) k_X11_requireRange q442 [] rfl rfl rfl (Nat.le_of_ble_eq_true rfl) ⟨(Nat.le_of_ble_eq_true rfl), (Nat.le_of_ble_eq_true rfl)⟩ ⟨(Nat.zero_le _), (Nat.zero_le _)⟩ dX11_mean_9 ?_
  refine lv_aload_n hx hb dX11_mean_12 rfl (lv_at hl 0 rfl) ?_
  refine gf (C := RX11) (T := TX11) (N := 9) (ci := 7) (v := .ref a_t_now) hF hG hP inX11 0 rfl rfl 0 (by decide) q190 rfl rfl dX11_mean_13 ?_
  refine lv_iload_n hx hb dX11_mean_16 rfl (lv_at hl 1 rfl) ?_
  refine lv_iload_n hx hb dX11_mean_17 rfl (lv_at hl 2 rfl) ?_
  obtain ⟨r_1, hq, hf⟩ := bd1_some hf
  refine rdSN (As := [.ref a_t_now, .int x1, .int x2]) (rest := []) hF hG hP hl.1 (c_X4_byAdding l G a_t_now t_now_length t_now_shorter t_now_longer t_now_memory t_now_limit t_now_seasonDays t_now_stopped t_now_stopPart t_now_stopReason a_t_now_row t_now_row x1 x2 r_1 hq) k_X4_byAdding n567 [1, 2] rfl rfl rfl (Nat.le_of_ble_eq_true rfl) ⟨(Nat.le_of_ble_eq_true rfl), (Nat.le_of_ble_eq_true rfl)⟩ ⟨(Nat.zero_le _), (Nat.zero_le _)⟩ dX11_mean_18 ?_
  have hf : (some r_1 : Option (Int32)) = some rr := hf
  cases hf
  exact re_i hF hr hlk dX11_mean_21 rfl
def l_X4_sumAhead_5 (p0_row : Nat → Int32) (x1 : Int32) : Nat → Int64 → Int32 → Option (Int64)
  | 0, _, _ => none
  | n + 1, i2_1, i4_2 => (if x1 ≤ i4_2 then some i2_1 else bd1 (f_X6_at p0_row i4_2) (fun (r_4 : Int32) => l_X4_sumAhead_5 p0_row x1 n (i2_1 + (Int32.toInt64 r_4)) (i4_2 + 1)))
def f_X4_sumAhead (p0_row : Nat → Int32) (x1 : Int32) : Option (Int64) := bd1 (l_X4_sumAhead_5 p0_row x1 1000 0 0) (fun (o2_3 : Int64) => some o2_3)
theorem k_X4_sumAhead : KS yX4_sumAhead cX4_sumAhead 5 (some .long) 2 := ⟨qc_yX4_sumAhead, q10, ⟨by decide +kernel, by decide +kernel, by decide +kernel⟩, qt_yX4_sumAhead⟩
abbrev RM_X4_sumAhead : Room := { frames := 1, cells := 0, slots := 0, locals := 21 }
set_option maxHeartbeats 4000000 in
set_option maxRecDepth 100000 in
theorem c_X4_sumAhead (l : Launch) (G : GP) (a_p0 : Nat) (p0_length : Int32) (p0_shorter : Int32) (p0_longer : Int32) (p0_memory : Int32) (p0_limit : Int32) (p0_seasonDays : Int32) (p0_stopped : Int32) (p0_stopPart : Int32) (p0_stopReason : Int32) (a_p0_row : Nat) (p0_row : Nat → Int32) (x1 : Int32) (rr : Int64) (hf : f_X4_sumAhead p0_row x1 = some rr) : RM l yX4_sumAhead cX4_sumAhead 5 (some .long) 1 21 G [.ref a_p0, .int x1] [(a_p0, .inr (2, [.ref a_p0_row, .int p0_length, .int p0_shorter, .int p0_longer, .int p0_memory, .int p0_limit, .int p0_seasonDays, .int p0_stopped, .int p0_stopPart, .int p0_stopReason])), (a_p0_row, .inl (G.2.1, 60, .inl p0_row))] (some (.long rr)) := by
  refine RM.ofW (C := RX4) (by decide) rfl (Nat.le_of_ble_eq_true rfl) ?_
  intro p e s m below meth c hF hr hlk hG hP ls hl
  have hl : lv_has ls 5 [(0, .ref a_p0), (1, .int x1)] := hl
  have hx := hF.1
  have hb := hF.2.1
  have hml := hF.2.2.1
  have hown := hF.2.2.2.1
  have hts := hF.2.2.2.2
  unfold f_X4_sumAhead at hf
  refine lv_lconst (v := 0) hx hb dX4_sumAhead_0 (by decide) ?_
  refine lv_lstore_n (lv' := [(2, .long 0), (0, .ref a_p0), (1, .int x1)]) hx hb dX4_sumAhead_1 rfl hl (by decide) rfl (fun ls hl => ?_)
  refine lv_iconst (v := 0) hx hb dX4_sumAhead_2 (by decide) ?_
  refine lv_istore (lv' := [(4, .int 0), (2, .long 0), (0, .ref a_p0), (1, .int x1)]) hx hb dX4_sumAhead_3 hl (by decide) rfl (fun ls hl => ?_)
  obtain ⟨o2_3, hq, hf⟩ := bd1_some hf
  have K5 : ∀ ls : Array Slot, lv_has ls 5 [(2, .long o2_3)] → W p l e RM_X4_sumAhead s m [.ref a_p0, .int x1].toArray below meth c s.heap [] 0 0 (MQ below (rdQ (some (.long rr))) [.ref a_p0, .int x1].toArray s 0 0 (fun _ => False)) (F0 m 27 ls []) := by
    intro ls hl
    refine lv_lload_n hx hb dX4_sumAhead_27 rfl (lv_at hl 0 rfl) ?_
    have hf : (some o2_3 : Option (Int64)) = some rr := hf
    cases hf
    exact re_l hF hr hlk dX4_sumAhead_28 rfl
  clear hf
  have L5 : ∀ (n : Nat) (i2_1 : Int64) (i4_2 : Int32), l_X4_sumAhead_5 p0_row x1 n i2_1 i4_2 = some o2_3 → ∀ ls : Array Slot, lv_has ls 5 [(0, .ref a_p0), (1, .int x1), (2, .long i2_1), (4, .int i4_2)] → W p l e RM_X4_sumAhead s m [.ref a_p0, .int x1].toArray below meth c s.heap [] 0 0 (MQ below (rdQ (some (.long rr))) [.ref a_p0, .int x1].toArray s 0 0 (fun _ => False)) (F0 m 5 ls []) := by
    intro n
    induction n with
    | zero =>
      intro i2_1 i4_2 hf
      exact nomatch (show none = some o2_3 from hf)
    | succ n ih =>
      intro i2_1 i4_2 hf ls hl
      rw [l_X4_sumAhead_5] at hf
      refine lv_iload hx hb dX4_sumAhead_5 (lv_at hl 3 rfl) ?_
      refine lv_iload_n hx hb dX4_sumAhead_7 rfl (lv_at hl 1 rfl) ?_
      refine lv_icmp_ge (tgt := 27) hx hb dX4_sumAhead_8 (by decide) (fun c0 => ?_) (fun c0 => ?_)
      · have hf := (if_pos c0).symm.trans hf
        have hf : (some i2_1 : Option (Int64)) = some o2_3 := hf
        cases hf
        exact K5 ls (lv_sub hl [2] rfl)
      · have hf := (if_neg c0).symm.trans hf
        refine lv_lload_n hx hb dX4_sumAhead_11 rfl (lv_at hl 2 rfl) ?_
        refine lv_aload_n hx hb dX4_sumAhead_12 rfl (lv_at hl 0 rfl) ?_
        refine lv_iload hx hb dX4_sumAhead_13 (lv_at hl 3 rfl) ?_
        obtain ⟨r_4, hq, hf⟩ := bd1_some hf
        refine rdVN (As := [.int i4_2]) (rest := [.long i2_1]) hF hG hP hl.1 (c_X6_at l G a_p0 p0_length p0_shorter p0_longer p0_memory p0_limit p0_seasonDays p0_stopped p0_stopPart p0_stopReason a_p0_row p0_row i4_2 r_4 hq) k_X6_at n411 [0, 1] rfl ⟨0, 2, _, _, rfl, rfl, rfl⟩ rfl rfl (Nat.le_of_ble_eq_true rfl) ⟨(Nat.le_of_ble_eq_true rfl), (Nat.le_of_ble_eq_true rfl)⟩ ⟨(Nat.zero_le _), (Nat.zero_le _)⟩ dX4_sumAhead_15 ?_
        refine lv_i2l (v := (Int32.toInt64 r_4)) hx hb dX4_sumAhead_18 rfl ?_
        refine lv_ladd hx hb dX4_sumAhead_19 ?_
        refine lv_lstore_n (lv' := [(2, .long (i2_1 + (Int32.toInt64 r_4))), (0, .ref a_p0), (1, .int x1), (4, .int i4_2)]) hx hb dX4_sumAhead_20 rfl hl (by decide) rfl (fun ls hl => ?_)
        refine lv_iinc (v := (i4_2 + 1)) (lv' := [(4, .int (i4_2 + 1)), (2, .long (i2_1 + (Int32.toInt64 r_4))), (0, .ref a_p0), (1, .int x1)]) hx hb dX4_sumAhead_21 hl (k := 3) rfl rfl (by decide) rfl (fun ls hl => ?_)
        refine lv_goto (tgt := 5) hx hb dX4_sumAhead_24 (by decide) ?_
        exact ih (i2_1 + (Int32.toInt64 r_4)) (i4_2 + 1) hf ls (lv_sub hl [2, 3, 1, 0] rfl)
  exact L5 1000 0 0 hq ls (lv_sub hl [2, 3, 1, 0] rfl)
def f_X4_bySums (p0_row : Nat → Int32) (x1 : Int32) (x2 : Int32) : Option (Int32) := bd1 (f_X4_firstOf x1 x2) (fun (r_1 : Int32) => bd1 (f_X4_sumAhead p0_row (x1 + 1)) (fun (r_2 : Int64) => bd1 (f_X4_sumAhead p0_row r_1) (fun (r_3 : Int64) => bd1 (f_X11_divided (1000 * (r_2 - r_3)) (Int32.toInt64 ((x1 - r_1) + 1))) (fun (r_4 : Int64) => some (Int64.toInt32 r_4)))))
theorem k_X4_bySums : KS yX4_bySums cX4_bySums 6 (some .int) 3 := ⟨qc_yX4_bySums, q10, ⟨by decide +kernel, by decide +kernel, by decide +kernel⟩, qt_yX4_bySums⟩
abbrev RM_X4_bySums : Room := { frames := 2, cells := 0, slots := 0, locals := 45 }
set_option maxHeartbeats 4000000 in
set_option maxRecDepth 100000 in
theorem c_X4_bySums (l : Launch) (G : GP) (a_p0 : Nat) (p0_length : Int32) (p0_shorter : Int32) (p0_longer : Int32) (p0_memory : Int32) (p0_limit : Int32) (p0_seasonDays : Int32) (p0_stopped : Int32) (p0_stopPart : Int32) (p0_stopReason : Int32) (a_p0_row : Nat) (p0_row : Nat → Int32) (x1 : Int32) (x2 : Int32) (rr : Int32) (hf : f_X4_bySums p0_row x1 x2 = some rr) : RM l yX4_bySums cX4_bySums 6 (some .int) 2 45 G [.ref a_p0, .int x1, .int x2] [(a_p0, .inr (2, [.ref a_p0_row, .int p0_length, .int p0_shorter, .int p0_longer, .int p0_memory, .int p0_limit, .int p0_seasonDays, .int p0_stopped, .int p0_stopPart, .int p0_stopReason])), (a_p0_row, .inl (G.2.1, 60, .inl p0_row))] (some (.int rr)) := by
  refine RM.ofW (C := RX4) (by decide) rfl (Nat.le_of_ble_eq_true rfl) ?_
  intro p e s m below meth c hF hr hlk hG hP ls hl
  have hl : lv_has ls 6 [(0, .ref a_p0), (1, .int x1), (2, .int x2)] := hl
  have hx := hF.1
  have hb := hF.2.1
  have hml := hF.2.2.1
  have hown := hF.2.2.2.1
  have hts := hF.2.2.2.2
  unfold f_X4_bySums at hf
  refine lv_iload_n hx hb dX4_bySums_0 rfl (lv_at hl 1 rfl) ?_
  refine lv_iload_n hx hb dX4_bySums_1 rfl (lv_at hl 2 rfl) ?_
  obtain ⟨r_1, hq, hf⟩ := bd1_some hf
  refine rdS (As := [.int x1, .int x2]) (rest := []) hF hG hP hl.1 (c_X4_firstOf l G x1 x2 r_1 hq) k_X4_firstOf q558 [] rfl rfl rfl (Nat.le_of_ble_eq_true rfl) ⟨(Nat.le_of_ble_eq_true rfl), (Nat.le_of_ble_eq_true rfl)⟩ ⟨(Nat.zero_le _), (Nat.zero_le _)⟩ dX4_bySums_2 ?_
  refine lv_istore_n (lv' := [(3, .int r_1), (0, .ref a_p0), (1, .int x1), (2, .int x2)]) hx hb dX4_bySums_5 rfl hl (by decide) rfl (fun ls hl => ?_)
  refine lv_aload_n hx hb dX4_bySums_6 rfl (lv_at hl 1 rfl) ?_
  refine lv_iload_n hx hb dX4_bySums_7 rfl (lv_at hl 2 rfl) ?_
  refine lv_iconst (v := 1) hx hb dX4_bySums_8 (by decide) ?_
  refine lv_iadd hx hb dX4_bySums_9 ?_
  obtain ⟨r_2, hq, hf⟩ := bd1_some hf
  refine rdS (As := [.ref a_p0, .int (x1 + 1)]) (rest := []) hF hG hP hl.1 (c_X4_sumAhead l G a_p0 p0_length p0_shorter p0_longer p0_memory p0_limit p0_seasonDays p0_stopped p0_stopPart p0_stopReason a_p0_row p0_row (x1 + 1) r_2 hq) k_X4_sumAhead q575 [0, 1] rfl rfl rfl (Nat.le_of_ble_eq_true rfl) ⟨(Nat.le_of_ble_eq_true rfl), (Nat.le_of_ble_eq_true rfl)⟩ ⟨(Nat.zero_le _), (Nat.zero_le _)⟩ dX4_bySums_10 ?_
  refine lv_aload_n hx hb dX4_bySums_13 rfl (lv_at hl 1 rfl) ?_
  refine lv_iload_n hx hb dX4_bySums_14 rfl (lv_at hl 0 rfl) ?_
  obtain ⟨r_3, hq, hf⟩ := bd1_some hf
  refine rdS (As := [.ref a_p0, .int r_1]) (rest := [.long r_2]) hF hG hP hl.1 (c_X4_sumAhead l G a_p0 p0_length p0_shorter p0_longer p0_memory p0_limit p0_seasonDays p0_stopped p0_stopPart p0_stopReason a_p0_row p0_row r_1 r_3 hq) k_X4_sumAhead q575 [0, 1] rfl rfl rfl (Nat.le_of_ble_eq_true rfl) ⟨(Nat.le_of_ble_eq_true rfl), (Nat.le_of_ble_eq_true rfl)⟩ ⟨(Nat.zero_le _), (Nat.zero_le _)⟩ dX4_bySums_15 ?_
  refine lv_lsub hx hb dX4_bySums_18 ?_
  refine lv_lstore (lv' := [(4, .long (r_2 - r_3)), (3, .int r_1), (0, .ref a_p0), (1, .int x1), (2, .int x2)]) hx hb dX4_bySums_19 hl (by decide) rfl (fun ls hl => ?_)
  refine lv_ldc2 (v := 1000) hx hb hown (hts _ (List.mem_cons_of_mem _ q559)) dX4_bySums_21 ?_
  refine lv_lload hx hb dX4_bySums_24 (lv_at hl 0 rfl) ?_
  refine lv_lmul hx hb dX4_bySums_26 ?_
  refine lv_iload_n hx hb dX4_bySums_27 rfl (lv_at hl 3 rfl) ?_
  refine lv_iload_n hx hb dX4_bySums_28 rfl (lv_at hl 1 rfl) ?_
  refine lv_isub hx hb dX4_bySums_29 ?_
  refine lv_iconst (v := 1) hx hb dX4_bySums_30 (by decide) ?_
  refine lv_iadd hx hb dX4_bySums_31 ?_
  refine lv_i2l (v := (Int32.toInt64 ((x1 - r_1) + 1))) hx hb dX4_bySums_32 rfl ?_
  obtain ⟨r_4, hq, hf⟩ := bd1_some hf
  refine rdSN (As := [.long (1000 * (r_2 - r_3)), .long (Int32.toInt64 ((x1 - r_1) + 1))]) (rest := []) hF hG hP hl.1 (c_X11_divided l G (1000 * (r_2 - r_3)) (Int32.toInt64 ((x1 - r_1) + 1)) r_4 hq) k_X11_divided n560 [] rfl rfl rfl (Nat.le_of_ble_eq_true rfl) ⟨(Nat.le_of_ble_eq_true rfl), (Nat.le_of_ble_eq_true rfl)⟩ ⟨(Nat.zero_le _), (Nat.zero_le _)⟩ dX4_bySums_33 ?_
  refine lv_l2i (v := (Int64.toInt32 r_4)) hx hb dX4_bySums_36 rfl ?_
  have hf : (some (Int64.toInt32 r_4) : Option (Int32)) = some rr := hf
  cases hf
  exact re_i hF hr hlk dX4_bySums_37 rfl
def f_X11_meanBySums (t_now_length : Int32) (t_now_row : Nat → Int32) (x1 : Int32) (x2 : Int32) : Option (Int32) := bd0 (f_X11_requireDay t_now_length x1) (fun _ => bd0 (f_X11_requireRange x2 1 20) (fun _ => bd1 (f_X4_bySums t_now_row x1 x2) (fun (r_1 : Int32) => some r_1)))
theorem k_X11_meanBySums : KV yX11_meanBySums cX11_meanBySums 3 (some .int) 2 := ⟨qc_yX11_meanBySums, q1, ⟨by decide +kernel, by decide +kernel, by decide +kernel⟩, qi_yX11_meanBySums, qs_yX11_meanBySums⟩
abbrev RM_X11_meanBySums : Room := { frames := 3, cells := 0, slots := 0, locals := 70 }
set_option maxHeartbeats 4000000 in
set_option maxRecDepth 100000 in
theorem c_X11_meanBySums (l : Launch) (G : GP) (a_t : Nat) (a_t_trial : Nat) (a_t_snapshot : Nat) (t_snapshotTaken : Int32) (a_t_history : Nat) (a_t_text : Nat) (a_t_works : Nat) (a_t_highs : Nat) (a_t_trade : Nat) (a_t_now : Nat) (t_now_length : Int32) (t_now_shorter : Int32) (t_now_longer : Int32) (t_now_memory : Int32) (t_now_limit : Int32) (t_now_seasonDays : Int32) (t_now_stopped : Int32) (t_now_stopPart : Int32) (t_now_stopReason : Int32) (a_t_now_row : Nat) (t_now_row : Nat → Int32) (x1 : Int32) (x2 : Int32) (rr : Int32) (hf : f_X11_meanBySums t_now_length t_now_row x1 x2 = some rr) : RM l yX11_meanBySums cX11_meanBySums 3 (some .int) 3 70 G [.ref a_t, .int x1, .int x2] [(a_t, .inr (7, [.ref a_t_now, .ref a_t_trial, .ref a_t_snapshot, .int t_snapshotTaken, .ref a_t_history, .ref a_t_text, .ref a_t_works, .ref a_t_highs, .ref a_t_trade])), (a_t_now, .inr (2, [.ref a_t_now_row, .int t_now_length, .int t_now_shorter, .int t_now_longer, .int t_now_memory, .int t_now_limit, .int t_now_seasonDays, .int t_now_stopped, .int t_now_stopPart, .int t_now_stopReason])), (a_t_now_row, .inl (G.2.1, 60, .inl t_now_row))] (some (.int rr)) := by
  refine RM.ofW (C := RX11) (by decide) rfl (Nat.le_of_ble_eq_true rfl) ?_
  intro p e s m below meth c hF hr hlk hG hP ls hl
  have hl : lv_has ls 3 [(0, .ref a_t), (1, .int x1), (2, .int x2)] := hl
  have hx := hF.1
  have hb := hF.2.1
  have hml := hF.2.2.1
  have hown := hF.2.2.2.1
  have hts := hF.2.2.2.2
  unfold f_X11_meanBySums at hf
  refine lv_aload_n hx hb dX11_meanBySums_0 rfl (lv_at hl 0 rfl) ?_
  refine lv_iload_n hx hb dX11_meanBySums_1 rfl (lv_at hl 1 rfl) ?_
  obtain ⟨hq, hf⟩ := bd0_some hf
  refine rdV (As := [.int x1]) (rest := []) hF hG hP hl.1 (c_X11_requireDay l G a_t a_t_trial a_t_snapshot t_snapshotTaken a_t_history a_t_text a_t_works a_t_highs a_t_trade a_t_now a_t_now_row t_now_length t_now_shorter t_now_longer t_now_memory t_now_limit t_now_seasonDays t_now_stopped t_now_stopPart t_now_stopReason x1 hq) k_X11_requireDay q379 [0, 1] rfl ⟨0, 7, _, _, rfl, rfl, rfl⟩ rfl rfl (Nat.le_of_ble_eq_true rfl) ⟨(Nat.le_of_ble_eq_true rfl), (Nat.le_of_ble_eq_true rfl)⟩ ⟨(Nat.zero_le _), (Nat.zero_le _)⟩ dX11_meanBySums_2 ?_
  refine lv_iload_n hx hb dX11_meanBySums_5 rfl (lv_at hl 2 rfl) ?_
  refine lv_iconst (v := 1) hx hb dX11_meanBySums_6 (by decide) ?_
  refine lv_bipush (v := 20) hx hb dX11_meanBySums_7 (by decide) ?_
  obtain ⟨hq, hf⟩ := bd0_some hf
  refine rdS (As := [.int x2, .int 1, .int 20]) (rest := []) hF hG hP hl.1 (c_X11_requireRange l G x2 1 20 hq) k_X11_requireRange q442 [] rfl rfl rfl (Nat.le_of_ble_eq_true rfl) ⟨(Nat.le_of_ble_eq_true rfl), (Nat.le_of_ble_eq_true rfl)⟩ ⟨(Nat.zero_le _), (Nat.zero_le _)⟩ dX11_meanBySums_9 ?_
  refine lv_aload_n hx hb dX11_meanBySums_12 rfl (lv_at hl 0 rfl) ?_
  refine gf (C := RX11) (T := TX11) (N := 9) (ci := 7) (v := .ref a_t_now) hF hG hP inX11 0 rfl rfl 0 (by decide) q190 rfl rfl dX11_meanBySums_13 ?_
  refine lv_iload_n hx hb dX11_meanBySums_16 rfl (lv_at hl 1 rfl) ?_
  refine lv_iload_n hx hb dX11_meanBySums_17 rfl (lv_at hl 2 rfl) ?_
  obtain ⟨r_1, hq, hf⟩ := bd1_some hf
  refine rdSN (As := [.ref a_t_now, .int x1, .int x2]) (rest := []) hF hG hP hl.1 (c_X4_bySums l G a_t_now t_now_length t_now_shorter t_now_longer t_now_memory t_now_limit t_now_seasonDays t_now_stopped t_now_stopPart t_now_stopReason a_t_now_row t_now_row x1 x2 r_1 hq) k_X4_bySums n572 [1, 2] rfl rfl rfl (Nat.le_of_ble_eq_true rfl) ⟨(Nat.le_of_ble_eq_true rfl), (Nat.le_of_ble_eq_true rfl)⟩ ⟨(Nat.zero_le _), (Nat.zero_le _)⟩ dX11_meanBySums_18 ?_
  have hf : (some r_1 : Option (Int32)) = some rr := hf
  cases hf
  exact re_i hF hr hlk dX11_meanBySums_21 rfl
def f_X4_smoothedByRecursion (p0_memory : Int32) (p0_row : Nat → Int32) : Nat → Int32 → Int32 → Option (Int32)
  | 0, _, _ => none
  | n + 1, x1, x2 => (if x1 ≤ 0 then bd1 (f_X6_at p0_row 0) (fun (r_1 : Int32) => some (1000 * r_1)) else (if x2 < 60 then bd1 (f_X4_smoothedByRecursion p0_memory p0_row n (x1 - 1) (x2 + 1)) (fun (r_2 : Int32) => bd1 (f_X6_at p0_row x1) (fun (r_3 : Int32) => bd1 (f_X4_nextSmooth p0_memory r_2 r_3) (fun (r_4 : Int32) => some r_4))) else bd1 (f_X6_at p0_row 0) (fun (r_5 : Int32) => some (1000 * r_5))))
theorem k_X4_smoothedByRecursion : KS yX4_smoothedByRecursion cX4_smoothedByRecursion 4 (some .int) 3 := ⟨qc_yX4_smoothedByRecursion, q10, ⟨by decide +kernel, by decide +kernel, by decide +kernel⟩, qt_yX4_smoothedByRecursion⟩
set_option maxHeartbeats 4000000 in
set_option maxRecDepth 100000 in
theorem c_X4_smoothedByRecursion (l : Launch) (G : GP) (a_p0 : Nat) (p0_length : Int32) (p0_shorter : Int32) (p0_longer : Int32) (p0_memory : Int32) (p0_limit : Int32) (p0_seasonDays : Int32) (p0_stopped : Int32) (p0_stopPart : Int32) (p0_stopReason : Int32) (a_p0_row : Nat) (p0_row : Nat → Int32) : ∀ (n : Nat) (x1 : Int32) (x2 : Int32) (rr : Int32), f_X4_smoothedByRecursion p0_memory p0_row n x1 x2 = some rr → RM l yX4_smoothedByRecursion cX4_smoothedByRecursion 4 (some .int) (n + 2) (30 * n + 90) G [.ref a_p0, .int x1, .int x2] [(a_p0, .inr (2, [.ref a_p0_row, .int p0_length, .int p0_shorter, .int p0_longer, .int p0_memory, .int p0_limit, .int p0_seasonDays, .int p0_stopped, .int p0_stopPart, .int p0_stopReason])), (a_p0_row, .inl (G.2.1, 60, .inl p0_row))] (some (.int rr)) := by
  intro n
  induction n with
  | zero =>
    intro x1 x2 rr hf
    exact nomatch (show none = some rr from hf)
  | succ n ih =>
    intro x1 x2 rr hf
    refine RM.ofW (C := RX4) (by decide) rfl (Nat.le_of_ble_eq_true rfl) ?_
    intro p e s m below meth c hF hr hlk hG hP ls hl
    have hl : lv_has ls 4 [(0, .ref a_p0), (1, .int x1), (2, .int x2)] := hl
    have hx := hF.1
    have hb := hF.2.1
    have hml := hF.2.2.1
    have hown := hF.2.2.2.1
    have hts := hF.2.2.2.2
    rw [f_X4_smoothedByRecursion] at hf
    refine lv_iload_n hx hb dX4_smoothedByRecursion_0 rfl (lv_at hl 1 rfl) ?_
    refine lv_if_le (tgt := 10) hx hb dX4_smoothedByRecursion_1 (by decide) (fun c0 => ?_) (fun c0 => ?_)
    · have hf := (if_pos c0).symm.trans hf
      refine lv_sipush (v := 1000) hx hb dX4_smoothedByRecursion_10 (by decide) ?_
      refine lv_aload_n hx hb dX4_smoothedByRecursion_13 rfl (lv_at hl 0 rfl) ?_
      refine lv_iconst (v := 0) hx hb dX4_smoothedByRecursion_14 (by decide) ?_
      obtain ⟨r_1, hq, hf⟩ := bd1_some hf
      refine rdVN (As := [.int 0]) (rest := [.int 1000]) hF hG hP hl.1 (c_X6_at l G a_p0 p0_length p0_shorter p0_longer p0_memory p0_limit p0_seasonDays p0_stopped p0_stopPart p0_stopReason a_p0_row p0_row 0 r_1 hq) k_X6_at n411 [0, 1] rfl ⟨0, 2, _, _, rfl, rfl, rfl⟩ rfl rfl (Nat.le_of_ble_eq_true rfl) ⟨by dsimp only; omega, by dsimp only; omega⟩ ⟨(Nat.zero_le _), (Nat.zero_le _)⟩ dX4_smoothedByRecursion_15 ?_
      refine lv_imul hx hb dX4_smoothedByRecursion_18 ?_
      have hf : (some (1000 * r_1) : Option (Int32)) = some rr := hf
      cases hf
      exact re_i hF hr hlk dX4_smoothedByRecursion_19 rfl
    · have hf := (if_neg c0).symm.trans hf
      refine lv_iload_n hx hb dX4_smoothedByRecursion_4 rfl (lv_at hl 2 rfl) ?_
      refine lv_bipush (v := 60) hx hb dX4_smoothedByRecursion_5 (by decide) ?_
      refine lv_icmp_lt (tgt := 20) hx hb dX4_smoothedByRecursion_7 (by decide) (fun c0 => ?_) (fun c0 => ?_)
      · have hf := (if_pos c0).symm.trans hf
        refine lv_aload_n hx hb dX4_smoothedByRecursion_20 rfl (lv_at hl 0 rfl) ?_
        refine lv_iload_n hx hb dX4_smoothedByRecursion_21 rfl (lv_at hl 1 rfl) ?_
        refine lv_iconst (v := 1) hx hb dX4_smoothedByRecursion_22 (by decide) ?_
        refine lv_isub hx hb dX4_smoothedByRecursion_23 ?_
        refine lv_iload_n hx hb dX4_smoothedByRecursion_24 rfl (lv_at hl 2 rfl) ?_
        refine lv_iconst (v := 1) hx hb dX4_smoothedByRecursion_25 (by decide) ?_
        refine lv_iadd hx hb dX4_smoothedByRecursion_26 ?_
        obtain ⟨r_2, hq, hf⟩ := bd1_some hf
        refine rdS (As := [.ref a_p0, .int (x1 - 1), .int (x2 + 1)]) (rest := []) hF hG hP hl.1 (ih (x1 - 1) (x2 + 1) r_2 hq) k_X4_smoothedByRecursion q585 [0, 1] rfl rfl rfl (Nat.le_of_ble_eq_true rfl) ⟨by dsimp only; omega, by dsimp only; omega⟩ ⟨(Nat.zero_le _), (Nat.zero_le _)⟩ dX4_smoothedByRecursion_27 ?_
        refine lv_istore_n (lv' := [(3, .int r_2), (0, .ref a_p0), (1, .int x1), (2, .int x2)]) hx hb dX4_smoothedByRecursion_30 rfl hl (by decide) rfl (fun ls hl => ?_)
        refine lv_aload_n hx hb dX4_smoothedByRecursion_31 rfl (lv_at hl 1 rfl) ?_
        refine gfN (C := RX6) (T := TX6) (N := 10) (ci := 2) (v := .int p0_memory) hF hG hP inX6 0 rfl rfl 4 (by decide) n53 rfl rfl dX4_smoothedByRecursion_32 ?_
        refine lv_iload_n hx hb dX4_smoothedByRecursion_35 rfl (lv_at hl 0 rfl) ?_
        refine lv_aload_n hx hb dX4_smoothedByRecursion_36 rfl (lv_at hl 1 rfl) ?_
        refine lv_iload_n hx hb dX4_smoothedByRecursion_37 rfl (lv_at hl 2 rfl) ?_
        obtain ⟨r_3, hq, hf⟩ := bd1_some hf
        refine rdVN (As := [.int x1]) (rest := [.int r_2, .int p0_memory]) hF hG hP hl.1 (c_X6_at l G a_p0 p0_length p0_shorter p0_longer p0_memory p0_limit p0_seasonDays p0_stopped p0_stopPart p0_stopReason a_p0_row p0_row x1 r_3 hq) k_X6_at n411 [0, 1] rfl ⟨0, 2, _, _, rfl, rfl, rfl⟩ rfl rfl (Nat.le_of_ble_eq_true rfl) ⟨by dsimp only; omega, by dsimp only; omega⟩ ⟨(Nat.zero_le _), (Nat.zero_le _)⟩ dX4_smoothedByRecursion_38 ?_
        obtain ⟨r_4, hq, hf⟩ := bd1_some hf
        refine rdS (As := [.int p0_memory, .int r_2, .int r_3]) (rest := []) hF hG hP hl.1 (c_X4_nextSmooth l G p0_memory r_2 r_3 r_4 hq) k_X4_nextSmooth q412 [] rfl rfl rfl (Nat.le_of_ble_eq_true rfl) ⟨by dsimp only; omega, by dsimp only; omega⟩ ⟨(Nat.zero_le _), (Nat.zero_le _)⟩ dX4_smoothedByRecursion_41 ?_
        have hf : (some r_4 : Option (Int32)) = some rr := hf
        cases hf
        exact re_i hF hr hlk dX4_smoothedByRecursion_44 rfl
      · have hf := (if_neg c0).symm.trans hf
        refine lv_sipush (v := 1000) hx hb dX4_smoothedByRecursion_10 (by decide) ?_
        refine lv_aload_n hx hb dX4_smoothedByRecursion_13 rfl (lv_at hl 0 rfl) ?_
        refine lv_iconst (v := 0) hx hb dX4_smoothedByRecursion_14 (by decide) ?_
        obtain ⟨r_5, hq, hf⟩ := bd1_some hf
        refine rdVN (As := [.int 0]) (rest := [.int 1000]) hF hG hP hl.1 (c_X6_at l G a_p0 p0_length p0_shorter p0_longer p0_memory p0_limit p0_seasonDays p0_stopped p0_stopPart p0_stopReason a_p0_row p0_row 0 r_5 hq) k_X6_at n411 [0, 1] rfl ⟨0, 2, _, _, rfl, rfl, rfl⟩ rfl rfl (Nat.le_of_ble_eq_true rfl) ⟨by dsimp only; omega, by dsimp only; omega⟩ ⟨(Nat.zero_le _), (Nat.zero_le _)⟩ dX4_smoothedByRecursion_15 ?_
        refine lv_imul hx hb dX4_smoothedByRecursion_18 ?_
        have hf : (some (1000 * r_5) : Option (Int32)) = some rr := hf
        cases hf
        exact re_i hF hr hlk dX4_smoothedByRecursion_19 rfl
