def f_X11_smoothedBack (t_now_length : Int32) (t_now_memory : Int32) (t_now_row : Nat → Int32) (x1 : Int32) : Option (Int32) := bd0 (f_X11_requireDay t_now_length x1) (fun _ => bd1 (f_X4_smoothedByRecursion t_now_memory t_now_row 70 x1 0) (fun (r_1 : Int32) => some r_1))
theorem k_X11_smoothedBack : KV yX11_smoothedBack cX11_smoothedBack 2 (some .int) 1 := ⟨qc_yX11_smoothedBack, q1, ⟨by decide +kernel, by decide +kernel, by decide +kernel⟩, qi_yX11_smoothedBack, qs_yX11_smoothedBack⟩
abbrev RM_X11_smoothedBack : Room := { frames := 73, cells := 0, slots := 0, locals := 2213 }
set_option maxHeartbeats 4000000 in
set_option maxRecDepth 100000 in
theorem c_X11_smoothedBack (l : Launch) (G : GP) (a_t : Nat) (a_t_trial : Nat) (a_t_snapshot : Nat) (t_snapshotTaken : Int32) (a_t_history : Nat) (a_t_text : Nat) (a_t_works : Nat) (a_t_highs : Nat) (a_t_trade : Nat) (a_t_now : Nat) (t_now_length : Int32) (t_now_shorter : Int32) (t_now_longer : Int32) (t_now_memory : Int32) (t_now_limit : Int32) (t_now_seasonDays : Int32) (t_now_stopped : Int32) (t_now_stopPart : Int32) (t_now_stopReason : Int32) (a_t_now_row : Nat) (t_now_row : Nat → Int32) (x1 : Int32) (rr : Int32) (hf : f_X11_smoothedBack t_now_length t_now_memory t_now_row x1 = some rr) : RM l yX11_smoothedBack cX11_smoothedBack 2 (some .int) 73 2213 G [.ref a_t, .int x1] [(a_t, .inr (7, [.ref a_t_now, .ref a_t_trial, .ref a_t_snapshot, .int t_snapshotTaken, .ref a_t_history, .ref a_t_text, .ref a_t_works, .ref a_t_highs, .ref a_t_trade])), (a_t_now, .inr (2, [.ref a_t_now_row, .int t_now_length, .int t_now_shorter, .int t_now_longer, .int t_now_memory, .int t_now_limit, .int t_now_seasonDays, .int t_now_stopped, .int t_now_stopPart, .int t_now_stopReason])), (a_t_now_row, .inl (G.2.1, 60, .inl t_now_row))] (some (.int rr)) := by
  refine RM.ofW (C := RX11) (by decide) rfl (Nat.le_of_ble_eq_true rfl) ?_
  intro p e s m below meth c hF hr hlk hG hP ls hl
  have hl : lv_has ls 2 [(0, .ref a_t), (1, .int x1)] := hl
  have hx := hF.1
  have hb := hF.2.1
  have hml := hF.2.2.1
  have hown := hF.2.2.2.1
  have hts := hF.2.2.2.2
  unfold f_X11_smoothedBack at hf
  refine lv_aload_n hx hb dX11_smoothedBack_0 rfl (lv_at hl 0 rfl) ?_
  refine lv_iload_n hx hb dX11_smoothedBack_1 rfl (lv_at hl 1 rfl) ?_
  obtain ⟨hq, hf⟩ := bd0_some hf
  refine rdV (As := [.int x1]) (rest := []) hF hG hP hl.1 (c_X11_requireDay l G a_t a_t_trial a_t_snapshot t_snapshotTaken a_t_history a_t_text a_t_works a_t_highs a_t_trade a_t_now a_t_now_row t_now_length t_now_shorter t_now_longer t_now_memory t_now_limit t_now_seasonDays t_now_stopped t_now_stopPart t_now_stopReason x1 hq) k_X11_requireDay q379 [0, 1] rfl ⟨0, 7, _, _, rfl, rfl, rfl⟩ rfl rfl (Nat.le_of_ble_eq_true rfl) ⟨(Nat.le_of_ble_eq_true rfl), (Nat.le_of_ble_eq_true rfl)⟩ ⟨(Nat.zero_le _), (Nat.zero_le _)⟩ dX11_smoothedBack_2 ?_
  refine lv_aload_n hx hb dX11_smoothedBack_5 rfl (lv_at hl 0 rfl) ?_
  refine gf (C := RX11) (T := TX11) (N := 9) (ci := 7) (v := .ref a_t_now) hF hG hP inX11 0 rfl rfl 0 (by decide) q190 rfl rfl dX11_smoothedBack_6 ?_
  refine lv_iload_n hx hb dX11_smoothedBack_9 rfl (lv_at hl 1 rfl) ?_
  refine lv_iconst (v := 0) hx hb dX11_smoothedBack_10 (by decide) ?_
  obtain ⟨r_1, hq, hf⟩ := bd1_some hf
  refine rdSN (As := [.ref a_t_now, .int x1, .int 0]) (rest := []) hF hG hP hl.1 (c_X4_smoothedByRecursion l G a_t_now t_now_length t_now_shorter t_now_longer t_now_memory t_now_limit t_now_seasonDays t_now_stopped t_now_stopPart t_now_stopReason a_t_now_row t_now_row 70 x1 0 r_1 hq) k_X4_smoothedByRecursion n582 [1, 2] rfl rfl rfl (Nat.le_of_ble_eq_true rfl) ⟨(Nat.le_of_ble_eq_true rfl), (Nat.le_of_ble_eq_true rfl)⟩ ⟨(Nat.zero_le _), (Nat.zero_le _)⟩ dX11_smoothedBack_11 ?_
  have hf : (some r_1 : Option (Int32)) = some rr := hf
  cases hf
  exact re_i hF hr hlk dX11_smoothedBack_14 rfl
def l_X2_byLooking_11 (p0_row : Nat → Int32) (x1 : Int32) : Nat → Int32 → Int32 → Option (Int32)
  | 0, _, _ => none
  | n + 1, i2_2, i3_3 => (if x1 < i3_3 then some i2_2 else bd1 (f_X6_at p0_row i3_3) (fun (r_5 : Int32) => l_X2_byLooking_11 p0_row x1 n (if i2_2 < r_5 then r_5 else i2_2) (i3_3 + 1)))
def f_X2_byLooking (p0_longer : Int32) (p0_row : Nat → Int32) (x1 : Int32) : Option (Int32) := bd1 (f_X4_firstOf x1 p0_longer) (fun (r_1 : Int32) => bd1 (l_X2_byLooking_11 p0_row x1 1000 0 r_1) (fun (o2_4 : Int32) => some o2_4))
theorem k_X2_byLooking : KS yX2_byLooking cX2_byLooking 4 (some .int) 2 := ⟨qc_yX2_byLooking, q7, ⟨by decide +kernel, by decide +kernel, by decide +kernel⟩, qt_yX2_byLooking⟩
abbrev RM_X2_byLooking : Room := { frames := 1, cells := 0, slots := 0, locals := 30 }
set_option maxHeartbeats 4000000 in
set_option maxRecDepth 100000 in
theorem c_X2_byLooking (l : Launch) (G : GP) (a_p0 : Nat) (p0_length : Int32) (p0_shorter : Int32) (p0_longer : Int32) (p0_memory : Int32) (p0_limit : Int32) (p0_seasonDays : Int32) (p0_stopped : Int32) (p0_stopPart : Int32) (p0_stopReason : Int32) (a_p0_row : Nat) (p0_row : Nat → Int32) (x1 : Int32) (rr : Int32) (hf : f_X2_byLooking p0_longer p0_row x1 = some rr) : RM l yX2_byLooking cX2_byLooking 4 (some .int) 1 30 G [.ref a_p0, .int x1] [(a_p0, .inr (2, [.ref a_p0_row, .int p0_length, .int p0_shorter, .int p0_longer, .int p0_memory, .int p0_limit, .int p0_seasonDays, .int p0_stopped, .int p0_stopPart, .int p0_stopReason])), (a_p0_row, .inl (G.2.1, 60, .inl p0_row))] (some (.int rr)) := by
  refine RM.ofW (C := RX2) (by decide) rfl (Nat.le_of_ble_eq_true rfl) ?_
  intro p e s m below meth c hF hr hlk hG hP ls hl
  have hl : lv_has ls 4 [(0, .ref a_p0), (1, .int x1)] := hl
  have hx := hF.1
  have hb := hF.2.1
  have hml := hF.2.2.1
  have hown := hF.2.2.2.1
  have hts := hF.2.2.2.2
  unfold f_X2_byLooking at hf
  refine lv_iconst (v := 0) hx hb dX2_byLooking_0 (by decide) ?_
  refine lv_istore_n (lv' := [(2, .int 0), (0, .ref a_p0), (1, .int x1)]) hx hb dX2_byLooking_1 rfl hl (by decide) rfl (fun ls hl => ?_)
  refine lv_iload_n hx hb dX2_byLooking_2 rfl (lv_at hl 2 rfl) ?_
  refine lv_aload_n hx hb dX2_byLooking_3 rfl (lv_at hl 1 rfl) ?_
  refine gfN (C := RX6) (T := TX6) (N := 10) (ci := 2) (v := .int p0_longer) hF hG hP inX6 0 rfl rfl 3 (by decide) n48 rfl rfl dX2_byLooking_4 ?_
  obtain ⟨r_1, hq, hf⟩ := bd1_some hf
  refine rdSN (As := [.int x1, .int p0_longer]) (rest := []) hF hG hP hl.1 (c_X4_firstOf l G x1 p0_longer r_1 hq) k_X4_firstOf n593 [] rfl rfl rfl (Nat.le_of_ble_eq_true rfl) ⟨(Nat.le_of_ble_eq_true rfl), (Nat.le_of_ble_eq_true rfl)⟩ ⟨(Nat.zero_le _), (Nat.zero_le _)⟩ dX2_byLooking_7 ?_
  refine lv_istore_n (lv' := [(3, .int r_1), (2, .int 0), (0, .ref a_p0), (1, .int x1)]) hx hb dX2_byLooking_10 rfl hl (by decide) rfl (fun ls hl => ?_)
  obtain ⟨o2_4, hq, hf⟩ := bd1_some hf
  have K11 : ∀ ls : Array Slot, lv_has ls 4 [(2, .int o2_4)] → W p l e RM_X2_byLooking s m [.ref a_p0, .int x1].toArray below meth c s.heap [] 0 0 (MQ below (rdQ (some (.int rr))) [.ref a_p0, .int x1].toArray s 0 0 (fun _ => False)) (F0 m 32 ls []) := by
    intro ls hl
    refine lv_iload_n hx hb dX2_byLooking_32 rfl (lv_at hl 0 rfl) ?_
    have hf : (some o2_4 : Option (Int32)) = some rr := hf
    cases hf
    exact re_i hF hr hlk dX2_byLooking_33 rfl
  clear hf
  have L11 : ∀ (n : Nat) (i2_2 : Int32) (i3_3 : Int32), l_X2_byLooking_11 p0_row x1 n i2_2 i3_3 = some o2_4 → ∀ ls : Array Slot, lv_has ls 4 [(0, .ref a_p0), (1, .int x1), (2, .int i2_2), (3, .int i3_3)] → W p l e RM_X2_byLooking s m [.ref a_p0, .int x1].toArray below meth c s.heap [] 0 0 (MQ below (rdQ (some (.int rr))) [.ref a_p0, .int x1].toArray s 0 0 (fun _ => False)) (F0 m 11 ls []) := by
    intro n
    induction n with
    | zero =>
      intro i2_2 i3_3 hf
      exact nomatch (show none = some o2_4 from hf)
    | succ n ih =>
      intro i2_2 i3_3 hf ls hl
      rw [l_X2_byLooking_11] at hf
      refine lv_iload_n hx hb dX2_byLooking_11 rfl (lv_at hl 3 rfl) ?_
      refine lv_iload_n hx hb dX2_byLooking_12 rfl (lv_at hl 1 rfl) ?_
      refine lv_icmp_gt (tgt := 32) hx hb dX2_byLooking_13 (by decide) (fun c0 => ?_) (fun c0 => ?_)
      · have hf := (if_pos c0).symm.trans hf
        have hf : (some i2_2 : Option (Int32)) = some o2_4 := hf
        cases hf
        exact K11 ls (lv_sub hl [2] rfl)
      · have hf := (if_neg c0).symm.trans hf
        refine lv_iload_n hx hb dX2_byLooking_16 rfl (lv_at hl 2 rfl) ?_
        refine lv_aload_n hx hb dX2_byLooking_17 rfl (lv_at hl 0 rfl) ?_
        refine lv_iload_n hx hb dX2_byLooking_18 rfl (lv_at hl 3 rfl) ?_
        obtain ⟨r_5, hq, hf⟩ := bd1_some hf
        refine rdVN (As := [.int i3_3]) (rest := [.int i2_2]) hF hG hP hl.1 (c_X6_at l G a_p0 p0_length p0_shorter p0_longer p0_memory p0_limit p0_seasonDays p0_stopped p0_stopPart p0_stopReason a_p0_row p0_row i3_3 r_5 hq) k_X6_at n355 [0, 1] rfl ⟨0, 2, _, _, rfl, rfl, rfl⟩ rfl rfl (Nat.le_of_ble_eq_true rfl) ⟨(Nat.le_of_ble_eq_true rfl), (Nat.le_of_ble_eq_true rfl)⟩ ⟨(Nat.zero_le _), (Nat.zero_le _)⟩ dX2_byLooking_19 ?_
        refine va_mmax hx hb (hml.trans hl.1.symm) hown (hts _ (List.mem_cons_of_mem _ q356)) (hts _ (List.mem_cons_of_mem _ qt_yJ9_max_7cf53)) (hts _ (List.mem_cons_of_mem _ q11)) (hts _ (List.mem_cons_of_mem _ qc_yJ9_max_7cf53)) (Nat.le_of_ble_eq_true rfl) (Nat.le_of_ble_eq_true rfl) (Nat.zero_le _) (Nat.zero_le _) dX2_byLooking_22 ?_
        refine lv_istore_n (lv' := [(2, .int (if i2_2 < r_5 then r_5 else i2_2)), (0, .ref a_p0), (1, .int x1), (3, .int i3_3)]) hx hb dX2_byLooking_25 rfl hl (by decide) rfl (fun ls hl => ?_)
        refine lv_iinc (v := (i3_3 + 1)) (lv' := [(3, .int (i3_3 + 1)), (2, .int (if i2_2 < r_5 then r_5 else i2_2)), (0, .ref a_p0), (1, .int x1)]) hx hb dX2_byLooking_26 hl (k := 3) rfl rfl (by decide) rfl (fun ls hl => ?_)
        refine lv_goto (tgt := 11) hx hb dX2_byLooking_29 (by decide) ?_
        exact ih (if i2_2 < r_5 then r_5 else i2_2) (i3_3 + 1) hf ls (lv_sub hl [2, 3, 1, 0] rfl)
  exact L11 1000 0 r_1 hq ls (lv_sub hl [2, 3, 1, 0] rfl)
def f_X11_high (t_now_length : Int32) (t_now_longer : Int32) (t_now_row : Nat → Int32) (x1 : Int32) : Option (Int32) := bd0 (f_X11_requireDay t_now_length x1) (fun _ => bd1 (f_X2_byLooking t_now_longer t_now_row x1) (fun (r_1 : Int32) => some r_1))
theorem k_X11_high : KV yX11_high cX11_high 2 (some .int) 1 := ⟨qc_yX11_high, q1, ⟨by decide +kernel, by decide +kernel, by decide +kernel⟩, qi_yX11_high, qs_yX11_high⟩
abbrev RM_X11_high : Room := { frames := 2, cells := 0, slots := 0, locals := 53 }
set_option maxHeartbeats 4000000 in
set_option maxRecDepth 100000 in
theorem c_X11_high (l : Launch) (G : GP) (a_t : Nat) (a_t_trial : Nat) (a_t_snapshot : Nat) (t_snapshotTaken : Int32) (a_t_history : Nat) (a_t_text : Nat) (a_t_works : Nat) (a_t_highs : Nat) (a_t_trade : Nat) (a_t_now : Nat) (t_now_length : Int32) (t_now_shorter : Int32) (t_now_longer : Int32) (t_now_memory : Int32) (t_now_limit : Int32) (t_now_seasonDays : Int32) (t_now_stopped : Int32) (t_now_stopPart : Int32) (t_now_stopReason : Int32) (a_t_now_row : Nat) (t_now_row : Nat → Int32) (x1 : Int32) (rr : Int32) (hf : f_X11_high t_now_length t_now_longer t_now_row x1 = some rr) : RM l yX11_high cX11_high 2 (some .int) 2 53 G [.ref a_t, .int x1] [(a_t, .inr (7, [.ref a_t_now, .ref a_t_trial, .ref a_t_snapshot, .int t_snapshotTaken, .ref a_t_history, .ref a_t_text, .ref a_t_works, .ref a_t_highs, .ref a_t_trade])), (a_t_now, .inr (2, [.ref a_t_now_row, .int t_now_length, .int t_now_shorter, .int t_now_longer, .int t_now_memory, .int t_now_limit, .int t_now_seasonDays, .int t_now_stopped, .int t_now_stopPart, .int t_now_stopReason])), (a_t_now_row, .inl (G.2.1, 60, .inl t_now_row))] (some (.int rr)) := by
  refine RM.ofW (C := RX11) (by decide) rfl (Nat.le_of_ble_eq_true rfl) ?_
  intro p e s m below meth c hF hr hlk hG hP ls hl
  have hl : lv_has ls 2 [(0, .ref a_t), (1, .int x1)] := hl
  have hx := hF.1
  have hb := hF.2.1
  have hml := hF.2.2.1
  have hown := hF.2.2.2.1
  have hts := hF.2.2.2.2
  unfold f_X11_high at hf
  refine lv_aload_n hx hb dX11_high_0 rfl (lv_at hl 0 rfl) ?_
  refine lv_iload_n hx hb dX11_high_1 rfl (lv_at hl 1 rfl) ?_
  obtain ⟨hq, hf⟩ := bd0_some hf
  refine rdV (As := [.int x1]) (rest := []) hF hG hP hl.1 (c_X11_requireDay l G a_t a_t_trial a_t_snapshot t_snapshotTaken a_t_history a_t_text a_t_works a_t_highs a_t_trade a_t_now a_t_now_row t_now_length t_now_shorter t_now_longer t_now_memory t_now_limit t_now_seasonDays t_now_stopped t_now_stopPart t_now_stopReason x1 hq) k_X11_requireDay q379 [0, 1] rfl ⟨0, 7, _, _, rfl, rfl, rfl⟩ rfl rfl (Nat.le_of_ble_eq_true rfl) ⟨(Nat.le_of_ble_eq_true rfl), (Nat.le_of_ble_eq_true rfl)⟩ ⟨(Nat.zero_le _), (Nat.zero_le _)⟩ dX11_high_2 ?_
  refine lv_aload_n hx hb dX11_high_5 rfl (lv_at hl 0 rfl) ?_
  refine gf (C := RX11) (T := TX11) (N := 9) (ci := 7) (v := .ref a_t_now) hF hG hP inX11 0 rfl rfl 0 (by decide) q190 rfl rfl dX11_high_6 ?_
  refine lv_iload_n hx hb dX11_high_9 rfl (lv_at hl 1 rfl) ?_
  obtain ⟨r_1, hq, hf⟩ := bd1_some hf
  refine rdSN (As := [.ref a_t_now, .int x1]) (rest := []) hF hG hP hl.1 (c_X2_byLooking l G a_t_now t_now_length t_now_shorter t_now_longer t_now_memory t_now_limit t_now_seasonDays t_now_stopped t_now_stopPart t_now_stopReason a_t_now_row t_now_row x1 r_1 hq) k_X2_byLooking n590 [1, 2] rfl rfl rfl (Nat.le_of_ble_eq_true rfl) ⟨(Nat.le_of_ble_eq_true rfl), (Nat.le_of_ble_eq_true rfl)⟩ ⟨(Nat.zero_le _), (Nat.zero_le _)⟩ dX11_high_10 ?_
  have hf : (some r_1 : Option (Int32)) = some rr := hf
  cases hf
  exact re_i hF hr hlk dX11_high_13 rfl
def f_X2_candidate (t_candidates : Nat → Int32) (x1 : Int32) : Option (Int32) := (if x1 < 0 then some 0 else (if 60 ≤ x1 then some 0 else gd (¬ (x1 < 0 ∨ 60 ≤ Int32.toNatClampNeg x1)) (some (t_candidates (Int32.toNatClampNeg x1)))))
theorem k_X2_candidate : KV yX2_candidate cX2_candidate 2 (some .int) 1 := ⟨qc_yX2_candidate, q7, ⟨by decide +kernel, by decide +kernel, by decide +kernel⟩, qi_yX2_candidate, qs_yX2_candidate⟩
abbrev RM_X2_candidate : Room := { frames := 0, cells := 0, slots := 0, locals := 0 }
set_option maxHeartbeats 4000000 in
set_option maxRecDepth 100000 in
theorem c_X2_candidate (l : Launch) (G : GP) (a_t : Nat) (t_front : Int32) (t_end : Int32) (a_t_candidates : Nat) (t_candidates : Nat → Int32) (x1 : Int32) (rr : Int32) (hf : f_X2_candidate t_candidates x1 = some rr) : RM l yX2_candidate cX2_candidate 2 (some .int) 0 0 G [.ref a_t, .int x1] [(a_t, .inr (0, [.ref a_t_candidates, .int t_front, .int t_end])), (a_t_candidates, .inl (G.2.1, 60, .inl t_candidates))] (some (.int rr)) := by
  refine RM.ofW (C := RX2) (by decide) rfl (Nat.le_of_ble_eq_true rfl) ?_
  intro p e s m below meth c hF hr hlk hG hP ls hl
  have hl : lv_has ls 2 [(0, .ref a_t), (1, .int x1)] := hl
  have hx := hF.1
  have hb := hF.2.1
  have hml := hF.2.2.1
  have hown := hF.2.2.2.1
  have hts := hF.2.2.2.2
  unfold f_X2_candidate at hf
  refine lv_iload_n hx hb dX2_candidate_0 rfl (lv_at hl 1 rfl) ?_
  refine lv_if_lt (tgt := 22) hx hb dX2_candidate_1 (by decide) (fun c0 => ?_) (fun c0 => ?_)
  · have hf := (if_pos c0).symm.trans hf
    refine lv_iconst (v := 0) hx hb dX2_candidate_22 (by decide) ?_
    have hf : (some 0 : Option (Int32)) = some rr := hf
    cases hf
    exact re_i hF hr hlk dX2_candidate_23 rfl
  · have hf := (if_neg c0).symm.trans hf
    refine lv_iload_n hx hb dX2_candidate_4 rfl (lv_at hl 1 rfl) ?_
    refine lv_aload_n hx hb dX2_candidate_5 rfl (lv_at hl 0 rfl) ?_
    refine gf (C := RX2) (T := TX2) (N := 3) (ci := 0) (v := .ref a_t_candidates) hF hG hP inX2 0 rfl rfl 0 (by decide) q165 rfl rfl dX2_candidate_6 ?_
    refine va_alen (v := 60) hx hb hG.1 hP 1 0 rfl rfl rfl dX2_candidate_9 ?_
    refine lv_icmp_ge (tgt := 22) hx hb dX2_candidate_10 (by decide) (fun c0 => ?_) (fun c0 => ?_)
    · have hf := (if_pos c0).symm.trans hf
      refine lv_iconst (v := 0) hx hb dX2_candidate_22 (by decide) ?_
      have hf : (some 0 : Option (Int32)) = some rr := hf
      cases hf
      exact re_i hF hr hlk dX2_candidate_23 rfl
    · have hf := (if_neg c0).symm.trans hf
      refine lv_aload_n hx hb dX2_candidate_13 rfl (lv_at hl 0 rfl) ?_
      refine gf (C := RX2) (T := TX2) (N := 3) (ci := 0) (v := .ref a_t_candidates) hF hG hP inX2 0 rfl rfl 0 (by decide) q165 rfl rfl dX2_candidate_14 ?_
      refine lv_iload_n hx hb dX2_candidate_17 rfl (lv_at hl 1 rfl) ?_
      obtain ⟨hg, hf⟩ := gd_some hf
      refine ald_i (k := Int32.toNatClampNeg x1) hF hG hP 1 rfl rfl hg dX2_candidate_18 ?_
      refine lv_goto (tgt := 23) hx hb dX2_candidate_19 (by decide) ?_
      have hf : (some (t_candidates (Int32.toNatClampNeg x1)) : Option (Int32)) = some rr := hf
      cases hf
      exact re_i hF hr hlk dX2_candidate_23 rfl
def l_X2_enter_0 (t_front : Int32) (t_candidates : Nat → Int32) (p1_row : Nat → Int32) (x2 : Int32) : Nat → Int32 → Option (Int32)
  | 0, _ => none
  | n + 1, t_end_1 => (if t_end_1 ≤ t_front then some t_end_1 else bd1 (f_X2_candidate t_candidates (t_end_1 - 1)) (fun (r_3 : Int32) => bd1 (f_X6_at p1_row r_3) (fun (r_4 : Int32) => bd1 (f_X6_at p1_row x2) (fun (r_5 : Int32) => (if r_5 < r_4 then some t_end_1 else l_X2_enter_0 t_front t_candidates p1_row x2 n (t_end_1 - 1))))))
def f_X2_enter (t_front : Int32) (t_end : Int32) (t_candidates : Nat → Int32) (p1_row : Nat → Int32) (x2 : Int32) : Option (Int32 × (Nat → Int32)) := bd1 (l_X2_enter_0 t_front t_candidates p1_row x2 1000 t_end) (fun (t_end_2 : Int32) => (if t_end_2 < 0 then some (t_end_2, t_candidates) else (if 60 ≤ t_end_2 then some (t_end_2, t_candidates) else gd (¬ (t_end_2 < 0 ∨ 60 ≤ Int32.toNatClampNeg t_end_2)) (some ((t_end_2 + 1), (upd t_candidates (Int32.toNatClampNeg t_end_2) x2))))))
theorem k_X2_enter : KV yX2_enter cX2_enter 3 none 2 := ⟨qc_yX2_enter, q7, ⟨by decide +kernel, by decide +kernel, by decide +kernel⟩, qi_yX2_enter, qs_yX2_enter⟩
abbrev RM_X2_enter : Room := { frames := 1, cells := 0, slots := 0, locals := 21 }
set_option maxHeartbeats 4000000 in
set_option maxRecDepth 100000 in
theorem c_X2_enter (l : Launch) (G : GP) (a_t : Nat) (t_front : Int32) (t_end : Int32) (a_t_candidates : Nat) (t_candidates : Nat → Int32) (a_p1 : Nat) (p1_length : Int32) (p1_shorter : Int32) (p1_longer : Int32) (p1_memory : Int32) (p1_limit : Int32) (p1_seasonDays : Int32) (p1_stopped : Int32) (p1_stopPart : Int32) (p1_stopReason : Int32) (a_p1_row : Nat) (p1_row : Nat → Int32) (x2 : Int32) (w_t_end : Int32) (w_t_candidates : Nat → Int32) (hf : f_X2_enter t_front t_end t_candidates p1_row x2 = some (w_t_end, w_t_candidates)) : WM l yX2_enter cX2_enter 3 none 1 21 G [.ref a_t, .ref a_p1, .int x2] [(a_t, .inr (0, [.ref a_t_candidates, .int t_front, .int t_end])), (a_t_candidates, .inl (G.2.1, 60, .inl t_candidates)), (a_p1, .inr (2, [.ref a_p1_row, .int p1_length, .int p1_shorter, .int p1_longer, .int p1_memory, .int p1_limit, .int p1_seasonDays, .int p1_stopped, .int p1_stopPart, .int p1_stopReason])), (a_p1_row, .inl (G.2.1, 60, .inl p1_row))] none [(a_t, .inr (0, [.ref a_t_candidates, .int t_front, .int w_t_end])), (a_t_candidates, .inl (G.2.1, 60, .inl w_t_candidates)), (a_p1, .inr (2, [.ref a_p1_row, .int p1_length, .int p1_shorter, .int p1_longer, .int p1_memory, .int p1_limit, .int p1_seasonDays, .int p1_stopped, .int p1_stopPart, .int p1_stopReason])), (a_p1_row, .inl (G.2.1, 60, .inl p1_row))] := by
  refine WM.ofW (C := RX2) (by decide) rfl (Nat.le_of_ble_eq_true rfl) ?_
  intro p e s m below meth c A hF hr hlk hG hA hP hD ls hl
  have hl : lv_has ls 3 [(0, .ref a_t), (1, .ref a_p1), (2, .int x2)] := hl
  have hx := hF.1
  have hb := hF.2.1
  have hml := hF.2.2.1
  have hown := hF.2.2.2.1
  have hts := hF.2.2.2.2
  have hS : va_S A s.heap s.heap [] := va_S.rf
  unfold f_X2_enter at hf
  obtain ⟨t_end_2, hq, hf⟩ := bd1_some hf
  have K0 : ∀ (H : Heap) (locs : List Loc), va_P G.1 vwCl ([(a_t, .inr (0, [.ref a_t_candidates, .int t_front, .int t_end_2])), (a_t_candidates, .inl (G.2.1, 60, .inl t_candidates)), (a_p1, .inr (2, [.ref a_p1_row, .int p1_length, .int p1_shorter, .int p1_longer, .int p1_memory, .int p1_limit, .int p1_seasonDays, .int p1_stopped, .int p1_stopPart, .int p1_stopReason])), (a_p1_row, .inl (G.2.1, 60, .inl p1_row))] : va_W) H → va_D A ([(a_t, .inr (0, [.ref a_t_candidates, .int t_front, .int t_end_2])), (a_t_candidates, .inl (G.2.1, 60, .inl t_candidates)), (a_p1, .inr (2, [.ref a_p1_row, .int p1_length, .int p1_shorter, .int p1_longer, .int p1_memory, .int p1_limit, .int p1_seasonDays, .int p1_stopped, .int p1_stopPart, .int p1_stopReason])), (a_p1_row, .inl (G.2.1, 60, .inl p1_row))] : va_W) → va_S A s.heap H locs → ∀ ls : Array Slot, lv_has ls 3 [(0, .ref a_t), (2, .int x2)] → W p l e RM_X2_enter s m [.ref a_t, .ref a_p1, .int x2].toArray below meth c H locs 0 0 (MQ below (wrQ none G [(a_t, .inr (0, [.ref a_t_candidates, .int t_front, .int w_t_end])), (a_t_candidates, .inl (G.2.1, 60, .inl w_t_candidates)), (a_p1, .inr (2, [.ref a_p1_row, .int p1_length, .int p1_shorter, .int p1_longer, .int p1_memory, .int p1_limit, .int p1_seasonDays, .int p1_stopped, .int p1_stopPart, .int p1_stopReason])), (a_p1_row, .inl (G.2.1, 60, .inl p1_row))] A) [.ref a_t, .ref a_p1, .int x2].toArray s 0 0 A) (F0 m 46 ls []) := by
    intro H locs hP hD hS ls hl
    refine lv_aload_n hx hb dX2_enter_46 rfl (lv_at hl 0 rfl) ?_
    refine gf (C := RX2) (T := TX2) (N := 3) (ci := 0) (v := .int t_end_2) hF hG hP inX2 0 rfl rfl 2 (by decide) q167 rfl rfl dX2_enter_47 ?_
    refine lv_if_lt (tgt := 85) hx hb dX2_enter_50 (by decide) (fun c0 => ?_) (fun c0 => ?_)
    · have hf := (if_pos c0).symm.trans hf
      have hf : (some (t_end_2, t_candidates) : Option (Int32 × (Nat → Int32))) = some (w_t_end, w_t_candidates) := hf
      cases hf
      exact we_v hF hr hlk hP hD hS dX2_enter_85 rfl
    · have hf := (if_neg c0).symm.trans hf
      refine lv_aload_n hx hb dX2_enter_53 rfl (lv_at hl 0 rfl) ?_
      refine gf (C := RX2) (T := TX2) (N := 3) (ci := 0) (v := .int t_end_2) hF hG hP inX2 0 rfl rfl 2 (by decide) q167 rfl rfl dX2_enter_54 ?_
      refine lv_aload_n hx hb dX2_enter_57 rfl (lv_at hl 0 rfl) ?_
      refine gf (C := RX2) (T := TX2) (N := 3) (ci := 0) (v := .ref a_t_candidates) hF hG hP inX2 0 rfl rfl 0 (by decide) q165 rfl rfl dX2_enter_58 ?_
      refine va_alen (v := 60) hx hb hG.1 hP 1 0 rfl rfl rfl dX2_enter_61 ?_
      refine lv_icmp_ge (tgt := 85) hx hb dX2_enter_62 (by decide) (fun c0 => ?_) (fun c0 => ?_)
      · have hf := (if_pos c0).symm.trans hf
        have hf : (some (t_end_2, t_candidates) : Option (Int32 × (Nat → Int32))) = some (w_t_end, w_t_candidates) := hf
        cases hf
        exact we_v hF hr hlk hP hD hS dX2_enter_85 rfl
      · have hf := (if_neg c0).symm.trans hf
        refine lv_aload_n hx hb dX2_enter_65 rfl (lv_at hl 0 rfl) ?_
        refine gf (C := RX2) (T := TX2) (N := 3) (ci := 0) (v := .ref a_t_candidates) hF hG hP inX2 0 rfl rfl 0 (by decide) q165 rfl rfl dX2_enter_66 ?_
        refine lv_aload_n hx hb dX2_enter_69 rfl (lv_at hl 0 rfl) ?_
        refine gf (C := RX2) (T := TX2) (N := 3) (ci := 0) (v := .int t_end_2) hF hG hP inX2 0 rfl rfl 2 (by decide) q167 rfl rfl dX2_enter_70 ?_
        refine lv_iload_n hx hb dX2_enter_73 rfl (lv_at hl 1 rfl) ?_
        obtain ⟨hg, hf⟩ := gd_some hf
        refine ast_i (k := Int32.toNatClampNeg t_end_2) hF hG hP hD hS 1 rfl rfl hg dX2_enter_74 (fun H locs hP hD hS => ?_)
        replace hP : va_P G.1 vwCl [(a_t, .inr (0, [.ref a_t_candidates, .int t_front, .int t_end_2])), (a_t_candidates, .inl (G.2.1, 60, .inl (upd t_candidates (Int32.toNatClampNeg t_end_2) x2))), (a_p1, .inr (2, [.ref a_p1_row, .int p1_length, .int p1_shorter, .int p1_longer, .int p1_memory, .int p1_limit, .int p1_seasonDays, .int p1_stopped, .int p1_stopPart, .int p1_stopReason])), (a_p1_row, .inl (G.2.1, 60, .inl p1_row))] H := hP
        replace hD : va_D A [(a_t, .inr (0, [.ref a_t_candidates, .int t_front, .int t_end_2])), (a_t_candidates, .inl (G.2.1, 60, .inl (upd t_candidates (Int32.toNatClampNeg t_end_2) x2))), (a_p1, .inr (2, [.ref a_p1_row, .int p1_length, .int p1_shorter, .int p1_longer, .int p1_memory, .int p1_limit, .int p1_seasonDays, .int p1_stopped, .int p1_stopPart, .int p1_stopReason])), (a_p1_row, .inl (G.2.1, 60, .inl p1_row))] := hD
        refine lv_aload_n hx hb dX2_enter_75 rfl (lv_at hl 0 rfl) ?_
        refine lv_dup hx hb dX2_enter_76 rfl ?_
        refine gf (C := RX2) (T := TX2) (N := 3) (ci := 0) (v := .int t_end_2) hF hG hP inX2 0 rfl rfl 2 (by decide) q167 rfl rfl dX2_enter_77 ?_
        refine lv_iconst (v := 1) hx hb dX2_enter_80 (by decide) ?_
        refine lv_iadd hx hb dX2_enter_81 ?_
        refine pf (C := RX2) (T := TX2) (N := 3) (ci := 0) (v := .int (t_end_2 + 1)) (ty := .int) hF hG hP hD hS inX2 tyX2 tyX2_ok nmX2 0 rfl rfl 2 (by decide) q167 rfl rfl (by decide +kernel) rfl rfl (Nat.le_of_ble_eq_true rfl) dX2_enter_82 (fun H locs hP hD hS => ?_)
        replace hP : va_P G.1 vwCl [(a_t, .inr (0, [.ref a_t_candidates, .int t_front, .int (t_end_2 + 1)])), (a_t_candidates, .inl (G.2.1, 60, .inl (upd t_candidates (Int32.toNatClampNeg t_end_2) x2))), (a_p1, .inr (2, [.ref a_p1_row, .int p1_length, .int p1_shorter, .int p1_longer, .int p1_memory, .int p1_limit, .int p1_seasonDays, .int p1_stopped, .int p1_stopPart, .int p1_stopReason])), (a_p1_row, .inl (G.2.1, 60, .inl p1_row))] H := hP
        replace hD : va_D A [(a_t, .inr (0, [.ref a_t_candidates, .int t_front, .int (t_end_2 + 1)])), (a_t_candidates, .inl (G.2.1, 60, .inl (upd t_candidates (Int32.toNatClampNeg t_end_2) x2))), (a_p1, .inr (2, [.ref a_p1_row, .int p1_length, .int p1_shorter, .int p1_longer, .int p1_memory, .int p1_limit, .int p1_seasonDays, .int p1_stopped, .int p1_stopPart, .int p1_stopReason])), (a_p1_row, .inl (G.2.1, 60, .inl p1_row))] := hD
        have hf : (some ((t_end_2 + 1), (upd t_candidates (Int32.toNatClampNeg t_end_2) x2)) : Option (Int32 × (Nat → Int32))) = some (w_t_end, w_t_candidates) := hf
        cases hf
        exact we_v hF hr hlk hP hD hS dX2_enter_85 rfl
  clear hf
  have L0 : ∀ (n : Nat) (t_end_1 : Int32), l_X2_enter_0 t_front t_candidates p1_row x2 n t_end_1 = some t_end_2 → ∀ (H : Heap) (locs : List Loc), va_P G.1 vwCl ([(a_t, .inr (0, [.ref a_t_candidates, .int t_front, .int t_end_1])), (a_t_candidates, .inl (G.2.1, 60, .inl t_candidates)), (a_p1, .inr (2, [.ref a_p1_row, .int p1_length, .int p1_shorter, .int p1_longer, .int p1_memory, .int p1_limit, .int p1_seasonDays, .int p1_stopped, .int p1_stopPart, .int p1_stopReason])), (a_p1_row, .inl (G.2.1, 60, .inl p1_row))] : va_W) H → va_D A ([(a_t, .inr (0, [.ref a_t_candidates, .int t_front, .int t_end_1])), (a_t_candidates, .inl (G.2.1, 60, .inl t_candidates)), (a_p1, .inr (2, [.ref a_p1_row, .int p1_length, .int p1_shorter, .int p1_longer, .int p1_memory, .int p1_limit, .int p1_seasonDays, .int p1_stopped, .int p1_stopPart, .int p1_stopReason])), (a_p1_row, .inl (G.2.1, 60, .inl p1_row))] : va_W) → va_S A s.heap H locs → ∀ ls : Array Slot, lv_has ls 3 [(0, .ref a_t), (1, .ref a_p1), (2, .int x2)] → W p l e RM_X2_enter s m [.ref a_t, .ref a_p1, .int x2].toArray below meth c H locs 0 0 (MQ below (wrQ none G [(a_t, .inr (0, [.ref a_t_candidates, .int t_front, .int w_t_end])), (a_t_candidates, .inl (G.2.1, 60, .inl w_t_candidates)), (a_p1, .inr (2, [.ref a_p1_row, .int p1_length, .int p1_shorter, .int p1_longer, .int p1_memory, .int p1_limit, .int p1_seasonDays, .int p1_stopped, .int p1_stopPart, .int p1_stopReason])), (a_p1_row, .inl (G.2.1, 60, .inl p1_row))] A) [.ref a_t, .ref a_p1, .int x2].toArray s 0 0 A) (F0 m 0 ls []) := by
    intro n
    induction n with
    | zero =>
      intro t_end_1 hf
      exact nomatch (show none = some t_end_2 from hf)
    | succ n ih =>
      intro t_end_1 hf H locs hP hD hS ls hl
      rw [l_X2_enter_0] at hf
      refine lv_aload_n hx hb dX2_enter_0 rfl (lv_at hl 0 rfl) ?_
      refine gf (C := RX2) (T := TX2) (N := 3) (ci := 0) (v := .int t_end_1) hF hG hP inX2 0 rfl rfl 2 (by decide) q167 rfl rfl dX2_enter_1 ?_
      refine lv_aload_n hx hb dX2_enter_4 rfl (lv_at hl 0 rfl) ?_
      refine gf (C := RX2) (T := TX2) (N := 3) (ci := 0) (v := .int t_front) hF hG hP inX2 0 rfl rfl 1 (by decide) q166 rfl rfl dX2_enter_5 ?_
      refine lv_icmp_le (tgt := 46) hx hb dX2_enter_8 (by decide) (fun c0 => ?_) (fun c0 => ?_)
      · have hf := (if_pos c0).symm.trans hf
        have hf : (some t_end_1 : Option (Int32)) = some t_end_2 := hf
        cases hf
        exact K0 _ _ hP hD hS ls (lv_sub hl [0, 2] rfl)
      · have hf := (if_neg c0).symm.trans hf
        refine lv_aload_n hx hb dX2_enter_11 rfl (lv_at hl 1 rfl) ?_
        refine lv_aload_n hx hb dX2_enter_12 rfl (lv_at hl 0 rfl) ?_
        refine lv_aload_n hx hb dX2_enter_13 rfl (lv_at hl 0 rfl) ?_
        refine gf (C := RX2) (T := TX2) (N := 3) (ci := 0) (v := .int t_end_1) hF hG hP inX2 0 rfl rfl 2 (by decide) q167 rfl rfl dX2_enter_14 ?_
        refine lv_iconst (v := 1) hx hb dX2_enter_17 (by decide) ?_
        refine lv_isub hx hb dX2_enter_18 ?_
        obtain ⟨r_3, hq, hf⟩ := bd1_some hf
        refine rdV (As := [.int (t_end_1 - 1)]) (rest := [.ref a_p1]) hF hG hP hl.1 (c_X2_candidate l G a_t t_front t_end_1 a_t_candidates t_candidates (t_end_1 - 1) r_3 hq) k_X2_candidate q606 [0, 1] rfl ⟨0, 0, _, _, rfl, rfl, rfl⟩ rfl rfl (Nat.le_of_ble_eq_true rfl) ⟨(Nat.le_of_ble_eq_true rfl), (Nat.le_of_ble_eq_true rfl)⟩ ⟨(Nat.zero_le _), (Nat.zero_le _)⟩ dX2_enter_19 ?_
        obtain ⟨r_4, hq, hf⟩ := bd1_some hf
        refine rdVN (As := [.int r_3]) (rest := []) hF hG hP hl.1 (c_X6_at l G a_p1 p1_length p1_shorter p1_longer p1_memory p1_limit p1_seasonDays p1_stopped p1_stopPart p1_stopReason a_p1_row p1_row r_3 r_4 hq) k_X6_at n355 [2, 3] rfl ⟨2, 2, _, _, rfl, rfl, rfl⟩ rfl rfl (Nat.le_of_ble_eq_true rfl) ⟨(Nat.le_of_ble_eq_true rfl), (Nat.le_of_ble_eq_true rfl)⟩ ⟨(Nat.zero_le _), (Nat.zero_le _)⟩ dX2_enter_22 ?_
        refine lv_aload_n hx hb dX2_enter_25 rfl (lv_at hl 1 rfl) ?_
        refine lv_iload_n hx hb dX2_enter_26 rfl (lv_at hl 2 rfl) ?_
        obtain ⟨r_5, hq, hf⟩ := bd1_some hf
        refine rdVN (As := [.int x2]) (rest := [.int r_4]) hF hG hP hl.1 (c_X6_at l G a_p1 p1_length p1_shorter p1_longer p1_memory p1_limit p1_seasonDays p1_stopped p1_stopPart p1_stopReason a_p1_row p1_row x2 r_5 hq) k_X6_at n355 [2, 3] rfl ⟨2, 2, _, _, rfl, rfl, rfl⟩ rfl rfl (Nat.le_of_ble_eq_true rfl) ⟨(Nat.le_of_ble_eq_true rfl), (Nat.le_of_ble_eq_true rfl)⟩ ⟨(Nat.zero_le _), (Nat.zero_le _)⟩ dX2_enter_27 ?_
        refine lv_icmp_gt (tgt := 46) hx hb dX2_enter_30 (by decide) (fun c0 => ?_) (fun c0 => ?_)
        · have hf := (if_pos c0).symm.trans hf
          have hf : (some t_end_1 : Option (Int32)) = some t_end_2 := hf
          cases hf
          exact K0 _ _ hP hD hS ls (lv_sub hl [0, 2] rfl)
        · have hf := (if_neg c0).symm.trans hf
          refine lv_aload_n hx hb dX2_enter_33 rfl (lv_at hl 0 rfl) ?_
          refine lv_dup hx hb dX2_enter_34 rfl ?_
          refine gf (C := RX2) (T := TX2) (N := 3) (ci := 0) (v := .int t_end_1) hF hG hP inX2 0 rfl rfl 2 (by decide) q167 rfl rfl dX2_enter_35 ?_
          refine lv_iconst (v := 1) hx hb dX2_enter_38 (by decide) ?_
          refine lv_isub hx hb dX2_enter_39 ?_
          refine pf (C := RX2) (T := TX2) (N := 3) (ci := 0) (v := .int (t_end_1 - 1)) (ty := .int) hF hG hP hD hS inX2 tyX2 tyX2_ok nmX2 0 rfl rfl 2 (by decide) q167 rfl rfl (by decide +kernel) rfl rfl (Nat.le_of_ble_eq_true rfl) dX2_enter_40 (fun H locs hP hD hS => ?_)
          replace hP : va_P G.1 vwCl [(a_t, .inr (0, [.ref a_t_candidates, .int t_front, .int (t_end_1 - 1)])), (a_t_candidates, .inl (G.2.1, 60, .inl t_candidates)), (a_p1, .inr (2, [.ref a_p1_row, .int p1_length, .int p1_shorter, .int p1_longer, .int p1_memory, .int p1_limit, .int p1_seasonDays, .int p1_stopped, .int p1_stopPart, .int p1_stopReason])), (a_p1_row, .inl (G.2.1, 60, .inl p1_row))] H := hP
          replace hD : va_D A [(a_t, .inr (0, [.ref a_t_candidates, .int t_front, .int (t_end_1 - 1)])), (a_t_candidates, .inl (G.2.1, 60, .inl t_candidates)), (a_p1, .inr (2, [.ref a_p1_row, .int p1_length, .int p1_shorter, .int p1_longer, .int p1_memory, .int p1_limit, .int p1_seasonDays, .int p1_stopped, .int p1_stopPart, .int p1_stopReason])), (a_p1_row, .inl (G.2.1, 60, .inl p1_row))] := hD
          refine lv_goto (tgt := 0) hx hb dX2_enter_43 (by decide) ?_
          exact ih (t_end_1 - 1) hf _ _ hP hD hS ls (lv_sub hl [0, 1, 2] rfl)
  exact L0 1000 t_end hq _ _ hP hD hS ls (lv_sub hl [0, 1, 2] rfl)
def f_X2_leave (t_front : Int32) (t_end : Int32) (t_candidates : Nat → Int32) (x1 : Int32) : Option (Int32) := (if t_end ≤ t_front then some t_front else bd1 (f_X2_candidate t_candidates t_front) (fun (r_1 : Int32) => (if x1 ≤ r_1 then some t_front else some (t_front + 1))))
theorem k_X2_leave : KV yX2_leave cX2_leave 2 none 1 := ⟨qc_yX2_leave, q7, ⟨by decide +kernel, by decide +kernel, by decide +kernel⟩, qi_yX2_leave, qs_yX2_leave⟩
abbrev RM_X2_leave : Room := { frames := 1, cells := 0, slots := 0, locals := 21 }
set_option maxHeartbeats 4000000 in
set_option maxRecDepth 100000 in
theorem c_X2_leave (l : Launch) (G : GP) (a_t : Nat) (t_front : Int32) (t_end : Int32) (a_t_candidates : Nat) (t_candidates : Nat → Int32) (x1 : Int32) (w_t_front : Int32) (hf : f_X2_leave t_front t_end t_candidates x1 = some w_t_front) : WM l yX2_leave cX2_leave 2 none 1 21 G [.ref a_t, .int x1] [(a_t, .inr (0, [.ref a_t_candidates, .int t_front, .int t_end])), (a_t_candidates, .inl (G.2.1, 60, .inl t_candidates))] none [(a_t, .inr (0, [.ref a_t_candidates, .int w_t_front, .int t_end])), (a_t_candidates, .inl (G.2.1, 60, .inl t_candidates))] := by
  refine WM.ofW (C := RX2) (by decide) rfl (Nat.le_of_ble_eq_true rfl) ?_
  intro p e s m below meth c A hF hr hlk hG hA hP hD ls hl
  have hl : lv_has ls 2 [(0, .ref a_t), (1, .int x1)] := hl
  have hx := hF.1
  have hb := hF.2.1
  have hml := hF.2.2.1
  have hown := hF.2.2.2.1
  have hts := hF.2.2.2.2
  have hS : va_S A s.heap s.heap [] := va_S.rf
  unfold f_X2_leave at hf
  refine lv_aload_n hx hb dX2_leave_0 rfl (lv_at hl 0 rfl) ?_
  refine gf (C := RX2) (T := TX2) (N := 3) (ci := 0) (v := .int t_front) hF hG hP inX2 0 rfl rfl 1 (by decide) q166 rfl rfl dX2_leave_1 ?_
  refine lv_aload_n hx hb dX2_leave_4 rfl (lv_at hl 0 rfl) ?_
  refine gf (C := RX2) (T := TX2) (N := 3) (ci := 0) (v := .int t_end) hF hG hP inX2 0 rfl rfl 2 (by decide) q167 rfl rfl dX2_leave_5 ?_
  refine lv_icmp_ge (tgt := 33) hx hb dX2_leave_8 (by decide) (fun c0 => ?_) (fun c0 => ?_)
  · have hf := (if_pos c0).symm.trans hf
    have hf : (some t_front : Option (Int32)) = some w_t_front := hf
    cases hf
    exact we_v hF hr hlk hP hD hS dX2_leave_33 rfl
  · have hf := (if_neg c0).symm.trans hf
    refine lv_aload_n hx hb dX2_leave_11 rfl (lv_at hl 0 rfl) ?_
    refine lv_aload_n hx hb dX2_leave_12 rfl (lv_at hl 0 rfl) ?_
    refine gf (C := RX2) (T := TX2) (N := 3) (ci := 0) (v := .int t_front) hF hG hP inX2 0 rfl rfl 1 (by decide) q166 rfl rfl dX2_leave_13 ?_
    obtain ⟨r_1, hq, hf⟩ := bd1_some hf
    refine rdV (As := [.int t_front]) (rest := []) hF hG hP hl.1 (c_X2_candidate l G a_t t_front t_end a_t_candidates t_candidates t_front r_1 hq) k_X2_candidate q606 [0, 1] rfl ⟨0, 0, _, _, rfl, rfl, rfl⟩ rfl rfl (Nat.le_of_ble_eq_true rfl) ⟨(Nat.le_of_ble_eq_true rfl), (Nat.le_of_ble_eq_true rfl)⟩ ⟨(Nat.zero_le _), (Nat.zero_le _)⟩ dX2_leave_16 ?_
    refine lv_iload_n hx hb dX2_leave_19 rfl (lv_at hl 1 rfl) ?_
    refine lv_icmp_ge (tgt := 33) hx hb dX2_leave_20 (by decide) (fun c0 => ?_) (fun c0 => ?_)
    · have hf := (if_pos c0).symm.trans hf
      have hf : (some t_front : Option (Int32)) = some w_t_front := hf
      cases hf
      exact we_v hF hr hlk hP hD hS dX2_leave_33 rfl
    · have hf := (if_neg c0).symm.trans hf
      refine lv_aload_n hx hb dX2_leave_23 rfl (lv_at hl 0 rfl) ?_
      refine lv_dup hx hb dX2_leave_24 rfl ?_
      refine gf (C := RX2) (T := TX2) (N := 3) (ci := 0) (v := .int t_front) hF hG hP inX2 0 rfl rfl 1 (by decide) q166 rfl rfl dX2_leave_25 ?_
      refine lv_iconst (v := 1) hx hb dX2_leave_28 (by decide) ?_
      refine lv_iadd hx hb dX2_leave_29 ?_
      refine pf (C := RX2) (T := TX2) (N := 3) (ci := 0) (v := .int (t_front + 1)) (ty := .int) hF hG hP hD hS inX2 tyX2 tyX2_ok nmX2 0 rfl rfl 1 (by decide) q166 rfl rfl (by decide +kernel) rfl rfl (Nat.le_of_ble_eq_true rfl) dX2_leave_30 (fun H locs hP hD hS => ?_)
      replace hP : va_P G.1 vwCl [(a_t, .inr (0, [.ref a_t_candidates, .int (t_front + 1), .int t_end])), (a_t_candidates, .inl (G.2.1, 60, .inl t_candidates))] H := hP
      replace hD : va_D A [(a_t, .inr (0, [.ref a_t_candidates, .int (t_front + 1), .int t_end])), (a_t_candidates, .inl (G.2.1, 60, .inl t_candidates))] := hD
      have hf : (some (t_front + 1) : Option (Int32)) = some w_t_front := hf
      cases hf
      exact we_v hF hr hlk hP hD hS dX2_leave_33 rfl
def l_X2_byRow_12 (p1_longer : Int32) (p1_row : Nat → Int32) (x2 : Int32) : Nat → Int32 → Int32 → Int32 → (Nat → Int32) → Option (Int32 × Int32 × (Nat → Int32))
  | 0, _, _, _, _ => none
  | n + 1, i3_1, t_front_2, t_end_3, t_candidates_4 => (if x2 < i3_1 then some (t_front_2, t_end_3, t_candidates_4) else bd2 (f_X2_enter t_front_2 t_end_3 t_candidates_4 p1_row i3_1) (fun (t_end_8 : Int32) (t_candidates_9 : Nat → Int32) => bd1 (f_X4_firstOf i3_1 p1_longer) (fun (r_10 : Int32) => bd1 (f_X2_leave t_front_2 t_end_8 t_candidates_9 r_10) (fun (t_front_11 : Int32) => l_X2_byRow_12 p1_longer p1_row x2 n (i3_1 + 1) t_front_11 t_end_8 t_candidates_9))))
def f_X2_byRow (t_front : Int32) (t_end : Int32) (t_candidates : Nat → Int32) (p1_longer : Int32) (p1_row : Nat → Int32) (x2 : Int32) : Option (Int32 × Int32 × Int32 × (Nat → Int32)) := bd3 (l_X2_byRow_12 p1_longer p1_row x2 1000 0 0 0 t_candidates) (fun (t_front_5 : Int32) (t_end_6 : Int32) (t_candidates_7 : Nat → Int32) => bd1 (f_X2_candidate t_candidates_7 t_front_5) (fun (r_12 : Int32) => bd1 (f_X6_at p1_row r_12) (fun (r_13 : Int32) => some (r_13, t_front_5, t_end_6, t_candidates_7))))
theorem k_X2_byRow : KV yX2_byRow cX2_byRow 4 (some .int) 2 := ⟨qc_yX2_byRow, q7, ⟨by decide +kernel, by decide +kernel, by decide +kernel⟩, qi_yX2_byRow, qs_yX2_byRow⟩
abbrev RM_X2_byRow : Room := { frames := 2, cells := 0, slots := 0, locals := 43 }
set_option maxHeartbeats 4000000 in
set_option maxRecDepth 100000 in
theorem c_X2_byRow (l : Launch) (G : GP) (a_t : Nat) (t_front : Int32) (t_end : Int32) (a_t_candidates : Nat) (t_candidates : Nat → Int32) (a_p1 : Nat) (p1_length : Int32) (p1_shorter : Int32) (p1_longer : Int32) (p1_memory : Int32) (p1_limit : Int32) (p1_seasonDays : Int32) (p1_stopped : Int32) (p1_stopPart : Int32) (p1_stopReason : Int32) (a_p1_row : Nat) (p1_row : Nat → Int32) (x2 : Int32) (rr : Int32) (w_t_front : Int32) (w_t_end : Int32) (w_t_candidates : Nat → Int32) (hf : f_X2_byRow t_front t_end t_candidates p1_longer p1_row x2 = some (rr, w_t_front, w_t_end, w_t_candidates)) : WM l yX2_byRow cX2_byRow 4 (some .int) 2 43 G [.ref a_t, .ref a_p1, .int x2] [(a_t, .inr (0, [.ref a_t_candidates, .int t_front, .int t_end])), (a_t_candidates, .inl (G.2.1, 60, .inl t_candidates)), (a_p1, .inr (2, [.ref a_p1_row, .int p1_length, .int p1_shorter, .int p1_longer, .int p1_memory, .int p1_limit, .int p1_seasonDays, .int p1_stopped, .int p1_stopPart, .int p1_stopReason])), (a_p1_row, .inl (G.2.1, 60, .inl p1_row))] (some (.int rr)) [(a_t, .inr (0, [.ref a_t_candidates, .int w_t_front, .int w_t_end])), (a_t_candidates, .inl (G.2.1, 60, .inl w_t_candidates)), (a_p1, .inr (2, [.ref a_p1_row, .int p1_length, .int p1_shorter, .int p1_longer, .int p1_memory, .int p1_limit, .int p1_seasonDays, .int p1_stopped, .int p1_stopPart, .int p1_stopReason])), (a_p1_row, .inl (G.2.1, 60, .inl p1_row))] := by
  refine WM.ofW (C := RX2) (by decide) rfl (Nat.le_of_ble_eq_true rfl) ?_
  intro p e s m below meth c A hF hr hlk hG hA hP hD ls hl
  have hl : lv_has ls 4 [(0, .ref a_t), (1, .ref a_p1), (2, .int x2)] := hl
  have hx := hF.1
  have hb := hF.2.1
  have hml := hF.2.2.1
  have hown := hF.2.2.2.1
  have hts := hF.2.2.2.2
  have hS : va_S A s.heap s.heap [] := va_S.rf
  unfold f_X2_byRow at hf
  refine lv_aload_n hx hb dX2_byRow_0 rfl (lv_at hl 0 rfl) ?_
  refine lv_iconst (v := 0) hx hb dX2_byRow_1 (by decide) ?_
  refine pf (C := RX2) (T := TX2) (N := 3) (ci := 0) (v := .int 0) (ty := .int) hF hG hP hD hS inX2 tyX2 tyX2_ok nmX2 0 rfl rfl 1 (by decide) q166 rfl rfl (by decide +kernel) rfl rfl (Nat.le_of_ble_eq_true rfl) dX2_byRow_2 (fun H locs hP hD hS => ?_)
  replace hP : va_P G.1 vwCl [(a_t, .inr (0, [.ref a_t_candidates, .int 0, .int t_end])), (a_t_candidates, .inl (G.2.1, 60, .inl t_candidates)), (a_p1, .inr (2, [.ref a_p1_row, .int p1_length, .int p1_shorter, .int p1_longer, .int p1_memory, .int p1_limit, .int p1_seasonDays, .int p1_stopped, .int p1_stopPart, .int p1_stopReason])), (a_p1_row, .inl (G.2.1, 60, .inl p1_row))] H := hP
  replace hD : va_D A [(a_t, .inr (0, [.ref a_t_candidates, .int 0, .int t_end])), (a_t_candidates, .inl (G.2.1, 60, .inl t_candidates)), (a_p1, .inr (2, [.ref a_p1_row, .int p1_length, .int p1_shorter, .int p1_longer, .int p1_memory, .int p1_limit, .int p1_seasonDays, .int p1_stopped, .int p1_stopPart, .int p1_stopReason])), (a_p1_row, .inl (G.2.1, 60, .inl p1_row))] := hD
  refine lv_aload_n hx hb dX2_byRow_5 rfl (lv_at hl 0 rfl) ?_
  refine lv_iconst (v := 0) hx hb dX2_byRow_6 (by decide) ?_
  refine pf (C := RX2) (T := TX2) (N := 3) (ci := 0) (v := .int 0) (ty := .int) hF hG hP hD hS inX2 tyX2 tyX2_ok nmX2 0 rfl rfl 2 (by decide) q167 rfl rfl (by decide +kernel) rfl rfl (Nat.le_of_ble_eq_true rfl) dX2_byRow_7 (fun H locs hP hD hS => ?_)
  replace hP : va_P G.1 vwCl [(a_t, .inr (0, [.ref a_t_candidates, .int 0, .int 0])), (a_t_candidates, .inl (G.2.1, 60, .inl t_candidates)), (a_p1, .inr (2, [.ref a_p1_row, .int p1_length, .int p1_shorter, .int p1_longer, .int p1_memory, .int p1_limit, .int p1_seasonDays, .int p1_stopped, .int p1_stopPart, .int p1_stopReason])), (a_p1_row, .inl (G.2.1, 60, .inl p1_row))] H := hP
  replace hD : va_D A [(a_t, .inr (0, [.ref a_t_candidates, .int 0, .int 0])), (a_t_candidates, .inl (G.2.1, 60, .inl t_candidates)), (a_p1, .inr (2, [.ref a_p1_row, .int p1_length, .int p1_shorter, .int p1_longer, .int p1_memory, .int p1_limit, .int p1_seasonDays, .int p1_stopped, .int p1_stopPart, .int p1_stopReason])), (a_p1_row, .inl (G.2.1, 60, .inl p1_row))] := hD
  refine lv_iconst (v := 0) hx hb dX2_byRow_10 (by decide) ?_
  refine lv_istore_n (lv' := [(3, .int 0), (0, .ref a_t), (1, .ref a_p1), (2, .int x2)]) hx hb dX2_byRow_11 rfl hl (by decide) rfl (fun ls hl => ?_)
  obtain ⟨t_front_5, t_end_6, t_candidates_7, hq, hf⟩ := bd3_some hf
  have K12 : ∀ (H : Heap) (locs : List Loc), va_P G.1 vwCl ([(a_t, .inr (0, [.ref a_t_candidates, .int t_front_5, .int t_end_6])), (a_t_candidates, .inl (G.2.1, 60, .inl t_candidates_7)), (a_p1, .inr (2, [.ref a_p1_row, .int p1_length, .int p1_shorter, .int p1_longer, .int p1_memory, .int p1_limit, .int p1_seasonDays, .int p1_stopped, .int p1_stopPart, .int p1_stopReason])), (a_p1_row, .inl (G.2.1, 60, .inl p1_row))] : va_W) H → va_D A ([(a_t, .inr (0, [.ref a_t_candidates, .int t_front_5, .int t_end_6])), (a_t_candidates, .inl (G.2.1, 60, .inl t_candidates_7)), (a_p1, .inr (2, [.ref a_p1_row, .int p1_length, .int p1_shorter, .int p1_longer, .int p1_memory, .int p1_limit, .int p1_seasonDays, .int p1_stopped, .int p1_stopPart, .int p1_stopReason])), (a_p1_row, .inl (G.2.1, 60, .inl p1_row))] : va_W) → va_S A s.heap H locs → ∀ ls : Array Slot, lv_has ls 4 [(0, .ref a_t), (1, .ref a_p1)] → W p l e RM_X2_byRow s m [.ref a_t, .ref a_p1, .int x2].toArray below meth c H locs 0 0 (MQ below (wrQ (some (.int rr)) G [(a_t, .inr (0, [.ref a_t_candidates, .int w_t_front, .int w_t_end])), (a_t_candidates, .inl (G.2.1, 60, .inl w_t_candidates)), (a_p1, .inr (2, [.ref a_p1_row, .int p1_length, .int p1_shorter, .int p1_longer, .int p1_memory, .int p1_limit, .int p1_seasonDays, .int p1_stopped, .int p1_stopPart, .int p1_stopReason])), (a_p1_row, .inl (G.2.1, 60, .inl p1_row))] A) [.ref a_t, .ref a_p1, .int x2].toArray s 0 0 A) (F0 m 41 ls []) := by
    intro H locs hP hD hS ls hl
    refine lv_aload_n hx hb dX2_byRow_41 rfl (lv_at hl 1 rfl) ?_
    refine lv_aload_n hx hb dX2_byRow_42 rfl (lv_at hl 0 rfl) ?_
    refine lv_aload_n hx hb dX2_byRow_43 rfl (lv_at hl 0 rfl) ?_
    refine gf (C := RX2) (T := TX2) (N := 3) (ci := 0) (v := .int t_front_5) hF hG hP inX2 0 rfl rfl 1 (by decide) q166 rfl rfl dX2_byRow_44 ?_
    obtain ⟨r_12, hq, hf⟩ := bd1_some hf
    refine rdV (As := [.int t_front_5]) (rest := [.ref a_p1]) hF hG hP hl.1 (c_X2_candidate l G a_t t_front_5 t_end_6 a_t_candidates t_candidates_7 t_front_5 r_12 hq) k_X2_candidate q606 [0, 1] rfl ⟨0, 0, _, _, rfl, rfl, rfl⟩ rfl rfl (Nat.le_of_ble_eq_true rfl) ⟨(Nat.le_of_ble_eq_true rfl), (Nat.le_of_ble_eq_true rfl)⟩ ⟨(Nat.zero_le _), (Nat.zero_le _)⟩ dX2_byRow_47 ?_
    obtain ⟨r_13, hq, hf⟩ := bd1_some hf
    refine rdVN (As := [.int r_12]) (rest := []) hF hG hP hl.1 (c_X6_at l G a_p1 p1_length p1_shorter p1_longer p1_memory p1_limit p1_seasonDays p1_stopped p1_stopPart p1_stopReason a_p1_row p1_row r_12 r_13 hq) k_X6_at n355 [2, 3] rfl ⟨2, 2, _, _, rfl, rfl, rfl⟩ rfl rfl (Nat.le_of_ble_eq_true rfl) ⟨(Nat.le_of_ble_eq_true rfl), (Nat.le_of_ble_eq_true rfl)⟩ ⟨(Nat.zero_le _), (Nat.zero_le _)⟩ dX2_byRow_50 ?_
    have hf : (some (r_13, t_front_5, t_end_6, t_candidates_7) : Option (Int32 × Int32 × Int32 × (Nat → Int32))) = some (rr, w_t_front, w_t_end, w_t_candidates) := hf
    cases hf
    exact we_i hF hr hlk hP hD hS dX2_byRow_53 rfl
  clear hf
  have L12 : ∀ (n : Nat) (i3_1 : Int32) (t_front_2 : Int32) (t_end_3 : Int32) (t_candidates_4 : Nat → Int32), l_X2_byRow_12 p1_longer p1_row x2 n i3_1 t_front_2 t_end_3 t_candidates_4 = some (t_front_5, t_end_6, t_candidates_7) → ∀ (H : Heap) (locs : List Loc), va_P G.1 vwCl ([(a_t, .inr (0, [.ref a_t_candidates, .int t_front_2, .int t_end_3])), (a_t_candidates, .inl (G.2.1, 60, .inl t_candidates_4)), (a_p1, .inr (2, [.ref a_p1_row, .int p1_length, .int p1_shorter, .int p1_longer, .int p1_memory, .int p1_limit, .int p1_seasonDays, .int p1_stopped, .int p1_stopPart, .int p1_stopReason])), (a_p1_row, .inl (G.2.1, 60, .inl p1_row))] : va_W) H → va_D A ([(a_t, .inr (0, [.ref a_t_candidates, .int t_front_2, .int t_end_3])), (a_t_candidates, .inl (G.2.1, 60, .inl t_candidates_4)), (a_p1, .inr (2, [.ref a_p1_row, .int p1_length, .int p1_shorter, .int p1_longer, .int p1_memory, .int p1_limit, .int p1_seasonDays, .int p1_stopped, .int p1_stopPart, .int p1_stopReason])), (a_p1_row, .inl (G.2.1, 60, .inl p1_row))] : va_W) → va_S A s.heap H locs → ∀ ls : Array Slot, lv_has ls 4 [(0, .ref a_t), (1, .ref a_p1), (2, .int x2), (3, .int i3_1)] → W p l e RM_X2_byRow s m [.ref a_t, .ref a_p1, .int x2].toArray below meth c H locs 0 0 (MQ below (wrQ (some (.int rr)) G [(a_t, .inr (0, [.ref a_t_candidates, .int w_t_front, .int w_t_end])), (a_t_candidates, .inl (G.2.1, 60, .inl w_t_candidates)), (a_p1, .inr (2, [.ref a_p1_row, .int p1_length, .int p1_shorter, .int p1_longer, .int p1_memory, .int p1_limit, .int p1_seasonDays, .int p1_stopped, .int p1_stopPart, .int p1_stopReason])), (a_p1_row, .inl (G.2.1, 60, .inl p1_row))] A) [.ref a_t, .ref a_p1, .int x2].toArray s 0 0 A) (F0 m 12 ls []) := by
    intro n
    induction n with
    | zero =>
      intro i3_1 t_front_2 t_end_3 t_candidates_4 hf
      exact nomatch (show none = some (t_front_5, t_end_6, t_candidates_7) from hf)
    | succ n ih =>
      intro i3_1 t_front_2 t_end_3 t_candidates_4 hf H locs hP hD hS ls hl
      rw [l_X2_byRow_12] at hf
      refine lv_iload_n hx hb dX2_byRow_12 rfl (lv_at hl 3 rfl) ?_
      refine lv_iload_n hx hb dX2_byRow_13 rfl (lv_at hl 2 rfl) ?_
      refine lv_icmp_gt (tgt := 41) hx hb dX2_byRow_14 (by decide) (fun c0 => ?_) (fun c0 => ?_)
      · have hf := (if_pos c0).symm.trans hf
        have hf : (some (t_front_2, t_end_3, t_candidates_4) : Option (Int32 × Int32 × (Nat → Int32))) = some (t_front_5, t_end_6, t_candidates_7) := hf
        cases hf
        exact K12 _ _ hP hD hS ls (lv_sub hl [0, 1] rfl)
      · have hf := (if_neg c0).symm.trans hf
        refine lv_aload_n hx hb dX2_byRow_17 rfl (lv_at hl 0 rfl) ?_
        refine lv_aload_n hx hb dX2_byRow_18 rfl (lv_at hl 1 rfl) ?_
        refine lv_iload_n hx hb dX2_byRow_19 rfl (lv_at hl 3 rfl) ?_
        obtain ⟨t_end_8, t_candidates_9, hq, hf⟩ := bd2_some hf
        refine wrV (As := [.ref a_p1, .int i3_1]) (rest := []) (wn := [(a_t, .inr (0, [.ref a_t_candidates, .int t_front_2, .int t_end_8])), (a_t_candidates, .inl (G.2.1, 60, .inl t_candidates_9)), (a_p1, .inr (2, [.ref a_p1_row, .int p1_length, .int p1_shorter, .int p1_longer, .int p1_memory, .int p1_limit, .int p1_seasonDays, .int p1_stopped, .int p1_stopPart, .int p1_stopReason])), (a_p1_row, .inl (G.2.1, 60, .inl p1_row))]) hF hG hP hD hS hA hl.1 (c_X2_enter l G a_t t_front_2 t_end_3 a_t_candidates t_candidates_4 a_p1 p1_length p1_shorter p1_longer p1_memory p1_limit p1_seasonDays p1_stopped p1_stopPart p1_stopReason a_p1_row p1_row i3_1 t_end_8 t_candidates_9 hq) k_X2_enter q602 [0, 1, 2, 3] [] [0, 1, 2, 3] rfl rfl rfl rfl ⟨rfl, rfl⟩ (by decide) ⟨0, 0, _, _, rfl, rfl, rfl⟩ rfl rfl (Nat.le_of_ble_eq_true rfl) ⟨(Nat.le_of_ble_eq_true rfl), (Nat.le_of_ble_eq_true rfl)⟩ ⟨(Nat.le_of_ble_eq_true rfl), (Nat.le_of_ble_eq_true rfl)⟩ dX2_byRow_20 (fun H locs hP hD hS => ?_)
        refine lv_aload_n hx hb dX2_byRow_23 rfl (lv_at hl 0 rfl) ?_
        refine lv_iload_n hx hb dX2_byRow_24 rfl (lv_at hl 3 rfl) ?_
        refine lv_aload_n hx hb dX2_byRow_25 rfl (lv_at hl 1 rfl) ?_
        refine gfN (C := RX6) (T := TX6) (N := 10) (ci := 2) (v := .int p1_longer) hF hG hP inX6 2 rfl rfl 3 (by decide) n48 rfl rfl dX2_byRow_26 ?_
        obtain ⟨r_10, hq, hf⟩ := bd1_some hf
        refine rdSN (As := [.int i3_1, .int p1_longer]) (rest := [.ref a_t]) hF hG hP hl.1 (c_X4_firstOf l G i3_1 p1_longer r_10 hq) k_X4_firstOf n593 [] rfl rfl rfl (Nat.le_of_ble_eq_true rfl) ⟨(Nat.le_of_ble_eq_true rfl), (Nat.le_of_ble_eq_true rfl)⟩ ⟨(Nat.zero_le _), (Nat.zero_le _)⟩ dX2_byRow_29 ?_
        obtain ⟨t_front_11, hq, hf⟩ := bd1_some hf
        refine wrV (As := [.int r_10]) (rest := []) (wn := [(a_t, .inr (0, [.ref a_t_candidates, .int t_front_11, .int t_end_8])), (a_t_candidates, .inl (G.2.1, 60, .inl t_candidates_9)), (a_p1, .inr (2, [.ref a_p1_row, .int p1_length, .int p1_shorter, .int p1_longer, .int p1_memory, .int p1_limit, .int p1_seasonDays, .int p1_stopped, .int p1_stopPart, .int p1_stopReason])), (a_p1_row, .inl (G.2.1, 60, .inl p1_row))]) hF hG hP hD hS hA hl.1 (c_X2_leave l G a_t t_front_2 t_end_8 a_t_candidates t_candidates_9 r_10 t_front_11 hq) k_X2_leave q610 [0, 1] [2, 3] [2, 3, 0, 1] rfl rfl rfl rfl ⟨rfl, rfl⟩ (by decide) ⟨0, 0, _, _, rfl, rfl, rfl⟩ rfl rfl (Nat.le_of_ble_eq_true rfl) ⟨(Nat.le_of_ble_eq_true rfl), (Nat.le_of_ble_eq_true rfl)⟩ ⟨(Nat.le_of_ble_eq_true rfl), (Nat.le_of_ble_eq_true rfl)⟩ dX2_byRow_32 (fun H locs hP hD hS => ?_)
        refine lv_iinc (v := (i3_1 + 1)) (lv' := [(3, .int (i3_1 + 1)), (0, .ref a_t), (1, .ref a_p1), (2, .int x2)]) hx hb dX2_byRow_35 hl (k := 3) rfl rfl (by decide) rfl (fun ls hl => ?_)
        refine lv_goto (tgt := 12) hx hb dX2_byRow_38 (by decide) ?_
        exact ih (i3_1 + 1) t_front_11 t_end_8 t_candidates_9 hf _ _ hP hD hS ls (lv_sub hl [1, 2, 3, 0] rfl)
  exact L12 1000 0 0 0 t_candidates hq _ _ hP hD hS ls (lv_sub hl [1, 2, 3, 0] rfl)
def f_X11_highByCandidates (t_now_length : Int32) (t_now_longer : Int32) (t_now_row : Nat → Int32) (t_highs_front : Int32) (t_highs_end : Int32) (t_highs_candidates : Nat → Int32) (x1 : Int32) : Option (Int32 × Int32 × Int32 × (Nat → Int32)) := bd0 (f_X11_requireDay t_now_length x1) (fun _ => bd4 (f_X2_byRow t_highs_front t_highs_end t_highs_candidates t_now_longer t_now_row x1) (fun (r_1 : Int32) (t_highs_front_2 : Int32) (t_highs_end_3 : Int32) (t_highs_candidates_4 : Nat → Int32) => some (r_1, t_highs_front_2, t_highs_end_3, t_highs_candidates_4)))
theorem k_X11_highByCandidates : KV yX11_highByCandidates cX11_highByCandidates 2 (some .int) 1 := ⟨qc_yX11_highByCandidates, q1, ⟨by decide +kernel, by decide +kernel, by decide +kernel⟩, qi_yX11_highByCandidates, qs_yX11_highByCandidates⟩
abbrev RM_X11_highByCandidates : Room := { frames := 3, cells := 0, slots := 0, locals := 66 }
set_option maxHeartbeats 4000000 in
set_option maxRecDepth 100000 in
theorem c_X11_highByCandidates (l : Launch) (G : GP) (a_t : Nat) (a_t_trial : Nat) (a_t_snapshot : Nat) (t_snapshotTaken : Int32) (a_t_history : Nat) (a_t_text : Nat) (a_t_works : Nat) (a_t_trade : Nat) (a_t_now : Nat) (t_now_length : Int32) (t_now_shorter : Int32) (t_now_longer : Int32) (t_now_memory : Int32) (t_now_limit : Int32) (t_now_seasonDays : Int32) (t_now_stopped : Int32) (t_now_stopPart : Int32) (t_now_stopReason : Int32) (a_t_now_row : Nat) (t_now_row : Nat → Int32) (a_t_highs : Nat) (t_highs_front : Int32) (t_highs_end : Int32) (a_t_highs_candidates : Nat) (t_highs_candidates : Nat → Int32) (x1 : Int32) (rr : Int32) (w_t_highs_front : Int32) (w_t_highs_end : Int32) (w_t_highs_candidates : Nat → Int32) (hf : f_X11_highByCandidates t_now_length t_now_longer t_now_row t_highs_front t_highs_end t_highs_candidates x1 = some (rr, w_t_highs_front, w_t_highs_end, w_t_highs_candidates)) : WM l yX11_highByCandidates cX11_highByCandidates 2 (some .int) 3 66 G [.ref a_t, .int x1] [(a_t, .inr (7, [.ref a_t_now, .ref a_t_trial, .ref a_t_snapshot, .int t_snapshotTaken, .ref a_t_history, .ref a_t_text, .ref a_t_works, .ref a_t_highs, .ref a_t_trade])), (a_t_now, .inr (2, [.ref a_t_now_row, .int t_now_length, .int t_now_shorter, .int t_now_longer, .int t_now_memory, .int t_now_limit, .int t_now_seasonDays, .int t_now_stopped, .int t_now_stopPart, .int t_now_stopReason])), (a_t_now_row, .inl (G.2.1, 60, .inl t_now_row)), (a_t_highs, .inr (0, [.ref a_t_highs_candidates, .int t_highs_front, .int t_highs_end])), (a_t_highs_candidates, .inl (G.2.1, 60, .inl t_highs_candidates))] (some (.int rr)) [(a_t, .inr (7, [.ref a_t_now, .ref a_t_trial, .ref a_t_snapshot, .int t_snapshotTaken, .ref a_t_history, .ref a_t_text, .ref a_t_works, .ref a_t_highs, .ref a_t_trade])), (a_t_now, .inr (2, [.ref a_t_now_row, .int t_now_length, .int t_now_shorter, .int t_now_longer, .int t_now_memory, .int t_now_limit, .int t_now_seasonDays, .int t_now_stopped, .int t_now_stopPart, .int t_now_stopReason])), (a_t_now_row, .inl (G.2.1, 60, .inl t_now_row)), (a_t_highs, .inr (0, [.ref a_t_highs_candidates, .int w_t_highs_front, .int w_t_highs_end])), (a_t_highs_candidates, .inl (G.2.1, 60, .inl w_t_highs_candidates))] := by
  refine WM.ofW (C := RX11) (by decide) rfl (Nat.le_of_ble_eq_true rfl) ?_
  intro p e s m below meth c A hF hr hlk hG hA hP hD ls hl
  have hl : lv_has ls 2 [(0, .ref a_t), (1, .int x1)] := hl
  have hx := hF.1
  have hb := hF.2.1
  have hml := hF.2.2.1
  have hown := hF.2.2.2.1
  have hts := hF.2.2.2.2
  have hS : va_S A s.heap s.heap [] := va_S.rf
  unfold f_X11_highByCandidates at hf
  refine lv_aload_n hx hb dX11_highByCandidates_0 rfl (lv_at hl 0 rfl) ?_
  refine lv_iload_n hx hb dX11_highByCandidates_1 rfl (lv_at hl 1 rfl) ?_
  obtain ⟨hq, hf⟩ := bd0_some hf
  refine rdV (As := [.int x1]) (rest := []) hF hG hP hl.1 (c_X11_requireDay l G a_t a_t_trial a_t_snapshot t_snapshotTaken a_t_history a_t_text a_t_works a_t_highs a_t_trade a_t_now a_t_now_row t_now_length t_now_shorter t_now_longer t_now_memory t_now_limit t_now_seasonDays t_now_stopped t_now_stopPart t_now_stopReason x1 hq) k_X11_requireDay q379 [0, 1] rfl ⟨0, 7, _, _, rfl, rfl, rfl⟩ rfl rfl (Nat.le_of_ble_eq_true rfl) ⟨(Nat.le_of_ble_eq_true rfl), (Nat.le_of_ble_eq_true rfl)⟩ ⟨(Nat.zero_le _), (Nat.zero_le _)⟩ dX11_highByCandidates_2 ?_
  refine lv_aload_n hx hb dX11_highByCandidates_5 rfl (lv_at hl 0 rfl) ?_
  refine gf (C := RX11) (T := TX11) (N := 9) (ci := 7) (v := .ref a_t_highs) hF hG hP inX11 0 rfl rfl 7 (by decide) q197 rfl rfl dX11_highByCandidates_6 ?_
  refine lv_aload_n hx hb dX11_highByCandidates_9 rfl (lv_at hl 0 rfl) ?_
  refine gf (C := RX11) (T := TX11) (N := 9) (ci := 7) (v := .ref a_t_now) hF hG hP inX11 0 rfl rfl 0 (by decide) q190 rfl rfl dX11_highByCandidates_10 ?_
  refine lv_iload_n hx hb dX11_highByCandidates_13 rfl (lv_at hl 1 rfl) ?_
  obtain ⟨r_1, t_highs_front_2, t_highs_end_3, t_highs_candidates_4, hq, hf⟩ := bd4_some hf
  refine wrVN (As := [.ref a_t_now, .int x1]) (rest := []) (wn := [(a_t, .inr (7, [.ref a_t_now, .ref a_t_trial, .ref a_t_snapshot, .int t_snapshotTaken, .ref a_t_history, .ref a_t_text, .ref a_t_works, .ref a_t_highs, .ref a_t_trade])), (a_t_now, .inr (2, [.ref a_t_now_row, .int t_now_length, .int t_now_shorter, .int t_now_longer, .int t_now_memory, .int t_now_limit, .int t_now_seasonDays, .int t_now_stopped, .int t_now_stopPart, .int t_now_stopReason])), (a_t_now_row, .inl (G.2.1, 60, .inl t_now_row)), (a_t_highs, .inr (0, [.ref a_t_highs_candidates, .int t_highs_front_2, .int t_highs_end_3])), (a_t_highs_candidates, .inl (G.2.1, 60, .inl t_highs_candidates_4))]) hF hG hP hD hS hA hl.1 (c_X2_byRow l G a_t_highs t_highs_front t_highs_end a_t_highs_candidates t_highs_candidates a_t_now t_now_length t_now_shorter t_now_longer t_now_memory t_now_limit t_now_seasonDays t_now_stopped t_now_stopPart t_now_stopReason a_t_now_row t_now_row x1 r_1 t_highs_front_2 t_highs_end_3 t_highs_candidates_4 hq) k_X2_byRow n598 [3, 4, 1, 2] [0] [0, 3, 4, 1, 2] rfl rfl rfl rfl ⟨rfl, rfl⟩ (by decide) ⟨3, 0, _, _, rfl, rfl, rfl⟩ rfl rfl (Nat.le_of_ble_eq_true rfl) ⟨(Nat.le_of_ble_eq_true rfl), (Nat.le_of_ble_eq_true rfl)⟩ ⟨(Nat.le_of_ble_eq_true rfl), (Nat.le_of_ble_eq_true rfl)⟩ dX11_highByCandidates_14 (fun H locs hP hD hS => ?_)
  have hf : (some (r_1, t_highs_front_2, t_highs_end_3, t_highs_candidates_4) : Option (Int32 × Int32 × Int32 × (Nat → Int32))) = some (rr, w_t_highs_front, w_t_highs_end, w_t_highs_candidates) := hf
  cases hf
  exact we_i hF hr hlk hP hD hS dX11_highByCandidates_17 rfl
def f_X9_start (t_coins : Int64) (t_held : Int32) : Option (Int64 × Int32) := some (10000, 0)
theorem k_X9_start : KV yX9_start cX9_start 1 none 0 := ⟨qc_yX9_start, q8, ⟨by decide +kernel, by decide +kernel, by decide +kernel⟩, qi_yX9_start, qs_yX9_start⟩
abbrev RM_X9_start : Room := { frames := 0, cells := 0, slots := 0, locals := 0 }
set_option maxHeartbeats 4000000 in
set_option maxRecDepth 100000 in
theorem c_X9_start (l : Launch) (G : GP) (a_t : Nat) (t_coins : Int64) (t_held : Int32) (w_t_coins : Int64) (w_t_held : Int32) (hf : f_X9_start t_coins t_held = some (w_t_coins, w_t_held)) : WM l yX9_start cX9_start 1 none 0 0 G [.ref a_t] [(a_t, .inr (5, [.long t_coins, .int t_held]))] none [(a_t, .inr (5, [.long w_t_coins, .int w_t_held]))] := by
  refine WM.ofW (C := RX9) (by decide) rfl (Nat.le_of_ble_eq_true rfl) ?_
  intro p e s m below meth c A hF hr hlk hG hA hP hD ls hl
  have hl : lv_has ls 1 [(0, .ref a_t)] := hl
  have hx := hF.1
  have hb := hF.2.1
  have hml := hF.2.2.1
  have hown := hF.2.2.2.1
  have hts := hF.2.2.2.2
  have hS : va_S A s.heap s.heap [] := va_S.rf
  unfold f_X9_start at hf
  refine lv_aload_n hx hb dX9_start_0 rfl (lv_at hl 0 rfl) ?_
  refine lv_ldc2 (v := 10000) hx hb hown (hts _ (List.mem_cons_of_mem _ q181)) dX9_start_1 ?_
  refine pf (C := RX9) (T := TX9) (N := 2) (ci := 5) (v := .long 10000) (ty := .long) hF hG hP hD hS inX9 tyX9 tyX9_ok nmX9 0 rfl rfl 0 (by decide) q182 rfl rfl (by decide +kernel) rfl rfl (Nat.le_of_ble_eq_true rfl) dX9_start_4 (fun H locs hP hD hS => ?_)
  replace hP : va_P G.1 vwCl [(a_t, .inr (5, [.long 10000, .int t_held]))] H := hP
  replace hD : va_D A [(a_t, .inr (5, [.long 10000, .int t_held]))] := hD
  refine lv_aload_n hx hb dX9_start_7 rfl (lv_at hl 0 rfl) ?_
  refine lv_iconst (v := 0) hx hb dX9_start_8 (by decide) ?_
  refine pf (C := RX9) (T := TX9) (N := 2) (ci := 5) (v := .int 0) (ty := .int) hF hG hP hD hS inX9 tyX9 tyX9_ok nmX9 0 rfl rfl 1 (by decide) q183 rfl rfl (by decide +kernel) rfl rfl (Nat.le_of_ble_eq_true rfl) dX9_start_9 (fun H locs hP hD hS => ?_)
  replace hP : va_P G.1 vwCl [(a_t, .inr (5, [.long 10000, .int 0]))] H := hP
  replace hD : va_D A [(a_t, .inr (5, [.long 10000, .int 0]))] := hD
  have hf : (some (10000, 0) : Option (Int64 × Int32)) = some (w_t_coins, w_t_held) := hf
  cases hf
  exact we_v hF hr hlk hP hD hS dX9_start_12 rfl
def f_X9_pass (t_coins : Int64) (t_held : Int32) (p1_shorter : Int32) (p1_longer : Int32) (p1_row : Nat → Int32) (x2 : Int32) : Option (Int64 × Int32) := bd1 (f_X9_crossingAt p1_shorter p1_longer p1_row x2) (fun (r_1 : Int32) => bd1 (f_X6_at p1_row x2) (fun (r_2 : Int32) => (if r_1 ≤ 0 then (if 0 ≤ r_1 then some (t_coins, t_held) else some ((t_coins + ((Int32.toInt64 t_held) * (Int32.toInt64 r_2))), 0)) else bd1 (f_X11_divided t_coins (Int32.toInt64 r_2)) (fun (r_3 : Int64) => some ((t_coins - ((if (Int32.toInt64 (999 - t_held)) < r_3 then (Int32.toInt64 (999 - t_held)) else r_3) * (Int32.toInt64 r_2))), (t_held + (Int64.toInt32 (if (Int32.toInt64 (999 - t_held)) < r_3 then (Int32.toInt64 (999 - t_held)) else r_3))))))))
theorem k_X9_pass : KV yX9_pass cX9_pass 8 none 2 := ⟨qc_yX9_pass, q8, ⟨by decide +kernel, by decide +kernel, by decide +kernel⟩, qi_yX9_pass, qs_yX9_pass⟩
abbrev RM_X9_pass : Room := { frames := 4, cells := 0, slots := 0, locals := 94 }
set_option maxHeartbeats 4000000 in
set_option maxRecDepth 100000 in
theorem c_X9_pass (l : Launch) (G : GP) (a_t : Nat) (t_coins : Int64) (t_held : Int32) (a_p1 : Nat) (p1_length : Int32) (p1_shorter : Int32) (p1_longer : Int32) (p1_memory : Int32) (p1_limit : Int32) (p1_seasonDays : Int32) (p1_stopped : Int32) (p1_stopPart : Int32) (p1_stopReason : Int32) (a_p1_row : Nat) (p1_row : Nat → Int32) (x2 : Int32) (w_t_coins : Int64) (w_t_held : Int32) (hf : f_X9_pass t_coins t_held p1_shorter p1_longer p1_row x2 = some (w_t_coins, w_t_held)) : WM l yX9_pass cX9_pass 8 none 4 94 G [.ref a_t, .ref a_p1, .int x2] [(a_t, .inr (5, [.long t_coins, .int t_held])), (a_p1, .inr (2, [.ref a_p1_row, .int p1_length, .int p1_shorter, .int p1_longer, .int p1_memory, .int p1_limit, .int p1_seasonDays, .int p1_stopped, .int p1_stopPart, .int p1_stopReason])), (a_p1_row, .inl (G.2.1, 60, .inl p1_row))] none [(a_t, .inr (5, [.long w_t_coins, .int w_t_held])), (a_p1, .inr (2, [.ref a_p1_row, .int p1_length, .int p1_shorter, .int p1_longer, .int p1_memory, .int p1_limit, .int p1_seasonDays, .int p1_stopped, .int p1_stopPart, .int p1_stopReason])), (a_p1_row, .inl (G.2.1, 60, .inl p1_row))] := by
  refine WM.ofW (C := RX9) (by decide) rfl (Nat.le_of_ble_eq_true rfl) ?_
  intro p e s m below meth c A hF hr hlk hG hA hP hD ls hl
  have hl : lv_has ls 8 [(0, .ref a_t), (1, .ref a_p1), (2, .int x2)] := hl
  have hx := hF.1
  have hb := hF.2.1
  have hml := hF.2.2.1
  have hown := hF.2.2.2.1
  have hts := hF.2.2.2.2
  have hS : va_S A s.heap s.heap [] := va_S.rf
  unfold f_X9_pass at hf
  refine lv_aload_n hx hb dX9_pass_0 rfl (lv_at hl 1 rfl) ?_
  refine lv_iload_n hx hb dX9_pass_1 rfl (lv_at hl 2 rfl) ?_
  obtain ⟨r_1, hq, hf⟩ := bd1_some hf
  refine rdS (As := [.ref a_p1, .int x2]) (rest := []) hF hG hP hl.1 (c_X9_crossingAt l G a_p1 p1_length p1_shorter p1_longer p1_memory p1_limit p1_seasonDays p1_stopped p1_stopPart p1_stopReason a_p1_row p1_row x2 r_1 hq) k_X9_crossingAt q630 [1, 2] rfl rfl rfl (Nat.le_of_ble_eq_true rfl) ⟨(Nat.le_of_ble_eq_true rfl), (Nat.le_of_ble_eq_true rfl)⟩ ⟨(Nat.zero_le _), (Nat.zero_le _)⟩ dX9_pass_2 ?_
  refine lv_istore_n (lv' := [(3, .int r_1), (0, .ref a_t), (1, .ref a_p1), (2, .int x2)]) hx hb dX9_pass_5 rfl hl (by decide) rfl (fun ls hl => ?_)
  refine lv_aload_n hx hb dX9_pass_6 rfl (lv_at hl 2 rfl) ?_
  refine lv_iload_n hx hb dX9_pass_7 rfl (lv_at hl 3 rfl) ?_
  obtain ⟨r_2, hq, hf⟩ := bd1_some hf
  refine rdVN (As := [.int x2]) (rest := []) hF hG hP hl.1 (c_X6_at l G a_p1 p1_length p1_shorter p1_longer p1_memory p1_limit p1_seasonDays p1_stopped p1_stopPart p1_stopReason a_p1_row p1_row x2 r_2 hq) k_X6_at n631 [1, 2] rfl ⟨1, 2, _, _, rfl, rfl, rfl⟩ rfl rfl (Nat.le_of_ble_eq_true rfl) ⟨(Nat.le_of_ble_eq_true rfl), (Nat.le_of_ble_eq_true rfl)⟩ ⟨(Nat.zero_le _), (Nat.zero_le _)⟩ dX9_pass_8 ?_
  refine lv_i2l (v := (Int32.toInt64 r_2)) hx hb dX9_pass_11 rfl ?_
  refine lv_lstore (lv' := [(4, .long (Int32.toInt64 r_2)), (3, .int r_1), (0, .ref a_t), (1, .ref a_p1), (2, .int x2)]) hx hb dX9_pass_12 hl (by decide) rfl (fun ls hl => ?_)
  refine lv_iload_n hx hb dX9_pass_14 rfl (lv_at hl 1 rfl) ?_
  refine lv_if_le (tgt := 70) hx hb dX9_pass_15 (by decide) (fun c0 => ?_) (fun c0 => ?_)
  · have hf := (if_pos c0).symm.trans hf
    refine lv_iload_n hx hb dX9_pass_70 rfl (lv_at hl 1 rfl) ?_
    refine lv_if_ge (tgt := 96) hx hb dX9_pass_71 (by decide) (fun c0 => ?_) (fun c0 => ?_)
    · have hf := (if_pos c0).symm.trans hf
      have hf : (some (t_coins, t_held) : Option (Int64 × Int32)) = some (w_t_coins, w_t_held) := hf
      cases hf
      exact we_v hF hr hlk hP hD hS dX9_pass_96 rfl
    · have hf := (if_neg c0).symm.trans hf
      refine lv_aload_n hx hb dX9_pass_74 rfl (lv_at hl 2 rfl) ?_
      refine lv_dup hx hb dX9_pass_75 rfl ?_
      refine gf (C := RX9) (T := TX9) (N := 2) (ci := 5) (v := .long t_coins) hF hG hP inX9 0 rfl rfl 0 (by decide) q182 rfl rfl dX9_pass_76 ?_
      refine lv_aload_n hx hb dX9_pass_79 rfl (lv_at hl 2 rfl) ?_
      refine gf (C := RX9) (T := TX9) (N := 2) (ci := 5) (v := .int t_held) hF hG hP inX9 0 rfl rfl 1 (by decide) q183 rfl rfl dX9_pass_80 ?_
      refine lv_i2l (v := (Int32.toInt64 t_held)) hx hb dX9_pass_83 rfl ?_
      refine lv_lload hx hb dX9_pass_84 (lv_at hl 0 rfl) ?_
      refine lv_lmul hx hb dX9_pass_86 ?_
      refine lv_ladd hx hb dX9_pass_87 ?_
      refine pf (C := RX9) (T := TX9) (N := 2) (ci := 5) (v := .long (t_coins + ((Int32.toInt64 t_held) * (Int32.toInt64 r_2)))) (ty := .long) hF hG hP hD hS inX9 tyX9 tyX9_ok nmX9 0 rfl rfl 0 (by decide) q182 rfl rfl (by decide +kernel) rfl rfl (Nat.le_of_ble_eq_true rfl) dX9_pass_88 (fun H locs hP hD hS => ?_)
      replace hP : va_P G.1 vwCl [(a_t, .inr (5, [.long (t_coins + ((Int32.toInt64 t_held) * (Int32.toInt64 r_2))), .int t_held])), (a_p1, .inr (2, [.ref a_p1_row, .int p1_length, .int p1_shorter, .int p1_longer, .int p1_memory, .int p1_limit, .int p1_seasonDays, .int p1_stopped, .int p1_stopPart, .int p1_stopReason])), (a_p1_row, .inl (G.2.1, 60, .inl p1_row))] H := hP
      replace hD : va_D A [(a_t, .inr (5, [.long (t_coins + ((Int32.toInt64 t_held) * (Int32.toInt64 r_2))), .int t_held])), (a_p1, .inr (2, [.ref a_p1_row, .int p1_length, .int p1_shorter, .int p1_longer, .int p1_memory, .int p1_limit, .int p1_seasonDays, .int p1_stopped, .int p1_stopPart, .int p1_stopReason])), (a_p1_row, .inl (G.2.1, 60, .inl p1_row))] := hD
      refine lv_aload_n hx hb dX9_pass_91 rfl (lv_at hl 2 rfl) ?_
      refine lv_iconst (v := 0) hx hb dX9_pass_92 (by decide) ?_
      refine pf (C := RX9) (T := TX9) (N := 2) (ci := 5) (v := .int 0) (ty := .int) hF hG hP hD hS inX9 tyX9 tyX9_ok nmX9 0 rfl rfl 1 (by decide) q183 rfl rfl (by decide +kernel) rfl rfl (Nat.le_of_ble_eq_true rfl) dX9_pass_93 (fun H locs hP hD hS => ?_)
      replace hP : va_P G.1 vwCl [(a_t, .inr (5, [.long (t_coins + ((Int32.toInt64 t_held) * (Int32.toInt64 r_2))), .int 0])), (a_p1, .inr (2, [.ref a_p1_row, .int p1_length, .int p1_shorter, .int p1_longer, .int p1_memory, .int p1_limit, .int p1_seasonDays, .int p1_stopped, .int p1_stopPart, .int p1_stopReason])), (a_p1_row, .inl (G.2.1, 60, .inl p1_row))] H := hP
      replace hD : va_D A [(a_t, .inr (5, [.long (t_coins + ((Int32.toInt64 t_held) * (Int32.toInt64 r_2))), .int 0])), (a_p1, .inr (2, [.ref a_p1_row, .int p1_length, .int p1_shorter, .int p1_longer, .int p1_memory, .int p1_limit, .int p1_seasonDays, .int p1_stopped, .int p1_stopPart, .int p1_stopReason])), (a_p1_row, .inl (G.2.1, 60, .inl p1_row))] := hD
      have hf : (some ((t_coins + ((Int32.toInt64 t_held) * (Int32.toInt64 r_2))), 0) : Option (Int64 × Int32)) = some (w_t_coins, w_t_held) := hf
      cases hf
      exact we_v hF hr hlk hP hD hS dX9_pass_96 rfl
  · have hf := (if_neg c0).symm.trans hf
    refine lv_aload_n hx hb dX9_pass_18 rfl (lv_at hl 2 rfl) ?_
    refine gf (C := RX9) (T := TX9) (N := 2) (ci := 5) (v := .long t_coins) hF hG hP inX9 0 rfl rfl 0 (by decide) q182 rfl rfl dX9_pass_19 ?_
    refine lv_lload hx hb dX9_pass_22 (lv_at hl 0 rfl) ?_
    obtain ⟨r_3, hq, hf⟩ := bd1_some hf
    refine rdSN (As := [.long t_coins, .long (Int32.toInt64 r_2)]) (rest := []) hF hG hP hl.1 (c_X11_divided l G t_coins (Int32.toInt64 r_2) r_3 hq) k_X11_divided n632 [] rfl rfl rfl (Nat.le_of_ble_eq_true rfl) ⟨(Nat.le_of_ble_eq_true rfl), (Nat.le_of_ble_eq_true rfl)⟩ ⟨(Nat.zero_le _), (Nat.zero_le _)⟩ dX9_pass_24 ?_
    refine lv_sipush (v := 999) hx hb dX9_pass_27 (by decide) ?_
    refine lv_aload_n hx hb dX9_pass_30 rfl (lv_at hl 2 rfl) ?_
    refine gf (C := RX9) (T := TX9) (N := 2) (ci := 5) (v := .int t_held) hF hG hP inX9 0 rfl rfl 1 (by decide) q183 rfl rfl dX9_pass_31 ?_
    refine lv_isub hx hb dX9_pass_34 ?_
    refine lv_i2l (v := (Int32.toInt64 (999 - t_held))) hx hb dX9_pass_35 rfl ?_
    refine va_mmin_long hx hb (hml.trans hl.1.symm) hown (hts _ (List.mem_cons_of_mem _ q633)) (hts _ (List.mem_cons_of_mem _ qt_yJ9_min_f86c9)) (hts _ (List.mem_cons_of_mem _ q11)) (hts _ (List.mem_cons_of_mem _ qc_yJ9_min_f86c9)) (Nat.le_of_ble_eq_true rfl) (Nat.le_of_ble_eq_true rfl) (Nat.zero_le _) (Nat.zero_le _) dX9_pass_36 ?_
    refine lv_lstore (lv' := [(6, .long (if (Int32.toInt64 (999 - t_held)) < r_3 then (Int32.toInt64 (999 - t_held)) else r_3)), (4, .long (Int32.toInt64 r_2)), (3, .int r_1), (0, .ref a_t), (1, .ref a_p1), (2, .int x2)]) hx hb dX9_pass_39 hl (by decide) rfl (fun ls hl => ?_)
    refine lv_aload_n hx hb dX9_pass_41 rfl (lv_at hl 3 rfl) ?_
    refine lv_dup hx hb dX9_pass_42 rfl ?_
    refine gf (C := RX9) (T := TX9) (N := 2) (ci := 5) (v := .long t_coins) hF hG hP inX9 0 rfl rfl 0 (by decide) q182 rfl rfl dX9_pass_43 ?_
    refine lv_lload hx hb dX9_pass_46 (lv_at hl 0 rfl) ?_
    refine lv_lload hx hb dX9_pass_48 (lv_at hl 1 rfl) ?_
    refine lv_lmul hx hb dX9_pass_50 ?_
    refine lv_lsub hx hb dX9_pass_51 ?_
    refine pf (C := RX9) (T := TX9) (N := 2) (ci := 5) (v := .long (t_coins - ((if (Int32.toInt64 (999 - t_held)) < r_3 then (Int32.toInt64 (999 - t_held)) else r_3) * (Int32.toInt64 r_2)))) (ty := .long) hF hG hP hD hS inX9 tyX9 tyX9_ok nmX9 0 rfl rfl 0 (by decide) q182 rfl rfl (by decide +kernel) rfl rfl (Nat.le_of_ble_eq_true rfl) dX9_pass_52 (fun H locs hP hD hS => ?_)
    replace hP : va_P G.1 vwCl [(a_t, .inr (5, [.long (t_coins - ((if (Int32.toInt64 (999 - t_held)) < r_3 then (Int32.toInt64 (999 - t_held)) else r_3) * (Int32.toInt64 r_2))), .int t_held])), (a_p1, .inr (2, [.ref a_p1_row, .int p1_length, .int p1_shorter, .int p1_longer, .int p1_memory, .int p1_limit, .int p1_seasonDays, .int p1_stopped, .int p1_stopPart, .int p1_stopReason])), (a_p1_row, .inl (G.2.1, 60, .inl p1_row))] H := hP
    replace hD : va_D A [(a_t, .inr (5, [.long (t_coins - ((if (Int32.toInt64 (999 - t_held)) < r_3 then (Int32.toInt64 (999 - t_held)) else r_3) * (Int32.toInt64 r_2))), .int t_held])), (a_p1, .inr (2, [.ref a_p1_row, .int p1_length, .int p1_shorter, .int p1_longer, .int p1_memory, .int p1_limit, .int p1_seasonDays, .int p1_stopped, .int p1_stopPart, .int p1_stopReason])), (a_p1_row, .inl (G.2.1, 60, .inl p1_row))] := hD
    refine lv_aload_n hx hb dX9_pass_55 rfl (lv_at hl 3 rfl) ?_
    refine lv_dup hx hb dX9_pass_56 rfl ?_
    refine gf (C := RX9) (T := TX9) (N := 2) (ci := 5) (v := .int t_held) hF hG hP inX9 0 rfl rfl 1 (by decide) q183 rfl rfl dX9_pass_57 ?_
    refine lv_lload hx hb dX9_pass_60 (lv_at hl 0 rfl) ?_
    refine lv_l2i (v := (Int64.toInt32 (if (Int32.toInt64 (999 - t_held)) < r_3 then (Int32.toInt64 (999 - t_held)) else r_3))) hx hb dX9_pass_62 rfl ?_
    refine lv_iadd hx hb dX9_pass_63 ?_
    refine pf (C := RX9) (T := TX9) (N := 2) (ci := 5) (v := .int (t_held + (Int64.toInt32 (if (Int32.toInt64 (999 - t_held)) < r_3 then (Int32.toInt64 (999 - t_held)) else r_3)))) (ty := .int) hF hG hP hD hS inX9 tyX9 tyX9_ok nmX9 0 rfl rfl 1 (by decide) q183 rfl rfl (by decide +kernel) rfl rfl (Nat.le_of_ble_eq_true rfl) dX9_pass_64 (fun H locs hP hD hS => ?_)
    replace hP : va_P G.1 vwCl [(a_t, .inr (5, [.long (t_coins - ((if (Int32.toInt64 (999 - t_held)) < r_3 then (Int32.toInt64 (999 - t_held)) else r_3) * (Int32.toInt64 r_2))), .int (t_held + (Int64.toInt32 (if (Int32.toInt64 (999 - t_held)) < r_3 then (Int32.toInt64 (999 - t_held)) else r_3)))])), (a_p1, .inr (2, [.ref a_p1_row, .int p1_length, .int p1_shorter, .int p1_longer, .int p1_memory, .int p1_limit, .int p1_seasonDays, .int p1_stopped, .int p1_stopPart, .int p1_stopReason])), (a_p1_row, .inl (G.2.1, 60, .inl p1_row))] H := hP
    replace hD : va_D A [(a_t, .inr (5, [.long (t_coins - ((if (Int32.toInt64 (999 - t_held)) < r_3 then (Int32.toInt64 (999 - t_held)) else r_3) * (Int32.toInt64 r_2))), .int (t_held + (Int64.toInt32 (if (Int32.toInt64 (999 - t_held)) < r_3 then (Int32.toInt64 (999 - t_held)) else r_3)))])), (a_p1, .inr (2, [.ref a_p1_row, .int p1_length, .int p1_shorter, .int p1_longer, .int p1_memory, .int p1_limit, .int p1_seasonDays, .int p1_stopped, .int p1_stopPart, .int p1_stopReason])), (a_p1_row, .inl (G.2.1, 60, .inl p1_row))] := hD
    refine lv_goto (tgt := 96) hx hb dX9_pass_67 (by decide) ?_
    have hf : (some ((t_coins - ((if (Int32.toInt64 (999 - t_held)) < r_3 then (Int32.toInt64 (999 - t_held)) else r_3) * (Int32.toInt64 r_2))), (t_held + (Int64.toInt32 (if (Int32.toInt64 (999 - t_held)) < r_3 then (Int32.toInt64 (999 - t_held)) else r_3)))) : Option (Int64 × Int32)) = some (w_t_coins, w_t_held) := hf
    cases hf
    exact we_v hF hr hlk hP hD hS dX9_pass_96 rfl
def l_X9_runTo_6 (p1_shorter : Int32) (p1_longer : Int32) (p1_row : Nat → Int32) (x2 : Int32) : Nat → Int32 → Int64 → Int32 → Option (Int64 × Int32)
  | 0, _, _, _ => none
  | n + 1, i3_3, t_coins_4, t_held_5 => (if x2 < i3_3 then some (t_coins_4, t_held_5) else bd2 (f_X9_pass t_coins_4 t_held_5 p1_shorter p1_longer p1_row i3_3) (fun (t_coins_8 : Int64) (t_held_9 : Int32) => l_X9_runTo_6 p1_shorter p1_longer p1_row x2 n (i3_3 + 1) t_coins_8 t_held_9))
def f_X9_runTo (t_coins : Int64) (t_held : Int32) (p1_shorter : Int32) (p1_longer : Int32) (p1_row : Nat → Int32) (x2 : Int32) : Option (Int64 × Int32) := bd2 (f_X9_start t_coins t_held) (fun (t_coins_1 : Int64) (t_held_2 : Int32) => bd2 (l_X9_runTo_6 p1_shorter p1_longer p1_row x2 1000 0 t_coins_1 t_held_2) (fun (t_coins_6 : Int64) (t_held_7 : Int32) => some (t_coins_6, t_held_7)))
theorem k_X9_runTo : KV yX9_runTo cX9_runTo 4 none 2 := ⟨qc_yX9_runTo, q8, ⟨by decide +kernel, by decide +kernel, by decide +kernel⟩, qi_yX9_runTo, qs_yX9_runTo⟩
abbrev RM_X9_runTo : Room := { frames := 5, cells := 0, slots := 0, locals := 121 }
set_option maxHeartbeats 4000000 in
set_option maxRecDepth 100000 in
theorem c_X9_runTo (l : Launch) (G : GP) (a_t : Nat) (t_coins : Int64) (t_held : Int32) (a_p1 : Nat) (p1_length : Int32) (p1_shorter : Int32) (p1_longer : Int32) (p1_memory : Int32) (p1_limit : Int32) (p1_seasonDays : Int32) (p1_stopped : Int32) (p1_stopPart : Int32) (p1_stopReason : Int32) (a_p1_row : Nat) (p1_row : Nat → Int32) (x2 : Int32) (w_t_coins : Int64) (w_t_held : Int32) (hf : f_X9_runTo t_coins t_held p1_shorter p1_longer p1_row x2 = some (w_t_coins, w_t_held)) : WM l yX9_runTo cX9_runTo 4 none 5 121 G [.ref a_t, .ref a_p1, .int x2] [(a_t, .inr (5, [.long t_coins, .int t_held])), (a_p1, .inr (2, [.ref a_p1_row, .int p1_length, .int p1_shorter, .int p1_longer, .int p1_memory, .int p1_limit, .int p1_seasonDays, .int p1_stopped, .int p1_stopPart, .int p1_stopReason])), (a_p1_row, .inl (G.2.1, 60, .inl p1_row))] none [(a_t, .inr (5, [.long w_t_coins, .int w_t_held])), (a_p1, .inr (2, [.ref a_p1_row, .int p1_length, .int p1_shorter, .int p1_longer, .int p1_memory, .int p1_limit, .int p1_seasonDays, .int p1_stopped, .int p1_stopPart, .int p1_stopReason])), (a_p1_row, .inl (G.2.1, 60, .inl p1_row))] := by
  refine WM.ofW (C := RX9) (by decide) rfl (Nat.le_of_ble_eq_true rfl) ?_
  intro p e s m below meth c A hF hr hlk hG hA hP hD ls hl
  have hl : lv_has ls 4 [(0, .ref a_t), (1, .ref a_p1), (2, .int x2)] := hl
  have hx := hF.1
  have hb := hF.2.1
  have hml := hF.2.2.1
  have hown := hF.2.2.2.1
  have hts := hF.2.2.2.2
  have hS : va_S A s.heap s.heap [] := va_S.rf
  unfold f_X9_runTo at hf
  refine lv_aload_n hx hb dX9_runTo_0 rfl (lv_at hl 0 rfl) ?_
  obtain ⟨t_coins_1, t_held_2, hq, hf⟩ := bd2_some hf
  refine wrV (As := []) (rest := []) (wn := [(a_t, .inr (5, [.long t_coins_1, .int t_held_2])), (a_p1, .inr (2, [.ref a_p1_row, .int p1_length, .int p1_shorter, .int p1_longer, .int p1_memory, .int p1_limit, .int p1_seasonDays, .int p1_stopped, .int p1_stopPart, .int p1_stopReason])), (a_p1_row, .inl (G.2.1, 60, .inl p1_row))]) hF hG hP hD hS hA hl.1 (c_X9_start l G a_t t_coins t_held t_coins_1 t_held_2 hq) k_X9_start q622 [0] [1, 2] [2, 0, 1] rfl rfl rfl rfl ⟨rfl, rfl⟩ (by decide) ⟨0, 5, _, _, rfl, rfl, rfl⟩ rfl rfl (Nat.le_of_ble_eq_true rfl) ⟨(Nat.le_of_ble_eq_true rfl), (Nat.le_of_ble_eq_true rfl)⟩ ⟨(Nat.le_of_ble_eq_true rfl), (Nat.le_of_ble_eq_true rfl)⟩ dX9_runTo_1 (fun H locs hP hD hS => ?_)
  refine lv_iconst (v := 0) hx hb dX9_runTo_4 (by decide) ?_
  refine lv_istore_n (lv' := [(3, .int 0), (0, .ref a_t), (1, .ref a_p1), (2, .int x2)]) hx hb dX9_runTo_5 rfl hl (by decide) rfl (fun ls hl => ?_)
  obtain ⟨t_coins_6, t_held_7, hq, hf⟩ := bd2_some hf
  have K6 : ∀ (H : Heap) (locs : List Loc), va_P G.1 vwCl ([(a_t, .inr (5, [.long t_coins_6, .int t_held_7])), (a_p1, .inr (2, [.ref a_p1_row, .int p1_length, .int p1_shorter, .int p1_longer, .int p1_memory, .int p1_limit, .int p1_seasonDays, .int p1_stopped, .int p1_stopPart, .int p1_stopReason])), (a_p1_row, .inl (G.2.1, 60, .inl p1_row))] : va_W) H → va_D A ([(a_t, .inr (5, [.long t_coins_6, .int t_held_7])), (a_p1, .inr (2, [.ref a_p1_row, .int p1_length, .int p1_shorter, .int p1_longer, .int p1_memory, .int p1_limit, .int p1_seasonDays, .int p1_stopped, .int p1_stopPart, .int p1_stopReason])), (a_p1_row, .inl (G.2.1, 60, .inl p1_row))] : va_W) → va_S A s.heap H locs → ∀ ls : Array Slot, lv_has ls 4 [] → W p l e RM_X9_runTo s m [.ref a_t, .ref a_p1, .int x2].toArray below meth c H locs 0 0 (MQ below (wrQ none G [(a_t, .inr (5, [.long w_t_coins, .int w_t_held])), (a_p1, .inr (2, [.ref a_p1_row, .int p1_length, .int p1_shorter, .int p1_longer, .int p1_memory, .int p1_limit, .int p1_seasonDays, .int p1_stopped, .int p1_stopPart, .int p1_stopReason])), (a_p1_row, .inl (G.2.1, 60, .inl p1_row))] A) [.ref a_t, .ref a_p1, .int x2].toArray s 0 0 A) (F0 m 23 ls []) := by
    intro H locs hP hD hS ls hl
    have hf : (some (t_coins_6, t_held_7) : Option (Int64 × Int32)) = some (w_t_coins, w_t_held) := hf
    cases hf
    exact we_v hF hr hlk hP hD hS dX9_runTo_23 rfl
  clear hf
  have L6 : ∀ (n : Nat) (i3_3 : Int32) (t_coins_4 : Int64) (t_held_5 : Int32), l_X9_runTo_6 p1_shorter p1_longer p1_row x2 n i3_3 t_coins_4 t_held_5 = some (t_coins_6, t_held_7) → ∀ (H : Heap) (locs : List Loc), va_P G.1 vwCl ([(a_t, .inr (5, [.long t_coins_4, .int t_held_5])), (a_p1, .inr (2, [.ref a_p1_row, .int p1_length, .int p1_shorter, .int p1_longer, .int p1_memory, .int p1_limit, .int p1_seasonDays, .int p1_stopped, .int p1_stopPart, .int p1_stopReason])), (a_p1_row, .inl (G.2.1, 60, .inl p1_row))] : va_W) H → va_D A ([(a_t, .inr (5, [.long t_coins_4, .int t_held_5])), (a_p1, .inr (2, [.ref a_p1_row, .int p1_length, .int p1_shorter, .int p1_longer, .int p1_memory, .int p1_limit, .int p1_seasonDays, .int p1_stopped, .int p1_stopPart, .int p1_stopReason])), (a_p1_row, .inl (G.2.1, 60, .inl p1_row))] : va_W) → va_S A s.heap H locs → ∀ ls : Array Slot, lv_has ls 4 [(0, .ref a_t), (1, .ref a_p1), (2, .int x2), (3, .int i3_3)] → W p l e RM_X9_runTo s m [.ref a_t, .ref a_p1, .int x2].toArray below meth c H locs 0 0 (MQ below (wrQ none G [(a_t, .inr (5, [.long w_t_coins, .int w_t_held])), (a_p1, .inr (2, [.ref a_p1_row, .int p1_length, .int p1_shorter, .int p1_longer, .int p1_memory, .int p1_limit, .int p1_seasonDays, .int p1_stopped, .int p1_stopPart, .int p1_stopReason])), (a_p1_row, .inl (G.2.1, 60, .inl p1_row))] A) [.ref a_t, .ref a_p1, .int x2].toArray s 0 0 A) (F0 m 6 ls []) := by
    intro n
    induction n with
    | zero =>
      intro i3_3 t_coins_4 t_held_5 hf
      exact nomatch (show none = some (t_coins_6, t_held_7) from hf)
    | succ n ih =>
      intro i3_3 t_coins_4 t_held_5 hf H locs hP hD hS ls hl
      rw [l_X9_runTo_6] at hf
      refine lv_iload_n hx hb dX9_runTo_6 rfl (lv_at hl 3 rfl) ?_
      refine lv_iload_n hx hb dX9_runTo_7 rfl (lv_at hl 2 rfl) ?_
      refine lv_icmp_gt (tgt := 23) hx hb dX9_runTo_8 (by decide) (fun c0 => ?_) (fun c0 => ?_)
      · have hf := (if_pos c0).symm.trans hf
        have hf : (some (t_coins_4, t_held_5) : Option (Int64 × Int32)) = some (t_coins_6, t_held_7) := hf
        cases hf
        exact K6 _ _ hP hD hS ls (lv_sub hl [] rfl)
      · have hf := (if_neg c0).symm.trans hf
        refine lv_aload_n hx hb dX9_runTo_11 rfl (lv_at hl 0 rfl) ?_
        refine lv_aload_n hx hb dX9_runTo_12 rfl (lv_at hl 1 rfl) ?_
        refine lv_iload_n hx hb dX9_runTo_13 rfl (lv_at hl 3 rfl) ?_
        obtain ⟨t_coins_8, t_held_9, hq, hf⟩ := bd2_some hf
        refine wrV (As := [.ref a_p1, .int i3_3]) (rest := []) (wn := [(a_t, .inr (5, [.long t_coins_8, .int t_held_9])), (a_p1, .inr (2, [.ref a_p1_row, .int p1_length, .int p1_shorter, .int p1_longer, .int p1_memory, .int p1_limit, .int p1_seasonDays, .int p1_stopped, .int p1_stopPart, .int p1_stopReason])), (a_p1_row, .inl (G.2.1, 60, .inl p1_row))]) hF hG hP hD hS hA hl.1 (c_X9_pass l G a_t t_coins_4 t_held_5 a_p1 p1_length p1_shorter p1_longer p1_memory p1_limit p1_seasonDays p1_stopped p1_stopPart p1_stopReason a_p1_row p1_row i3_3 t_coins_8 t_held_9 hq) k_X9_pass q626 [0, 1, 2] [] [0, 1, 2] rfl rfl rfl rfl ⟨rfl, rfl⟩ (by decide) ⟨0, 5, _, _, rfl, rfl, rfl⟩ rfl rfl (Nat.le_of_ble_eq_true rfl) ⟨(Nat.le_of_ble_eq_true rfl), (Nat.le_of_ble_eq_true rfl)⟩ ⟨(Nat.le_of_ble_eq_true rfl), (Nat.le_of_ble_eq_true rfl)⟩ dX9_runTo_14 (fun H locs hP hD hS => ?_)
        refine lv_iinc (v := (i3_3 + 1)) (lv' := [(3, .int (i3_3 + 1)), (0, .ref a_t), (1, .ref a_p1), (2, .int x2)]) hx hb dX9_runTo_17 hl (k := 3) rfl rfl (by decide) rfl (fun ls hl => ?_)
        refine lv_goto (tgt := 6) hx hb dX9_runTo_20 (by decide) ?_
        exact ih (i3_3 + 1) t_coins_8 t_held_9 hf _ _ hP hD hS ls (lv_sub hl [1, 2, 3, 0] rfl)
  exact L6 1000 0 t_coins_1 t_held_2 hq _ _ hP hD hS ls (lv_sub hl [1, 2, 3, 0] rfl)
def f_X11_pieces (t_now_length : Int32) (t_now_shorter : Int32) (t_now_longer : Int32) (t_now_row : Nat → Int32) (t_trade_coins : Int64) (t_trade_held : Int32) (x1 : Int32) : Option (Int32 × Int64 × Int32) := bd0 (f_X11_requireDay t_now_length x1) (fun _ => bd2 (f_X9_runTo t_trade_coins t_trade_held t_now_shorter t_now_longer t_now_row x1) (fun (t_trade_coins_1 : Int64) (t_trade_held_2 : Int32) => some (t_trade_held_2, t_trade_coins_1, t_trade_held_2)))
theorem k_X11_pieces : KV yX11_pieces cX11_pieces 2 (some .int) 1 := ⟨qc_yX11_pieces, q1, ⟨by decide +kernel, by decide +kernel, by decide +kernel⟩, qi_yX11_pieces, qs_yX11_pieces⟩
abbrev RM_X11_pieces : Room := { frames := 6, cells := 0, slots := 0, locals := 144 }
set_option maxHeartbeats 4000000 in
set_option maxRecDepth 100000 in
theorem c_X11_pieces (l : Launch) (G : GP) (a_t : Nat) (a_t_trial : Nat) (a_t_snapshot : Nat) (t_snapshotTaken : Int32) (a_t_history : Nat) (a_t_text : Nat) (a_t_works : Nat) (a_t_highs : Nat) (a_t_now : Nat) (t_now_length : Int32) (t_now_shorter : Int32) (t_now_longer : Int32) (t_now_memory : Int32) (t_now_limit : Int32) (t_now_seasonDays : Int32) (t_now_stopped : Int32) (t_now_stopPart : Int32) (t_now_stopReason : Int32) (a_t_now_row : Nat) (t_now_row : Nat → Int32) (a_t_trade : Nat) (t_trade_coins : Int64) (t_trade_held : Int32) (x1 : Int32) (rr : Int32) (w_t_trade_coins : Int64) (w_t_trade_held : Int32) (hf : f_X11_pieces t_now_length t_now_shorter t_now_longer t_now_row t_trade_coins t_trade_held x1 = some (rr, w_t_trade_coins, w_t_trade_held)) : WM l yX11_pieces cX11_pieces 2 (some .int) 6 144 G [.ref a_t, .int x1] [(a_t, .inr (7, [.ref a_t_now, .ref a_t_trial, .ref a_t_snapshot, .int t_snapshotTaken, .ref a_t_history, .ref a_t_text, .ref a_t_works, .ref a_t_highs, .ref a_t_trade])), (a_t_now, .inr (2, [.ref a_t_now_row, .int t_now_length, .int t_now_shorter, .int t_now_longer, .int t_now_memory, .int t_now_limit, .int t_now_seasonDays, .int t_now_stopped, .int t_now_stopPart, .int t_now_stopReason])), (a_t_now_row, .inl (G.2.1, 60, .inl t_now_row)), (a_t_trade, .inr (5, [.long t_trade_coins, .int t_trade_held]))] (some (.int rr)) [(a_t, .inr (7, [.ref a_t_now, .ref a_t_trial, .ref a_t_snapshot, .int t_snapshotTaken, .ref a_t_history, .ref a_t_text, .ref a_t_works, .ref a_t_highs, .ref a_t_trade])), (a_t_now, .inr (2, [.ref a_t_now_row, .int t_now_length, .int t_now_shorter, .int t_now_longer, .int t_now_memory, .int t_now_limit, .int t_now_seasonDays, .int t_now_stopped, .int t_now_stopPart, .int t_now_stopReason])), (a_t_now_row, .inl (G.2.1, 60, .inl t_now_row)), (a_t_trade, .inr (5, [.long w_t_trade_coins, .int w_t_trade_held]))] := by
  refine WM.ofW (C := RX11) (by decide) rfl (Nat.le_of_ble_eq_true rfl) ?_
  intro p e s m below meth c A hF hr hlk hG hA hP hD ls hl
  have hl : lv_has ls 2 [(0, .ref a_t), (1, .int x1)] := hl
  have hx := hF.1
  have hb := hF.2.1
  have hml := hF.2.2.1
  have hown := hF.2.2.2.1
  have hts := hF.2.2.2.2
  have hS : va_S A s.heap s.heap [] := va_S.rf
  unfold f_X11_pieces at hf
  refine lv_aload_n hx hb dX11_pieces_0 rfl (lv_at hl 0 rfl) ?_
  refine lv_iload_n hx hb dX11_pieces_1 rfl (lv_at hl 1 rfl) ?_
  obtain ⟨hq, hf⟩ := bd0_some hf
  refine rdV (As := [.int x1]) (rest := []) hF hG hP hl.1 (c_X11_requireDay l G a_t a_t_trial a_t_snapshot t_snapshotTaken a_t_history a_t_text a_t_works a_t_highs a_t_trade a_t_now a_t_now_row t_now_length t_now_shorter t_now_longer t_now_memory t_now_limit t_now_seasonDays t_now_stopped t_now_stopPart t_now_stopReason x1 hq) k_X11_requireDay q379 [0, 1] rfl ⟨0, 7, _, _, rfl, rfl, rfl⟩ rfl rfl (Nat.le_of_ble_eq_true rfl) ⟨(Nat.le_of_ble_eq_true rfl), (Nat.le_of_ble_eq_true rfl)⟩ ⟨(Nat.zero_le _), (Nat.zero_le _)⟩ dX11_pieces_2 ?_
  refine lv_aload_n hx hb dX11_pieces_5 rfl (lv_at hl 0 rfl) ?_
  refine gf (C := RX11) (T := TX11) (N := 9) (ci := 7) (v := .ref a_t_trade) hF hG hP inX11 0 rfl rfl 8 (by decide) q198 rfl rfl dX11_pieces_6 ?_
  refine lv_aload_n hx hb dX11_pieces_9 rfl (lv_at hl 0 rfl) ?_
  refine gf (C := RX11) (T := TX11) (N := 9) (ci := 7) (v := .ref a_t_now) hF hG hP inX11 0 rfl rfl 0 (by decide) q190 rfl rfl dX11_pieces_10 ?_
  refine lv_iload_n hx hb dX11_pieces_13 rfl (lv_at hl 1 rfl) ?_
  obtain ⟨t_trade_coins_1, t_trade_held_2, hq, hf⟩ := bd2_some hf
  refine wrVN (As := [.ref a_t_now, .int x1]) (rest := []) (wn := [(a_t, .inr (7, [.ref a_t_now, .ref a_t_trial, .ref a_t_snapshot, .int t_snapshotTaken, .ref a_t_history, .ref a_t_text, .ref a_t_works, .ref a_t_highs, .ref a_t_trade])), (a_t_now, .inr (2, [.ref a_t_now_row, .int t_now_length, .int t_now_shorter, .int t_now_longer, .int t_now_memory, .int t_now_limit, .int t_now_seasonDays, .int t_now_stopped, .int t_now_stopPart, .int t_now_stopReason])), (a_t_now_row, .inl (G.2.1, 60, .inl t_now_row)), (a_t_trade, .inr (5, [.long t_trade_coins_1, .int t_trade_held_2]))]) hF hG hP hD hS hA hl.1 (c_X9_runTo l G a_t_trade t_trade_coins t_trade_held a_t_now t_now_length t_now_shorter t_now_longer t_now_memory t_now_limit t_now_seasonDays t_now_stopped t_now_stopPart t_now_stopReason a_t_now_row t_now_row x1 t_trade_coins_1 t_trade_held_2 hq) k_X9_runTo n618 [3, 1, 2] [0] [0, 2, 3, 1] rfl rfl rfl rfl ⟨rfl, rfl⟩ (by decide) ⟨3, 5, _, _, rfl, rfl, rfl⟩ rfl rfl (Nat.le_of_ble_eq_true rfl) ⟨(Nat.le_of_ble_eq_true rfl), (Nat.le_of_ble_eq_true rfl)⟩ ⟨(Nat.le_of_ble_eq_true rfl), (Nat.le_of_ble_eq_true rfl)⟩ dX11_pieces_14 (fun H locs hP hD hS => ?_)
  refine lv_aload_n hx hb dX11_pieces_17 rfl (lv_at hl 0 rfl) ?_
  refine gf (C := RX11) (T := TX11) (N := 9) (ci := 7) (v := .ref a_t_trade) hF hG hP inX11 0 rfl rfl 8 (by decide) q198 rfl rfl dX11_pieces_18 ?_
  refine gfN (C := RX9) (T := TX9) (N := 2) (ci := 5) (v := .int t_trade_held_2) hF hG hP inX9 3 rfl rfl 1 (by decide) n184 rfl rfl dX11_pieces_21 ?_
  have hf : (some (t_trade_held_2, t_trade_coins_1, t_trade_held_2) : Option (Int32 × Int64 × Int32)) = some (rr, w_t_trade_coins, w_t_trade_held) := hf
  cases hf
  exact we_i hF hr hlk hP hD hS dX11_pieces_24 rfl
def f_X9_valueAt (t_coins : Int64) (t_held : Int32) (p1_row : Nat → Int32) (x2 : Int32) : Option (Int64) := bd1 (f_X6_at p1_row x2) (fun (r_1 : Int32) => some (t_coins + ((Int32.toInt64 t_held) * (Int32.toInt64 r_1))))
theorem k_X9_valueAt : KV yX9_valueAt cX9_valueAt 3 (some .long) 2 := ⟨qc_yX9_valueAt, q8, ⟨by decide +kernel, by decide +kernel, by decide +kernel⟩, qi_yX9_valueAt, qs_yX9_valueAt⟩
abbrev RM_X9_valueAt : Room := { frames := 1, cells := 0, slots := 0, locals := 21 }
set_option maxHeartbeats 4000000 in
set_option maxRecDepth 100000 in
theorem c_X9_valueAt (l : Launch) (G : GP) (a_t : Nat) (t_coins : Int64) (t_held : Int32) (a_p1 : Nat) (p1_length : Int32) (p1_shorter : Int32) (p1_longer : Int32) (p1_memory : Int32) (p1_limit : Int32) (p1_seasonDays : Int32) (p1_stopped : Int32) (p1_stopPart : Int32) (p1_stopReason : Int32) (a_p1_row : Nat) (p1_row : Nat → Int32) (x2 : Int32) (rr : Int64) (hf : f_X9_valueAt t_coins t_held p1_row x2 = some rr) : RM l yX9_valueAt cX9_valueAt 3 (some .long) 1 21 G [.ref a_t, .ref a_p1, .int x2] [(a_t, .inr (5, [.long t_coins, .int t_held])), (a_p1, .inr (2, [.ref a_p1_row, .int p1_length, .int p1_shorter, .int p1_longer, .int p1_memory, .int p1_limit, .int p1_seasonDays, .int p1_stopped, .int p1_stopPart, .int p1_stopReason])), (a_p1_row, .inl (G.2.1, 60, .inl p1_row))] (some (.long rr)) := by
  refine RM.ofW (C := RX9) (by decide) rfl (Nat.le_of_ble_eq_true rfl) ?_
  intro p e s m below meth c hF hr hlk hG hP ls hl
  have hl : lv_has ls 3 [(0, .ref a_t), (1, .ref a_p1), (2, .int x2)] := hl
  have hx := hF.1
  have hb := hF.2.1
  have hml := hF.2.2.1
  have hown := hF.2.2.2.1
  have hts := hF.2.2.2.2
  unfold f_X9_valueAt at hf
  refine lv_aload_n hx hb dX9_valueAt_0 rfl (lv_at hl 0 rfl) ?_
  refine gf (C := RX9) (T := TX9) (N := 2) (ci := 5) (v := .long t_coins) hF hG hP inX9 0 rfl rfl 0 (by decide) q182 rfl rfl dX9_valueAt_1 ?_
  refine lv_aload_n hx hb dX9_valueAt_4 rfl (lv_at hl 0 rfl) ?_
  refine gf (C := RX9) (T := TX9) (N := 2) (ci := 5) (v := .int t_held) hF hG hP inX9 0 rfl rfl 1 (by decide) q183 rfl rfl dX9_valueAt_5 ?_
  refine lv_i2l (v := (Int32.toInt64 t_held)) hx hb dX9_valueAt_8 rfl ?_
  refine lv_aload_n hx hb dX9_valueAt_9 rfl (lv_at hl 1 rfl) ?_
  refine lv_iload_n hx hb dX9_valueAt_10 rfl (lv_at hl 2 rfl) ?_
  obtain ⟨r_1, hq, hf⟩ := bd1_some hf
  refine rdVN (As := [.int x2]) (rest := [.long (Int32.toInt64 t_held), .long t_coins]) hF hG hP hl.1 (c_X6_at l G a_p1 p1_length p1_shorter p1_longer p1_memory p1_limit p1_seasonDays p1_stopped p1_stopPart p1_stopReason a_p1_row p1_row x2 r_1 hq) k_X6_at n631 [1, 2] rfl ⟨1, 2, _, _, rfl, rfl, rfl⟩ rfl rfl (Nat.le_of_ble_eq_true rfl) ⟨(Nat.le_of_ble_eq_true rfl), (Nat.le_of_ble_eq_true rfl)⟩ ⟨(Nat.zero_le _), (Nat.zero_le _)⟩ dX9_valueAt_11 ?_
  refine lv_i2l (v := (Int32.toInt64 r_1)) hx hb dX9_valueAt_14 rfl ?_
  refine lv_lmul hx hb dX9_valueAt_15 ?_
  refine lv_ladd hx hb dX9_valueAt_16 ?_
  have hf : (some (t_coins + ((Int32.toInt64 t_held) * (Int32.toInt64 r_1))) : Option (Int64)) = some rr := hf
  cases hf
  exact re_l hF hr hlk dX9_valueAt_17 rfl
def f_X11_worth (t_now_length : Int32) (t_now_shorter : Int32) (t_now_longer : Int32) (t_now_row : Nat → Int32) (t_trade_coins : Int64) (t_trade_held : Int32) (x1 : Int32) : Option (Int64 × Int64 × Int32) := bd0 (f_X11_requireDay t_now_length x1) (fun _ => bd2 (f_X9_runTo t_trade_coins t_trade_held t_now_shorter t_now_longer t_now_row x1) (fun (t_trade_coins_1 : Int64) (t_trade_held_2 : Int32) => bd1 (f_X9_valueAt t_trade_coins_1 t_trade_held_2 t_now_row x1) (fun (r_3 : Int64) => some (r_3, t_trade_coins_1, t_trade_held_2))))
theorem k_X11_worth : KV yX11_worth cX11_worth 2 (some .long) 1 := ⟨qc_yX11_worth, q1, ⟨by decide +kernel, by decide +kernel, by decide +kernel⟩, qi_yX11_worth, qs_yX11_worth⟩
abbrev RM_X11_worth : Room := { frames := 6, cells := 0, slots := 0, locals := 144 }
set_option maxHeartbeats 4000000 in
set_option maxRecDepth 100000 in
theorem c_X11_worth (l : Launch) (G : GP) (a_t : Nat) (a_t_trial : Nat) (a_t_snapshot : Nat) (t_snapshotTaken : Int32) (a_t_history : Nat) (a_t_text : Nat) (a_t_works : Nat) (a_t_highs : Nat) (a_t_now : Nat) (t_now_length : Int32) (t_now_shorter : Int32) (t_now_longer : Int32) (t_now_memory : Int32) (t_now_limit : Int32) (t_now_seasonDays : Int32) (t_now_stopped : Int32) (t_now_stopPart : Int32) (t_now_stopReason : Int32) (a_t_now_row : Nat) (t_now_row : Nat → Int32) (a_t_trade : Nat) (t_trade_coins : Int64) (t_trade_held : Int32) (x1 : Int32) (rr : Int64) (w_t_trade_coins : Int64) (w_t_trade_held : Int32) (hf : f_X11_worth t_now_length t_now_shorter t_now_longer t_now_row t_trade_coins t_trade_held x1 = some (rr, w_t_trade_coins, w_t_trade_held)) : WM l yX11_worth cX11_worth 2 (some .long) 6 144 G [.ref a_t, .int x1] [(a_t, .inr (7, [.ref a_t_now, .ref a_t_trial, .ref a_t_snapshot, .int t_snapshotTaken, .ref a_t_history, .ref a_t_text, .ref a_t_works, .ref a_t_highs, .ref a_t_trade])), (a_t_now, .inr (2, [.ref a_t_now_row, .int t_now_length, .int t_now_shorter, .int t_now_longer, .int t_now_memory, .int t_now_limit, .int t_now_seasonDays, .int t_now_stopped, .int t_now_stopPart, .int t_now_stopReason])), (a_t_now_row, .inl (G.2.1, 60, .inl t_now_row)), (a_t_trade, .inr (5, [.long t_trade_coins, .int t_trade_held]))] (some (.long rr)) [(a_t, .inr (7, [.ref a_t_now, .ref a_t_trial, .ref a_t_snapshot, .int t_snapshotTaken, .ref a_t_history, .ref a_t_text, .ref a_t_works, .ref a_t_highs, .ref a_t_trade])), (a_t_now, .inr (2, [.ref a_t_now_row, .int t_now_length, .int t_now_shorter, .int t_now_longer, .int t_now_memory, .int t_now_limit, .int t_now_seasonDays, .int t_now_stopped, .int t_now_stopPart, .int t_now_stopReason])), (a_t_now_row, .inl (G.2.1, 60, .inl t_now_row)), (a_t_trade, .inr (5, [.long w_t_trade_coins, .int w_t_trade_held]))] := by
  refine WM.ofW (C := RX11) (by decide) rfl (Nat.le_of_ble_eq_true rfl) ?_
  intro p e s m below meth c A hF hr hlk hG hA hP hD ls hl
  have hl : lv_has ls 2 [(0, .ref a_t), (1, .int x1)] := hl
  have hx := hF.1
  have hb := hF.2.1
  have hml := hF.2.2.1
  have hown := hF.2.2.2.1
  have hts := hF.2.2.2.2
  have hS : va_S A s.heap s.heap [] := va_S.rf
  unfold f_X11_worth at hf
  refine lv_aload_n hx hb dX11_worth_0 rfl (lv_at hl 0 rfl) ?_
  refine lv_iload_n hx hb dX11_worth_1 rfl (lv_at hl 1 rfl) ?_
  obtain ⟨hq, hf⟩ := bd0_some hf
  refine rdV (As := [.int x1]) (rest := []) hF hG hP hl.1 (c_X11_requireDay l G a_t a_t_trial a_t_snapshot t_snapshotTaken a_t_history a_t_text a_t_works a_t_highs a_t_trade a_t_now a_t_now_row t_now_length t_now_shorter t_now_longer t_now_memory t_now_limit t_now_seasonDays t_now_stopped t_now_stopPart t_now_stopReason x1 hq) k_X11_requireDay q379 [0, 1] rfl ⟨0, 7, _, _, rfl, rfl, rfl⟩ rfl rfl (Nat.le_of_ble_eq_true rfl) ⟨(Nat.le_of_ble_eq_true rfl), (Nat.le_of_ble_eq_true rfl)⟩ ⟨(Nat.zero_le _), (Nat.zero_le _)⟩ dX11_worth_2 ?_
  refine lv_aload_n hx hb dX11_worth_5 rfl (lv_at hl 0 rfl) ?_
  refine gf (C := RX11) (T := TX11) (N := 9) (ci := 7) (v := .ref a_t_trade) hF hG hP inX11 0 rfl rfl 8 (by decide) q198 rfl rfl dX11_worth_6 ?_
  refine lv_aload_n hx hb dX11_worth_9 rfl (lv_at hl 0 rfl) ?_
  refine gf (C := RX11) (T := TX11) (N := 9) (ci := 7) (v := .ref a_t_now) hF hG hP inX11 0 rfl rfl 0 (by decide) q190 rfl rfl dX11_worth_10 ?_
  refine lv_iload_n hx hb dX11_worth_13 rfl (lv_at hl 1 rfl) ?_
  obtain ⟨t_trade_coins_1, t_trade_held_2, hq, hf⟩ := bd2_some hf
  refine wrVN (As := [.ref a_t_now, .int x1]) (rest := []) (wn := [(a_t, .inr (7, [.ref a_t_now, .ref a_t_trial, .ref a_t_snapshot, .int t_snapshotTaken, .ref a_t_history, .ref a_t_text, .ref a_t_works, .ref a_t_highs, .ref a_t_trade])), (a_t_now, .inr (2, [.ref a_t_now_row, .int t_now_length, .int t_now_shorter, .int t_now_longer, .int t_now_memory, .int t_now_limit, .int t_now_seasonDays, .int t_now_stopped, .int t_now_stopPart, .int t_now_stopReason])), (a_t_now_row, .inl (G.2.1, 60, .inl t_now_row)), (a_t_trade, .inr (5, [.long t_trade_coins_1, .int t_trade_held_2]))]) hF hG hP hD hS hA hl.1 (c_X9_runTo l G a_t_trade t_trade_coins t_trade_held a_t_now t_now_length t_now_shorter t_now_longer t_now_memory t_now_limit t_now_seasonDays t_now_stopped t_now_stopPart t_now_stopReason a_t_now_row t_now_row x1 t_trade_coins_1 t_trade_held_2 hq) k_X9_runTo n618 [3, 1, 2] [0] [0, 2, 3, 1] rfl rfl rfl rfl ⟨rfl, rfl⟩ (by decide) ⟨3, 5, _, _, rfl, rfl, rfl⟩ rfl rfl (Nat.le_of_ble_eq_true rfl) ⟨(Nat.le_of_ble_eq_true rfl), (Nat.le_of_ble_eq_true rfl)⟩ ⟨(Nat.le_of_ble_eq_true rfl), (Nat.le_of_ble_eq_true rfl)⟩ dX11_worth_14 (fun H locs hP hD hS => ?_)
  refine lv_aload_n hx hb dX11_worth_17 rfl (lv_at hl 0 rfl) ?_
  refine gf (C := RX11) (T := TX11) (N := 9) (ci := 7) (v := .ref a_t_trade) hF hG hP inX11 0 rfl rfl 8 (by decide) q198 rfl rfl dX11_worth_18 ?_
  refine lv_aload_n hx hb dX11_worth_21 rfl (lv_at hl 0 rfl) ?_
  refine gf (C := RX11) (T := TX11) (N := 9) (ci := 7) (v := .ref a_t_now) hF hG hP inX11 0 rfl rfl 0 (by decide) q190 rfl rfl dX11_worth_22 ?_
  refine lv_iload_n hx hb dX11_worth_25 rfl (lv_at hl 1 rfl) ?_
  obtain ⟨r_3, hq, hf⟩ := bd1_some hf
  refine rdVN (As := [.ref a_t_now, .int x1]) (rest := []) hF hG hP hl.1 (c_X9_valueAt l G a_t_trade t_trade_coins_1 t_trade_held_2 a_t_now t_now_length t_now_shorter t_now_longer t_now_memory t_now_limit t_now_seasonDays t_now_stopped t_now_stopPart t_now_stopReason a_t_now_row t_now_row x1 r_3 hq) k_X9_valueAt n640 [3, 1, 2] rfl ⟨3, 5, _, _, rfl, rfl, rfl⟩ rfl rfl (Nat.le_of_ble_eq_true rfl) ⟨(Nat.le_of_ble_eq_true rfl), (Nat.le_of_ble_eq_true rfl)⟩ ⟨(Nat.zero_le _), (Nat.zero_le _)⟩ dX11_worth_26 ?_
  have hf : (some (r_3, t_trade_coins_1, t_trade_held_2) : Option (Int64 × Int64 × Int32)) = some (rr, w_t_trade_coins, w_t_trade_held) := hf
  cases hf
  exact we_l hF hr hlk hP hD hS dX11_worth_29 rfl
def f_X11_median (t_now_length : Int32) (t_now_shorter : Int32) (t_now_row : Nat → Int32) (x1 : Int32) : Option (Int32) := bd0 (f_X11_requireDay t_now_length x1) (fun _ => bd1 (f_X0_middle t_now_shorter t_now_row x1) (fun (r_1 : Int32) => some r_1))
theorem k_X11_median : KV yX11_median cX11_median 2 (some .int) 1 := ⟨qc_yX11_median, q1, ⟨by decide +kernel, by decide +kernel, by decide +kernel⟩, qi_yX11_median, qs_yX11_median⟩
abbrev RM_X11_median : Room := { frames := 2, cells := 0, slots := 0, locals := 50 }
set_option maxHeartbeats 4000000 in
set_option maxRecDepth 100000 in
theorem c_X11_median (l : Launch) (G : GP) (a_t : Nat) (a_t_trial : Nat) (a_t_snapshot : Nat) (t_snapshotTaken : Int32) (a_t_history : Nat) (a_t_text : Nat) (a_t_works : Nat) (a_t_highs : Nat) (a_t_trade : Nat) (a_t_now : Nat) (t_now_length : Int32) (t_now_shorter : Int32) (t_now_longer : Int32) (t_now_memory : Int32) (t_now_limit : Int32) (t_now_seasonDays : Int32) (t_now_stopped : Int32) (t_now_stopPart : Int32) (t_now_stopReason : Int32) (a_t_now_row : Nat) (t_now_row : Nat → Int32) (x1 : Int32) (rr : Int32) (hf : f_X11_median t_now_length t_now_shorter t_now_row x1 = some rr) : RM l yX11_median cX11_median 2 (some .int) 2 50 G [.ref a_t, .int x1] [(a_t, .inr (7, [.ref a_t_now, .ref a_t_trial, .ref a_t_snapshot, .int t_snapshotTaken, .ref a_t_history, .ref a_t_text, .ref a_t_works, .ref a_t_highs, .ref a_t_trade])), (a_t_now, .inr (2, [.ref a_t_now_row, .int t_now_length, .int t_now_shorter, .int t_now_longer, .int t_now_memory, .int t_now_limit, .int t_now_seasonDays, .int t_now_stopped, .int t_now_stopPart, .int t_now_stopReason])), (a_t_now_row, .inl (G.2.1, 60, .inl t_now_row))] (some (.int rr)) := by
  refine RM.ofW (C := RX11) (by decide) rfl (Nat.le_of_ble_eq_true rfl) ?_
  intro p e s m below meth c hF hr hlk hG hP ls hl
  have hl : lv_has ls 2 [(0, .ref a_t), (1, .int x1)] := hl
  have hx := hF.1
  have hb := hF.2.1
  have hml := hF.2.2.1
  have hown := hF.2.2.2.1
  have hts := hF.2.2.2.2
  unfold f_X11_median at hf
  refine lv_aload_n hx hb dX11_median_0 rfl (lv_at hl 0 rfl) ?_
  refine lv_iload_n hx hb dX11_median_1 rfl (lv_at hl 1 rfl) ?_
  obtain ⟨hq, hf⟩ := bd0_some hf
  refine rdV (As := [.int x1]) (rest := []) hF hG hP hl.1 (c_X11_requireDay l G a_t a_t_trial a_t_snapshot t_snapshotTaken a_t_history a_t_text a_t_works a_t_highs a_t_trade a_t_now a_t_now_row t_now_length t_now_shorter t_now_longer t_now_memory t_now_limit t_now_seasonDays t_now_stopped t_now_stopPart t_now_stopReason x1 hq) k_X11_requireDay q379 [0, 1] rfl ⟨0, 7, _, _, rfl, rfl, rfl⟩ rfl rfl (Nat.le_of_ble_eq_true rfl) ⟨(Nat.le_of_ble_eq_true rfl), (Nat.le_of_ble_eq_true rfl)⟩ ⟨(Nat.zero_le _), (Nat.zero_le _)⟩ dX11_median_2 ?_
  refine lv_aload_n hx hb dX11_median_5 rfl (lv_at hl 0 rfl) ?_
  refine gf (C := RX11) (T := TX11) (N := 9) (ci := 7) (v := .ref a_t_now) hF hG hP inX11 0 rfl rfl 0 (by decide) q190 rfl rfl dX11_median_6 ?_
  refine lv_iload_n hx hb dX11_median_9 rfl (lv_at hl 1 rfl) ?_
  obtain ⟨r_1, hq, hf⟩ := bd1_some hf
  refine rdSN (As := [.ref a_t_now, .int x1]) (rest := []) hF hG hP hl.1 (c_X0_middle l G a_t_now t_now_length t_now_shorter t_now_longer t_now_memory t_now_limit t_now_seasonDays t_now_stopped t_now_stopPart t_now_stopReason a_t_now_row t_now_row x1 r_1 hq) k_X0_middle n648 [1, 2] rfl rfl rfl (Nat.le_of_ble_eq_true rfl) ⟨(Nat.le_of_ble_eq_true rfl), (Nat.le_of_ble_eq_true rfl)⟩ ⟨(Nat.zero_le _), (Nat.zero_le _)⟩ dX11_median_10 ?_
  have hf : (some r_1 : Option (Int32)) = some rr := hf
  cases hf
  exact re_i hF hr hlk dX11_median_13 rfl
def f_X11_requirePrices (t_now_length : Int32) (x1 : Int32) : Option (Unit) := (if x1 ≤ t_now_length then some () else none)
theorem k_X11_requirePrices : KV yX11_requirePrices cX11_requirePrices 2 none 1 := ⟨qc_yX11_requirePrices, q1, ⟨by decide +kernel, by decide +kernel, by decide +kernel⟩, qi_yX11_requirePrices, qs_yX11_requirePrices⟩
abbrev RM_X11_requirePrices : Room := { frames := 0, cells := 0, slots := 0, locals := 0 }
set_option maxHeartbeats 4000000 in
set_option maxRecDepth 100000 in
theorem c_X11_requirePrices (l : Launch) (G : GP) (a_t : Nat) (a_t_trial : Nat) (a_t_snapshot : Nat) (t_snapshotTaken : Int32) (a_t_history : Nat) (a_t_text : Nat) (a_t_works : Nat) (a_t_highs : Nat) (a_t_trade : Nat) (a_t_now : Nat) (a_t_now_row : Nat) (t_now_length : Int32) (t_now_shorter : Int32) (t_now_longer : Int32) (t_now_memory : Int32) (t_now_limit : Int32) (t_now_seasonDays : Int32) (t_now_stopped : Int32) (t_now_stopPart : Int32) (t_now_stopReason : Int32) (x1 : Int32) (hf : f_X11_requirePrices t_now_length x1 = some ()) : RM l yX11_requirePrices cX11_requirePrices 2 none 0 0 G [.ref a_t, .int x1] [(a_t, .inr (7, [.ref a_t_now, .ref a_t_trial, .ref a_t_snapshot, .int t_snapshotTaken, .ref a_t_history, .ref a_t_text, .ref a_t_works, .ref a_t_highs, .ref a_t_trade])), (a_t_now, .inr (2, [.ref a_t_now_row, .int t_now_length, .int t_now_shorter, .int t_now_longer, .int t_now_memory, .int t_now_limit, .int t_now_seasonDays, .int t_now_stopped, .int t_now_stopPart, .int t_now_stopReason]))] none := by
  refine RM.ofW (C := RX11) (by decide) rfl (Nat.le_of_ble_eq_true rfl) ?_
  intro p e s m below meth c hF hr hlk hG hP ls hl
  have hl : lv_has ls 2 [(0, .ref a_t), (1, .int x1)] := hl
  have hx := hF.1
  have hb := hF.2.1
  have hml := hF.2.2.1
  have hown := hF.2.2.2.1
  have hts := hF.2.2.2.2
  unfold f_X11_requirePrices at hf
  refine lv_aload_n hx hb dX11_requirePrices_0 rfl (lv_at hl 0 rfl) ?_
  refine gf (C := RX11) (T := TX11) (N := 9) (ci := 7) (v := .ref a_t_now) hF hG hP inX11 0 rfl rfl 0 (by decide) q190 rfl rfl dX11_requirePrices_1 ?_
  refine gfN (C := RX6) (T := TX6) (N := 10) (ci := 2) (v := .int t_now_length) hF hG hP inX6 1 rfl rfl 1 (by decide) n37 rfl rfl dX11_requirePrices_4 ?_
  refine lv_iload_n hx hb dX11_requirePrices_7 rfl (lv_at hl 1 rfl) ?_
  refine lv_icmp_ge (tgt := 22) hx hb dX11_requirePrices_8 (by decide) (fun c0 => ?_) (fun c0 => ?_)
  · have hf := (if_pos c0).symm.trans hf
    have hf : (some () : Option (Unit)) = some () := hf
    cases hf
    exact re_v hF hr hlk dX11_requirePrices_22 rfl
  · have hf := (if_neg c0).symm.trans hf
    cases hf
def f_X6_partOf (t_seasonDays : Int32) (x1 : Int32) : Option (Int32) := (if t_seasonDays ≤ 0 then some 0 else gd (¬ t_seasonDays = 0) (some (x1 - x1 / t_seasonDays * t_seasonDays)))
theorem k_X6_partOf : KV yX6_partOf cX6_partOf 2 (some .int) 1 := ⟨qc_yX6_partOf, q2, ⟨by decide +kernel, by decide +kernel, by decide +kernel⟩, qi_yX6_partOf, qs_yX6_partOf⟩
abbrev RM_X6_partOf : Room := { frames := 0, cells := 0, slots := 0, locals := 0 }
set_option maxHeartbeats 4000000 in
set_option maxRecDepth 100000 in
theorem c_X6_partOf (l : Launch) (G : GP) (a_t : Nat) (a_t_row : Nat) (t_length : Int32) (t_shorter : Int32) (t_longer : Int32) (t_memory : Int32) (t_limit : Int32) (t_seasonDays : Int32) (t_stopped : Int32) (t_stopPart : Int32) (t_stopReason : Int32) (x1 : Int32) (rr : Int32) (hf : f_X6_partOf t_seasonDays x1 = some rr) : RM l yX6_partOf cX6_partOf 2 (some .int) 0 0 G [.ref a_t, .int x1] [(a_t, .inr (2, [.ref a_t_row, .int t_length, .int t_shorter, .int t_longer, .int t_memory, .int t_limit, .int t_seasonDays, .int t_stopped, .int t_stopPart, .int t_stopReason]))] (some (.int rr)) := by
  refine RM.ofW (C := RX6) (by decide) rfl (Nat.le_of_ble_eq_true rfl) ?_
  intro p e s m below meth c hF hr hlk hG hP ls hl
  have hl : lv_has ls 2 [(0, .ref a_t), (1, .int x1)] := hl
  have hx := hF.1
  have hb := hF.2.1
  have hml := hF.2.2.1
  have hown := hF.2.2.2.1
  have hts := hF.2.2.2.2
  unfold f_X6_partOf at hf
  refine lv_aload_n hx hb dX6_partOf_0 rfl (lv_at hl 0 rfl) ?_
  refine gf (C := RX6) (T := TX6) (N := 10) (ci := 2) (v := .int t_seasonDays) hF hG hP inX6 0 rfl rfl 6 (by decide) q58 rfl rfl dX6_partOf_1 ?_
  refine lv_if_le (tgt := 16) hx hb dX6_partOf_4 (by decide) (fun c0 => ?_) (fun c0 => ?_)
  · have hf := (if_pos c0).symm.trans hf
    refine lv_iconst (v := 0) hx hb dX6_partOf_16 (by decide) ?_
    have hf : (some 0 : Option (Int32)) = some rr := hf
    cases hf
    exact re_i hF hr hlk dX6_partOf_17 rfl
  · have hf := (if_neg c0).symm.trans hf
    refine lv_iload_n hx hb dX6_partOf_7 rfl (lv_at hl 1 rfl) ?_
    refine lv_aload_n hx hb dX6_partOf_8 rfl (lv_at hl 0 rfl) ?_
    refine gf (C := RX6) (T := TX6) (N := 10) (ci := 2) (v := .int t_seasonDays) hF hG hP inX6 0 rfl rfl 6 (by decide) q58 rfl rfl dX6_partOf_9 ?_
    obtain ⟨hg, hf⟩ := gd_some hf
    refine lv_irem hx hb dX6_partOf_12 hg ?_
    refine lv_goto (tgt := 17) hx hb dX6_partOf_13 (by decide) ?_
    have hf : (some (x1 - x1 / t_seasonDays * t_seasonDays) : Option (Int32)) = some rr := hf
    cases hf
    exact re_i hF hr hlk dX6_partOf_17 rfl
def l_X5_daysOf_5 (p0_seasonDays : Int32) (x1 : Int32) (x2 : Int32) : Nat → Int32 → Int32 → Option (Int32)
  | 0, _, _ => none
  | n + 1, i3_1, i4_2 => (if x2 ≤ i4_2 then some i3_1 else bd1 (f_X6_partOf p0_seasonDays i4_2) (fun (r_4 : Int32) => (if r_4 = x1 then l_X5_daysOf_5 p0_seasonDays x1 x2 n (i3_1 + 1) (i4_2 + 1) else l_X5_daysOf_5 p0_seasonDays x1 x2 n i3_1 (i4_2 + 1))))
def f_X5_daysOf (p0_seasonDays : Int32) (x1 : Int32) (x2 : Int32) : Option (Int32) := bd1 (l_X5_daysOf_5 p0_seasonDays x1 x2 1000 0 0) (fun (o3_3 : Int32) => some o3_3)
theorem k_X5_daysOf : KS yX5_daysOf cX5_daysOf 5 (some .int) 3 := ⟨qc_yX5_daysOf, q20, ⟨by decide +kernel, by decide +kernel, by decide +kernel⟩, qt_yX5_daysOf⟩
abbrev RM_X5_daysOf : Room := { frames := 1, cells := 0, slots := 0, locals := 21 }
set_option maxHeartbeats 4000000 in
set_option maxRecDepth 100000 in
theorem c_X5_daysOf (l : Launch) (G : GP) (a_p0 : Nat) (a_p0_row : Nat) (p0_length : Int32) (p0_shorter : Int32) (p0_longer : Int32) (p0_memory : Int32) (p0_limit : Int32) (p0_seasonDays : Int32) (p0_stopped : Int32) (p0_stopPart : Int32) (p0_stopReason : Int32) (x1 : Int32) (x2 : Int32) (rr : Int32) (hf : f_X5_daysOf p0_seasonDays x1 x2 = some rr) : RM l yX5_daysOf cX5_daysOf 5 (some .int) 1 21 G [.ref a_p0, .int x1, .int x2] [(a_p0, .inr (2, [.ref a_p0_row, .int p0_length, .int p0_shorter, .int p0_longer, .int p0_memory, .int p0_limit, .int p0_seasonDays, .int p0_stopped, .int p0_stopPart, .int p0_stopReason]))] (some (.int rr)) := by
  refine RM.ofW (C := RX5) (by decide) rfl (Nat.le_of_ble_eq_true rfl) ?_
  intro p e s m below meth c hF hr hlk hG hP ls hl
  have hl : lv_has ls 5 [(0, .ref a_p0), (1, .int x1), (2, .int x2)] := hl
  have hx := hF.1
  have hb := hF.2.1
  have hml := hF.2.2.1
  have hown := hF.2.2.2.1
  have hts := hF.2.2.2.2
  unfold f_X5_daysOf at hf
  refine lv_iconst (v := 0) hx hb dX5_daysOf_0 (by decide) ?_
  refine lv_istore_n (lv' := [(3, .int 0), (0, .ref a_p0), (1, .int x1), (2, .int x2)]) hx hb dX5_daysOf_1 rfl hl (by decide) rfl (fun ls hl => ?_)
  refine lv_iconst (v := 0) hx hb dX5_daysOf_2 (by decide) ?_
  refine lv_istore (lv' := [(4, .int 0), (3, .int 0), (0, .ref a_p0), (1, .int x1), (2, .int x2)]) hx hb dX5_daysOf_3 hl (by decide) rfl (fun ls hl => ?_)
  obtain ⟨o3_3, hq, hf⟩ := bd1_some hf
  have K5 : ∀ ls : Array Slot, lv_has ls 5 [(3, .int o3_3)] → W p l e RM_X5_daysOf s m [.ref a_p0, .int x1, .int x2].toArray below meth c s.heap [] 0 0 (MQ below (rdQ (some (.int rr))) [.ref a_p0, .int x1, .int x2].toArray s 0 0 (fun _ => False)) (F0 m 30 ls []) := by
    intro ls hl
    refine lv_iload_n hx hb dX5_daysOf_30 rfl (lv_at hl 0 rfl) ?_
    have hf : (some o3_3 : Option (Int32)) = some rr := hf
    cases hf
    exact re_i hF hr hlk dX5_daysOf_31 rfl
  clear hf
  have L5 : ∀ (n : Nat) (i3_1 : Int32) (i4_2 : Int32), l_X5_daysOf_5 p0_seasonDays x1 x2 n i3_1 i4_2 = some o3_3 → ∀ ls : Array Slot, lv_has ls 5 [(0, .ref a_p0), (1, .int x1), (2, .int x2), (3, .int i3_1), (4, .int i4_2)] → W p l e RM_X5_daysOf s m [.ref a_p0, .int x1, .int x2].toArray below meth c s.heap [] 0 0 (MQ below (rdQ (some (.int rr))) [.ref a_p0, .int x1, .int x2].toArray s 0 0 (fun _ => False)) (F0 m 5 ls []) := by
    intro n
    induction n with
    | zero =>
      intro i3_1 i4_2 hf
      exact nomatch (show none = some o3_3 from hf)
    | succ n ih =>
      intro i3_1 i4_2 hf ls hl
      rw [l_X5_daysOf_5] at hf
      refine lv_iload hx hb dX5_daysOf_5 (lv_at hl 4 rfl) ?_
      refine lv_iload_n hx hb dX5_daysOf_7 rfl (lv_at hl 2 rfl) ?_
      refine lv_icmp_ge (tgt := 30) hx hb dX5_daysOf_8 (by decide) (fun c0 => ?_) (fun c0 => ?_)
      · have hf := (if_pos c0).symm.trans hf
        have hf : (some i3_1 : Option (Int32)) = some o3_3 := hf
        cases hf
        exact K5 ls (lv_sub hl [3] rfl)
      · have hf := (if_neg c0).symm.trans hf
        refine lv_aload_n hx hb dX5_daysOf_11 rfl (lv_at hl 0 rfl) ?_
        refine lv_iload hx hb dX5_daysOf_12 (lv_at hl 4 rfl) ?_
        obtain ⟨r_4, hq, hf⟩ := bd1_some hf
        refine rdVN (As := [.int i4_2]) (rest := []) hF hG hP hl.1 (c_X6_partOf l G a_p0 a_p0_row p0_length p0_shorter p0_longer p0_memory p0_limit p0_seasonDays p0_stopped p0_stopPart p0_stopReason i4_2 r_4 hq) k_X6_partOf n674 [0] rfl ⟨0, 2, _, _, rfl, rfl, rfl⟩ rfl rfl (Nat.le_of_ble_eq_true rfl) ⟨(Nat.le_of_ble_eq_true rfl), (Nat.le_of_ble_eq_true rfl)⟩ ⟨(Nat.zero_le _), (Nat.zero_le _)⟩ dX5_daysOf_14 ?_
        refine lv_iload_n hx hb dX5_daysOf_17 rfl (lv_at hl 1 rfl) ?_
        refine lv_icmp_ne (tgt := 24) hx hb dX5_daysOf_18 (by decide) (fun c0 => ?_) (fun c0 => ?_)
        · have hf := (if_neg c0).symm.trans hf
          refine lv_iinc (v := (i4_2 + 1)) (lv' := [(4, .int (i4_2 + 1)), (0, .ref a_p0), (1, .int x1), (2, .int x2), (3, .int i3_1)]) hx hb dX5_daysOf_24 hl (k := 4) rfl rfl (by decide) rfl (fun ls hl => ?_)
          refine lv_goto (tgt := 5) hx hb dX5_daysOf_27 (by decide) ?_
          exact ih i3_1 (i4_2 + 1) hf ls (lv_sub hl [1, 2, 3, 4, 0] rfl)
        · have hf := (if_pos c0).symm.trans hf
          refine lv_iinc (v := (i3_1 + 1)) (lv' := [(3, .int (i3_1 + 1)), (0, .ref a_p0), (1, .int x1), (2, .int x2), (4, .int i4_2)]) hx hb dX5_daysOf_21 hl (k := 3) rfl rfl (by decide) rfl (fun ls hl => ?_)
          refine lv_iinc (v := (i4_2 + 1)) (lv' := [(4, .int (i4_2 + 1)), (3, .int (i3_1 + 1)), (0, .ref a_p0), (1, .int x1), (2, .int x2)]) hx hb dX5_daysOf_24 hl (k := 4) rfl rfl (by decide) rfl (fun ls hl => ?_)
          refine lv_goto (tgt := 5) hx hb dX5_daysOf_27 (by decide) ?_
          exact ih (i3_1 + 1) (i4_2 + 1) hf ls (lv_sub hl [2, 3, 4, 1, 0] rfl)
  exact L5 1000 0 0 hq ls (lv_sub hl [2, 3, 4, 1, 0] rfl)
def l_X5_sumOf_5 (p0_seasonDays : Int32) (p0_row : Nat → Int32) (x1 : Int32) (x2 : Int32) : Nat → Int64 → Int32 → Option (Int64)
  | 0, _, _ => none
  | n + 1, i3_1, i5_2 => (if x2 ≤ i5_2 then some i3_1 else bd1 (f_X6_partOf p0_seasonDays i5_2) (fun (r_4 : Int32) => (if r_4 = x1 then bd1 (f_X6_at p0_row i5_2) (fun (r_5 : Int32) => l_X5_sumOf_5 p0_seasonDays p0_row x1 x2 n (i3_1 + (Int32.toInt64 r_5)) (i5_2 + 1)) else l_X5_sumOf_5 p0_seasonDays p0_row x1 x2 n i3_1 (i5_2 + 1))))
def f_X5_sumOf (p0_seasonDays : Int32) (p0_row : Nat → Int32) (x1 : Int32) (x2 : Int32) : Option (Int64) := bd1 (l_X5_sumOf_5 p0_seasonDays p0_row x1 x2 1000 0 0) (fun (o3_3 : Int64) => some o3_3)
theorem k_X5_sumOf : KS yX5_sumOf cX5_sumOf 6 (some .long) 3 := ⟨qc_yX5_sumOf, q20, ⟨by decide +kernel, by decide +kernel, by decide +kernel⟩, qt_yX5_sumOf⟩
abbrev RM_X5_sumOf : Room := { frames := 1, cells := 0, slots := 0, locals := 21 }
set_option maxHeartbeats 4000000 in
set_option maxRecDepth 100000 in
theorem c_X5_sumOf (l : Launch) (G : GP) (a_p0 : Nat) (p0_length : Int32) (p0_shorter : Int32) (p0_longer : Int32) (p0_memory : Int32) (p0_limit : Int32) (p0_seasonDays : Int32) (p0_stopped : Int32) (p0_stopPart : Int32) (p0_stopReason : Int32) (a_p0_row : Nat) (p0_row : Nat → Int32) (x1 : Int32) (x2 : Int32) (rr : Int64) (hf : f_X5_sumOf p0_seasonDays p0_row x1 x2 = some rr) : RM l yX5_sumOf cX5_sumOf 6 (some .long) 1 21 G [.ref a_p0, .int x1, .int x2] [(a_p0, .inr (2, [.ref a_p0_row, .int p0_length, .int p0_shorter, .int p0_longer, .int p0_memory, .int p0_limit, .int p0_seasonDays, .int p0_stopped, .int p0_stopPart, .int p0_stopReason])), (a_p0_row, .inl (G.2.1, 60, .inl p0_row))] (some (.long rr)) := by
  refine RM.ofW (C := RX5) (by decide) rfl (Nat.le_of_ble_eq_true rfl) ?_
  intro p e s m below meth c hF hr hlk hG hP ls hl
  have hl : lv_has ls 6 [(0, .ref a_p0), (1, .int x1), (2, .int x2)] := hl
  have hx := hF.1
  have hb := hF.2.1
  have hml := hF.2.2.1
  have hown := hF.2.2.2.1
  have hts := hF.2.2.2.2
  unfold f_X5_sumOf at hf
  refine lv_lconst (v := 0) hx hb dX5_sumOf_0 (by decide) ?_
  refine lv_lstore_n (lv' := [(3, .long 0), (0, .ref a_p0), (1, .int x1), (2, .int x2)]) hx hb dX5_sumOf_1 rfl hl (by decide) rfl (fun ls hl => ?_)
  refine lv_iconst (v := 0) hx hb dX5_sumOf_2 (by decide) ?_
  refine lv_istore (lv' := [(5, .int 0), (3, .long 0), (0, .ref a_p0), (1, .int x1), (2, .int x2)]) hx hb dX5_sumOf_3 hl (by decide) rfl (fun ls hl => ?_)
  obtain ⟨o3_3, hq, hf⟩ := bd1_some hf
  have K5 : ∀ ls : Array Slot, lv_has ls 6 [(3, .long o3_3)] → W p l e RM_X5_sumOf s m [.ref a_p0, .int x1, .int x2].toArray below meth c s.heap [] 0 0 (MQ below (rdQ (some (.long rr))) [.ref a_p0, .int x1, .int x2].toArray s 0 0 (fun _ => False)) (F0 m 37 ls []) := by
    intro ls hl
    refine lv_lload_n hx hb dX5_sumOf_37 rfl (lv_at hl 0 rfl) ?_
    have hf : (some o3_3 : Option (Int64)) = some rr := hf
    cases hf
    exact re_l hF hr hlk dX5_sumOf_38 rfl
  clear hf
  have L5 : ∀ (n : Nat) (i3_1 : Int64) (i5_2 : Int32), l_X5_sumOf_5 p0_seasonDays p0_row x1 x2 n i3_1 i5_2 = some o3_3 → ∀ ls : Array Slot, lv_has ls 6 [(0, .ref a_p0), (1, .int x1), (2, .int x2), (3, .long i3_1), (5, .int i5_2)] → W p l e RM_X5_sumOf s m [.ref a_p0, .int x1, .int x2].toArray below meth c s.heap [] 0 0 (MQ below (rdQ (some (.long rr))) [.ref a_p0, .int x1, .int x2].toArray s 0 0 (fun _ => False)) (F0 m 5 ls []) := by
    intro n
    induction n with
    | zero =>
      intro i3_1 i5_2 hf
      exact nomatch (show none = some o3_3 from hf)
    | succ n ih =>
      intro i3_1 i5_2 hf ls hl
      rw [l_X5_sumOf_5] at hf
      refine lv_iload hx hb dX5_sumOf_5 (lv_at hl 4 rfl) ?_
      refine lv_iload_n hx hb dX5_sumOf_7 rfl (lv_at hl 2 rfl) ?_
      refine lv_icmp_ge (tgt := 37) hx hb dX5_sumOf_8 (by decide) (fun c0 => ?_) (fun c0 => ?_)
      · have hf := (if_pos c0).symm.trans hf
        have hf : (some i3_1 : Option (Int64)) = some o3_3 := hf
        cases hf
        exact K5 ls (lv_sub hl [3] rfl)
      · have hf := (if_neg c0).symm.trans hf
        refine lv_aload_n hx hb dX5_sumOf_11 rfl (lv_at hl 0 rfl) ?_
        refine lv_iload hx hb dX5_sumOf_12 (lv_at hl 4 rfl) ?_
        obtain ⟨r_4, hq, hf⟩ := bd1_some hf
        refine rdVN (As := [.int i5_2]) (rest := []) hF hG hP hl.1 (c_X6_partOf l G a_p0 a_p0_row p0_length p0_shorter p0_longer p0_memory p0_limit p0_seasonDays p0_stopped p0_stopPart p0_stopReason i5_2 r_4 hq) k_X6_partOf n674 [0] rfl ⟨0, 2, _, _, rfl, rfl, rfl⟩ rfl rfl (Nat.le_of_ble_eq_true rfl) ⟨(Nat.le_of_ble_eq_true rfl), (Nat.le_of_ble_eq_true rfl)⟩ ⟨(Nat.zero_le _), (Nat.zero_le _)⟩ dX5_sumOf_14 ?_
        refine lv_iload_n hx hb dX5_sumOf_17 rfl (lv_at hl 1 rfl) ?_
        refine lv_icmp_ne (tgt := 31) hx hb dX5_sumOf_18 (by decide) (fun c0 => ?_) (fun c0 => ?_)
        · have hf := (if_neg c0).symm.trans hf
          refine lv_iinc (v := (i5_2 + 1)) (lv' := [(5, .int (i5_2 + 1)), (0, .ref a_p0), (1, .int x1), (2, .int x2), (3, .long i3_1)]) hx hb dX5_sumOf_31 hl (k := 4) rfl rfl (by decide) rfl (fun ls hl => ?_)
          refine lv_goto (tgt := 5) hx hb dX5_sumOf_34 (by decide) ?_
          exact ih i3_1 (i5_2 + 1) hf ls (lv_sub hl [1, 2, 3, 4, 0] rfl)
        · have hf := (if_pos c0).symm.trans hf
          refine lv_lload_n hx hb dX5_sumOf_21 rfl (lv_at hl 3 rfl) ?_
          refine lv_aload_n hx hb dX5_sumOf_22 rfl (lv_at hl 0 rfl) ?_
          refine lv_iload hx hb dX5_sumOf_23 (lv_at hl 4 rfl) ?_
          obtain ⟨r_5, hq, hf⟩ := bd1_some hf
          refine rdVN (As := [.int i5_2]) (rest := [.long i3_1]) hF hG hP hl.1 (c_X6_at l G a_p0 p0_length p0_shorter p0_longer p0_memory p0_limit p0_seasonDays p0_stopped p0_stopPart p0_stopReason a_p0_row p0_row i5_2 r_5 hq) k_X6_at n679 [0, 1] rfl ⟨0, 2, _, _, rfl, rfl, rfl⟩ rfl rfl (Nat.le_of_ble_eq_true rfl) ⟨(Nat.le_of_ble_eq_true rfl), (Nat.le_of_ble_eq_true rfl)⟩ ⟨(Nat.zero_le _), (Nat.zero_le _)⟩ dX5_sumOf_25 ?_
          refine lv_i2l (v := (Int32.toInt64 r_5)) hx hb dX5_sumOf_28 rfl ?_
          refine lv_ladd hx hb dX5_sumOf_29 ?_
          refine lv_lstore_n (lv' := [(3, .long (i3_1 + (Int32.toInt64 r_5))), (0, .ref a_p0), (1, .int x1), (2, .int x2), (5, .int i5_2)]) hx hb dX5_sumOf_30 rfl hl (by decide) rfl (fun ls hl => ?_)
          refine lv_iinc (v := (i5_2 + 1)) (lv' := [(5, .int (i5_2 + 1)), (3, .long (i3_1 + (Int32.toInt64 r_5))), (0, .ref a_p0), (1, .int x1), (2, .int x2)]) hx hb dX5_sumOf_31 hl (k := 4) rfl rfl (by decide) rfl (fun ls hl => ?_)
          refine lv_goto (tgt := 5) hx hb dX5_sumOf_34 (by decide) ?_
          exact ih (i3_1 + (Int32.toInt64 r_5)) (i5_2 + 1) hf ls (lv_sub hl [2, 3, 4, 1, 0] rfl)
  exact L5 1000 0 0 hq ls (lv_sub hl [2, 3, 4, 1, 0] rfl)
def f_X1_behind (p0_shorter : Int32) (p0_longer : Int32) (p0_memory : Int32) (p0_seasonDays : Int32) (p0_row : Nat → Int32) (x1 : Int32) (x2 : Int32) : Option (Int32) := bd1 (f_X6_partOf p0_seasonDays x2) (fun (r_1 : Int32) => bd1 (if x1 = 3 then bd1 (f_X5_daysOf p0_seasonDays r_1 x2) (fun (r_3 : Int32) => some r_3) else some 0) (fun (j_2 : Int32) => (if j_2 ≤ 0 then (if x1 = 2 then bd1 (f_X4_smoothedForwards p0_memory p0_row (x2 - 1)) (fun (r_6 : Int32) => some r_6) else bd1 (if x1 = 0 then some p0_shorter else some p0_longer) (fun (j_4 : Int32) => bd1 (f_X4_byAdding p0_row (x2 - 1) j_4) (fun (r_5 : Int32) => some r_5))) else bd1 (f_X5_sumOf p0_seasonDays p0_row r_1 x2) (fun (r_7 : Int64) => bd1 (f_X11_divided (1000 * r_7) (Int32.toInt64 j_2)) (fun (r_8 : Int64) => some (Int64.toInt32 r_8))))))
theorem k_X1_behind : KS yX1_behind cX1_behind 5 (some .int) 3 := ⟨qc_yX1_behind, q19, ⟨by decide +kernel, by decide +kernel, by decide +kernel⟩, qt_yX1_behind⟩
abbrev RM_X1_behind : Room := { frames := 2, cells := 0, slots := 0, locals := 49 }
set_option maxHeartbeats 4000000 in
set_option maxRecDepth 100000 in
theorem c_X1_behind (l : Launch) (G : GP) (a_p0 : Nat) (p0_length : Int32) (p0_shorter : Int32) (p0_longer : Int32) (p0_memory : Int32) (p0_limit : Int32) (p0_seasonDays : Int32) (p0_stopped : Int32) (p0_stopPart : Int32) (p0_stopReason : Int32) (a_p0_row : Nat) (p0_row : Nat → Int32) (x1 : Int32) (x2 : Int32) (rr : Int32) (hf : f_X1_behind p0_shorter p0_longer p0_memory p0_seasonDays p0_row x1 x2 = some rr) : RM l yX1_behind cX1_behind 5 (some .int) 2 49 G [.ref a_p0, .int x1, .int x2] [(a_p0, .inr (2, [.ref a_p0_row, .int p0_length, .int p0_shorter, .int p0_longer, .int p0_memory, .int p0_limit, .int p0_seasonDays, .int p0_stopped, .int p0_stopPart, .int p0_stopReason])), (a_p0_row, .inl (G.2.1, 60, .inl p0_row))] (some (.int rr)) := by
  refine RM.ofW (C := RX1) (by decide) rfl (Nat.le_of_ble_eq_true rfl) ?_
  intro p e s m below meth c hF hr hlk hG hP ls hl
  have hl : lv_has ls 5 [(0, .ref a_p0), (1, .int x1), (2, .int x2)] := hl
  have hx := hF.1
  have hb := hF.2.1
  have hml := hF.2.2.1
  have hown := hF.2.2.2.1
  have hts := hF.2.2.2.2
  unfold f_X1_behind at hf
  refine lv_aload_n hx hb dX1_behind_0 rfl (lv_at hl 0 rfl) ?_
  refine lv_iload_n hx hb dX1_behind_1 rfl (lv_at hl 2 rfl) ?_
  obtain ⟨r_1, hq, hf⟩ := bd1_some hf
  refine rdVN (As := [.int x2]) (rest := []) hF hG hP hl.1 (c_X6_partOf l G a_p0 a_p0_row p0_length p0_shorter p0_longer p0_memory p0_limit p0_seasonDays p0_stopped p0_stopPart p0_stopReason x2 r_1 hq) k_X6_partOf n667 [0] rfl ⟨0, 2, _, _, rfl, rfl, rfl⟩ rfl rfl (Nat.le_of_ble_eq_true rfl) ⟨(Nat.le_of_ble_eq_true rfl), (Nat.le_of_ble_eq_true rfl)⟩ ⟨(Nat.zero_le _), (Nat.zero_le _)⟩ dX1_behind_2 ?_
  refine lv_istore_n (lv' := [(3, .int r_1), (0, .ref a_p0), (1, .int x1), (2, .int x2)]) hx hb dX1_behind_5 rfl hl (by decide) rfl (fun ls hl => ?_)
  refine lv_iload_n hx hb dX1_behind_6 rfl (lv_at hl 2 rfl) ?_
  refine lv_iconst (v := 3) hx hb dX1_behind_7 (by decide) ?_
  obtain ⟨j_2, hq, hf⟩ := bd1_some hf
  have J21 : ∀ ls : Array Slot, lv_has ls 5 [(0, .ref a_p0), (1, .int x1), (2, .int x2), (3, .int r_1)] → W p l e RM_X1_behind s m [.ref a_p0, .int x1, .int x2].toArray below meth c s.heap [] 0 0 (MQ below (rdQ (some (.int rr))) [.ref a_p0, .int x1, .int x2].toArray s 0 0 (fun _ => False)) (F0 m 21 ls [.int j_2]) := by
    intro ls hl
    refine lv_istore (lv' := [(4, .int j_2), (0, .ref a_p0), (1, .int x1), (2, .int x2), (3, .int r_1)]) hx hb dX1_behind_21 hl (by decide) rfl (fun ls hl => ?_)
    refine lv_iload hx hb dX1_behind_23 (lv_at hl 0 rfl) ?_
    refine lv_if_le (tgt := 46) hx hb dX1_behind_25 (by decide) (fun c0 => ?_) (fun c0 => ?_)
    · have hf := (if_pos c0).symm.trans hf
      refine lv_iload_n hx hb dX1_behind_46 rfl (lv_at hl 2 rfl) ?_
      refine lv_iconst (v := 2) hx hb dX1_behind_47 (by decide) ?_
      refine lv_icmp_ne (tgt := 59) hx hb dX1_behind_48 (by decide) (fun c0 => ?_) (fun c0 => ?_)
      · have hf := (if_neg c0).symm.trans hf
        refine lv_aload_n hx hb dX1_behind_59 rfl (lv_at hl 1 rfl) ?_
        refine lv_iload_n hx hb dX1_behind_60 rfl (lv_at hl 3 rfl) ?_
        refine lv_iconst (v := 1) hx hb dX1_behind_61 (by decide) ?_
        refine lv_isub hx hb dX1_behind_62 ?_
        refine lv_iload_n hx hb dX1_behind_63 rfl (lv_at hl 2 rfl) ?_
        obtain ⟨j_4, hq, hf⟩ := bd1_some hf
        have J78 : ∀ ls : Array Slot, lv_has ls 5 [] → W p l e RM_X1_behind s m [.ref a_p0, .int x1, .int x2].toArray below meth c s.heap [] 0 0 (MQ below (rdQ (some (.int rr))) [.ref a_p0, .int x1, .int x2].toArray s 0 0 (fun _ => False)) (F0 m 78 ls [.int j_4, .int (x2 - 1), .ref a_p0]) := by
          intro ls hl
          obtain ⟨r_5, hq, hf⟩ := bd1_some hf
          refine rdSN (As := [.ref a_p0, .int (x2 - 1), .int j_4]) (rest := []) hF hG hP hl.1 (c_X4_byAdding l G a_p0 p0_length p0_shorter p0_longer p0_memory p0_limit p0_seasonDays p0_stopped p0_stopPart p0_stopReason a_p0_row p0_row (x2 - 1) j_4 r_5 hq) k_X4_byAdding n682 [0, 1] rfl rfl rfl (Nat.le_of_ble_eq_true rfl) ⟨(Nat.le_of_ble_eq_true rfl), (Nat.le_of_ble_eq_true rfl)⟩ ⟨(Nat.zero_le _), (Nat.zero_le _)⟩ dX1_behind_78 ?_
          have hf : (some r_5 : Option (Int32)) = some rr := hf
          cases hf
          exact re_i hF hr hlk dX1_behind_81 rfl
        clear hf
        have hf := hq
        clear hq
        refine lv_if_ne (tgt := 74) hx hb dX1_behind_64 (by decide) (fun c0 => ?_) (fun c0 => ?_)
        · have hf := (if_neg c0).symm.trans hf
          refine lv_aload_n hx hb dX1_behind_74 rfl (lv_at hl 1 rfl) ?_
          refine gfN (C := RX6) (T := TX6) (N := 10) (ci := 2) (v := .int p0_longer) hF hG hP inX6 0 rfl rfl 3 (by decide) n49 rfl rfl dX1_behind_75 ?_
          have hf : (some p0_longer : Option (Int32)) = some j_4 := hf
          cases hf
          exact J78 ls (lv_sub hl [] rfl)
        · have hf := (if_pos c0).symm.trans hf
          refine lv_aload_n hx hb dX1_behind_67 rfl (lv_at hl 1 rfl) ?_
          refine gfN (C := RX6) (T := TX6) (N := 10) (ci := 2) (v := .int p0_shorter) hF hG hP inX6 0 rfl rfl 2 (by decide) n44 rfl rfl dX1_behind_68 ?_
          refine lv_goto (tgt := 78) hx hb dX1_behind_71 (by decide) ?_
          have hf : (some p0_shorter : Option (Int32)) = some j_4 := hf
          cases hf
          exact J78 ls (lv_sub hl [] rfl)
      · have hf := (if_pos c0).symm.trans hf
        refine lv_aload_n hx hb dX1_behind_51 rfl (lv_at hl 1 rfl) ?_
        refine lv_iload_n hx hb dX1_behind_52 rfl (lv_at hl 3 rfl) ?_
        refine lv_iconst (v := 1) hx hb dX1_behind_53 (by decide) ?_
        refine lv_isub hx hb dX1_behind_54 ?_
        obtain ⟨r_6, hq, hf⟩ := bd1_some hf
        refine rdSN (As := [.ref a_p0, .int (x2 - 1)]) (rest := []) hF hG hP hl.1 (c_X4_smoothedForwards l G a_p0 p0_length p0_shorter p0_longer p0_memory p0_limit p0_seasonDays p0_stopped p0_stopPart p0_stopReason a_p0_row p0_row (x2 - 1) r_6 hq) k_X4_smoothedForwards n681 [0, 1] rfl rfl rfl (Nat.le_of_ble_eq_true rfl) ⟨(Nat.le_of_ble_eq_true rfl), (Nat.le_of_ble_eq_true rfl)⟩ ⟨(Nat.zero_le _), (Nat.zero_le _)⟩ dX1_behind_55 ?_
        have hf : (some r_6 : Option (Int32)) = some rr := hf
        cases hf
        exact re_i hF hr hlk dX1_behind_58 rfl
    · have hf := (if_neg c0).symm.trans hf
      refine lv_ldc2 (v := 1000) hx hb hown (hts _ (List.mem_cons_of_mem _ q675)) dX1_behind_28 ?_
      refine lv_aload_n hx hb dX1_behind_31 rfl (lv_at hl 1 rfl) ?_
      refine lv_iload_n hx hb dX1_behind_32 rfl (lv_at hl 4 rfl) ?_
      refine lv_iload_n hx hb dX1_behind_33 rfl (lv_at hl 3 rfl) ?_
      obtain ⟨r_7, hq, hf⟩ := bd1_some hf
      refine rdSN (As := [.ref a_p0, .int r_1, .int x2]) (rest := [.long 1000]) hF hG hP hl.1 (c_X5_sumOf l G a_p0 p0_length p0_shorter p0_longer p0_memory p0_limit p0_seasonDays p0_stopped p0_stopPart p0_stopReason a_p0_row p0_row r_1 x2 r_7 hq) k_X5_sumOf n676 [0, 1] rfl rfl rfl (Nat.le_of_ble_eq_true rfl) ⟨(Nat.le_of_ble_eq_true rfl), (Nat.le_of_ble_eq_true rfl)⟩ ⟨(Nat.zero_le _), (Nat.zero_le _)⟩ dX1_behind_34 ?_
      refine lv_lmul hx hb dX1_behind_37 ?_
      refine lv_iload hx hb dX1_behind_38 (lv_at hl 0 rfl) ?_
      refine lv_i2l (v := (Int32.toInt64 j_2)) hx hb dX1_behind_40 rfl ?_
      obtain ⟨r_8, hq, hf⟩ := bd1_some hf
      refine rdSN (As := [.long (1000 * r_7), .long (Int32.toInt64 j_2)]) (rest := []) hF hG hP hl.1 (c_X11_divided l G (1000 * r_7) (Int32.toInt64 j_2) r_8 hq) k_X11_divided n680 [] rfl rfl rfl (Nat.le_of_ble_eq_true rfl) ⟨(Nat.le_of_ble_eq_true rfl), (Nat.le_of_ble_eq_true rfl)⟩ ⟨(Nat.zero_le _), (Nat.zero_le _)⟩ dX1_behind_41 ?_
      refine lv_l2i (v := (Int64.toInt32 r_8)) hx hb dX1_behind_44 rfl ?_
      have hf : (some (Int64.toInt32 r_8) : Option (Int32)) = some rr := hf
      cases hf
      exact re_i hF hr hlk dX1_behind_45 rfl
  clear hf
  have hf := hq
  clear hq
  refine lv_icmp_ne (tgt := 20) hx hb dX1_behind_8 (by decide) (fun c0 => ?_) (fun c0 => ?_)
  · have hf := (if_neg c0).symm.trans hf
    refine lv_iconst (v := 0) hx hb dX1_behind_20 (by decide) ?_
    have hf : (some 0 : Option (Int32)) = some j_2 := hf
    cases hf
    exact J21 ls (lv_sub hl [1, 2, 3, 0] rfl)
  · have hf := (if_pos c0).symm.trans hf
    refine lv_aload_n hx hb dX1_behind_11 rfl (lv_at hl 1 rfl) ?_
    refine lv_iload_n hx hb dX1_behind_12 rfl (lv_at hl 0 rfl) ?_
    refine lv_iload_n hx hb dX1_behind_13 rfl (lv_at hl 3 rfl) ?_
    obtain ⟨r_3, hq, hf⟩ := bd1_some hf
    refine rdSN (As := [.ref a_p0, .int r_1, .int x2]) (rest := []) hF hG hP hl.1 (c_X5_daysOf l G a_p0 a_p0_row p0_length p0_shorter p0_longer p0_memory p0_limit p0_seasonDays p0_stopped p0_stopPart p0_stopReason r_1 x2 r_3 hq) k_X5_daysOf n671 [0] rfl rfl rfl (Nat.le_of_ble_eq_true rfl) ⟨(Nat.le_of_ble_eq_true rfl), (Nat.le_of_ble_eq_true rfl)⟩ ⟨(Nat.zero_le _), (Nat.zero_le _)⟩ dX1_behind_14 ?_
    refine lv_goto (tgt := 21) hx hb dX1_behind_17 (by decide) ?_
    have hf : (some r_3 : Option (Int32)) = some j_2 := hf
    cases hf
    exact J21 ls (lv_sub hl [1, 2, 3, 0] rfl)
def l_X1_missOf_5 (p0_length : Int32) (p0_shorter : Int32) (p0_longer : Int32) (p0_memory : Int32) (p0_seasonDays : Int32) (p0_row : Nat → Int32) (x1 : Int32) : Nat → Int64 → Int32 → Option (Int64)
  | 0, _, _ => none
  | n + 1, i2_1, i4_2 => (if p0_length ≤ i4_2 then some i2_1 else bd1 (f_X1_behind p0_shorter p0_longer p0_memory p0_seasonDays p0_row x1 i4_2) (fun (r_4 : Int32) => bd1 (f_X6_at p0_row i4_2) (fun (r_5 : Int32) => l_X1_missOf_5 p0_length p0_shorter p0_longer p0_memory p0_seasonDays p0_row x1 n (i2_1 + (Int32.toInt64 (if 0 ≤ (r_4 - (1000 * r_5)) then (r_4 - (1000 * r_5)) else 0 - (r_4 - (1000 * r_5))))) (i4_2 + 1))))
def f_X1_missOf (p0_length : Int32) (p0_shorter : Int32) (p0_longer : Int32) (p0_memory : Int32) (p0_seasonDays : Int32) (p0_row : Nat → Int32) (x1 : Int32) : Option (Int32) := bd1 (l_X1_missOf_5 p0_length p0_shorter p0_longer p0_memory p0_seasonDays p0_row x1 1000 0 1) (fun (o2_3 : Int64) => bd1 (f_X11_divided o2_3 (Int32.toInt64 (p0_length - 1))) (fun (r_6 : Int64) => some (Int64.toInt32 r_6)))
theorem k_X1_missOf : KS yX1_missOf cX1_missOf 5 (some .int) 2 := ⟨qc_yX1_missOf, q19, ⟨by decide +kernel, by decide +kernel, by decide +kernel⟩, qt_yX1_missOf⟩
abbrev RM_X1_missOf : Room := { frames := 3, cells := 0, slots := 0, locals := 73 }
set_option maxHeartbeats 4000000 in
set_option maxRecDepth 100000 in
theorem c_X1_missOf (l : Launch) (G : GP) (a_p0 : Nat) (p0_length : Int32) (p0_shorter : Int32) (p0_longer : Int32) (p0_memory : Int32) (p0_limit : Int32) (p0_seasonDays : Int32) (p0_stopped : Int32) (p0_stopPart : Int32) (p0_stopReason : Int32) (a_p0_row : Nat) (p0_row : Nat → Int32) (x1 : Int32) (rr : Int32) (hf : f_X1_missOf p0_length p0_shorter p0_longer p0_memory p0_seasonDays p0_row x1 = some rr) : RM l yX1_missOf cX1_missOf 5 (some .int) 3 73 G [.ref a_p0, .int x1] [(a_p0, .inr (2, [.ref a_p0_row, .int p0_length, .int p0_shorter, .int p0_longer, .int p0_memory, .int p0_limit, .int p0_seasonDays, .int p0_stopped, .int p0_stopPart, .int p0_stopReason])), (a_p0_row, .inl (G.2.1, 60, .inl p0_row))] (some (.int rr)) := by
  refine RM.ofW (C := RX1) (by decide) rfl (Nat.le_of_ble_eq_true rfl) ?_
  intro p e s m below meth c hF hr hlk hG hP ls hl
  have hl : lv_has ls 5 [(0, .ref a_p0), (1, .int x1)] := hl
  have hx := hF.1
  have hb := hF.2.1
  have hml := hF.2.2.1
  have hown := hF.2.2.2.1
  have hts := hF.2.2.2.2
  unfold f_X1_missOf at hf
  refine lv_lconst (v := 0) hx hb dX1_missOf_0 (by decide) ?_
  refine lv_lstore_n (lv' := [(2, .long 0), (0, .ref a_p0), (1, .int x1)]) hx hb dX1_missOf_1 rfl hl (by decide) rfl (fun ls hl => ?_)
  refine lv_iconst (v := 1) hx hb dX1_missOf_2 (by decide) ?_
  refine lv_istore (lv' := [(4, .int 1), (2, .long 0), (0, .ref a_p0), (1, .int x1)]) hx hb dX1_missOf_3 hl (by decide) rfl (fun ls hl => ?_)
  obtain ⟨o2_3, hq, hf⟩ := bd1_some hf
  have K5 : ∀ ls : Array Slot, lv_has ls 5 [(0, .ref a_p0), (2, .long o2_3)] → W p l e RM_X1_missOf s m [.ref a_p0, .int x1].toArray below meth c s.heap [] 0 0 (MQ below (rdQ (some (.int rr))) [.ref a_p0, .int x1].toArray s 0 0 (fun _ => False)) (F0 m 45 ls []) := by
    intro ls hl
    refine lv_lload_n hx hb dX1_missOf_45 rfl (lv_at hl 1 rfl) ?_
    refine lv_aload_n hx hb dX1_missOf_46 rfl (lv_at hl 0 rfl) ?_
    refine gfN (C := RX6) (T := TX6) (N := 10) (ci := 2) (v := .int p0_length) hF hG hP inX6 0 rfl rfl 1 (by decide) n38 rfl rfl dX1_missOf_47 ?_
    refine lv_iconst (v := 1) hx hb dX1_missOf_50 (by decide) ?_
    refine lv_isub hx hb dX1_missOf_51 ?_
    refine lv_i2l (v := (Int32.toInt64 (p0_length - 1))) hx hb dX1_missOf_52 rfl ?_
    obtain ⟨r_6, hq, hf⟩ := bd1_some hf
    refine rdSN (As := [.long o2_3, .long (Int32.toInt64 (p0_length - 1))]) (rest := []) hF hG hP hl.1 (c_X11_divided l G o2_3 (Int32.toInt64 (p0_length - 1)) r_6 hq) k_X11_divided n680 [] rfl rfl rfl (Nat.le_of_ble_eq_true rfl) ⟨(Nat.le_of_ble_eq_true rfl), (Nat.le_of_ble_eq_true rfl)⟩ ⟨(Nat.zero_le _), (Nat.zero_le _)⟩ dX1_missOf_53 ?_
    refine lv_l2i (v := (Int64.toInt32 r_6)) hx hb dX1_missOf_56 rfl ?_
    have hf : (some (Int64.toInt32 r_6) : Option (Int32)) = some rr := hf
    cases hf
    exact re_i hF hr hlk dX1_missOf_57 rfl
  clear hf
  have L5 : ∀ (n : Nat) (i2_1 : Int64) (i4_2 : Int32), l_X1_missOf_5 p0_length p0_shorter p0_longer p0_memory p0_seasonDays p0_row x1 n i2_1 i4_2 = some o2_3 → ∀ ls : Array Slot, lv_has ls 5 [(0, .ref a_p0), (1, .int x1), (2, .long i2_1), (4, .int i4_2)] → W p l e RM_X1_missOf s m [.ref a_p0, .int x1].toArray below meth c s.heap [] 0 0 (MQ below (rdQ (some (.int rr))) [.ref a_p0, .int x1].toArray s 0 0 (fun _ => False)) (F0 m 5 ls []) := by
    intro n
    induction n with
    | zero =>
      intro i2_1 i4_2 hf
      exact nomatch (show none = some o2_3 from hf)
    | succ n ih =>
      intro i2_1 i4_2 hf ls hl
      rw [l_X1_missOf_5] at hf
      refine lv_iload hx hb dX1_missOf_5 (lv_at hl 3 rfl) ?_
      refine lv_aload_n hx hb dX1_missOf_7 rfl (lv_at hl 0 rfl) ?_
      refine gfN (C := RX6) (T := TX6) (N := 10) (ci := 2) (v := .int p0_length) hF hG hP inX6 0 rfl rfl 1 (by decide) n38 rfl rfl dX1_missOf_8 ?_
      refine lv_icmp_ge (tgt := 45) hx hb dX1_missOf_11 (by decide) (fun c0 => ?_) (fun c0 => ?_)
      · have hf := (if_pos c0).symm.trans hf
        have hf : (some i2_1 : Option (Int64)) = some o2_3 := hf
        cases hf
        exact K5 ls (lv_sub hl [0, 2] rfl)
      · have hf := (if_neg c0).symm.trans hf
        refine lv_lload_n hx hb dX1_missOf_14 rfl (lv_at hl 2 rfl) ?_
        refine lv_aload_n hx hb dX1_missOf_15 rfl (lv_at hl 0 rfl) ?_
        refine lv_iload_n hx hb dX1_missOf_16 rfl (lv_at hl 1 rfl) ?_
        refine lv_iload hx hb dX1_missOf_17 (lv_at hl 3 rfl) ?_
        obtain ⟨r_4, hq, hf⟩ := bd1_some hf
        refine rdS (As := [.ref a_p0, .int x1, .int i4_2]) (rest := [.long i2_1]) hF hG hP hl.1 (c_X1_behind l G a_p0 p0_length p0_shorter p0_longer p0_memory p0_limit p0_seasonDays p0_stopped p0_stopPart p0_stopReason a_p0_row p0_row x1 i4_2 r_4 hq) k_X1_behind q664 [0, 1] rfl rfl rfl (Nat.le_of_ble_eq_true rfl) ⟨(Nat.le_of_ble_eq_true rfl), (Nat.le_of_ble_eq_true rfl)⟩ ⟨(Nat.zero_le _), (Nat.zero_le _)⟩ dX1_missOf_19 ?_
        refine lv_sipush (v := 1000) hx hb dX1_missOf_22 (by decide) ?_
        refine lv_aload_n hx hb dX1_missOf_25 rfl (lv_at hl 0 rfl) ?_
        refine lv_iload hx hb dX1_missOf_26 (lv_at hl 3 rfl) ?_
        obtain ⟨r_5, hq, hf⟩ := bd1_some hf
        refine rdVN (As := [.int i4_2]) (rest := [.int 1000, .int r_4, .long i2_1]) hF hG hP hl.1 (c_X6_at l G a_p0 p0_length p0_shorter p0_longer p0_memory p0_limit p0_seasonDays p0_stopped p0_stopPart p0_stopReason a_p0_row p0_row i4_2 r_5 hq) k_X6_at n683 [0, 1] rfl ⟨0, 2, _, _, rfl, rfl, rfl⟩ rfl rfl (Nat.le_of_ble_eq_true rfl) ⟨(Nat.le_of_ble_eq_true rfl), (Nat.le_of_ble_eq_true rfl)⟩ ⟨(Nat.zero_le _), (Nat.zero_le _)⟩ dX1_missOf_28 ?_
        refine lv_imul hx hb dX1_missOf_31 ?_
        refine lv_isub hx hb dX1_missOf_32 ?_
        refine va_mabs hx hb (hml.trans hl.1.symm) hown (hts _ (List.mem_cons_of_mem _ q684)) (hts _ (List.mem_cons_of_mem _ qt_yJ9_abs_0f7a4)) (hts _ (List.mem_cons_of_mem _ q11)) (hts _ (List.mem_cons_of_mem _ qc_yJ9_abs_0f7a4)) (Nat.le_of_ble_eq_true rfl) (Nat.le_of_ble_eq_true rfl) (Nat.zero_le _) (Nat.zero_le _) dX1_missOf_33 ?_
        refine lv_i2l (v := (Int32.toInt64 (if 0 ≤ (r_4 - (1000 * r_5)) then (r_4 - (1000 * r_5)) else 0 - (r_4 - (1000 * r_5))))) hx hb dX1_missOf_36 rfl ?_
        refine lv_ladd hx hb dX1_missOf_37 ?_
        refine lv_lstore_n (lv' := [(2, .long (i2_1 + (Int32.toInt64 (if 0 ≤ (r_4 - (1000 * r_5)) then (r_4 - (1000 * r_5)) else 0 - (r_4 - (1000 * r_5)))))), (0, .ref a_p0), (1, .int x1), (4, .int i4_2)]) hx hb dX1_missOf_38 rfl hl (by decide) rfl (fun ls hl => ?_)
        refine lv_iinc (v := (i4_2 + 1)) (lv' := [(4, .int (i4_2 + 1)), (2, .long (i2_1 + (Int32.toInt64 (if 0 ≤ (r_4 - (1000 * r_5)) then (r_4 - (1000 * r_5)) else 0 - (r_4 - (1000 * r_5)))))), (0, .ref a_p0), (1, .int x1)]) hx hb dX1_missOf_39 hl (k := 3) rfl rfl (by decide) rfl (fun ls hl => ?_)
        refine lv_goto (tgt := 5) hx hb dX1_missOf_42 (by decide) ?_
        exact ih (i2_1 + (Int32.toInt64 (if 0 ≤ (r_4 - (1000 * r_5)) then (r_4 - (1000 * r_5)) else 0 - (r_4 - (1000 * r_5))))) (i4_2 + 1) hf ls (lv_sub hl [2, 3, 1, 0] rfl)
  exact L5 1000 0 1 hq ls (lv_sub hl [2, 3, 1, 0] rfl)
def l_X1_best_10 (p0_length : Int32) (p0_shorter : Int32) (p0_longer : Int32) (p0_memory : Int32) (p0_seasonDays : Int32) (p0_row : Nat → Int32) : Nat → Int32 → Int32 → Int32 → Option (Int32)
  | 0, _, _, _ => none
  | n + 1, i1_2, i2_3, i3_4 => (if 4 ≤ i3_4 then some i1_2 else bd1 (f_X1_missOf p0_length p0_shorter p0_longer p0_memory p0_seasonDays p0_row i3_4) (fun (r_6 : Int32) => (if i2_3 ≤ r_6 then l_X1_best_10 p0_length p0_shorter p0_longer p0_memory p0_seasonDays p0_row n i1_2 i2_3 (i3_4 + 1) else l_X1_best_10 p0_length p0_shorter p0_longer p0_memory p0_seasonDays p0_row n i3_4 r_6 (i3_4 + 1))))
def f_X1_best (p0_length : Int32) (p0_shorter : Int32) (p0_longer : Int32) (p0_memory : Int32) (p0_seasonDays : Int32) (p0_row : Nat → Int32) : Option (Int32) := bd1 (f_X1_missOf p0_length p0_shorter p0_longer p0_memory p0_seasonDays p0_row 0) (fun (r_1 : Int32) => bd1 (l_X1_best_10 p0_length p0_shorter p0_longer p0_memory p0_seasonDays p0_row 1000 0 r_1 1) (fun (o1_5 : Int32) => some o1_5))
theorem k_X1_best : KS yX1_best cX1_best 5 (some .int) 1 := ⟨qc_yX1_best, q19, ⟨by decide +kernel, by decide +kernel, by decide +kernel⟩, qt_yX1_best⟩
abbrev RM_X1_best : Room := { frames := 4, cells := 0, slots := 0, locals := 97 }
set_option maxHeartbeats 4000000 in
set_option maxRecDepth 100000 in
theorem c_X1_best (l : Launch) (G : GP) (a_p0 : Nat) (p0_length : Int32) (p0_shorter : Int32) (p0_longer : Int32) (p0_memory : Int32) (p0_limit : Int32) (p0_seasonDays : Int32) (p0_stopped : Int32) (p0_stopPart : Int32) (p0_stopReason : Int32) (a_p0_row : Nat) (p0_row : Nat → Int32) (rr : Int32) (hf : f_X1_best p0_length p0_shorter p0_longer p0_memory p0_seasonDays p0_row = some rr) : RM l yX1_best cX1_best 5 (some .int) 4 97 G [.ref a_p0] [(a_p0, .inr (2, [.ref a_p0_row, .int p0_length, .int p0_shorter, .int p0_longer, .int p0_memory, .int p0_limit, .int p0_seasonDays, .int p0_stopped, .int p0_stopPart, .int p0_stopReason])), (a_p0_row, .inl (G.2.1, 60, .inl p0_row))] (some (.int rr)) := by
  refine RM.ofW (C := RX1) (by decide) rfl (Nat.le_of_ble_eq_true rfl) ?_
  intro p e s m below meth c hF hr hlk hG hP ls hl
  have hl : lv_has ls 5 [(0, .ref a_p0)] := hl
  have hx := hF.1
  have hb := hF.2.1
  have hml := hF.2.2.1
  have hown := hF.2.2.2.1
  have hts := hF.2.2.2.2
  unfold f_X1_best at hf
  refine lv_iconst (v := 0) hx hb dX1_best_0 (by decide) ?_
  refine lv_istore_n (lv' := [(1, .int 0), (0, .ref a_p0)]) hx hb dX1_best_1 rfl hl (by decide) rfl (fun ls hl => ?_)
  refine lv_aload_n hx hb dX1_best_2 rfl (lv_at hl 1 rfl) ?_
  refine lv_iconst (v := 0) hx hb dX1_best_3 (by decide) ?_
  obtain ⟨r_1, hq, hf⟩ := bd1_some hf
  refine rdS (As := [.ref a_p0, .int 0]) (rest := []) hF hG hP hl.1 (c_X1_missOf l G a_p0 p0_length p0_shorter p0_longer p0_memory p0_limit p0_seasonDays p0_stopped p0_stopPart p0_stopReason a_p0_row p0_row 0 r_1 hq) k_X1_missOf q661 [0, 1] rfl rfl rfl (Nat.le_of_ble_eq_true rfl) ⟨(Nat.le_of_ble_eq_true rfl), (Nat.le_of_ble_eq_true rfl)⟩ ⟨(Nat.zero_le _), (Nat.zero_le _)⟩ dX1_best_4 ?_
  refine lv_istore_n (lv' := [(2, .int r_1), (1, .int 0), (0, .ref a_p0)]) hx hb dX1_best_7 rfl hl (by decide) rfl (fun ls hl => ?_)
  refine lv_iconst (v := 1) hx hb dX1_best_8 (by decide) ?_
  refine lv_istore_n (lv' := [(3, .int 1), (2, .int r_1), (1, .int 0), (0, .ref a_p0)]) hx hb dX1_best_9 rfl hl (by decide) rfl (fun ls hl => ?_)
  obtain ⟨o1_5, hq, hf⟩ := bd1_some hf
  have K10 : ∀ ls : Array Slot, lv_has ls 5 [(1, .int o1_5)] → W p l e RM_X1_best s m [.ref a_p0].toArray below meth c s.heap [] 0 0 (MQ below (rdQ (some (.int rr))) [.ref a_p0].toArray s 0 0 (fun _ => False)) (F0 m 39 ls []) := by
    intro ls hl
    refine lv_iload_n hx hb dX1_best_39 rfl (lv_at hl 0 rfl) ?_
    have hf : (some o1_5 : Option (Int32)) = some rr := hf
    cases hf
    exact re_i hF hr hlk dX1_best_40 rfl
  clear hf
  have L10 : ∀ (n : Nat) (i1_2 : Int32) (i2_3 : Int32) (i3_4 : Int32), l_X1_best_10 p0_length p0_shorter p0_longer p0_memory p0_seasonDays p0_row n i1_2 i2_3 i3_4 = some o1_5 → ∀ ls : Array Slot, lv_has ls 5 [(0, .ref a_p0), (1, .int i1_2), (2, .int i2_3), (3, .int i3_4)] → W p l e RM_X1_best s m [.ref a_p0].toArray below meth c s.heap [] 0 0 (MQ below (rdQ (some (.int rr))) [.ref a_p0].toArray s 0 0 (fun _ => False)) (F0 m 10 ls []) := by
    intro n
    induction n with
    | zero =>
      intro i1_2 i2_3 i3_4 hf
      exact nomatch (show none = some o1_5 from hf)
    | succ n ih =>
      intro i1_2 i2_3 i3_4 hf ls hl
      rw [l_X1_best_10] at hf
      refine lv_iload_n hx hb dX1_best_10 rfl (lv_at hl 3 rfl) ?_
      refine lv_iconst (v := 4) hx hb dX1_best_11 (by decide) ?_
      refine lv_icmp_ge (tgt := 39) hx hb dX1_best_12 (by decide) (fun c0 => ?_) (fun c0 => ?_)
      · have hf := (if_pos c0).symm.trans hf
        have hf : (some i1_2 : Option (Int32)) = some o1_5 := hf
        cases hf
        exact K10 ls (lv_sub hl [1] rfl)
      · have hf := (if_neg c0).symm.trans hf
        refine lv_aload_n hx hb dX1_best_15 rfl (lv_at hl 0 rfl) ?_
        refine lv_iload_n hx hb dX1_best_16 rfl (lv_at hl 3 rfl) ?_
        obtain ⟨r_6, hq, hf⟩ := bd1_some hf
        refine rdS (As := [.ref a_p0, .int i3_4]) (rest := []) hF hG hP hl.1 (c_X1_missOf l G a_p0 p0_length p0_shorter p0_longer p0_memory p0_limit p0_seasonDays p0_stopped p0_stopPart p0_stopReason a_p0_row p0_row i3_4 r_6 hq) k_X1_missOf q661 [0, 1] rfl rfl rfl (Nat.le_of_ble_eq_true rfl) ⟨(Nat.le_of_ble_eq_true rfl), (Nat.le_of_ble_eq_true rfl)⟩ ⟨(Nat.zero_le _), (Nat.zero_le _)⟩ dX1_best_17 ?_
        refine lv_istore (lv' := [(4, .int r_6), (0, .ref a_p0), (1, .int i1_2), (2, .int i2_3), (3, .int i3_4)]) hx hb dX1_best_20 hl (by decide) rfl (fun ls hl => ?_)
        refine lv_iload hx hb dX1_best_22 (lv_at hl 0 rfl) ?_
        refine lv_iload_n hx hb dX1_best_24 rfl (lv_at hl 3 rfl) ?_
        refine lv_icmp_ge (tgt := 33) hx hb dX1_best_25 (by decide) (fun c0 => ?_) (fun c0 => ?_)
        · have hf := (if_pos c0).symm.trans hf
          refine lv_iinc (v := (i3_4 + 1)) (lv' := [(3, .int (i3_4 + 1)), (4, .int r_6), (0, .ref a_p0), (1, .int i1_2), (2, .int i2_3)]) hx hb dX1_best_33 hl (k := 4) rfl rfl (by decide) rfl (fun ls hl => ?_)
          refine lv_goto (tgt := 10) hx hb dX1_best_36 (by decide) ?_
          exact ih i1_2 i2_3 (i3_4 + 1) hf ls (lv_sub hl [2, 3, 4, 0] rfl)
        · have hf := (if_neg c0).symm.trans hf
          refine lv_iload hx hb dX1_best_28 (lv_at hl 0 rfl) ?_
          refine lv_istore_n (lv' := [(2, .int r_6), (4, .int r_6), (0, .ref a_p0), (1, .int i1_2), (3, .int i3_4)]) hx hb dX1_best_30 rfl hl (by decide) rfl (fun ls hl => ?_)
          refine lv_iload_n hx hb dX1_best_31 rfl (lv_at hl 4 rfl) ?_
          refine lv_istore_n (lv' := [(1, .int i3_4), (2, .int r_6), (4, .int r_6), (0, .ref a_p0), (3, .int i3_4)]) hx hb dX1_best_32 rfl hl (by decide) rfl (fun ls hl => ?_)
          refine lv_iinc (v := (i3_4 + 1)) (lv' := [(3, .int (i3_4 + 1)), (1, .int i3_4), (2, .int r_6), (4, .int r_6), (0, .ref a_p0)]) hx hb dX1_best_33 hl (k := 4) rfl rfl (by decide) rfl (fun ls hl => ?_)
          refine lv_goto (tgt := 10) hx hb dX1_best_36 (by decide) ?_
          exact ih i3_4 r_6 (i3_4 + 1) hf ls (lv_sub hl [4, 1, 2, 0] rfl)
  exact L10 1000 0 r_1 1 hq ls (lv_sub hl [3, 2, 1, 0] rfl)
def f_X11_bestMethod (t_now_length : Int32) (t_now_shorter : Int32) (t_now_longer : Int32) (t_now_memory : Int32) (t_now_seasonDays : Int32) (t_now_row : Nat → Int32) : Option (Int32) := bd0 (f_X11_requirePrices t_now_length 2) (fun _ => bd1 (f_X1_best t_now_length t_now_shorter t_now_longer t_now_memory t_now_seasonDays t_now_row) (fun (r_1 : Int32) => some r_1))
theorem k_X11_bestMethod : KV yX11_bestMethod cX11_bestMethod 1 (some .int) 0 := ⟨qc_yX11_bestMethod, q1, ⟨by decide +kernel, by decide +kernel, by decide +kernel⟩, qi_yX11_bestMethod, qs_yX11_bestMethod⟩
abbrev RM_X11_bestMethod : Room := { frames := 5, cells := 0, slots := 0, locals := 121 }
set_option maxHeartbeats 4000000 in
set_option maxRecDepth 100000 in
theorem c_X11_bestMethod (l : Launch) (G : GP) (a_t : Nat) (a_t_trial : Nat) (a_t_snapshot : Nat) (t_snapshotTaken : Int32) (a_t_history : Nat) (a_t_text : Nat) (a_t_works : Nat) (a_t_highs : Nat) (a_t_trade : Nat) (a_t_now : Nat) (t_now_length : Int32) (t_now_shorter : Int32) (t_now_longer : Int32) (t_now_memory : Int32) (t_now_limit : Int32) (t_now_seasonDays : Int32) (t_now_stopped : Int32) (t_now_stopPart : Int32) (t_now_stopReason : Int32) (a_t_now_row : Nat) (t_now_row : Nat → Int32) (rr : Int32) (hf : f_X11_bestMethod t_now_length t_now_shorter t_now_longer t_now_memory t_now_seasonDays t_now_row = some rr) : RM l yX11_bestMethod cX11_bestMethod 1 (some .int) 5 121 G [.ref a_t] [(a_t, .inr (7, [.ref a_t_now, .ref a_t_trial, .ref a_t_snapshot, .int t_snapshotTaken, .ref a_t_history, .ref a_t_text, .ref a_t_works, .ref a_t_highs, .ref a_t_trade])), (a_t_now, .inr (2, [.ref a_t_now_row, .int t_now_length, .int t_now_shorter, .int t_now_longer, .int t_now_memory, .int t_now_limit, .int t_now_seasonDays, .int t_now_stopped, .int t_now_stopPart, .int t_now_stopReason])), (a_t_now_row, .inl (G.2.1, 60, .inl t_now_row))] (some (.int rr)) := by
  refine RM.ofW (C := RX11) (by decide) rfl (Nat.le_of_ble_eq_true rfl) ?_
  intro p e s m below meth c hF hr hlk hG hP ls hl
  have hl : lv_has ls 1 [(0, .ref a_t)] := hl
  have hx := hF.1
  have hb := hF.2.1
  have hml := hF.2.2.1
  have hown := hF.2.2.2.1
  have hts := hF.2.2.2.2
  unfold f_X11_bestMethod at hf
  refine lv_aload_n hx hb dX11_bestMethod_0 rfl (lv_at hl 0 rfl) ?_
  refine lv_iconst (v := 2) hx hb dX11_bestMethod_1 (by decide) ?_
  obtain ⟨hq, hf⟩ := bd0_some hf
  refine rdV (As := [.int 2]) (rest := []) hF hG hP hl.1 (c_X11_requirePrices l G a_t a_t_trial a_t_snapshot t_snapshotTaken a_t_history a_t_text a_t_works a_t_highs a_t_trade a_t_now a_t_now_row t_now_length t_now_shorter t_now_longer t_now_memory t_now_limit t_now_seasonDays t_now_stopped t_now_stopPart t_now_stopReason 2 hq) k_X11_requirePrices q653 [0, 1] rfl ⟨0, 7, _, _, rfl, rfl, rfl⟩ rfl rfl (Nat.le_of_ble_eq_true rfl) ⟨(Nat.le_of_ble_eq_true rfl), (Nat.le_of_ble_eq_true rfl)⟩ ⟨(Nat.zero_le _), (Nat.zero_le _)⟩ dX11_bestMethod_2 ?_
  refine lv_aload_n hx hb dX11_bestMethod_5 rfl (lv_at hl 0 rfl) ?_
  refine gf (C := RX11) (T := TX11) (N := 9) (ci := 7) (v := .ref a_t_now) hF hG hP inX11 0 rfl rfl 0 (by decide) q190 rfl rfl dX11_bestMethod_6 ?_
  obtain ⟨r_1, hq, hf⟩ := bd1_some hf
  refine rdSN (As := [.ref a_t_now]) (rest := []) hF hG hP hl.1 (c_X1_best l G a_t_now t_now_length t_now_shorter t_now_longer t_now_memory t_now_limit t_now_seasonDays t_now_stopped t_now_stopPart t_now_stopReason a_t_now_row t_now_row r_1 hq) k_X1_best n658 [1, 2] rfl rfl rfl (Nat.le_of_ble_eq_true rfl) ⟨(Nat.le_of_ble_eq_true rfl), (Nat.le_of_ble_eq_true rfl)⟩ ⟨(Nat.zero_le _), (Nat.zero_le _)⟩ dX11_bestMethod_9 ?_
  have hf : (some r_1 : Option (Int32)) = some rr := hf
  cases hf
  exact re_i hF hr hlk dX11_bestMethod_12 rfl
def f_X11_error (t_now_length : Int32) (t_now_shorter : Int32) (t_now_longer : Int32) (t_now_memory : Int32) (t_now_seasonDays : Int32) (t_now_row : Nat → Int32) (x1 : Int32) : Option (Int32) := bd0 (f_X11_requireRange x1 0 3) (fun _ => bd0 (f_X11_requirePrices t_now_length 2) (fun _ => bd1 (f_X1_missOf t_now_length t_now_shorter t_now_longer t_now_memory t_now_seasonDays t_now_row x1) (fun (r_1 : Int32) => some r_1)))
theorem k_X11_error : KV yX11_error cX11_error 2 (some .int) 1 := ⟨qc_yX11_error, q1, ⟨by decide +kernel, by decide +kernel, by decide +kernel⟩, qi_yX11_error, qs_yX11_error⟩
abbrev RM_X11_error : Room := { frames := 4, cells := 0, slots := 0, locals := 97 }
set_option maxHeartbeats 4000000 in
set_option maxRecDepth 100000 in
theorem c_X11_error (l : Launch) (G : GP) (a_t : Nat) (a_t_trial : Nat) (a_t_snapshot : Nat) (t_snapshotTaken : Int32) (a_t_history : Nat) (a_t_text : Nat) (a_t_works : Nat) (a_t_highs : Nat) (a_t_trade : Nat) (a_t_now : Nat) (t_now_length : Int32) (t_now_shorter : Int32) (t_now_longer : Int32) (t_now_memory : Int32) (t_now_limit : Int32) (t_now_seasonDays : Int32) (t_now_stopped : Int32) (t_now_stopPart : Int32) (t_now_stopReason : Int32) (a_t_now_row : Nat) (t_now_row : Nat → Int32) (x1 : Int32) (rr : Int32) (hf : f_X11_error t_now_length t_now_shorter t_now_longer t_now_memory t_now_seasonDays t_now_row x1 = some rr) : RM l yX11_error cX11_error 2 (some .int) 4 97 G [.ref a_t, .int x1] [(a_t, .inr (7, [.ref a_t_now, .ref a_t_trial, .ref a_t_snapshot, .int t_snapshotTaken, .ref a_t_history, .ref a_t_text, .ref a_t_works, .ref a_t_highs, .ref a_t_trade])), (a_t_now, .inr (2, [.ref a_t_now_row, .int t_now_length, .int t_now_shorter, .int t_now_longer, .int t_now_memory, .int t_now_limit, .int t_now_seasonDays, .int t_now_stopped, .int t_now_stopPart, .int t_now_stopReason])), (a_t_now_row, .inl (G.2.1, 60, .inl t_now_row))] (some (.int rr)) := by
  refine RM.ofW (C := RX11) (by decide) rfl (Nat.le_of_ble_eq_true rfl) ?_
  intro p e s m below meth c hF hr hlk hG hP ls hl
  have hl : lv_has ls 2 [(0, .ref a_t), (1, .int x1)] := hl
  have hx := hF.1
  have hb := hF.2.1
  have hml := hF.2.2.1
  have hown := hF.2.2.2.1
  have hts := hF.2.2.2.2
  unfold f_X11_error at hf
  refine lv_iload_n hx hb dX11_error_0 rfl (lv_at hl 1 rfl) ?_
  refine lv_iconst (v := 0) hx hb dX11_error_1 (by decide) ?_
  refine lv_iconst (v := 3) hx hb dX11_error_2 (by decide) ?_
  obtain ⟨hq, hf⟩ := bd0_some hf
  refine rdS (As := [.int x1, .int 0, .int 3]) (rest := []) hF hG hP hl.1 (c_X11_requireRange l G x1 0 3 hq) k_X11_requireRange q442 [] rfl rfl rfl (Nat.le_of_ble_eq_true rfl) ⟨(Nat.le_of_ble_eq_true rfl), (Nat.le_of_ble_eq_true rfl)⟩ ⟨(Nat.zero_le _), (Nat.zero_le _)⟩ dX11_error_3 ?_
  refine lv_aload_n hx hb dX11_error_6 rfl (lv_at hl 0 rfl) ?_
  refine lv_iconst (v := 2) hx hb dX11_error_7 (by decide) ?_
  obtain ⟨hq, hf⟩ := bd0_some hf
  refine rdV (As := [.int 2]) (rest := []) hF hG hP hl.1 (c_X11_requirePrices l G a_t a_t_trial a_t_snapshot t_snapshotTaken a_t_history a_t_text a_t_works a_t_highs a_t_trade a_t_now a_t_now_row t_now_length t_now_shorter t_now_longer t_now_memory t_now_limit t_now_seasonDays t_now_stopped t_now_stopPart t_now_stopReason 2 hq) k_X11_requirePrices q653 [0, 1] rfl ⟨0, 7, _, _, rfl, rfl, rfl⟩ rfl rfl (Nat.le_of_ble_eq_true rfl) ⟨(Nat.le_of_ble_eq_true rfl), (Nat.le_of_ble_eq_true rfl)⟩ ⟨(Nat.zero_le _), (Nat.zero_le _)⟩ dX11_error_8 ?_
  refine lv_aload_n hx hb dX11_error_11 rfl (lv_at hl 0 rfl) ?_
  refine gf (C := RX11) (T := TX11) (N := 9) (ci := 7) (v := .ref a_t_now) hF hG hP inX11 0 rfl rfl 0 (by decide) q190 rfl rfl dX11_error_12 ?_
  refine lv_iload_n hx hb dX11_error_15 rfl (lv_at hl 1 rfl) ?_
  obtain ⟨r_1, hq, hf⟩ := bd1_some hf
  refine rdSN (As := [.ref a_t_now, .int x1]) (rest := []) hF hG hP hl.1 (c_X1_missOf l G a_t_now t_now_length t_now_shorter t_now_longer t_now_memory t_now_limit t_now_seasonDays t_now_stopped t_now_stopPart t_now_stopReason a_t_now_row t_now_row x1 r_1 hq) k_X1_missOf n689 [1, 2] rfl rfl rfl (Nat.le_of_ble_eq_true rfl) ⟨(Nat.le_of_ble_eq_true rfl), (Nat.le_of_ble_eq_true rfl)⟩ ⟨(Nat.zero_le _), (Nat.zero_le _)⟩ dX11_error_16 ?_
  have hf : (some r_1 : Option (Int32)) = some rr := hf
  cases hf
  exact re_i hF hr hlk dX11_error_19 rfl
