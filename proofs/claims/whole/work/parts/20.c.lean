def l_X12_pressesAll_4 : Nat → Int32 → Int32 → (Nat → Int32) → Option (Int32 × (Nat → Int32))
  | 0, _, _, _ => none
  | n + 1, i1_1, i2_2, t_s_3 => (if (t_s_3 0) ≤ i2_2 then some (i1_1, t_s_3) else bd1 (f_X12_creased t_s_3 i2_2) (fun (r_6 : Int32) => (if r_6 = 0 then l_X12_pressesAll_4 n i1_1 (i2_2 + 1) t_s_3 else bd2 (f_X12_presses t_s_3 i2_2) (fun (r_7 : Int32) (t_s_8 : Nat → Int32) => l_X12_pressesAll_4 n (i1_1 + 1) (i2_2 + 1) t_s_8))))
def f_X12_pressesAll (t_s : Nat → Int32) : Option (Int32 × (Nat → Int32)) := bd2 (l_X12_pressesAll_4 1000 0 0 t_s) (fun (o1_4 : Int32) (t_s_5 : Nat → Int32) => some (o1_4, t_s_5))
theorem k_X12_pressesAll : KV yX12_pressesAll cX12_pressesAll 3 (some .int) 0 := ⟨qc_yX12_pressesAll, q9, ⟨by decide +kernel, by decide +kernel, by decide +kernel⟩, qi_yX12_pressesAll, qs_yX12_pressesAll⟩
abbrev RM_X12_pressesAll : Room := { frames := 3, cells := 0, slots := 0, locals := 70 }
set_option maxHeartbeats 4000000 in
set_option maxRecDepth 100000 in
theorem c_X12_pressesAll (l : Launch) (G : GP) (a_t : Nat) (t_thrown : Int32) (a_t_states : Nat) (t_stateMany : Int32) (a_t_snapshot : Nat) (t_hasSnapshot : Int32) (a_t_text : Nat) (t_length : Int32) (t_at : Int32) (t_isWell : Int32) (a_t_read : Nat) (t_readMany : Int32) (a_t_prices : Nat) (t_priceMany : Int32) (t_pieceMany : Int32) (t_coins : Int64) (a_t_s : Nat) (t_s : Nat → Int32) (rr : Int32) (w_t_s : Nat → Int32) (hf : f_X12_pressesAll t_s = some (rr, w_t_s)) : WM l yX12_pressesAll cX12_pressesAll 3 (some .int) 3 70 G [.ref a_t] [(a_t, .inr (8, [.int t_thrown, .ref a_t_s, .ref a_t_states, .int t_stateMany, .ref a_t_snapshot, .int t_hasSnapshot, .ref a_t_text, .int t_length, .int t_at, .int t_isWell, .ref a_t_read, .int t_readMany, .ref a_t_prices, .int t_priceMany, .int t_pieceMany, .long t_coins])), (a_t_s, .inl (G.2.1, 68, .inl t_s))] (some (.int rr)) [(a_t, .inr (8, [.int t_thrown, .ref a_t_s, .ref a_t_states, .int t_stateMany, .ref a_t_snapshot, .int t_hasSnapshot, .ref a_t_text, .int t_length, .int t_at, .int t_isWell, .ref a_t_read, .int t_readMany, .ref a_t_prices, .int t_priceMany, .int t_pieceMany, .long t_coins])), (a_t_s, .inl (G.2.1, 68, .inl w_t_s))] := by
  refine WM.ofW (C := RX12) (by decide) rfl (Nat.le_of_ble_eq_true rfl) ?_
  intro p e s m below meth c A hF hr hlk hG hA hP hD ls hl
  have hl : lv_has ls 3 [(0, .ref a_t)] := hl
  have hx := hF.1
  have hb := hF.2.1
  have hml := hF.2.2.1
  have hown := hF.2.2.2.1
  have hts := hF.2.2.2.2
  have hS : va_S A s.heap s.heap [] := va_S.rf
  unfold f_X12_pressesAll at hf
  refine lv_iconst (v := 0) hx hb dX12_pressesAll_0 (by decide) ?_
  refine lv_istore_n (lv' := [(1, .int 0), (0, .ref a_t)]) hx hb dX12_pressesAll_1 rfl hl (by decide) rfl (fun ls hl => ?_)
  refine lv_iconst (v := 0) hx hb dX12_pressesAll_2 (by decide) ?_
  refine lv_istore_n (lv' := [(2, .int 0), (1, .int 0), (0, .ref a_t)]) hx hb dX12_pressesAll_3 rfl hl (by decide) rfl (fun ls hl => ?_)
  obtain ⟨o1_4, t_s_5, hq, hf⟩ := bd2_some hf
  have K4 : ∀ (H : Heap) (locs : List Loc), va_P G.1 vwCl ([(a_t, .inr (8, [.int t_thrown, .ref a_t_s, .ref a_t_states, .int t_stateMany, .ref a_t_snapshot, .int t_hasSnapshot, .ref a_t_text, .int t_length, .int t_at, .int t_isWell, .ref a_t_read, .int t_readMany, .ref a_t_prices, .int t_priceMany, .int t_pieceMany, .long t_coins])), (a_t_s, .inl (G.2.1, 68, .inl t_s_5))] : va_W) H → va_D A ([(a_t, .inr (8, [.int t_thrown, .ref a_t_s, .ref a_t_states, .int t_stateMany, .ref a_t_snapshot, .int t_hasSnapshot, .ref a_t_text, .int t_length, .int t_at, .int t_isWell, .ref a_t_read, .int t_readMany, .ref a_t_prices, .int t_priceMany, .int t_pieceMany, .long t_coins])), (a_t_s, .inl (G.2.1, 68, .inl t_s_5))] : va_W) → va_S A s.heap H locs → ∀ ls : Array Slot, lv_has ls 3 [(1, .int o1_4)] → W p l e RM_X12_pressesAll s m [.ref a_t].toArray below meth c H locs 0 0 (MQ below (wrQ (some (.int rr)) G [(a_t, .inr (8, [.int t_thrown, .ref a_t_s, .ref a_t_states, .int t_stateMany, .ref a_t_snapshot, .int t_hasSnapshot, .ref a_t_text, .int t_length, .int t_at, .int t_isWell, .ref a_t_read, .int t_readMany, .ref a_t_prices, .int t_priceMany, .int t_pieceMany, .long t_coins])), (a_t_s, .inl (G.2.1, 68, .inl w_t_s))] A) [.ref a_t].toArray s 0 0 A) (F0 m 37 ls []) := by
    intro H locs hP hD hS ls hl
    refine lv_iload_n hx hb dX12_pressesAll_37 rfl (lv_at hl 0 rfl) ?_
    have hf : (some (o1_4, t_s_5) : Option (Int32 × (Nat → Int32))) = some (rr, w_t_s) := hf
    cases hf
    exact we_i hF hr hlk hP hD hS dX12_pressesAll_38 rfl
  clear hf
  have L4 : ∀ (n : Nat) (i1_1 : Int32) (i2_2 : Int32) (t_s_3 : Nat → Int32), l_X12_pressesAll_4 n i1_1 i2_2 t_s_3 = some (o1_4, t_s_5) → ∀ (H : Heap) (locs : List Loc), va_P G.1 vwCl ([(a_t, .inr (8, [.int t_thrown, .ref a_t_s, .ref a_t_states, .int t_stateMany, .ref a_t_snapshot, .int t_hasSnapshot, .ref a_t_text, .int t_length, .int t_at, .int t_isWell, .ref a_t_read, .int t_readMany, .ref a_t_prices, .int t_priceMany, .int t_pieceMany, .long t_coins])), (a_t_s, .inl (G.2.1, 68, .inl t_s_3))] : va_W) H → va_D A ([(a_t, .inr (8, [.int t_thrown, .ref a_t_s, .ref a_t_states, .int t_stateMany, .ref a_t_snapshot, .int t_hasSnapshot, .ref a_t_text, .int t_length, .int t_at, .int t_isWell, .ref a_t_read, .int t_readMany, .ref a_t_prices, .int t_priceMany, .int t_pieceMany, .long t_coins])), (a_t_s, .inl (G.2.1, 68, .inl t_s_3))] : va_W) → va_S A s.heap H locs → ∀ ls : Array Slot, lv_has ls 3 [(0, .ref a_t), (1, .int i1_1), (2, .int i2_2)] → W p l e RM_X12_pressesAll s m [.ref a_t].toArray below meth c H locs 0 0 (MQ below (wrQ (some (.int rr)) G [(a_t, .inr (8, [.int t_thrown, .ref a_t_s, .ref a_t_states, .int t_stateMany, .ref a_t_snapshot, .int t_hasSnapshot, .ref a_t_text, .int t_length, .int t_at, .int t_isWell, .ref a_t_read, .int t_readMany, .ref a_t_prices, .int t_priceMany, .int t_pieceMany, .long t_coins])), (a_t_s, .inl (G.2.1, 68, .inl w_t_s))] A) [.ref a_t].toArray s 0 0 A) (F0 m 4 ls []) := by
    intro n
    induction n with
    | zero =>
      intro i1_1 i2_2 t_s_3 hf
      exact nomatch (show none = some (o1_4, t_s_5) from hf)
    | succ n ih =>
      intro i1_1 i2_2 t_s_3 hf H locs hP hD hS ls hl
      rw [l_X12_pressesAll_4] at hf
      refine lv_iload_n hx hb dX12_pressesAll_4 rfl (lv_at hl 2 rfl) ?_
      refine lv_aload_n hx hb dX12_pressesAll_5 rfl (lv_at hl 0 rfl) ?_
      refine gf (C := RX12) (T := TX12) (N := 16) (ci := 8) (v := .ref a_t_s) hF hG hP inX12 0 rfl rfl 1 (by decide) q1021 rfl rfl dX12_pressesAll_6 ?_
      refine lv_iconst (v := 0) hx hb dX12_pressesAll_9 (by decide) ?_
      refine ald_i (k := 0) hF hG hP 1 rfl (by decide) (by decide) dX12_pressesAll_10 ?_
      refine lv_icmp_ge (tgt := 37) hx hb dX12_pressesAll_11 (by decide) (fun c0 => ?_) (fun c0 => ?_)
      · have hf := (if_pos c0).symm.trans hf
        have hf : (some (i1_1, t_s_3) : Option (Int32 × (Nat → Int32))) = some (o1_4, t_s_5) := hf
        cases hf
        exact K4 _ _ hP hD hS ls (lv_sub hl [1] rfl)
      · have hf := (if_neg c0).symm.trans hf
        refine lv_aload_n hx hb dX12_pressesAll_14 rfl (lv_at hl 0 rfl) ?_
        refine lv_iload_n hx hb dX12_pressesAll_15 rfl (lv_at hl 2 rfl) ?_
        obtain ⟨r_6, hq, hf⟩ := bd1_some hf
        refine rdV (As := [.int i2_2]) (rest := []) hF hG hP hl.1 (c_X12_creased l G a_t t_thrown a_t_states t_stateMany a_t_snapshot t_hasSnapshot a_t_text t_length t_at t_isWell a_t_read t_readMany a_t_prices t_priceMany t_pieceMany t_coins a_t_s t_s_3 i2_2 r_6 hq) k_X12_creased q1119 [0, 1] rfl ⟨0, 8, _, _, rfl, rfl, rfl⟩ rfl rfl (Nat.le_of_ble_eq_true rfl) ⟨(Nat.le_of_ble_eq_true rfl), (Nat.le_of_ble_eq_true rfl)⟩ ⟨(Nat.zero_le _), (Nat.zero_le _)⟩ dX12_pressesAll_16 ?_
        refine lv_if_eq (tgt := 31) hx hb dX12_pressesAll_19 (by decide) (fun c0 => ?_) (fun c0 => ?_)
        · have hf := (if_pos c0).symm.trans hf
          refine lv_iinc (v := (i2_2 + 1)) (lv' := [(2, .int (i2_2 + 1)), (0, .ref a_t), (1, .int i1_1)]) hx hb dX12_pressesAll_31 hl (k := 2) rfl rfl (by decide) rfl (fun ls hl => ?_)
          refine lv_goto (tgt := 4) hx hb dX12_pressesAll_34 (by decide) ?_
          exact ih i1_1 (i2_2 + 1) t_s_3 hf _ _ hP hD hS ls (lv_sub hl [1, 2, 0] rfl)
        · have hf := (if_neg c0).symm.trans hf
          refine lv_aload_n hx hb dX12_pressesAll_22 rfl (lv_at hl 0 rfl) ?_
          refine lv_iload_n hx hb dX12_pressesAll_23 rfl (lv_at hl 2 rfl) ?_
          obtain ⟨r_7, t_s_8, hq, hf⟩ := bd2_some hf
          refine wrV (As := [.int i2_2]) (rest := []) (wn := [(a_t, .inr (8, [.int t_thrown, .ref a_t_s, .ref a_t_states, .int t_stateMany, .ref a_t_snapshot, .int t_hasSnapshot, .ref a_t_text, .int t_length, .int t_at, .int t_isWell, .ref a_t_read, .int t_readMany, .ref a_t_prices, .int t_priceMany, .int t_pieceMany, .long t_coins])), (a_t_s, .inl (G.2.1, 68, .inl t_s_8))]) hF hG hP hD hS hA hl.1 (c_X12_presses l G a_t t_thrown a_t_states t_stateMany a_t_snapshot t_hasSnapshot a_t_text t_length t_at t_isWell a_t_read t_readMany a_t_prices t_priceMany t_pieceMany t_coins a_t_s t_s_3 i2_2 r_7 t_s_8 hq) k_X12_presses q1130 [0, 1] [] [0, 1] rfl rfl rfl rfl ⟨rfl, rfl⟩ (by decide) ⟨0, 8, _, _, rfl, rfl, rfl⟩ rfl rfl (Nat.le_of_ble_eq_true rfl) ⟨(Nat.le_of_ble_eq_true rfl), (Nat.le_of_ble_eq_true rfl)⟩ ⟨(Nat.le_of_ble_eq_true rfl), (Nat.le_of_ble_eq_true rfl)⟩ dX12_pressesAll_24 (fun H locs hP hD hS => ?_)
          refine lv_pop hx hb dX12_pressesAll_27 rfl ?_
          refine lv_iinc (v := (i1_1 + 1)) (lv' := [(1, .int (i1_1 + 1)), (0, .ref a_t), (2, .int i2_2)]) hx hb dX12_pressesAll_28 hl (k := 1) rfl rfl (by decide) rfl (fun ls hl => ?_)
          refine lv_iinc (v := (i2_2 + 1)) (lv' := [(2, .int (i2_2 + 1)), (1, .int (i1_1 + 1)), (0, .ref a_t)]) hx hb dX12_pressesAll_31 hl (k := 2) rfl rfl (by decide) rfl (fun ls hl => ?_)
          refine lv_goto (tgt := 4) hx hb dX12_pressesAll_34 (by decide) ?_
          exact ih (i1_1 + 1) (i2_2 + 1) t_s_8 hf _ _ hP hD hS ls (lv_sub hl [2, 1, 0] rfl)
  exact L4 1000 0 0 t_s hq _ _ hP hD hS ls (lv_sub hl [2, 1, 0] rfl)
def f_X12_pressAll (t_thrown : Int32) (t_stateMany : Int32) (t_s : Nat → Int32) (t_states : Nat → Int32) : Option (Int32 × Int32 × Int32 × (Nat → Int32) × (Nat → Int32)) := bd2 (f_X12_records t_stateMany t_s t_states) (fun (t_stateMany_1 : Int32) (t_states_2 : Nat → Int32) => bd2 (f_X12_pressesAll t_s) (fun (r_3 : Int32) (t_s_4 : Nat → Int32) => some (r_3, 0, t_stateMany_1, t_s_4, t_states_2)))
theorem k_X12_pressAll : KV yX12_pressAll cX12_pressAll 1 (some .int) 0 := ⟨qc_yX12_pressAll, q9, ⟨by decide +kernel, by decide +kernel, by decide +kernel⟩, qi_yX12_pressAll, qs_yX12_pressAll⟩
abbrev RM_X12_pressAll : Room := { frames := 4, cells := 0, slots := 0, locals := 92 }
set_option maxHeartbeats 4000000 in
set_option maxRecDepth 100000 in
theorem c_X12_pressAll (l : Launch) (G : GP) (a_t : Nat) (t_thrown : Int32) (t_stateMany : Int32) (a_t_snapshot : Nat) (t_hasSnapshot : Int32) (a_t_text : Nat) (t_length : Int32) (t_at : Int32) (t_isWell : Int32) (a_t_read : Nat) (t_readMany : Int32) (a_t_prices : Nat) (t_priceMany : Int32) (t_pieceMany : Int32) (t_coins : Int64) (a_t_s : Nat) (t_s : Nat → Int32) (a_t_states : Nat) (t_states : Nat → Int32) (rr : Int32) (w_t_thrown : Int32) (w_t_stateMany : Int32) (w_t_s : Nat → Int32) (w_t_states : Nat → Int32) (hf : f_X12_pressAll t_thrown t_stateMany t_s t_states = some (rr, w_t_thrown, w_t_stateMany, w_t_s, w_t_states)) : WM l yX12_pressAll cX12_pressAll 1 (some .int) 4 92 G [.ref a_t] [(a_t, .inr (8, [.int t_thrown, .ref a_t_s, .ref a_t_states, .int t_stateMany, .ref a_t_snapshot, .int t_hasSnapshot, .ref a_t_text, .int t_length, .int t_at, .int t_isWell, .ref a_t_read, .int t_readMany, .ref a_t_prices, .int t_priceMany, .int t_pieceMany, .long t_coins])), (a_t_s, .inl (G.2.1, 68, .inl t_s)), (a_t_states, .inl (G.2.1, 408, .inl t_states))] (some (.int rr)) [(a_t, .inr (8, [.int w_t_thrown, .ref a_t_s, .ref a_t_states, .int w_t_stateMany, .ref a_t_snapshot, .int t_hasSnapshot, .ref a_t_text, .int t_length, .int t_at, .int t_isWell, .ref a_t_read, .int t_readMany, .ref a_t_prices, .int t_priceMany, .int t_pieceMany, .long t_coins])), (a_t_s, .inl (G.2.1, 68, .inl w_t_s)), (a_t_states, .inl (G.2.1, 408, .inl w_t_states))] := by
  refine WM.ofW (C := RX12) (by decide) rfl (Nat.le_of_ble_eq_true rfl) ?_
  intro p e s m below meth c A hF hr hlk hG hA hP hD ls hl
  have hl : lv_has ls 1 [(0, .ref a_t)] := hl
  have hx := hF.1
  have hb := hF.2.1
  have hml := hF.2.2.1
  have hown := hF.2.2.2.1
  have hts := hF.2.2.2.2
  have hS : va_S A s.heap s.heap [] := va_S.rf
  unfold f_X12_pressAll at hf
  refine lv_aload_n hx hb dX12_pressAll_0 rfl (lv_at hl 0 rfl) ?_
  refine lv_iconst (v := 0) hx hb dX12_pressAll_1 (by decide) ?_
  refine pf (C := RX12) (T := TX12) (N := 16) (ci := 8) (v := .int 0) (ty := .int) hF hG hP hD hS inX12 tyX12 tyX12_ok nmX12 0 rfl rfl 0 (by decide) q1020 rfl rfl (by decide +kernel) rfl rfl (Nat.le_of_ble_eq_true rfl) dX12_pressAll_2 (fun H locs hP hD hS => ?_)
  replace hP : va_P G.1 vwCl [(a_t, .inr (8, [.int 0, .ref a_t_s, .ref a_t_states, .int t_stateMany, .ref a_t_snapshot, .int t_hasSnapshot, .ref a_t_text, .int t_length, .int t_at, .int t_isWell, .ref a_t_read, .int t_readMany, .ref a_t_prices, .int t_priceMany, .int t_pieceMany, .long t_coins])), (a_t_s, .inl (G.2.1, 68, .inl t_s)), (a_t_states, .inl (G.2.1, 408, .inl t_states))] H := hP
  replace hD : va_D A [(a_t, .inr (8, [.int 0, .ref a_t_s, .ref a_t_states, .int t_stateMany, .ref a_t_snapshot, .int t_hasSnapshot, .ref a_t_text, .int t_length, .int t_at, .int t_isWell, .ref a_t_read, .int t_readMany, .ref a_t_prices, .int t_priceMany, .int t_pieceMany, .long t_coins])), (a_t_s, .inl (G.2.1, 68, .inl t_s)), (a_t_states, .inl (G.2.1, 408, .inl t_states))] := hD
  refine lv_aload_n hx hb dX12_pressAll_5 rfl (lv_at hl 0 rfl) ?_
  obtain ⟨t_stateMany_1, t_states_2, hq, hf⟩ := bd2_some hf
  refine wrV (As := []) (rest := []) (wn := [(a_t, .inr (8, [.int 0, .ref a_t_s, .ref a_t_states, .int t_stateMany_1, .ref a_t_snapshot, .int t_hasSnapshot, .ref a_t_text, .int t_length, .int t_at, .int t_isWell, .ref a_t_read, .int t_readMany, .ref a_t_prices, .int t_priceMany, .int t_pieceMany, .long t_coins])), (a_t_s, .inl (G.2.1, 68, .inl t_s)), (a_t_states, .inl (G.2.1, 408, .inl t_states_2))]) hF hG hP hD hS hA hl.1 (c_X12_records l G a_t 0 t_stateMany a_t_snapshot t_hasSnapshot a_t_text t_length t_at t_isWell a_t_read t_readMany a_t_prices t_priceMany t_pieceMany t_coins a_t_s t_s a_t_states t_states t_stateMany_1 t_states_2 hq) k_X12_records q1087 [0, 1, 2] [] [0, 1, 2] rfl rfl rfl rfl ⟨rfl, rfl⟩ (by decide) ⟨0, 8, _, _, rfl, rfl, rfl⟩ rfl rfl (Nat.le_of_ble_eq_true rfl) ⟨(Nat.le_of_ble_eq_true rfl), (Nat.le_of_ble_eq_true rfl)⟩ ⟨(Nat.le_of_ble_eq_true rfl), (Nat.le_of_ble_eq_true rfl)⟩ dX12_pressAll_6 (fun H locs hP hD hS => ?_)
  refine lv_aload_n hx hb dX12_pressAll_9 rfl (lv_at hl 0 rfl) ?_
  obtain ⟨r_3, t_s_4, hq, hf⟩ := bd2_some hf
  refine wrV (As := []) (rest := []) (wn := [(a_t, .inr (8, [.int 0, .ref a_t_s, .ref a_t_states, .int t_stateMany_1, .ref a_t_snapshot, .int t_hasSnapshot, .ref a_t_text, .int t_length, .int t_at, .int t_isWell, .ref a_t_read, .int t_readMany, .ref a_t_prices, .int t_priceMany, .int t_pieceMany, .long t_coins])), (a_t_s, .inl (G.2.1, 68, .inl t_s_4)), (a_t_states, .inl (G.2.1, 408, .inl t_states_2))]) hF hG hP hD hS hA hl.1 (c_X12_pressesAll l G a_t 0 a_t_states t_stateMany_1 a_t_snapshot t_hasSnapshot a_t_text t_length t_at t_isWell a_t_read t_readMany a_t_prices t_priceMany t_pieceMany t_coins a_t_s t_s r_3 t_s_4 hq) k_X12_pressesAll q1138 [0, 1] [2] [1, 2, 0] rfl rfl rfl rfl ⟨rfl, rfl⟩ (by decide) ⟨0, 8, _, _, rfl, rfl, rfl⟩ rfl rfl (Nat.le_of_ble_eq_true rfl) ⟨(Nat.le_of_ble_eq_true rfl), (Nat.le_of_ble_eq_true rfl)⟩ ⟨(Nat.le_of_ble_eq_true rfl), (Nat.le_of_ble_eq_true rfl)⟩ dX12_pressAll_10 (fun H locs hP hD hS => ?_)
  have hf : (some (r_3, 0, t_stateMany_1, t_s_4, t_states_2) : Option (Int32 × Int32 × Int32 × (Nat → Int32) × (Nat → Int32))) = some (rr, w_t_thrown, w_t_stateMany, w_t_s, w_t_states) := hf
  cases hf
  exact we_i hF hr hlk hP hD hS dX12_pressAll_13 rfl
def f_X12_setWindows (t_thrown : Int32) (t_stateMany : Int32) (t_s : Nat → Int32) (t_states : Nat → Int32) (x1 : Int32) (x2 : Int32) : Option (Int32 × Int32 × Int32 × (Nat → Int32) × (Nat → Int32)) := bd1 (f_X12_in x1 1 10) (fun (r_1 : Int32) => (if r_1 = 0 then bd2 (f_X12_fails 0 1) (fun (r_2 : Int32) (t_thrown_3 : Int32) => some (r_2, t_thrown_3, t_stateMany, t_s, t_states)) else bd1 (f_X12_in x2 2 20) (fun (r_4 : Int32) => (if r_4 = 0 then bd2 (f_X12_fails 0 1) (fun (r_5 : Int32) (t_thrown_6 : Int32) => some (r_5, t_thrown_6, t_stateMany, t_s, t_states)) else (if x1 < x2 then bd2 (f_X12_records t_stateMany t_s t_states) (fun (t_stateMany_7 : Int32) (t_states_8 : Nat → Int32) => bd2 (f_X12_sets (upd t_s 1 x1) 2 x2) (fun (r_9 : Int32) (t_s_10 : Nat → Int32) => some (r_9, 0, t_stateMany_7, t_s_10, t_states_8))) else bd2 (f_X12_fails 0 1) (fun (r_11 : Int32) (t_thrown_12 : Int32) => some (r_11, t_thrown_12, t_stateMany, t_s, t_states)))))))
theorem k_X12_setWindows : KV yX12_setWindows cX12_setWindows 3 (some .int) 2 := ⟨qc_yX12_setWindows, q9, ⟨by decide +kernel, by decide +kernel, by decide +kernel⟩, qi_yX12_setWindows, qs_yX12_setWindows⟩
abbrev RM_X12_setWindows : Room := { frames := 1, cells := 0, slots := 0, locals := 23 }
set_option maxHeartbeats 4000000 in
set_option maxRecDepth 100000 in
theorem c_X12_setWindows (l : Launch) (G : GP) (a_t : Nat) (t_thrown : Int32) (t_stateMany : Int32) (a_t_snapshot : Nat) (t_hasSnapshot : Int32) (a_t_text : Nat) (t_length : Int32) (t_at : Int32) (t_isWell : Int32) (a_t_read : Nat) (t_readMany : Int32) (a_t_prices : Nat) (t_priceMany : Int32) (t_pieceMany : Int32) (t_coins : Int64) (a_t_s : Nat) (t_s : Nat → Int32) (a_t_states : Nat) (t_states : Nat → Int32) (x1 : Int32) (x2 : Int32) (rr : Int32) (w_t_thrown : Int32) (w_t_stateMany : Int32) (w_t_s : Nat → Int32) (w_t_states : Nat → Int32) (hf : f_X12_setWindows t_thrown t_stateMany t_s t_states x1 x2 = some (rr, w_t_thrown, w_t_stateMany, w_t_s, w_t_states)) : WM l yX12_setWindows cX12_setWindows 3 (some .int) 1 23 G [.ref a_t, .int x1, .int x2] [(a_t, .inr (8, [.int t_thrown, .ref a_t_s, .ref a_t_states, .int t_stateMany, .ref a_t_snapshot, .int t_hasSnapshot, .ref a_t_text, .int t_length, .int t_at, .int t_isWell, .ref a_t_read, .int t_readMany, .ref a_t_prices, .int t_priceMany, .int t_pieceMany, .long t_coins])), (a_t_s, .inl (G.2.1, 68, .inl t_s)), (a_t_states, .inl (G.2.1, 408, .inl t_states))] (some (.int rr)) [(a_t, .inr (8, [.int w_t_thrown, .ref a_t_s, .ref a_t_states, .int w_t_stateMany, .ref a_t_snapshot, .int t_hasSnapshot, .ref a_t_text, .int t_length, .int t_at, .int t_isWell, .ref a_t_read, .int t_readMany, .ref a_t_prices, .int t_priceMany, .int t_pieceMany, .long t_coins])), (a_t_s, .inl (G.2.1, 68, .inl w_t_s)), (a_t_states, .inl (G.2.1, 408, .inl w_t_states))] := by
  refine WM.ofW (C := RX12) (by decide) rfl (Nat.le_of_ble_eq_true rfl) ?_
  intro p e s m below meth c A hF hr hlk hG hA hP hD ls hl
  have hl : lv_has ls 3 [(0, .ref a_t), (1, .int x1), (2, .int x2)] := hl
  have hx := hF.1
  have hb := hF.2.1
  have hml := hF.2.2.1
  have hown := hF.2.2.2.1
  have hts := hF.2.2.2.2
  have hS : va_S A s.heap s.heap [] := va_S.rf
  unfold f_X12_setWindows at hf
  refine lv_aload_n hx hb dX12_setWindows_0 rfl (lv_at hl 0 rfl) ?_
  refine lv_iconst (v := 0) hx hb dX12_setWindows_1 (by decide) ?_
  refine pf (C := RX12) (T := TX12) (N := 16) (ci := 8) (v := .int 0) (ty := .int) hF hG hP hD hS inX12 tyX12 tyX12_ok nmX12 0 rfl rfl 0 (by decide) q1020 rfl rfl (by decide +kernel) rfl rfl (Nat.le_of_ble_eq_true rfl) dX12_setWindows_2 (fun H locs hP hD hS => ?_)
  replace hP : va_P G.1 vwCl [(a_t, .inr (8, [.int 0, .ref a_t_s, .ref a_t_states, .int t_stateMany, .ref a_t_snapshot, .int t_hasSnapshot, .ref a_t_text, .int t_length, .int t_at, .int t_isWell, .ref a_t_read, .int t_readMany, .ref a_t_prices, .int t_priceMany, .int t_pieceMany, .long t_coins])), (a_t_s, .inl (G.2.1, 68, .inl t_s)), (a_t_states, .inl (G.2.1, 408, .inl t_states))] H := hP
  replace hD : va_D A [(a_t, .inr (8, [.int 0, .ref a_t_s, .ref a_t_states, .int t_stateMany, .ref a_t_snapshot, .int t_hasSnapshot, .ref a_t_text, .int t_length, .int t_at, .int t_isWell, .ref a_t_read, .int t_readMany, .ref a_t_prices, .int t_priceMany, .int t_pieceMany, .long t_coins])), (a_t_s, .inl (G.2.1, 68, .inl t_s)), (a_t_states, .inl (G.2.1, 408, .inl t_states))] := hD
  refine lv_iload_n hx hb dX12_setWindows_5 rfl (lv_at hl 1 rfl) ?_
  refine lv_iconst (v := 1) hx hb dX12_setWindows_6 (by decide) ?_
  refine lv_bipush (v := 10) hx hb dX12_setWindows_7 (by decide) ?_
  obtain ⟨r_1, hq, hf⟩ := bd1_some hf
  refine rdS (As := [.int x1, .int 1, .int 10]) (rest := []) hF hG hP hl.1 (c_X12_in l G x1 1 10 r_1 hq) k_X12_in q1080 [] rfl rfl rfl (Nat.le_of_ble_eq_true rfl) ⟨(Nat.le_of_ble_eq_true rfl), (Nat.le_of_ble_eq_true rfl)⟩ ⟨(Nat.zero_le _), (Nat.zero_le _)⟩ dX12_setWindows_9 ?_
  refine lv_if_eq (tgt := 30) hx hb dX12_setWindows_12 (by decide) (fun c0 => ?_) (fun c0 => ?_)
  · have hf := (if_pos c0).symm.trans hf
    refine lv_aload_n hx hb dX12_setWindows_30 rfl (lv_at hl 0 rfl) ?_
    refine lv_iconst (v := 1) hx hb dX12_setWindows_31 (by decide) ?_
    obtain ⟨r_2, t_thrown_3, hq, hf⟩ := bd2_some hf
    refine wrV (As := [.int 1]) (rest := []) (wn := [(a_t, .inr (8, [.int t_thrown_3, .ref a_t_s, .ref a_t_states, .int t_stateMany, .ref a_t_snapshot, .int t_hasSnapshot, .ref a_t_text, .int t_length, .int t_at, .int t_isWell, .ref a_t_read, .int t_readMany, .ref a_t_prices, .int t_priceMany, .int t_pieceMany, .long t_coins])), (a_t_s, .inl (G.2.1, 68, .inl t_s)), (a_t_states, .inl (G.2.1, 408, .inl t_states))]) hF hG hP hD hS hA hl.1 (c_X12_fails l G a_t 0 a_t_s a_t_states t_stateMany a_t_snapshot t_hasSnapshot a_t_text t_length t_at t_isWell a_t_read t_readMany a_t_prices t_priceMany t_pieceMany t_coins 1 r_2 t_thrown_3 hq) k_X12_fails q1083 [0] [1, 2] [2, 0, 1] rfl rfl rfl rfl ⟨rfl, rfl⟩ (by decide) ⟨0, 8, _, _, rfl, rfl, rfl⟩ rfl rfl (Nat.le_of_ble_eq_true rfl) ⟨(Nat.le_of_ble_eq_true rfl), (Nat.le_of_ble_eq_true rfl)⟩ ⟨(Nat.le_of_ble_eq_true rfl), (Nat.le_of_ble_eq_true rfl)⟩ dX12_setWindows_32 (fun H locs hP hD hS => ?_)
    have hf : (some (r_2, t_thrown_3, t_stateMany, t_s, t_states) : Option (Int32 × Int32 × Int32 × (Nat → Int32) × (Nat → Int32))) = some (rr, w_t_thrown, w_t_stateMany, w_t_s, w_t_states) := hf
    cases hf
    exact we_i hF hr hlk hP hD hS dX12_setWindows_35 rfl
  · have hf := (if_neg c0).symm.trans hf
    refine lv_iload_n hx hb dX12_setWindows_15 rfl (lv_at hl 2 rfl) ?_
    refine lv_iconst (v := 2) hx hb dX12_setWindows_16 (by decide) ?_
    refine lv_bipush (v := 20) hx hb dX12_setWindows_17 (by decide) ?_
    obtain ⟨r_4, hq, hf⟩ := bd1_some hf
    refine rdS (As := [.int x2, .int 2, .int 20]) (rest := []) hF hG hP hl.1 (c_X12_in l G x2 2 20 r_4 hq) k_X12_in q1080 [] rfl rfl rfl (Nat.le_of_ble_eq_true rfl) ⟨(Nat.le_of_ble_eq_true rfl), (Nat.le_of_ble_eq_true rfl)⟩ ⟨(Nat.zero_le _), (Nat.zero_le _)⟩ dX12_setWindows_19 ?_
    refine lv_if_eq (tgt := 30) hx hb dX12_setWindows_22 (by decide) (fun c0 => ?_) (fun c0 => ?_)
    · have hf := (if_pos c0).symm.trans hf
      refine lv_aload_n hx hb dX12_setWindows_30 rfl (lv_at hl 0 rfl) ?_
      refine lv_iconst (v := 1) hx hb dX12_setWindows_31 (by decide) ?_
      obtain ⟨r_5, t_thrown_6, hq, hf⟩ := bd2_some hf
      refine wrV (As := [.int 1]) (rest := []) (wn := [(a_t, .inr (8, [.int t_thrown_6, .ref a_t_s, .ref a_t_states, .int t_stateMany, .ref a_t_snapshot, .int t_hasSnapshot, .ref a_t_text, .int t_length, .int t_at, .int t_isWell, .ref a_t_read, .int t_readMany, .ref a_t_prices, .int t_priceMany, .int t_pieceMany, .long t_coins])), (a_t_s, .inl (G.2.1, 68, .inl t_s)), (a_t_states, .inl (G.2.1, 408, .inl t_states))]) hF hG hP hD hS hA hl.1 (c_X12_fails l G a_t 0 a_t_s a_t_states t_stateMany a_t_snapshot t_hasSnapshot a_t_text t_length t_at t_isWell a_t_read t_readMany a_t_prices t_priceMany t_pieceMany t_coins 1 r_5 t_thrown_6 hq) k_X12_fails q1083 [0] [1, 2] [2, 0, 1] rfl rfl rfl rfl ⟨rfl, rfl⟩ (by decide) ⟨0, 8, _, _, rfl, rfl, rfl⟩ rfl rfl (Nat.le_of_ble_eq_true rfl) ⟨(Nat.le_of_ble_eq_true rfl), (Nat.le_of_ble_eq_true rfl)⟩ ⟨(Nat.le_of_ble_eq_true rfl), (Nat.le_of_ble_eq_true rfl)⟩ dX12_setWindows_32 (fun H locs hP hD hS => ?_)
      have hf : (some (r_5, t_thrown_6, t_stateMany, t_s, t_states) : Option (Int32 × Int32 × Int32 × (Nat → Int32) × (Nat → Int32))) = some (rr, w_t_thrown, w_t_stateMany, w_t_s, w_t_states) := hf
      cases hf
      exact we_i hF hr hlk hP hD hS dX12_setWindows_35 rfl
    · have hf := (if_neg c0).symm.trans hf
      refine lv_iload_n hx hb dX12_setWindows_25 rfl (lv_at hl 1 rfl) ?_
      refine lv_iload_n hx hb dX12_setWindows_26 rfl (lv_at hl 2 rfl) ?_
      refine lv_icmp_lt (tgt := 36) hx hb dX12_setWindows_27 (by decide) (fun c0 => ?_) (fun c0 => ?_)
      · have hf := (if_pos c0).symm.trans hf
        refine lv_aload_n hx hb dX12_setWindows_36 rfl (lv_at hl 0 rfl) ?_
        obtain ⟨t_stateMany_7, t_states_8, hq, hf⟩ := bd2_some hf
        refine wrV (As := []) (rest := []) (wn := [(a_t, .inr (8, [.int 0, .ref a_t_s, .ref a_t_states, .int t_stateMany_7, .ref a_t_snapshot, .int t_hasSnapshot, .ref a_t_text, .int t_length, .int t_at, .int t_isWell, .ref a_t_read, .int t_readMany, .ref a_t_prices, .int t_priceMany, .int t_pieceMany, .long t_coins])), (a_t_s, .inl (G.2.1, 68, .inl t_s)), (a_t_states, .inl (G.2.1, 408, .inl t_states_8))]) hF hG hP hD hS hA hl.1 (c_X12_records l G a_t 0 t_stateMany a_t_snapshot t_hasSnapshot a_t_text t_length t_at t_isWell a_t_read t_readMany a_t_prices t_priceMany t_pieceMany t_coins a_t_s t_s a_t_states t_states t_stateMany_7 t_states_8 hq) k_X12_records q1087 [0, 1, 2] [] [0, 1, 2] rfl rfl rfl rfl ⟨rfl, rfl⟩ (by decide) ⟨0, 8, _, _, rfl, rfl, rfl⟩ rfl rfl (Nat.le_of_ble_eq_true rfl) ⟨(Nat.le_of_ble_eq_true rfl), (Nat.le_of_ble_eq_true rfl)⟩ ⟨(Nat.le_of_ble_eq_true rfl), (Nat.le_of_ble_eq_true rfl)⟩ dX12_setWindows_37 (fun H locs hP hD hS => ?_)
        refine lv_aload_n hx hb dX12_setWindows_40 rfl (lv_at hl 0 rfl) ?_
        refine gf (C := RX12) (T := TX12) (N := 16) (ci := 8) (v := .ref a_t_s) hF hG hP inX12 0 rfl rfl 1 (by decide) q1021 rfl rfl dX12_setWindows_41 ?_
        refine lv_iconst (v := 1) hx hb dX12_setWindows_44 (by decide) ?_
        refine lv_iload_n hx hb dX12_setWindows_45 rfl (lv_at hl 1 rfl) ?_
        refine ast_i (k := 1) hF hG hP hD hS 1 rfl (by decide) (by decide) dX12_setWindows_46 (fun H locs hP hD hS => ?_)
        replace hP : va_P G.1 vwCl [(a_t, .inr (8, [.int 0, .ref a_t_s, .ref a_t_states, .int t_stateMany_7, .ref a_t_snapshot, .int t_hasSnapshot, .ref a_t_text, .int t_length, .int t_at, .int t_isWell, .ref a_t_read, .int t_readMany, .ref a_t_prices, .int t_priceMany, .int t_pieceMany, .long t_coins])), (a_t_s, .inl (G.2.1, 68, .inl (upd t_s 1 x1))), (a_t_states, .inl (G.2.1, 408, .inl t_states_8))] H := hP
        replace hD : va_D A [(a_t, .inr (8, [.int 0, .ref a_t_s, .ref a_t_states, .int t_stateMany_7, .ref a_t_snapshot, .int t_hasSnapshot, .ref a_t_text, .int t_length, .int t_at, .int t_isWell, .ref a_t_read, .int t_readMany, .ref a_t_prices, .int t_priceMany, .int t_pieceMany, .long t_coins])), (a_t_s, .inl (G.2.1, 68, .inl (upd t_s 1 x1))), (a_t_states, .inl (G.2.1, 408, .inl t_states_8))] := hD
        refine lv_aload_n hx hb dX12_setWindows_47 rfl (lv_at hl 0 rfl) ?_
        refine lv_iconst (v := 2) hx hb dX12_setWindows_48 (by decide) ?_
        refine lv_iload_n hx hb dX12_setWindows_49 rfl (lv_at hl 2 rfl) ?_
        obtain ⟨r_9, t_s_10, hq, hf⟩ := bd2_some hf
        refine wrV (As := [.int 2, .int x2]) (rest := []) (wn := [(a_t, .inr (8, [.int 0, .ref a_t_s, .ref a_t_states, .int t_stateMany_7, .ref a_t_snapshot, .int t_hasSnapshot, .ref a_t_text, .int t_length, .int t_at, .int t_isWell, .ref a_t_read, .int t_readMany, .ref a_t_prices, .int t_priceMany, .int t_pieceMany, .long t_coins])), (a_t_s, .inl (G.2.1, 68, .inl t_s_10)), (a_t_states, .inl (G.2.1, 408, .inl t_states_8))]) hF hG hP hD hS hA hl.1 (c_X12_sets l G a_t 0 a_t_states t_stateMany_7 a_t_snapshot t_hasSnapshot a_t_text t_length t_at t_isWell a_t_read t_readMany a_t_prices t_priceMany t_pieceMany t_coins a_t_s (upd t_s 1 x1) 2 x2 r_9 t_s_10 hq) k_X12_sets q1103 [0, 1] [2] [1, 2, 0] rfl rfl rfl rfl ⟨rfl, rfl⟩ (by decide) ⟨0, 8, _, _, rfl, rfl, rfl⟩ rfl rfl (Nat.le_of_ble_eq_true rfl) ⟨(Nat.le_of_ble_eq_true rfl), (Nat.le_of_ble_eq_true rfl)⟩ ⟨(Nat.le_of_ble_eq_true rfl), (Nat.le_of_ble_eq_true rfl)⟩ dX12_setWindows_50 (fun H locs hP hD hS => ?_)
        have hf : (some (r_9, 0, t_stateMany_7, t_s_10, t_states_8) : Option (Int32 × Int32 × Int32 × (Nat → Int32) × (Nat → Int32))) = some (rr, w_t_thrown, w_t_stateMany, w_t_s, w_t_states) := hf
        cases hf
        exact we_i hF hr hlk hP hD hS dX12_setWindows_53 rfl
      · have hf := (if_neg c0).symm.trans hf
        refine lv_aload_n hx hb dX12_setWindows_30 rfl (lv_at hl 0 rfl) ?_
        refine lv_iconst (v := 1) hx hb dX12_setWindows_31 (by decide) ?_
        obtain ⟨r_11, t_thrown_12, hq, hf⟩ := bd2_some hf
        refine wrV (As := [.int 1]) (rest := []) (wn := [(a_t, .inr (8, [.int t_thrown_12, .ref a_t_s, .ref a_t_states, .int t_stateMany, .ref a_t_snapshot, .int t_hasSnapshot, .ref a_t_text, .int t_length, .int t_at, .int t_isWell, .ref a_t_read, .int t_readMany, .ref a_t_prices, .int t_priceMany, .int t_pieceMany, .long t_coins])), (a_t_s, .inl (G.2.1, 68, .inl t_s)), (a_t_states, .inl (G.2.1, 408, .inl t_states))]) hF hG hP hD hS hA hl.1 (c_X12_fails l G a_t 0 a_t_s a_t_states t_stateMany a_t_snapshot t_hasSnapshot a_t_text t_length t_at t_isWell a_t_read t_readMany a_t_prices t_priceMany t_pieceMany t_coins 1 r_11 t_thrown_12 hq) k_X12_fails q1083 [0] [1, 2] [2, 0, 1] rfl rfl rfl rfl ⟨rfl, rfl⟩ (by decide) ⟨0, 8, _, _, rfl, rfl, rfl⟩ rfl rfl (Nat.le_of_ble_eq_true rfl) ⟨(Nat.le_of_ble_eq_true rfl), (Nat.le_of_ble_eq_true rfl)⟩ ⟨(Nat.le_of_ble_eq_true rfl), (Nat.le_of_ble_eq_true rfl)⟩ dX12_setWindows_32 (fun H locs hP hD hS => ?_)
        have hf : (some (r_11, t_thrown_12, t_stateMany, t_s, t_states) : Option (Int32 × Int32 × Int32 × (Nat → Int32) × (Nat → Int32))) = some (rr, w_t_thrown, w_t_stateMany, w_t_s, w_t_states) := hf
        cases hf
        exact we_i hF hr hlk hP hD hS dX12_setWindows_35 rfl
def f_X12_setMemory (t_thrown : Int32) (t_stateMany : Int32) (t_s : Nat → Int32) (t_states : Nat → Int32) (x1 : Int32) : Option (Int32 × Int32 × Int32 × (Nat → Int32) × (Nat → Int32)) := bd1 (f_X12_in x1 0 9) (fun (r_1 : Int32) => (if r_1 = 0 then bd2 (f_X12_fails 0 1) (fun (r_6 : Int32) (t_thrown_7 : Int32) => some (r_6, t_thrown_7, t_stateMany, t_s, t_states)) else bd2 (f_X12_records t_stateMany t_s t_states) (fun (t_stateMany_2 : Int32) (t_states_3 : Nat → Int32) => bd2 (f_X12_sets t_s 3 x1) (fun (r_4 : Int32) (t_s_5 : Nat → Int32) => some (r_4, 0, t_stateMany_2, t_s_5, t_states_3)))))
theorem k_X12_setMemory : KV yX12_setMemory cX12_setMemory 2 (some .int) 1 := ⟨qc_yX12_setMemory, q9, ⟨by decide +kernel, by decide +kernel, by decide +kernel⟩, qi_yX12_setMemory, qs_yX12_setMemory⟩
abbrev RM_X12_setMemory : Room := { frames := 1, cells := 0, slots := 0, locals := 23 }
set_option maxHeartbeats 4000000 in
set_option maxRecDepth 100000 in
theorem c_X12_setMemory (l : Launch) (G : GP) (a_t : Nat) (t_thrown : Int32) (t_stateMany : Int32) (a_t_snapshot : Nat) (t_hasSnapshot : Int32) (a_t_text : Nat) (t_length : Int32) (t_at : Int32) (t_isWell : Int32) (a_t_read : Nat) (t_readMany : Int32) (a_t_prices : Nat) (t_priceMany : Int32) (t_pieceMany : Int32) (t_coins : Int64) (a_t_s : Nat) (t_s : Nat → Int32) (a_t_states : Nat) (t_states : Nat → Int32) (x1 : Int32) (rr : Int32) (w_t_thrown : Int32) (w_t_stateMany : Int32) (w_t_s : Nat → Int32) (w_t_states : Nat → Int32) (hf : f_X12_setMemory t_thrown t_stateMany t_s t_states x1 = some (rr, w_t_thrown, w_t_stateMany, w_t_s, w_t_states)) : WM l yX12_setMemory cX12_setMemory 2 (some .int) 1 23 G [.ref a_t, .int x1] [(a_t, .inr (8, [.int t_thrown, .ref a_t_s, .ref a_t_states, .int t_stateMany, .ref a_t_snapshot, .int t_hasSnapshot, .ref a_t_text, .int t_length, .int t_at, .int t_isWell, .ref a_t_read, .int t_readMany, .ref a_t_prices, .int t_priceMany, .int t_pieceMany, .long t_coins])), (a_t_s, .inl (G.2.1, 68, .inl t_s)), (a_t_states, .inl (G.2.1, 408, .inl t_states))] (some (.int rr)) [(a_t, .inr (8, [.int w_t_thrown, .ref a_t_s, .ref a_t_states, .int w_t_stateMany, .ref a_t_snapshot, .int t_hasSnapshot, .ref a_t_text, .int t_length, .int t_at, .int t_isWell, .ref a_t_read, .int t_readMany, .ref a_t_prices, .int t_priceMany, .int t_pieceMany, .long t_coins])), (a_t_s, .inl (G.2.1, 68, .inl w_t_s)), (a_t_states, .inl (G.2.1, 408, .inl w_t_states))] := by
  refine WM.ofW (C := RX12) (by decide) rfl (Nat.le_of_ble_eq_true rfl) ?_
  intro p e s m below meth c A hF hr hlk hG hA hP hD ls hl
  have hl : lv_has ls 2 [(0, .ref a_t), (1, .int x1)] := hl
  have hx := hF.1
  have hb := hF.2.1
  have hml := hF.2.2.1
  have hown := hF.2.2.2.1
  have hts := hF.2.2.2.2
  have hS : va_S A s.heap s.heap [] := va_S.rf
  unfold f_X12_setMemory at hf
  refine lv_aload_n hx hb dX12_setMemory_0 rfl (lv_at hl 0 rfl) ?_
  refine lv_iconst (v := 0) hx hb dX12_setMemory_1 (by decide) ?_
  refine pf (C := RX12) (T := TX12) (N := 16) (ci := 8) (v := .int 0) (ty := .int) hF hG hP hD hS inX12 tyX12 tyX12_ok nmX12 0 rfl rfl 0 (by decide) q1020 rfl rfl (by decide +kernel) rfl rfl (Nat.le_of_ble_eq_true rfl) dX12_setMemory_2 (fun H locs hP hD hS => ?_)
  replace hP : va_P G.1 vwCl [(a_t, .inr (8, [.int 0, .ref a_t_s, .ref a_t_states, .int t_stateMany, .ref a_t_snapshot, .int t_hasSnapshot, .ref a_t_text, .int t_length, .int t_at, .int t_isWell, .ref a_t_read, .int t_readMany, .ref a_t_prices, .int t_priceMany, .int t_pieceMany, .long t_coins])), (a_t_s, .inl (G.2.1, 68, .inl t_s)), (a_t_states, .inl (G.2.1, 408, .inl t_states))] H := hP
  replace hD : va_D A [(a_t, .inr (8, [.int 0, .ref a_t_s, .ref a_t_states, .int t_stateMany, .ref a_t_snapshot, .int t_hasSnapshot, .ref a_t_text, .int t_length, .int t_at, .int t_isWell, .ref a_t_read, .int t_readMany, .ref a_t_prices, .int t_priceMany, .int t_pieceMany, .long t_coins])), (a_t_s, .inl (G.2.1, 68, .inl t_s)), (a_t_states, .inl (G.2.1, 408, .inl t_states))] := hD
  refine lv_iload_n hx hb dX12_setMemory_5 rfl (lv_at hl 1 rfl) ?_
  refine lv_iconst (v := 0) hx hb dX12_setMemory_6 (by decide) ?_
  refine lv_bipush (v := 9) hx hb dX12_setMemory_7 (by decide) ?_
  obtain ⟨r_1, hq, hf⟩ := bd1_some hf
  refine rdS (As := [.int x1, .int 0, .int 9]) (rest := []) hF hG hP hl.1 (c_X12_in l G x1 0 9 r_1 hq) k_X12_in q1080 [] rfl rfl rfl (Nat.le_of_ble_eq_true rfl) ⟨(Nat.le_of_ble_eq_true rfl), (Nat.le_of_ble_eq_true rfl)⟩ ⟨(Nat.zero_le _), (Nat.zero_le _)⟩ dX12_setMemory_9 ?_
  refine lv_if_ne (tgt := 21) hx hb dX12_setMemory_12 (by decide) (fun c0 => ?_) (fun c0 => ?_)
  · have hf := (if_neg c0).symm.trans hf
    refine lv_aload_n hx hb dX12_setMemory_21 rfl (lv_at hl 0 rfl) ?_
    obtain ⟨t_stateMany_2, t_states_3, hq, hf⟩ := bd2_some hf
    refine wrV (As := []) (rest := []) (wn := [(a_t, .inr (8, [.int 0, .ref a_t_s, .ref a_t_states, .int t_stateMany_2, .ref a_t_snapshot, .int t_hasSnapshot, .ref a_t_text, .int t_length, .int t_at, .int t_isWell, .ref a_t_read, .int t_readMany, .ref a_t_prices, .int t_priceMany, .int t_pieceMany, .long t_coins])), (a_t_s, .inl (G.2.1, 68, .inl t_s)), (a_t_states, .inl (G.2.1, 408, .inl t_states_3))]) hF hG hP hD hS hA hl.1 (c_X12_records l G a_t 0 t_stateMany a_t_snapshot t_hasSnapshot a_t_text t_length t_at t_isWell a_t_read t_readMany a_t_prices t_priceMany t_pieceMany t_coins a_t_s t_s a_t_states t_states t_stateMany_2 t_states_3 hq) k_X12_records q1087 [0, 1, 2] [] [0, 1, 2] rfl rfl rfl rfl ⟨rfl, rfl⟩ (by decide) ⟨0, 8, _, _, rfl, rfl, rfl⟩ rfl rfl (Nat.le_of_ble_eq_true rfl) ⟨(Nat.le_of_ble_eq_true rfl), (Nat.le_of_ble_eq_true rfl)⟩ ⟨(Nat.le_of_ble_eq_true rfl), (Nat.le_of_ble_eq_true rfl)⟩ dX12_setMemory_22 (fun H locs hP hD hS => ?_)
    refine lv_aload_n hx hb dX12_setMemory_25 rfl (lv_at hl 0 rfl) ?_
    refine lv_iconst (v := 3) hx hb dX12_setMemory_26 (by decide) ?_
    refine lv_iload_n hx hb dX12_setMemory_27 rfl (lv_at hl 1 rfl) ?_
    obtain ⟨r_4, t_s_5, hq, hf⟩ := bd2_some hf
    refine wrV (As := [.int 3, .int x1]) (rest := []) (wn := [(a_t, .inr (8, [.int 0, .ref a_t_s, .ref a_t_states, .int t_stateMany_2, .ref a_t_snapshot, .int t_hasSnapshot, .ref a_t_text, .int t_length, .int t_at, .int t_isWell, .ref a_t_read, .int t_readMany, .ref a_t_prices, .int t_priceMany, .int t_pieceMany, .long t_coins])), (a_t_s, .inl (G.2.1, 68, .inl t_s_5)), (a_t_states, .inl (G.2.1, 408, .inl t_states_3))]) hF hG hP hD hS hA hl.1 (c_X12_sets l G a_t 0 a_t_states t_stateMany_2 a_t_snapshot t_hasSnapshot a_t_text t_length t_at t_isWell a_t_read t_readMany a_t_prices t_priceMany t_pieceMany t_coins a_t_s t_s 3 x1 r_4 t_s_5 hq) k_X12_sets q1103 [0, 1] [2] [1, 2, 0] rfl rfl rfl rfl ⟨rfl, rfl⟩ (by decide) ⟨0, 8, _, _, rfl, rfl, rfl⟩ rfl rfl (Nat.le_of_ble_eq_true rfl) ⟨(Nat.le_of_ble_eq_true rfl), (Nat.le_of_ble_eq_true rfl)⟩ ⟨(Nat.le_of_ble_eq_true rfl), (Nat.le_of_ble_eq_true rfl)⟩ dX12_setMemory_28 (fun H locs hP hD hS => ?_)
    have hf : (some (r_4, 0, t_stateMany_2, t_s_5, t_states_3) : Option (Int32 × Int32 × Int32 × (Nat → Int32) × (Nat → Int32))) = some (rr, w_t_thrown, w_t_stateMany, w_t_s, w_t_states) := hf
    cases hf
    exact we_i hF hr hlk hP hD hS dX12_setMemory_31 rfl
  · have hf := (if_pos c0).symm.trans hf
    refine lv_aload_n hx hb dX12_setMemory_15 rfl (lv_at hl 0 rfl) ?_
    refine lv_iconst (v := 1) hx hb dX12_setMemory_16 (by decide) ?_
    obtain ⟨r_6, t_thrown_7, hq, hf⟩ := bd2_some hf
    refine wrV (As := [.int 1]) (rest := []) (wn := [(a_t, .inr (8, [.int t_thrown_7, .ref a_t_s, .ref a_t_states, .int t_stateMany, .ref a_t_snapshot, .int t_hasSnapshot, .ref a_t_text, .int t_length, .int t_at, .int t_isWell, .ref a_t_read, .int t_readMany, .ref a_t_prices, .int t_priceMany, .int t_pieceMany, .long t_coins])), (a_t_s, .inl (G.2.1, 68, .inl t_s)), (a_t_states, .inl (G.2.1, 408, .inl t_states))]) hF hG hP hD hS hA hl.1 (c_X12_fails l G a_t 0 a_t_s a_t_states t_stateMany a_t_snapshot t_hasSnapshot a_t_text t_length t_at t_isWell a_t_read t_readMany a_t_prices t_priceMany t_pieceMany t_coins 1 r_6 t_thrown_7 hq) k_X12_fails q1083 [0] [1, 2] [2, 0, 1] rfl rfl rfl rfl ⟨rfl, rfl⟩ (by decide) ⟨0, 8, _, _, rfl, rfl, rfl⟩ rfl rfl (Nat.le_of_ble_eq_true rfl) ⟨(Nat.le_of_ble_eq_true rfl), (Nat.le_of_ble_eq_true rfl)⟩ ⟨(Nat.le_of_ble_eq_true rfl), (Nat.le_of_ble_eq_true rfl)⟩ dX12_setMemory_17 (fun H locs hP hD hS => ?_)
    have hf : (some (r_6, t_thrown_7, t_stateMany, t_s, t_states) : Option (Int32 × Int32 × Int32 × (Nat → Int32) × (Nat → Int32))) = some (rr, w_t_thrown, w_t_stateMany, w_t_s, w_t_states) := hf
    cases hf
    exact we_i hF hr hlk hP hD hS dX12_setMemory_20 rfl
def f_X12_setLimit (t_thrown : Int32) (t_stateMany : Int32) (t_s : Nat → Int32) (t_states : Nat → Int32) (x1 : Int32) : Option (Int32 × Int32 × Int32 × (Nat → Int32) × (Nat → Int32)) := bd1 (f_X12_in x1 0 9999) (fun (r_1 : Int32) => (if r_1 = 0 then bd2 (f_X12_fails 0 1) (fun (r_6 : Int32) (t_thrown_7 : Int32) => some (r_6, t_thrown_7, t_stateMany, t_s, t_states)) else bd2 (f_X12_records t_stateMany t_s t_states) (fun (t_stateMany_2 : Int32) (t_states_3 : Nat → Int32) => bd2 (f_X12_sets t_s 4 x1) (fun (r_4 : Int32) (t_s_5 : Nat → Int32) => some (r_4, 0, t_stateMany_2, t_s_5, t_states_3)))))
theorem k_X12_setLimit : KV yX12_setLimit cX12_setLimit 2 (some .int) 1 := ⟨qc_yX12_setLimit, q9, ⟨by decide +kernel, by decide +kernel, by decide +kernel⟩, qi_yX12_setLimit, qs_yX12_setLimit⟩
abbrev RM_X12_setLimit : Room := { frames := 1, cells := 0, slots := 0, locals := 23 }
set_option maxHeartbeats 4000000 in
set_option maxRecDepth 100000 in
theorem c_X12_setLimit (l : Launch) (G : GP) (a_t : Nat) (t_thrown : Int32) (t_stateMany : Int32) (a_t_snapshot : Nat) (t_hasSnapshot : Int32) (a_t_text : Nat) (t_length : Int32) (t_at : Int32) (t_isWell : Int32) (a_t_read : Nat) (t_readMany : Int32) (a_t_prices : Nat) (t_priceMany : Int32) (t_pieceMany : Int32) (t_coins : Int64) (a_t_s : Nat) (t_s : Nat → Int32) (a_t_states : Nat) (t_states : Nat → Int32) (x1 : Int32) (rr : Int32) (w_t_thrown : Int32) (w_t_stateMany : Int32) (w_t_s : Nat → Int32) (w_t_states : Nat → Int32) (hf : f_X12_setLimit t_thrown t_stateMany t_s t_states x1 = some (rr, w_t_thrown, w_t_stateMany, w_t_s, w_t_states)) : WM l yX12_setLimit cX12_setLimit 2 (some .int) 1 23 G [.ref a_t, .int x1] [(a_t, .inr (8, [.int t_thrown, .ref a_t_s, .ref a_t_states, .int t_stateMany, .ref a_t_snapshot, .int t_hasSnapshot, .ref a_t_text, .int t_length, .int t_at, .int t_isWell, .ref a_t_read, .int t_readMany, .ref a_t_prices, .int t_priceMany, .int t_pieceMany, .long t_coins])), (a_t_s, .inl (G.2.1, 68, .inl t_s)), (a_t_states, .inl (G.2.1, 408, .inl t_states))] (some (.int rr)) [(a_t, .inr (8, [.int w_t_thrown, .ref a_t_s, .ref a_t_states, .int w_t_stateMany, .ref a_t_snapshot, .int t_hasSnapshot, .ref a_t_text, .int t_length, .int t_at, .int t_isWell, .ref a_t_read, .int t_readMany, .ref a_t_prices, .int t_priceMany, .int t_pieceMany, .long t_coins])), (a_t_s, .inl (G.2.1, 68, .inl w_t_s)), (a_t_states, .inl (G.2.1, 408, .inl w_t_states))] := by
  refine WM.ofW (C := RX12) (by decide) rfl (Nat.le_of_ble_eq_true rfl) ?_
  intro p e s m below meth c A hF hr hlk hG hA hP hD ls hl
  have hl : lv_has ls 2 [(0, .ref a_t), (1, .int x1)] := hl
  have hx := hF.1
  have hb := hF.2.1
  have hml := hF.2.2.1
  have hown := hF.2.2.2.1
  have hts := hF.2.2.2.2
  have hS : va_S A s.heap s.heap [] := va_S.rf
  unfold f_X12_setLimit at hf
  refine lv_aload_n hx hb dX12_setLimit_0 rfl (lv_at hl 0 rfl) ?_
  refine lv_iconst (v := 0) hx hb dX12_setLimit_1 (by decide) ?_
  refine pf (C := RX12) (T := TX12) (N := 16) (ci := 8) (v := .int 0) (ty := .int) hF hG hP hD hS inX12 tyX12 tyX12_ok nmX12 0 rfl rfl 0 (by decide) q1020 rfl rfl (by decide +kernel) rfl rfl (Nat.le_of_ble_eq_true rfl) dX12_setLimit_2 (fun H locs hP hD hS => ?_)
  replace hP : va_P G.1 vwCl [(a_t, .inr (8, [.int 0, .ref a_t_s, .ref a_t_states, .int t_stateMany, .ref a_t_snapshot, .int t_hasSnapshot, .ref a_t_text, .int t_length, .int t_at, .int t_isWell, .ref a_t_read, .int t_readMany, .ref a_t_prices, .int t_priceMany, .int t_pieceMany, .long t_coins])), (a_t_s, .inl (G.2.1, 68, .inl t_s)), (a_t_states, .inl (G.2.1, 408, .inl t_states))] H := hP
  replace hD : va_D A [(a_t, .inr (8, [.int 0, .ref a_t_s, .ref a_t_states, .int t_stateMany, .ref a_t_snapshot, .int t_hasSnapshot, .ref a_t_text, .int t_length, .int t_at, .int t_isWell, .ref a_t_read, .int t_readMany, .ref a_t_prices, .int t_priceMany, .int t_pieceMany, .long t_coins])), (a_t_s, .inl (G.2.1, 68, .inl t_s)), (a_t_states, .inl (G.2.1, 408, .inl t_states))] := hD
  refine lv_iload_n hx hb dX12_setLimit_5 rfl (lv_at hl 1 rfl) ?_
  refine lv_iconst (v := 0) hx hb dX12_setLimit_6 (by decide) ?_
  refine lv_sipush (v := 9999) hx hb dX12_setLimit_7 (by decide) ?_
  obtain ⟨r_1, hq, hf⟩ := bd1_some hf
  refine rdS (As := [.int x1, .int 0, .int 9999]) (rest := []) hF hG hP hl.1 (c_X12_in l G x1 0 9999 r_1 hq) k_X12_in q1080 [] rfl rfl rfl (Nat.le_of_ble_eq_true rfl) ⟨(Nat.le_of_ble_eq_true rfl), (Nat.le_of_ble_eq_true rfl)⟩ ⟨(Nat.zero_le _), (Nat.zero_le _)⟩ dX12_setLimit_10 ?_
  refine lv_if_ne (tgt := 22) hx hb dX12_setLimit_13 (by decide) (fun c0 => ?_) (fun c0 => ?_)
  · have hf := (if_neg c0).symm.trans hf
    refine lv_aload_n hx hb dX12_setLimit_22 rfl (lv_at hl 0 rfl) ?_
    obtain ⟨t_stateMany_2, t_states_3, hq, hf⟩ := bd2_some hf
    refine wrV (As := []) (rest := []) (wn := [(a_t, .inr (8, [.int 0, .ref a_t_s, .ref a_t_states, .int t_stateMany_2, .ref a_t_snapshot, .int t_hasSnapshot, .ref a_t_text, .int t_length, .int t_at, .int t_isWell, .ref a_t_read, .int t_readMany, .ref a_t_prices, .int t_priceMany, .int t_pieceMany, .long t_coins])), (a_t_s, .inl (G.2.1, 68, .inl t_s)), (a_t_states, .inl (G.2.1, 408, .inl t_states_3))]) hF hG hP hD hS hA hl.1 (c_X12_records l G a_t 0 t_stateMany a_t_snapshot t_hasSnapshot a_t_text t_length t_at t_isWell a_t_read t_readMany a_t_prices t_priceMany t_pieceMany t_coins a_t_s t_s a_t_states t_states t_stateMany_2 t_states_3 hq) k_X12_records q1087 [0, 1, 2] [] [0, 1, 2] rfl rfl rfl rfl ⟨rfl, rfl⟩ (by decide) ⟨0, 8, _, _, rfl, rfl, rfl⟩ rfl rfl (Nat.le_of_ble_eq_true rfl) ⟨(Nat.le_of_ble_eq_true rfl), (Nat.le_of_ble_eq_true rfl)⟩ ⟨(Nat.le_of_ble_eq_true rfl), (Nat.le_of_ble_eq_true rfl)⟩ dX12_setLimit_23 (fun H locs hP hD hS => ?_)
    refine lv_aload_n hx hb dX12_setLimit_26 rfl (lv_at hl 0 rfl) ?_
    refine lv_iconst (v := 4) hx hb dX12_setLimit_27 (by decide) ?_
    refine lv_iload_n hx hb dX12_setLimit_28 rfl (lv_at hl 1 rfl) ?_
    obtain ⟨r_4, t_s_5, hq, hf⟩ := bd2_some hf
    refine wrV (As := [.int 4, .int x1]) (rest := []) (wn := [(a_t, .inr (8, [.int 0, .ref a_t_s, .ref a_t_states, .int t_stateMany_2, .ref a_t_snapshot, .int t_hasSnapshot, .ref a_t_text, .int t_length, .int t_at, .int t_isWell, .ref a_t_read, .int t_readMany, .ref a_t_prices, .int t_priceMany, .int t_pieceMany, .long t_coins])), (a_t_s, .inl (G.2.1, 68, .inl t_s_5)), (a_t_states, .inl (G.2.1, 408, .inl t_states_3))]) hF hG hP hD hS hA hl.1 (c_X12_sets l G a_t 0 a_t_states t_stateMany_2 a_t_snapshot t_hasSnapshot a_t_text t_length t_at t_isWell a_t_read t_readMany a_t_prices t_priceMany t_pieceMany t_coins a_t_s t_s 4 x1 r_4 t_s_5 hq) k_X12_sets q1103 [0, 1] [2] [1, 2, 0] rfl rfl rfl rfl ⟨rfl, rfl⟩ (by decide) ⟨0, 8, _, _, rfl, rfl, rfl⟩ rfl rfl (Nat.le_of_ble_eq_true rfl) ⟨(Nat.le_of_ble_eq_true rfl), (Nat.le_of_ble_eq_true rfl)⟩ ⟨(Nat.le_of_ble_eq_true rfl), (Nat.le_of_ble_eq_true rfl)⟩ dX12_setLimit_29 (fun H locs hP hD hS => ?_)
    have hf : (some (r_4, 0, t_stateMany_2, t_s_5, t_states_3) : Option (Int32 × Int32 × Int32 × (Nat → Int32) × (Nat → Int32))) = some (rr, w_t_thrown, w_t_stateMany, w_t_s, w_t_states) := hf
    cases hf
    exact we_i hF hr hlk hP hD hS dX12_setLimit_32 rfl
  · have hf := (if_pos c0).symm.trans hf
    refine lv_aload_n hx hb dX12_setLimit_16 rfl (lv_at hl 0 rfl) ?_
    refine lv_iconst (v := 1) hx hb dX12_setLimit_17 (by decide) ?_
    obtain ⟨r_6, t_thrown_7, hq, hf⟩ := bd2_some hf
    refine wrV (As := [.int 1]) (rest := []) (wn := [(a_t, .inr (8, [.int t_thrown_7, .ref a_t_s, .ref a_t_states, .int t_stateMany, .ref a_t_snapshot, .int t_hasSnapshot, .ref a_t_text, .int t_length, .int t_at, .int t_isWell, .ref a_t_read, .int t_readMany, .ref a_t_prices, .int t_priceMany, .int t_pieceMany, .long t_coins])), (a_t_s, .inl (G.2.1, 68, .inl t_s)), (a_t_states, .inl (G.2.1, 408, .inl t_states))]) hF hG hP hD hS hA hl.1 (c_X12_fails l G a_t 0 a_t_s a_t_states t_stateMany a_t_snapshot t_hasSnapshot a_t_text t_length t_at t_isWell a_t_read t_readMany a_t_prices t_priceMany t_pieceMany t_coins 1 r_6 t_thrown_7 hq) k_X12_fails q1083 [0] [1, 2] [2, 0, 1] rfl rfl rfl rfl ⟨rfl, rfl⟩ (by decide) ⟨0, 8, _, _, rfl, rfl, rfl⟩ rfl rfl (Nat.le_of_ble_eq_true rfl) ⟨(Nat.le_of_ble_eq_true rfl), (Nat.le_of_ble_eq_true rfl)⟩ ⟨(Nat.le_of_ble_eq_true rfl), (Nat.le_of_ble_eq_true rfl)⟩ dX12_setLimit_18 (fun H locs hP hD hS => ?_)
    have hf : (some (r_6, t_thrown_7, t_stateMany, t_s, t_states) : Option (Int32 × Int32 × Int32 × (Nat → Int32) × (Nat → Int32))) = some (rr, w_t_thrown, w_t_stateMany, w_t_s, w_t_states) := hf
    cases hf
    exact we_i hF hr hlk hP hD hS dX12_setLimit_21 rfl
def f_X12_setSeason (t_thrown : Int32) (t_stateMany : Int32) (t_s : Nat → Int32) (t_states : Nat → Int32) (x1 : Int32) : Option (Int32 × Int32 × Int32 × (Nat → Int32) × (Nat → Int32)) := bd1 (f_X12_in x1 2 7) (fun (r_1 : Int32) => (if r_1 = 0 then bd2 (f_X12_fails 0 1) (fun (r_6 : Int32) (t_thrown_7 : Int32) => some (r_6, t_thrown_7, t_stateMany, t_s, t_states)) else bd2 (f_X12_records t_stateMany t_s t_states) (fun (t_stateMany_2 : Int32) (t_states_3 : Nat → Int32) => bd2 (f_X12_sets t_s 5 x1) (fun (r_4 : Int32) (t_s_5 : Nat → Int32) => some (r_4, 0, t_stateMany_2, t_s_5, t_states_3)))))
theorem k_X12_setSeason : KV yX12_setSeason cX12_setSeason 2 (some .int) 1 := ⟨qc_yX12_setSeason, q9, ⟨by decide +kernel, by decide +kernel, by decide +kernel⟩, qi_yX12_setSeason, qs_yX12_setSeason⟩
abbrev RM_X12_setSeason : Room := { frames := 1, cells := 0, slots := 0, locals := 23 }
set_option maxHeartbeats 4000000 in
set_option maxRecDepth 100000 in
theorem c_X12_setSeason (l : Launch) (G : GP) (a_t : Nat) (t_thrown : Int32) (t_stateMany : Int32) (a_t_snapshot : Nat) (t_hasSnapshot : Int32) (a_t_text : Nat) (t_length : Int32) (t_at : Int32) (t_isWell : Int32) (a_t_read : Nat) (t_readMany : Int32) (a_t_prices : Nat) (t_priceMany : Int32) (t_pieceMany : Int32) (t_coins : Int64) (a_t_s : Nat) (t_s : Nat → Int32) (a_t_states : Nat) (t_states : Nat → Int32) (x1 : Int32) (rr : Int32) (w_t_thrown : Int32) (w_t_stateMany : Int32) (w_t_s : Nat → Int32) (w_t_states : Nat → Int32) (hf : f_X12_setSeason t_thrown t_stateMany t_s t_states x1 = some (rr, w_t_thrown, w_t_stateMany, w_t_s, w_t_states)) : WM l yX12_setSeason cX12_setSeason 2 (some .int) 1 23 G [.ref a_t, .int x1] [(a_t, .inr (8, [.int t_thrown, .ref a_t_s, .ref a_t_states, .int t_stateMany, .ref a_t_snapshot, .int t_hasSnapshot, .ref a_t_text, .int t_length, .int t_at, .int t_isWell, .ref a_t_read, .int t_readMany, .ref a_t_prices, .int t_priceMany, .int t_pieceMany, .long t_coins])), (a_t_s, .inl (G.2.1, 68, .inl t_s)), (a_t_states, .inl (G.2.1, 408, .inl t_states))] (some (.int rr)) [(a_t, .inr (8, [.int w_t_thrown, .ref a_t_s, .ref a_t_states, .int w_t_stateMany, .ref a_t_snapshot, .int t_hasSnapshot, .ref a_t_text, .int t_length, .int t_at, .int t_isWell, .ref a_t_read, .int t_readMany, .ref a_t_prices, .int t_priceMany, .int t_pieceMany, .long t_coins])), (a_t_s, .inl (G.2.1, 68, .inl w_t_s)), (a_t_states, .inl (G.2.1, 408, .inl w_t_states))] := by
  refine WM.ofW (C := RX12) (by decide) rfl (Nat.le_of_ble_eq_true rfl) ?_
  intro p e s m below meth c A hF hr hlk hG hA hP hD ls hl
  have hl : lv_has ls 2 [(0, .ref a_t), (1, .int x1)] := hl
  have hx := hF.1
  have hb := hF.2.1
  have hml := hF.2.2.1
  have hown := hF.2.2.2.1
  have hts := hF.2.2.2.2
  have hS : va_S A s.heap s.heap [] := va_S.rf
  unfold f_X12_setSeason at hf
  refine lv_aload_n hx hb dX12_setSeason_0 rfl (lv_at hl 0 rfl) ?_
  refine lv_iconst (v := 0) hx hb dX12_setSeason_1 (by decide) ?_
  refine pf (C := RX12) (T := TX12) (N := 16) (ci := 8) (v := .int 0) (ty := .int) hF hG hP hD hS inX12 tyX12 tyX12_ok nmX12 0 rfl rfl 0 (by decide) q1020 rfl rfl (by decide +kernel) rfl rfl (Nat.le_of_ble_eq_true rfl) dX12_setSeason_2 (fun H locs hP hD hS => ?_)
  replace hP : va_P G.1 vwCl [(a_t, .inr (8, [.int 0, .ref a_t_s, .ref a_t_states, .int t_stateMany, .ref a_t_snapshot, .int t_hasSnapshot, .ref a_t_text, .int t_length, .int t_at, .int t_isWell, .ref a_t_read, .int t_readMany, .ref a_t_prices, .int t_priceMany, .int t_pieceMany, .long t_coins])), (a_t_s, .inl (G.2.1, 68, .inl t_s)), (a_t_states, .inl (G.2.1, 408, .inl t_states))] H := hP
  replace hD : va_D A [(a_t, .inr (8, [.int 0, .ref a_t_s, .ref a_t_states, .int t_stateMany, .ref a_t_snapshot, .int t_hasSnapshot, .ref a_t_text, .int t_length, .int t_at, .int t_isWell, .ref a_t_read, .int t_readMany, .ref a_t_prices, .int t_priceMany, .int t_pieceMany, .long t_coins])), (a_t_s, .inl (G.2.1, 68, .inl t_s)), (a_t_states, .inl (G.2.1, 408, .inl t_states))] := hD
  refine lv_iload_n hx hb dX12_setSeason_5 rfl (lv_at hl 1 rfl) ?_
  refine lv_iconst (v := 2) hx hb dX12_setSeason_6 (by decide) ?_
  refine lv_bipush (v := 7) hx hb dX12_setSeason_7 (by decide) ?_
  obtain ⟨r_1, hq, hf⟩ := bd1_some hf
  refine rdS (As := [.int x1, .int 2, .int 7]) (rest := []) hF hG hP hl.1 (c_X12_in l G x1 2 7 r_1 hq) k_X12_in q1080 [] rfl rfl rfl (Nat.le_of_ble_eq_true rfl) ⟨(Nat.le_of_ble_eq_true rfl), (Nat.le_of_ble_eq_true rfl)⟩ ⟨(Nat.zero_le _), (Nat.zero_le _)⟩ dX12_setSeason_9 ?_
  refine lv_if_ne (tgt := 21) hx hb dX12_setSeason_12 (by decide) (fun c0 => ?_) (fun c0 => ?_)
  · have hf := (if_neg c0).symm.trans hf
    refine lv_aload_n hx hb dX12_setSeason_21 rfl (lv_at hl 0 rfl) ?_
    obtain ⟨t_stateMany_2, t_states_3, hq, hf⟩ := bd2_some hf
    refine wrV (As := []) (rest := []) (wn := [(a_t, .inr (8, [.int 0, .ref a_t_s, .ref a_t_states, .int t_stateMany_2, .ref a_t_snapshot, .int t_hasSnapshot, .ref a_t_text, .int t_length, .int t_at, .int t_isWell, .ref a_t_read, .int t_readMany, .ref a_t_prices, .int t_priceMany, .int t_pieceMany, .long t_coins])), (a_t_s, .inl (G.2.1, 68, .inl t_s)), (a_t_states, .inl (G.2.1, 408, .inl t_states_3))]) hF hG hP hD hS hA hl.1 (c_X12_records l G a_t 0 t_stateMany a_t_snapshot t_hasSnapshot a_t_text t_length t_at t_isWell a_t_read t_readMany a_t_prices t_priceMany t_pieceMany t_coins a_t_s t_s a_t_states t_states t_stateMany_2 t_states_3 hq) k_X12_records q1087 [0, 1, 2] [] [0, 1, 2] rfl rfl rfl rfl ⟨rfl, rfl⟩ (by decide) ⟨0, 8, _, _, rfl, rfl, rfl⟩ rfl rfl (Nat.le_of_ble_eq_true rfl) ⟨(Nat.le_of_ble_eq_true rfl), (Nat.le_of_ble_eq_true rfl)⟩ ⟨(Nat.le_of_ble_eq_true rfl), (Nat.le_of_ble_eq_true rfl)⟩ dX12_setSeason_22 (fun H locs hP hD hS => ?_)
    refine lv_aload_n hx hb dX12_setSeason_25 rfl (lv_at hl 0 rfl) ?_
    refine lv_iconst (v := 5) hx hb dX12_setSeason_26 (by decide) ?_
    refine lv_iload_n hx hb dX12_setSeason_27 rfl (lv_at hl 1 rfl) ?_
    obtain ⟨r_4, t_s_5, hq, hf⟩ := bd2_some hf
    refine wrV (As := [.int 5, .int x1]) (rest := []) (wn := [(a_t, .inr (8, [.int 0, .ref a_t_s, .ref a_t_states, .int t_stateMany_2, .ref a_t_snapshot, .int t_hasSnapshot, .ref a_t_text, .int t_length, .int t_at, .int t_isWell, .ref a_t_read, .int t_readMany, .ref a_t_prices, .int t_priceMany, .int t_pieceMany, .long t_coins])), (a_t_s, .inl (G.2.1, 68, .inl t_s_5)), (a_t_states, .inl (G.2.1, 408, .inl t_states_3))]) hF hG hP hD hS hA hl.1 (c_X12_sets l G a_t 0 a_t_states t_stateMany_2 a_t_snapshot t_hasSnapshot a_t_text t_length t_at t_isWell a_t_read t_readMany a_t_prices t_priceMany t_pieceMany t_coins a_t_s t_s 5 x1 r_4 t_s_5 hq) k_X12_sets q1103 [0, 1] [2] [1, 2, 0] rfl rfl rfl rfl ⟨rfl, rfl⟩ (by decide) ⟨0, 8, _, _, rfl, rfl, rfl⟩ rfl rfl (Nat.le_of_ble_eq_true rfl) ⟨(Nat.le_of_ble_eq_true rfl), (Nat.le_of_ble_eq_true rfl)⟩ ⟨(Nat.le_of_ble_eq_true rfl), (Nat.le_of_ble_eq_true rfl)⟩ dX12_setSeason_28 (fun H locs hP hD hS => ?_)
    have hf : (some (r_4, 0, t_stateMany_2, t_s_5, t_states_3) : Option (Int32 × Int32 × Int32 × (Nat → Int32) × (Nat → Int32))) = some (rr, w_t_thrown, w_t_stateMany, w_t_s, w_t_states) := hf
    cases hf
    exact we_i hF hr hlk hP hD hS dX12_setSeason_31 rfl
  · have hf := (if_pos c0).symm.trans hf
    refine lv_aload_n hx hb dX12_setSeason_15 rfl (lv_at hl 0 rfl) ?_
    refine lv_iconst (v := 1) hx hb dX12_setSeason_16 (by decide) ?_
    obtain ⟨r_6, t_thrown_7, hq, hf⟩ := bd2_some hf
    refine wrV (As := [.int 1]) (rest := []) (wn := [(a_t, .inr (8, [.int t_thrown_7, .ref a_t_s, .ref a_t_states, .int t_stateMany, .ref a_t_snapshot, .int t_hasSnapshot, .ref a_t_text, .int t_length, .int t_at, .int t_isWell, .ref a_t_read, .int t_readMany, .ref a_t_prices, .int t_priceMany, .int t_pieceMany, .long t_coins])), (a_t_s, .inl (G.2.1, 68, .inl t_s)), (a_t_states, .inl (G.2.1, 408, .inl t_states))]) hF hG hP hD hS hA hl.1 (c_X12_fails l G a_t 0 a_t_s a_t_states t_stateMany a_t_snapshot t_hasSnapshot a_t_text t_length t_at t_isWell a_t_read t_readMany a_t_prices t_priceMany t_pieceMany t_coins 1 r_6 t_thrown_7 hq) k_X12_fails q1083 [0] [1, 2] [2, 0, 1] rfl rfl rfl rfl ⟨rfl, rfl⟩ (by decide) ⟨0, 8, _, _, rfl, rfl, rfl⟩ rfl rfl (Nat.le_of_ble_eq_true rfl) ⟨(Nat.le_of_ble_eq_true rfl), (Nat.le_of_ble_eq_true rfl)⟩ ⟨(Nat.le_of_ble_eq_true rfl), (Nat.le_of_ble_eq_true rfl)⟩ dX12_setSeason_17 (fun H locs hP hD hS => ?_)
    have hf : (some (r_6, t_thrown_7, t_stateMany, t_s, t_states) : Option (Int32 × Int32 × Int32 × (Nat → Int32) × (Nat → Int32))) = some (rr, w_t_thrown, w_t_stateMany, w_t_s, w_t_states) := hf
    cases hf
    exact we_i hF hr hlk hP hD hS dX12_setSeason_20 rfl
def f_X12_append (t_thrown : Int32) (t_length : Int32) (t_text : Nat → Int32) (x1 : Int32) : Option (Int32 × Int32 × Int32 × (Nat → Int32)) := bd1 (f_X12_in x1 33 126) (fun (r_1 : Int32) => (if r_1 = 0 then bd2 (f_X12_fails 0 1) (fun (r_4 : Int32) (t_thrown_5 : Int32) => some (r_4, t_thrown_5, t_length, t_text)) else (if t_length = 60 then bd2 (f_X12_fails 0 2) (fun (r_2 : Int32) (t_thrown_3 : Int32) => some (r_2, t_thrown_3, t_length, t_text)) else gd (¬ (t_length < 0 ∨ 60 ≤ Int32.toNatClampNeg t_length)) (some ((t_length + 1), 0, (t_length + 1), (upd t_text (Int32.toNatClampNeg t_length) x1))))))
theorem k_X12_append : KV yX12_append cX12_append 2 (some .int) 1 := ⟨qc_yX12_append, q9, ⟨by decide +kernel, by decide +kernel, by decide +kernel⟩, qi_yX12_append, qs_yX12_append⟩
abbrev RM_X12_append : Room := { frames := 1, cells := 0, slots := 0, locals := 22 }
set_option maxHeartbeats 4000000 in
set_option maxRecDepth 100000 in
theorem c_X12_append (l : Launch) (G : GP) (a_t : Nat) (t_thrown : Int32) (a_t_s : Nat) (a_t_states : Nat) (t_stateMany : Int32) (a_t_snapshot : Nat) (t_hasSnapshot : Int32) (t_length : Int32) (t_at : Int32) (t_isWell : Int32) (a_t_read : Nat) (t_readMany : Int32) (a_t_prices : Nat) (t_priceMany : Int32) (t_pieceMany : Int32) (t_coins : Int64) (a_t_text : Nat) (t_text : Nat → Int32) (x1 : Int32) (rr : Int32) (w_t_thrown : Int32) (w_t_length : Int32) (w_t_text : Nat → Int32) (hf : f_X12_append t_thrown t_length t_text x1 = some (rr, w_t_thrown, w_t_length, w_t_text)) : WM l yX12_append cX12_append 2 (some .int) 1 22 G [.ref a_t, .int x1] [(a_t, .inr (8, [.int t_thrown, .ref a_t_s, .ref a_t_states, .int t_stateMany, .ref a_t_snapshot, .int t_hasSnapshot, .ref a_t_text, .int t_length, .int t_at, .int t_isWell, .ref a_t_read, .int t_readMany, .ref a_t_prices, .int t_priceMany, .int t_pieceMany, .long t_coins])), (a_t_text, .inl (G.2.1, 60, .inl t_text))] (some (.int rr)) [(a_t, .inr (8, [.int w_t_thrown, .ref a_t_s, .ref a_t_states, .int t_stateMany, .ref a_t_snapshot, .int t_hasSnapshot, .ref a_t_text, .int w_t_length, .int t_at, .int t_isWell, .ref a_t_read, .int t_readMany, .ref a_t_prices, .int t_priceMany, .int t_pieceMany, .long t_coins])), (a_t_text, .inl (G.2.1, 60, .inl w_t_text))] := by
  refine WM.ofW (C := RX12) (by decide) rfl (Nat.le_of_ble_eq_true rfl) ?_
  intro p e s m below meth c A hF hr hlk hG hA hP hD ls hl
  have hl : lv_has ls 2 [(0, .ref a_t), (1, .int x1)] := hl
  have hx := hF.1
  have hb := hF.2.1
  have hml := hF.2.2.1
  have hown := hF.2.2.2.1
  have hts := hF.2.2.2.2
  have hS : va_S A s.heap s.heap [] := va_S.rf
  unfold f_X12_append at hf
  refine lv_aload_n hx hb dX12_append_0 rfl (lv_at hl 0 rfl) ?_
  refine lv_iconst (v := 0) hx hb dX12_append_1 (by decide) ?_
  refine pf (C := RX12) (T := TX12) (N := 16) (ci := 8) (v := .int 0) (ty := .int) hF hG hP hD hS inX12 tyX12 tyX12_ok nmX12 0 rfl rfl 0 (by decide) q1020 rfl rfl (by decide +kernel) rfl rfl (Nat.le_of_ble_eq_true rfl) dX12_append_2 (fun H locs hP hD hS => ?_)
  replace hP : va_P G.1 vwCl [(a_t, .inr (8, [.int 0, .ref a_t_s, .ref a_t_states, .int t_stateMany, .ref a_t_snapshot, .int t_hasSnapshot, .ref a_t_text, .int t_length, .int t_at, .int t_isWell, .ref a_t_read, .int t_readMany, .ref a_t_prices, .int t_priceMany, .int t_pieceMany, .long t_coins])), (a_t_text, .inl (G.2.1, 60, .inl t_text))] H := hP
  replace hD : va_D A [(a_t, .inr (8, [.int 0, .ref a_t_s, .ref a_t_states, .int t_stateMany, .ref a_t_snapshot, .int t_hasSnapshot, .ref a_t_text, .int t_length, .int t_at, .int t_isWell, .ref a_t_read, .int t_readMany, .ref a_t_prices, .int t_priceMany, .int t_pieceMany, .long t_coins])), (a_t_text, .inl (G.2.1, 60, .inl t_text))] := hD
  refine lv_iload_n hx hb dX12_append_5 rfl (lv_at hl 1 rfl) ?_
  refine lv_bipush (v := 33) hx hb dX12_append_6 (by decide) ?_
  refine lv_bipush (v := 126) hx hb dX12_append_8 (by decide) ?_
  obtain ⟨r_1, hq, hf⟩ := bd1_some hf
  refine rdS (As := [.int x1, .int 33, .int 126]) (rest := []) hF hG hP hl.1 (c_X12_in l G x1 33 126 r_1 hq) k_X12_in q1080 [] rfl rfl rfl (Nat.le_of_ble_eq_true rfl) ⟨(Nat.le_of_ble_eq_true rfl), (Nat.le_of_ble_eq_true rfl)⟩ ⟨(Nat.zero_le _), (Nat.zero_le _)⟩ dX12_append_10 ?_
  refine lv_if_ne (tgt := 22) hx hb dX12_append_13 (by decide) (fun c0 => ?_) (fun c0 => ?_)
  · have hf := (if_neg c0).symm.trans hf
    refine lv_aload_n hx hb dX12_append_22 rfl (lv_at hl 0 rfl) ?_
    refine gf (C := RX12) (T := TX12) (N := 16) (ci := 8) (v := .int t_length) hF hG hP inX12 0 rfl rfl 7 (by decide) q1027 rfl rfl dX12_append_23 ?_
    refine lv_bipush (v := 60) hx hb dX12_append_26 (by decide) ?_
    refine lv_icmp_ne (tgt := 37) hx hb dX12_append_28 (by decide) (fun c0 => ?_) (fun c0 => ?_)
    · have hf := (if_neg c0).symm.trans hf
      refine lv_aload_n hx hb dX12_append_37 rfl (lv_at hl 0 rfl) ?_
      refine gf (C := RX12) (T := TX12) (N := 16) (ci := 8) (v := .ref a_t_text) hF hG hP inX12 0 rfl rfl 6 (by decide) q1026 rfl rfl dX12_append_38 ?_
      refine lv_aload_n hx hb dX12_append_41 rfl (lv_at hl 0 rfl) ?_
      refine gf (C := RX12) (T := TX12) (N := 16) (ci := 8) (v := .int t_length) hF hG hP inX12 0 rfl rfl 7 (by decide) q1027 rfl rfl dX12_append_42 ?_
      refine lv_iload_n hx hb dX12_append_45 rfl (lv_at hl 1 rfl) ?_
      obtain ⟨hg, hf⟩ := gd_some hf
      refine ast_i (k := Int32.toNatClampNeg t_length) hF hG hP hD hS 1 rfl rfl hg dX12_append_46 (fun H locs hP hD hS => ?_)
      replace hP : va_P G.1 vwCl [(a_t, .inr (8, [.int 0, .ref a_t_s, .ref a_t_states, .int t_stateMany, .ref a_t_snapshot, .int t_hasSnapshot, .ref a_t_text, .int t_length, .int t_at, .int t_isWell, .ref a_t_read, .int t_readMany, .ref a_t_prices, .int t_priceMany, .int t_pieceMany, .long t_coins])), (a_t_text, .inl (G.2.1, 60, .inl (upd t_text (Int32.toNatClampNeg t_length) x1)))] H := hP
      replace hD : va_D A [(a_t, .inr (8, [.int 0, .ref a_t_s, .ref a_t_states, .int t_stateMany, .ref a_t_snapshot, .int t_hasSnapshot, .ref a_t_text, .int t_length, .int t_at, .int t_isWell, .ref a_t_read, .int t_readMany, .ref a_t_prices, .int t_priceMany, .int t_pieceMany, .long t_coins])), (a_t_text, .inl (G.2.1, 60, .inl (upd t_text (Int32.toNatClampNeg t_length) x1)))] := hD
      refine lv_aload_n hx hb dX12_append_47 rfl (lv_at hl 0 rfl) ?_
      refine lv_dup hx hb dX12_append_48 rfl ?_
      refine gf (C := RX12) (T := TX12) (N := 16) (ci := 8) (v := .int t_length) hF hG hP inX12 0 rfl rfl 7 (by decide) q1027 rfl rfl dX12_append_49 ?_
      refine lv_iconst (v := 1) hx hb dX12_append_52 (by decide) ?_
      refine lv_iadd hx hb dX12_append_53 ?_
      refine pf (C := RX12) (T := TX12) (N := 16) (ci := 8) (v := .int (t_length + 1)) (ty := .int) hF hG hP hD hS inX12 tyX12 tyX12_ok nmX12 0 rfl rfl 7 (by decide) q1027 rfl rfl (by decide +kernel) rfl rfl (Nat.le_of_ble_eq_true rfl) dX12_append_54 (fun H locs hP hD hS => ?_)
      replace hP : va_P G.1 vwCl [(a_t, .inr (8, [.int 0, .ref a_t_s, .ref a_t_states, .int t_stateMany, .ref a_t_snapshot, .int t_hasSnapshot, .ref a_t_text, .int (t_length + 1), .int t_at, .int t_isWell, .ref a_t_read, .int t_readMany, .ref a_t_prices, .int t_priceMany, .int t_pieceMany, .long t_coins])), (a_t_text, .inl (G.2.1, 60, .inl (upd t_text (Int32.toNatClampNeg t_length) x1)))] H := hP
      replace hD : va_D A [(a_t, .inr (8, [.int 0, .ref a_t_s, .ref a_t_states, .int t_stateMany, .ref a_t_snapshot, .int t_hasSnapshot, .ref a_t_text, .int (t_length + 1), .int t_at, .int t_isWell, .ref a_t_read, .int t_readMany, .ref a_t_prices, .int t_priceMany, .int t_pieceMany, .long t_coins])), (a_t_text, .inl (G.2.1, 60, .inl (upd t_text (Int32.toNatClampNeg t_length) x1)))] := hD
      refine lv_aload_n hx hb dX12_append_57 rfl (lv_at hl 0 rfl) ?_
      refine gf (C := RX12) (T := TX12) (N := 16) (ci := 8) (v := .int (t_length + 1)) hF hG hP inX12 0 rfl rfl 7 (by decide) q1027 rfl rfl dX12_append_58 ?_
      have hf : (some ((t_length + 1), 0, (t_length + 1), (upd t_text (Int32.toNatClampNeg t_length) x1)) : Option (Int32 × Int32 × Int32 × (Nat → Int32))) = some (rr, w_t_thrown, w_t_length, w_t_text) := hf
      cases hf
      exact we_i hF hr hlk hP hD hS dX12_append_61 rfl
    · have hf := (if_pos c0).symm.trans hf
      refine lv_aload_n hx hb dX12_append_31 rfl (lv_at hl 0 rfl) ?_
      refine lv_iconst (v := 2) hx hb dX12_append_32 (by decide) ?_
      obtain ⟨r_2, t_thrown_3, hq, hf⟩ := bd2_some hf
      refine wrV (As := [.int 2]) (rest := []) (wn := [(a_t, .inr (8, [.int t_thrown_3, .ref a_t_s, .ref a_t_states, .int t_stateMany, .ref a_t_snapshot, .int t_hasSnapshot, .ref a_t_text, .int t_length, .int t_at, .int t_isWell, .ref a_t_read, .int t_readMany, .ref a_t_prices, .int t_priceMany, .int t_pieceMany, .long t_coins])), (a_t_text, .inl (G.2.1, 60, .inl t_text))]) hF hG hP hD hS hA hl.1 (c_X12_fails l G a_t 0 a_t_s a_t_states t_stateMany a_t_snapshot t_hasSnapshot a_t_text t_length t_at t_isWell a_t_read t_readMany a_t_prices t_priceMany t_pieceMany t_coins 2 r_2 t_thrown_3 hq) k_X12_fails q1083 [0] [1] [1, 0] rfl rfl rfl rfl ⟨rfl, rfl⟩ (by decide) ⟨0, 8, _, _, rfl, rfl, rfl⟩ rfl rfl (Nat.le_of_ble_eq_true rfl) ⟨(Nat.le_of_ble_eq_true rfl), (Nat.le_of_ble_eq_true rfl)⟩ ⟨(Nat.le_of_ble_eq_true rfl), (Nat.le_of_ble_eq_true rfl)⟩ dX12_append_33 (fun H locs hP hD hS => ?_)
      have hf : (some (r_2, t_thrown_3, t_length, t_text) : Option (Int32 × Int32 × Int32 × (Nat → Int32))) = some (rr, w_t_thrown, w_t_length, w_t_text) := hf
      cases hf
      exact we_i hF hr hlk hP hD hS dX12_append_36 rfl
  · have hf := (if_pos c0).symm.trans hf
    refine lv_aload_n hx hb dX12_append_16 rfl (lv_at hl 0 rfl) ?_
    refine lv_iconst (v := 1) hx hb dX12_append_17 (by decide) ?_
    obtain ⟨r_4, t_thrown_5, hq, hf⟩ := bd2_some hf
    refine wrV (As := [.int 1]) (rest := []) (wn := [(a_t, .inr (8, [.int t_thrown_5, .ref a_t_s, .ref a_t_states, .int t_stateMany, .ref a_t_snapshot, .int t_hasSnapshot, .ref a_t_text, .int t_length, .int t_at, .int t_isWell, .ref a_t_read, .int t_readMany, .ref a_t_prices, .int t_priceMany, .int t_pieceMany, .long t_coins])), (a_t_text, .inl (G.2.1, 60, .inl t_text))]) hF hG hP hD hS hA hl.1 (c_X12_fails l G a_t 0 a_t_s a_t_states t_stateMany a_t_snapshot t_hasSnapshot a_t_text t_length t_at t_isWell a_t_read t_readMany a_t_prices t_priceMany t_pieceMany t_coins 1 r_4 t_thrown_5 hq) k_X12_fails q1083 [0] [1] [1, 0] rfl rfl rfl rfl ⟨rfl, rfl⟩ (by decide) ⟨0, 8, _, _, rfl, rfl, rfl⟩ rfl rfl (Nat.le_of_ble_eq_true rfl) ⟨(Nat.le_of_ble_eq_true rfl), (Nat.le_of_ble_eq_true rfl)⟩ ⟨(Nat.le_of_ble_eq_true rfl), (Nat.le_of_ble_eq_true rfl)⟩ dX12_append_18 (fun H locs hP hD hS => ?_)
    have hf : (some (r_4, t_thrown_5, t_length, t_text) : Option (Int32 × Int32 × Int32 × (Nat → Int32))) = some (rr, w_t_thrown, w_t_length, w_t_text) := hf
    cases hf
    exact we_i hF hr hlk hP hD hS dX12_append_21 rfl
def f_X12_clearBuffer (t_thrown : Int32) (t_length : Int32) : Option (Int32 × Int32 × Int32) := some (t_length, 0, 0)
theorem k_X12_clearBuffer : KV yX12_clearBuffer cX12_clearBuffer 2 (some .int) 0 := ⟨qc_yX12_clearBuffer, q9, ⟨by decide +kernel, by decide +kernel, by decide +kernel⟩, qi_yX12_clearBuffer, qs_yX12_clearBuffer⟩
abbrev RM_X12_clearBuffer : Room := { frames := 0, cells := 0, slots := 0, locals := 0 }
set_option maxHeartbeats 4000000 in
set_option maxRecDepth 100000 in
theorem c_X12_clearBuffer (l : Launch) (G : GP) (a_t : Nat) (t_thrown : Int32) (a_t_s : Nat) (a_t_states : Nat) (t_stateMany : Int32) (a_t_snapshot : Nat) (t_hasSnapshot : Int32) (a_t_text : Nat) (t_length : Int32) (t_at : Int32) (t_isWell : Int32) (a_t_read : Nat) (t_readMany : Int32) (a_t_prices : Nat) (t_priceMany : Int32) (t_pieceMany : Int32) (t_coins : Int64) (rr : Int32) (w_t_thrown : Int32) (w_t_length : Int32) (hf : f_X12_clearBuffer t_thrown t_length = some (rr, w_t_thrown, w_t_length)) : WM l yX12_clearBuffer cX12_clearBuffer 2 (some .int) 0 0 G [.ref a_t] [(a_t, .inr (8, [.int t_thrown, .ref a_t_s, .ref a_t_states, .int t_stateMany, .ref a_t_snapshot, .int t_hasSnapshot, .ref a_t_text, .int t_length, .int t_at, .int t_isWell, .ref a_t_read, .int t_readMany, .ref a_t_prices, .int t_priceMany, .int t_pieceMany, .long t_coins]))] (some (.int rr)) [(a_t, .inr (8, [.int w_t_thrown, .ref a_t_s, .ref a_t_states, .int t_stateMany, .ref a_t_snapshot, .int t_hasSnapshot, .ref a_t_text, .int w_t_length, .int t_at, .int t_isWell, .ref a_t_read, .int t_readMany, .ref a_t_prices, .int t_priceMany, .int t_pieceMany, .long t_coins]))] := by
  refine WM.ofW (C := RX12) (by decide) rfl (Nat.le_of_ble_eq_true rfl) ?_
  intro p e s m below meth c A hF hr hlk hG hA hP hD ls hl
  have hl : lv_has ls 2 [(0, .ref a_t)] := hl
  have hx := hF.1
  have hb := hF.2.1
  have hml := hF.2.2.1
  have hown := hF.2.2.2.1
  have hts := hF.2.2.2.2
  have hS : va_S A s.heap s.heap [] := va_S.rf
  unfold f_X12_clearBuffer at hf
  refine lv_aload_n hx hb dX12_clearBuffer_0 rfl (lv_at hl 0 rfl) ?_
  refine lv_iconst (v := 0) hx hb dX12_clearBuffer_1 (by decide) ?_
  refine pf (C := RX12) (T := TX12) (N := 16) (ci := 8) (v := .int 0) (ty := .int) hF hG hP hD hS inX12 tyX12 tyX12_ok nmX12 0 rfl rfl 0 (by decide) q1020 rfl rfl (by decide +kernel) rfl rfl (Nat.le_of_ble_eq_true rfl) dX12_clearBuffer_2 (fun H locs hP hD hS => ?_)
  replace hP : va_P G.1 vwCl [(a_t, .inr (8, [.int 0, .ref a_t_s, .ref a_t_states, .int t_stateMany, .ref a_t_snapshot, .int t_hasSnapshot, .ref a_t_text, .int t_length, .int t_at, .int t_isWell, .ref a_t_read, .int t_readMany, .ref a_t_prices, .int t_priceMany, .int t_pieceMany, .long t_coins]))] H := hP
  replace hD : va_D A [(a_t, .inr (8, [.int 0, .ref a_t_s, .ref a_t_states, .int t_stateMany, .ref a_t_snapshot, .int t_hasSnapshot, .ref a_t_text, .int t_length, .int t_at, .int t_isWell, .ref a_t_read, .int t_readMany, .ref a_t_prices, .int t_priceMany, .int t_pieceMany, .long t_coins]))] := hD
  refine lv_aload_n hx hb dX12_clearBuffer_5 rfl (lv_at hl 0 rfl) ?_
  refine gf (C := RX12) (T := TX12) (N := 16) (ci := 8) (v := .int t_length) hF hG hP inX12 0 rfl rfl 7 (by decide) q1027 rfl rfl dX12_clearBuffer_6 ?_
  refine lv_istore_n (lv' := [(1, .int t_length), (0, .ref a_t)]) hx hb dX12_clearBuffer_9 rfl hl (by decide) rfl (fun ls hl => ?_)
  refine lv_aload_n hx hb dX12_clearBuffer_10 rfl (lv_at hl 1 rfl) ?_
  refine lv_iconst (v := 0) hx hb dX12_clearBuffer_11 (by decide) ?_
  refine pf (C := RX12) (T := TX12) (N := 16) (ci := 8) (v := .int 0) (ty := .int) hF hG hP hD hS inX12 tyX12 tyX12_ok nmX12 0 rfl rfl 7 (by decide) q1027 rfl rfl (by decide +kernel) rfl rfl (Nat.le_of_ble_eq_true rfl) dX12_clearBuffer_12 (fun H locs hP hD hS => ?_)
  replace hP : va_P G.1 vwCl [(a_t, .inr (8, [.int 0, .ref a_t_s, .ref a_t_states, .int t_stateMany, .ref a_t_snapshot, .int t_hasSnapshot, .ref a_t_text, .int 0, .int t_at, .int t_isWell, .ref a_t_read, .int t_readMany, .ref a_t_prices, .int t_priceMany, .int t_pieceMany, .long t_coins]))] H := hP
  replace hD : va_D A [(a_t, .inr (8, [.int 0, .ref a_t_s, .ref a_t_states, .int t_stateMany, .ref a_t_snapshot, .int t_hasSnapshot, .ref a_t_text, .int 0, .int t_at, .int t_isWell, .ref a_t_read, .int t_readMany, .ref a_t_prices, .int t_priceMany, .int t_pieceMany, .long t_coins]))] := hD
  refine lv_iload_n hx hb dX12_clearBuffer_15 rfl (lv_at hl 0 rfl) ?_
  have hf : (some (t_length, 0, 0) : Option (Int32 × Int32 × Int32)) = some (rr, w_t_thrown, w_t_length) := hf
  cases hf
  exact we_i hF hr hlk hP hD hS dX12_clearBuffer_16 rfl
def f_X12_sign (t_length : Int32) (t_at : Int32) (t_text : Nat → Int32) : Option (Int32) := (if t_length ≤ t_at then some 0 else gd (¬ (t_at < 0 ∨ 60 ≤ Int32.toNatClampNeg t_at)) (some (t_text (Int32.toNatClampNeg t_at))))
theorem k_X12_sign : KV yX12_sign cX12_sign 1 (some .int) 0 := ⟨qc_yX12_sign, q9, ⟨by decide +kernel, by decide +kernel, by decide +kernel⟩, qi_yX12_sign, qs_yX12_sign⟩
abbrev RM_X12_sign : Room := { frames := 0, cells := 0, slots := 0, locals := 0 }
set_option maxHeartbeats 4000000 in
set_option maxRecDepth 100000 in
theorem c_X12_sign (l : Launch) (G : GP) (a_t : Nat) (t_thrown : Int32) (a_t_s : Nat) (a_t_states : Nat) (t_stateMany : Int32) (a_t_snapshot : Nat) (t_hasSnapshot : Int32) (t_length : Int32) (t_at : Int32) (t_isWell : Int32) (a_t_read : Nat) (t_readMany : Int32) (a_t_prices : Nat) (t_priceMany : Int32) (t_pieceMany : Int32) (t_coins : Int64) (a_t_text : Nat) (t_text : Nat → Int32) (rr : Int32) (hf : f_X12_sign t_length t_at t_text = some rr) : RM l yX12_sign cX12_sign 1 (some .int) 0 0 G [.ref a_t] [(a_t, .inr (8, [.int t_thrown, .ref a_t_s, .ref a_t_states, .int t_stateMany, .ref a_t_snapshot, .int t_hasSnapshot, .ref a_t_text, .int t_length, .int t_at, .int t_isWell, .ref a_t_read, .int t_readMany, .ref a_t_prices, .int t_priceMany, .int t_pieceMany, .long t_coins])), (a_t_text, .inl (G.2.1, 60, .inl t_text))] (some (.int rr)) := by
  refine RM.ofW (C := RX12) (by decide) rfl (Nat.le_of_ble_eq_true rfl) ?_
  intro p e s m below meth c hF hr hlk hG hP ls hl
  have hl : lv_has ls 1 [(0, .ref a_t)] := hl
  have hx := hF.1
  have hb := hF.2.1
  have hml := hF.2.2.1
  have hown := hF.2.2.2.1
  have hts := hF.2.2.2.2
  unfold f_X12_sign at hf
  refine lv_aload_n hx hb dX12_sign_0 rfl (lv_at hl 0 rfl) ?_
  refine gf (C := RX12) (T := TX12) (N := 16) (ci := 8) (v := .int t_at) hF hG hP inX12 0 rfl rfl 8 (by decide) q1028 rfl rfl dX12_sign_1 ?_
  refine lv_aload_n hx hb dX12_sign_4 rfl (lv_at hl 0 rfl) ?_
  refine gf (C := RX12) (T := TX12) (N := 16) (ci := 8) (v := .int t_length) hF hG hP inX12 0 rfl rfl 7 (by decide) q1027 rfl rfl dX12_sign_5 ?_
  refine lv_icmp_ge (tgt := 23) hx hb dX12_sign_8 (by decide) (fun c0 => ?_) (fun c0 => ?_)
  · have hf := (if_pos c0).symm.trans hf
    refine lv_iconst (v := 0) hx hb dX12_sign_23 (by decide) ?_
    have hf : (some 0 : Option (Int32)) = some rr := hf
    cases hf
    exact re_i hF hr hlk dX12_sign_24 rfl
  · have hf := (if_neg c0).symm.trans hf
    refine lv_aload_n hx hb dX12_sign_11 rfl (lv_at hl 0 rfl) ?_
    refine gf (C := RX12) (T := TX12) (N := 16) (ci := 8) (v := .ref a_t_text) hF hG hP inX12 0 rfl rfl 6 (by decide) q1026 rfl rfl dX12_sign_12 ?_
    refine lv_aload_n hx hb dX12_sign_15 rfl (lv_at hl 0 rfl) ?_
    refine gf (C := RX12) (T := TX12) (N := 16) (ci := 8) (v := .int t_at) hF hG hP inX12 0 rfl rfl 8 (by decide) q1028 rfl rfl dX12_sign_16 ?_
    obtain ⟨hg, hf⟩ := gd_some hf
    refine ald_i (k := Int32.toNatClampNeg t_at) hF hG hP 1 rfl rfl hg dX12_sign_19 ?_
    refine lv_goto (tgt := 24) hx hb dX12_sign_20 (by decide) ?_
    have hf : (some (t_text (Int32.toNatClampNeg t_at)) : Option (Int32)) = some rr := hf
    cases hf
    exact re_i hF hr hlk dX12_sign_24 rfl
def f_X12_takes (t_length : Int32) (t_at : Int32) (t_isWell : Int32) (t_text : Nat → Int32) (x1 : Int32) (x2 : Int32) : Option (Int32 × Int32 × Int32) := bd1 (if t_isWell = 0 then some 0 else bd1 (f_X12_sign t_length t_at t_text) (fun (r_2 : Int32) => bd1 (f_X12_in r_2 x1 x2) (fun (r_3 : Int32) => (if r_3 = 0 then some 0 else some 1)))) (fun (j_1 : Int32) => gd (j_1 &&& 1 = j_1) (bd1 (f_X12_sign t_length t_at t_text) (fun (r_4 : Int32) => bd1 (if j_1 = 0 then some 0 else some 1) (fun (j_5 : Int32) => some ((r_4 - 48), (t_at + j_5), j_1)))))
theorem k_X12_takes : KV yX12_takes cX12_takes 4 (some .int) 2 := ⟨qc_yX12_takes, q9, ⟨by decide +kernel, by decide +kernel, by decide +kernel⟩, qi_yX12_takes, qs_yX12_takes⟩
abbrev RM_X12_takes : Room := { frames := 1, cells := 0, slots := 0, locals := 22 }
set_option maxHeartbeats 4000000 in
set_option maxRecDepth 100000 in
theorem c_X12_takes (l : Launch) (G : GP) (a_t : Nat) (t_thrown : Int32) (a_t_s : Nat) (a_t_states : Nat) (t_stateMany : Int32) (a_t_snapshot : Nat) (t_hasSnapshot : Int32) (t_length : Int32) (t_at : Int32) (t_isWell : Int32) (a_t_read : Nat) (t_readMany : Int32) (a_t_prices : Nat) (t_priceMany : Int32) (t_pieceMany : Int32) (t_coins : Int64) (a_t_text : Nat) (t_text : Nat → Int32) (x1 : Int32) (x2 : Int32) (rr : Int32) (w_t_at : Int32) (w_t_isWell : Int32) (hf : f_X12_takes t_length t_at t_isWell t_text x1 x2 = some (rr, w_t_at, w_t_isWell)) : WM l yX12_takes cX12_takes 4 (some .int) 1 22 G [.ref a_t, .int x1, .int x2] [(a_t, .inr (8, [.int t_thrown, .ref a_t_s, .ref a_t_states, .int t_stateMany, .ref a_t_snapshot, .int t_hasSnapshot, .ref a_t_text, .int t_length, .int t_at, .int t_isWell, .ref a_t_read, .int t_readMany, .ref a_t_prices, .int t_priceMany, .int t_pieceMany, .long t_coins])), (a_t_text, .inl (G.2.1, 60, .inl t_text))] (some (.int rr)) [(a_t, .inr (8, [.int t_thrown, .ref a_t_s, .ref a_t_states, .int t_stateMany, .ref a_t_snapshot, .int t_hasSnapshot, .ref a_t_text, .int t_length, .int w_t_at, .int w_t_isWell, .ref a_t_read, .int t_readMany, .ref a_t_prices, .int t_priceMany, .int t_pieceMany, .long t_coins])), (a_t_text, .inl (G.2.1, 60, .inl t_text))] := by
  refine WM.ofW (C := RX12) (by decide) rfl (Nat.le_of_ble_eq_true rfl) ?_
  intro p e s m below meth c A hF hr hlk hG hA hP hD ls hl
  have hl : lv_has ls 4 [(0, .ref a_t), (1, .int x1), (2, .int x2)] := hl
  have hx := hF.1
  have hb := hF.2.1
  have hml := hF.2.2.1
  have hown := hF.2.2.2.1
  have hts := hF.2.2.2.2
  have hS : va_S A s.heap s.heap [] := va_S.rf
  unfold f_X12_takes at hf
  refine lv_aload_n hx hb dX12_takes_0 rfl (lv_at hl 0 rfl) ?_
  refine lv_aload_n hx hb dX12_takes_1 rfl (lv_at hl 0 rfl) ?_
  refine gf (C := RX12) (T := TX12) (N := 16) (ci := 8) (v := .int t_isWell) hF hG hP inX12 0 rfl rfl 9 (by decide) q1029 rfl rfl dX12_takes_2 ?_
  obtain ⟨j_1, hq, hf⟩ := bd1_some hf
  have J25 : ∀ (H : Heap) (locs : List Loc), va_P G.1 vwCl ([(a_t, .inr (8, [.int t_thrown, .ref a_t_s, .ref a_t_states, .int t_stateMany, .ref a_t_snapshot, .int t_hasSnapshot, .ref a_t_text, .int t_length, .int t_at, .int t_isWell, .ref a_t_read, .int t_readMany, .ref a_t_prices, .int t_priceMany, .int t_pieceMany, .long t_coins])), (a_t_text, .inl (G.2.1, 60, .inl t_text))] : va_W) H → va_D A ([(a_t, .inr (8, [.int t_thrown, .ref a_t_s, .ref a_t_states, .int t_stateMany, .ref a_t_snapshot, .int t_hasSnapshot, .ref a_t_text, .int t_length, .int t_at, .int t_isWell, .ref a_t_read, .int t_readMany, .ref a_t_prices, .int t_priceMany, .int t_pieceMany, .long t_coins])), (a_t_text, .inl (G.2.1, 60, .inl t_text))] : va_W) → va_S A s.heap H locs → ∀ ls : Array Slot, lv_has ls 4 [(0, .ref a_t)] → W p l e RM_X12_takes s m [.ref a_t, .int x1, .int x2].toArray below meth c H locs 0 0 (MQ below (wrQ (some (.int rr)) G [(a_t, .inr (8, [.int t_thrown, .ref a_t_s, .ref a_t_states, .int t_stateMany, .ref a_t_snapshot, .int t_hasSnapshot, .ref a_t_text, .int t_length, .int w_t_at, .int w_t_isWell, .ref a_t_read, .int t_readMany, .ref a_t_prices, .int t_priceMany, .int t_pieceMany, .long t_coins])), (a_t_text, .inl (G.2.1, 60, .inl t_text))] A) [.ref a_t, .int x1, .int x2].toArray s 0 0 A) (F0 m 25 ls [.int j_1, .ref a_t]) := by
    intro H locs hP hD hS ls hl
    obtain ⟨hz, hf⟩ := gd_some hf
    refine pf (C := RX12) (T := TX12) (N := 16) (ci := 8) (v := .int j_1) (ty := .boolean) hF hG hP hD hS inX12 tyX12 tyX12_ok nmX12 0 rfl rfl 9 (by decide) q1029 rfl rfl (by decide +kernel) (nar_z hz) (fit_z hz) (Nat.le_of_ble_eq_true rfl) dX12_takes_25 (fun H locs hP hD hS => ?_)
    replace hP : va_P G.1 vwCl [(a_t, .inr (8, [.int t_thrown, .ref a_t_s, .ref a_t_states, .int t_stateMany, .ref a_t_snapshot, .int t_hasSnapshot, .ref a_t_text, .int t_length, .int t_at, .int j_1, .ref a_t_read, .int t_readMany, .ref a_t_prices, .int t_priceMany, .int t_pieceMany, .long t_coins])), (a_t_text, .inl (G.2.1, 60, .inl t_text))] H := hP
    replace hD : va_D A [(a_t, .inr (8, [.int t_thrown, .ref a_t_s, .ref a_t_states, .int t_stateMany, .ref a_t_snapshot, .int t_hasSnapshot, .ref a_t_text, .int t_length, .int t_at, .int j_1, .ref a_t_read, .int t_readMany, .ref a_t_prices, .int t_priceMany, .int t_pieceMany, .long t_coins])), (a_t_text, .inl (G.2.1, 60, .inl t_text))] := hD
    refine lv_aload_n hx hb dX12_takes_28 rfl (lv_at hl 0 rfl) ?_
    obtain ⟨r_4, hq, hf⟩ := bd1_some hf
    refine rdV (As := []) (rest := []) hF hG hP hl.1 (c_X12_sign l G a_t t_thrown a_t_s a_t_states t_stateMany a_t_snapshot t_hasSnapshot t_length t_at j_1 a_t_read t_readMany a_t_prices t_priceMany t_pieceMany t_coins a_t_text t_text r_4 hq) k_X12_sign q1178 [0, 1] rfl ⟨0, 8, _, _, rfl, rfl, rfl⟩ rfl rfl (Nat.le_of_ble_eq_true rfl) ⟨(Nat.le_of_ble_eq_true rfl), (Nat.le_of_ble_eq_true rfl)⟩ ⟨(Nat.zero_le _), (Nat.zero_le _)⟩ dX12_takes_29 ?_
    refine lv_bipush (v := 48) hx hb dX12_takes_32 (by decide) ?_
    refine lv_isub hx hb dX12_takes_34 ?_
    refine lv_istore_n (lv' := [(3, .int (r_4 - 48)), (0, .ref a_t)]) hx hb dX12_takes_35 rfl hl (by decide) rfl (fun ls hl => ?_)
    refine lv_aload_n hx hb dX12_takes_36 rfl (lv_at hl 1 rfl) ?_
    refine lv_dup hx hb dX12_takes_37 rfl ?_
    refine gf (C := RX12) (T := TX12) (N := 16) (ci := 8) (v := .int t_at) hF hG hP inX12 0 rfl rfl 8 (by decide) q1028 rfl rfl dX12_takes_38 ?_
    refine lv_aload_n hx hb dX12_takes_41 rfl (lv_at hl 1 rfl) ?_
    refine gf (C := RX12) (T := TX12) (N := 16) (ci := 8) (v := .int j_1) hF hG hP inX12 0 rfl rfl 9 (by decide) q1029 rfl rfl dX12_takes_42 ?_
    obtain ⟨j_5, hq, hf⟩ := bd1_some hf
    have J53 : ∀ (H : Heap) (locs : List Loc), va_P G.1 vwCl ([(a_t, .inr (8, [.int t_thrown, .ref a_t_s, .ref a_t_states, .int t_stateMany, .ref a_t_snapshot, .int t_hasSnapshot, .ref a_t_text, .int t_length, .int t_at, .int j_1, .ref a_t_read, .int t_readMany, .ref a_t_prices, .int t_priceMany, .int t_pieceMany, .long t_coins])), (a_t_text, .inl (G.2.1, 60, .inl t_text))] : va_W) H → va_D A ([(a_t, .inr (8, [.int t_thrown, .ref a_t_s, .ref a_t_states, .int t_stateMany, .ref a_t_snapshot, .int t_hasSnapshot, .ref a_t_text, .int t_length, .int t_at, .int j_1, .ref a_t_read, .int t_readMany, .ref a_t_prices, .int t_priceMany, .int t_pieceMany, .long t_coins])), (a_t_text, .inl (G.2.1, 60, .inl t_text))] : va_W) → va_S A s.heap H locs → ∀ ls : Array Slot, lv_has ls 4 [(3, .int (r_4 - 48))] → W p l e RM_X12_takes s m [.ref a_t, .int x1, .int x2].toArray below meth c H locs 0 0 (MQ below (wrQ (some (.int rr)) G [(a_t, .inr (8, [.int t_thrown, .ref a_t_s, .ref a_t_states, .int t_stateMany, .ref a_t_snapshot, .int t_hasSnapshot, .ref a_t_text, .int t_length, .int w_t_at, .int w_t_isWell, .ref a_t_read, .int t_readMany, .ref a_t_prices, .int t_priceMany, .int t_pieceMany, .long t_coins])), (a_t_text, .inl (G.2.1, 60, .inl t_text))] A) [.ref a_t, .int x1, .int x2].toArray s 0 0 A) (F0 m 53 ls [.int j_5, .int t_at, .ref a_t]) := by
      intro H locs hP hD hS ls hl
      refine lv_iadd hx hb dX12_takes_53 ?_
      refine pf (C := RX12) (T := TX12) (N := 16) (ci := 8) (v := .int (t_at + j_5)) (ty := .int) hF hG hP hD hS inX12 tyX12 tyX12_ok nmX12 0 rfl rfl 8 (by decide) q1028 rfl rfl (by decide +kernel) rfl rfl (Nat.le_of_ble_eq_true rfl) dX12_takes_54 (fun H locs hP hD hS => ?_)
      replace hP : va_P G.1 vwCl [(a_t, .inr (8, [.int t_thrown, .ref a_t_s, .ref a_t_states, .int t_stateMany, .ref a_t_snapshot, .int t_hasSnapshot, .ref a_t_text, .int t_length, .int (t_at + j_5), .int j_1, .ref a_t_read, .int t_readMany, .ref a_t_prices, .int t_priceMany, .int t_pieceMany, .long t_coins])), (a_t_text, .inl (G.2.1, 60, .inl t_text))] H := hP
      replace hD : va_D A [(a_t, .inr (8, [.int t_thrown, .ref a_t_s, .ref a_t_states, .int t_stateMany, .ref a_t_snapshot, .int t_hasSnapshot, .ref a_t_text, .int t_length, .int (t_at + j_5), .int j_1, .ref a_t_read, .int t_readMany, .ref a_t_prices, .int t_priceMany, .int t_pieceMany, .long t_coins])), (a_t_text, .inl (G.2.1, 60, .inl t_text))] := hD
      refine lv_iload_n hx hb dX12_takes_57 rfl (lv_at hl 0 rfl) ?_
      have hf : (some ((r_4 - 48), (t_at + j_5), j_1) : Option (Int32 × Int32 × Int32)) = some (rr, w_t_at, w_t_isWell) := hf
      cases hf
      exact we_i hF hr hlk hP hD hS dX12_takes_58 rfl
    clear hf
    have hf := hq
    clear hq
    refine lv_if_eq (tgt := 52) hx hb dX12_takes_45 (by decide) (fun c0 => ?_) (fun c0 => ?_)
    · have hf := (if_pos c0).symm.trans hf
      refine lv_iconst (v := 0) hx hb dX12_takes_52 (by decide) ?_
      have hf : (some 0 : Option (Int32)) = some j_5 := hf
      cases hf
      exact J53 _ _ hP hD hS ls (lv_sub hl [0] rfl)
    · have hf := (if_neg c0).symm.trans hf
      refine lv_iconst (v := 1) hx hb dX12_takes_48 (by decide) ?_
      refine lv_goto (tgt := 53) hx hb dX12_takes_49 (by decide) ?_
      have hf : (some 1 : Option (Int32)) = some j_5 := hf
      cases hf
      exact J53 _ _ hP hD hS ls (lv_sub hl [0] rfl)
  clear hf
  have hf := hq
  clear hq
  refine lv_if_eq (tgt := 24) hx hb dX12_takes_5 (by decide) (fun c0 => ?_) (fun c0 => ?_)
  · have hf := (if_pos c0).symm.trans hf
    refine lv_iconst (v := 0) hx hb dX12_takes_24 (by decide) ?_
    have hf : (some 0 : Option (Int32)) = some j_1 := hf
    cases hf
    exact J25 _ _ hP hD hS ls (lv_sub hl [0] rfl)
  · have hf := (if_neg c0).symm.trans hf
    refine lv_aload_n hx hb dX12_takes_8 rfl (lv_at hl 0 rfl) ?_
    obtain ⟨r_2, hq, hf⟩ := bd1_some hf
    refine rdV (As := []) (rest := [.ref a_t]) hF hG hP hl.1 (c_X12_sign l G a_t t_thrown a_t_s a_t_states t_stateMany a_t_snapshot t_hasSnapshot t_length t_at t_isWell a_t_read t_readMany a_t_prices t_priceMany t_pieceMany t_coins a_t_text t_text r_2 hq) k_X12_sign q1178 [0, 1] rfl ⟨0, 8, _, _, rfl, rfl, rfl⟩ rfl rfl (Nat.le_of_ble_eq_true rfl) ⟨(Nat.le_of_ble_eq_true rfl), (Nat.le_of_ble_eq_true rfl)⟩ ⟨(Nat.zero_le _), (Nat.zero_le _)⟩ dX12_takes_9 ?_
    refine lv_iload_n hx hb dX12_takes_12 rfl (lv_at hl 1 rfl) ?_
    refine lv_iload_n hx hb dX12_takes_13 rfl (lv_at hl 2 rfl) ?_
    obtain ⟨r_3, hq, hf⟩ := bd1_some hf
    refine rdS (As := [.int r_2, .int x1, .int x2]) (rest := [.ref a_t]) hF hG hP hl.1 (c_X12_in l G r_2 x1 x2 r_3 hq) k_X12_in q1080 [] rfl rfl rfl (Nat.le_of_ble_eq_true rfl) ⟨(Nat.le_of_ble_eq_true rfl), (Nat.le_of_ble_eq_true rfl)⟩ ⟨(Nat.zero_le _), (Nat.zero_le _)⟩ dX12_takes_14 ?_
    refine lv_if_eq (tgt := 24) hx hb dX12_takes_17 (by decide) (fun c0 => ?_) (fun c0 => ?_)
    · have hf := (if_pos c0).symm.trans hf
      refine lv_iconst (v := 0) hx hb dX12_takes_24 (by decide) ?_
      have hf : (some 0 : Option (Int32)) = some j_1 := hf
      cases hf
      exact J25 _ _ hP hD hS ls (lv_sub hl [0] rfl)
    · have hf := (if_neg c0).symm.trans hf
      refine lv_iconst (v := 1) hx hb dX12_takes_20 (by decide) ?_
      refine lv_goto (tgt := 25) hx hb dX12_takes_21 (by decide) ?_
      have hf : (some 1 : Option (Int32)) = some j_1 := hf
      cases hf
      exact J25 _ _ hP hD hS ls (lv_sub hl [0] rfl)
def l_X12_number_11 (t_length : Int32) (t_text : Nat → Int32) (x2 : Int32) (t_isWell_3 : Int32) : Nat → Int32 → Int32 → Option (Int32 × Int32)
  | 0, _, _ => none
  | n + 1, i3_4, t_at_5 => (if t_isWell_3 = 0 then some (i3_4, t_at_5) else (if i3_4 ≤ 0 then some (i3_4, t_at_5) else bd1 (f_X12_sign t_length t_at_5 t_text) (fun (r_8 : Int32) => bd1 (f_X12_in r_8 48 57) (fun (r_9 : Int32) => (if r_9 = 0 then some (i3_4, t_at_5) else bd1 (f_X12_sign t_length t_at_5 t_text) (fun (r_10 : Int32) => (if x2 < (((10 * i3_4) + r_10) - 48) then some (i3_4, t_at_5) else bd1 (f_X12_sign t_length t_at_5 t_text) (fun (r_11 : Int32) => l_X12_number_11 t_length t_text x2 t_isWell_3 n (((10 * i3_4) + r_11) - 48) (t_at_5 + 1)))))))))
def f_X12_number (t_length : Int32) (t_at : Int32) (t_isWell : Int32) (t_text : Nat → Int32) (x1 : Int32) (x2 : Int32) : Option (Int32 × Int32 × Int32) := bd3 (f_X12_takes t_length t_at t_isWell t_text (48 + x1) 57) (fun (r_1 : Int32) (t_at_2 : Int32) (t_isWell_3 : Int32) => bd2 (l_X12_number_11 t_length t_text x2 t_isWell_3 1000 r_1 t_at_2) (fun (o3_6 : Int32) (t_at_7 : Int32) => some (o3_6, t_at_7, t_isWell_3)))
theorem k_X12_number : KV yX12_number cX12_number 4 (some .int) 2 := ⟨qc_yX12_number, q9, ⟨by decide +kernel, by decide +kernel, by decide +kernel⟩, qi_yX12_number, qs_yX12_number⟩
abbrev RM_X12_number : Room := { frames := 2, cells := 0, slots := 0, locals := 45 }
set_option maxHeartbeats 4000000 in
set_option maxRecDepth 100000 in
theorem c_X12_number (l : Launch) (G : GP) (a_t : Nat) (t_thrown : Int32) (a_t_s : Nat) (a_t_states : Nat) (t_stateMany : Int32) (a_t_snapshot : Nat) (t_hasSnapshot : Int32) (t_length : Int32) (t_at : Int32) (t_isWell : Int32) (a_t_read : Nat) (t_readMany : Int32) (a_t_prices : Nat) (t_priceMany : Int32) (t_pieceMany : Int32) (t_coins : Int64) (a_t_text : Nat) (t_text : Nat → Int32) (x1 : Int32) (x2 : Int32) (rr : Int32) (w_t_at : Int32) (w_t_isWell : Int32) (hf : f_X12_number t_length t_at t_isWell t_text x1 x2 = some (rr, w_t_at, w_t_isWell)) : WM l yX12_number cX12_number 4 (some .int) 2 45 G [.ref a_t, .int x1, .int x2] [(a_t, .inr (8, [.int t_thrown, .ref a_t_s, .ref a_t_states, .int t_stateMany, .ref a_t_snapshot, .int t_hasSnapshot, .ref a_t_text, .int t_length, .int t_at, .int t_isWell, .ref a_t_read, .int t_readMany, .ref a_t_prices, .int t_priceMany, .int t_pieceMany, .long t_coins])), (a_t_text, .inl (G.2.1, 60, .inl t_text))] (some (.int rr)) [(a_t, .inr (8, [.int t_thrown, .ref a_t_s, .ref a_t_states, .int t_stateMany, .ref a_t_snapshot, .int t_hasSnapshot, .ref a_t_text, .int t_length, .int w_t_at, .int w_t_isWell, .ref a_t_read, .int t_readMany, .ref a_t_prices, .int t_priceMany, .int t_pieceMany, .long t_coins])), (a_t_text, .inl (G.2.1, 60, .inl t_text))] := by
  refine WM.ofW (C := RX12) (by decide) rfl (Nat.le_of_ble_eq_true rfl) ?_
  intro p e s m below meth c A hF hr hlk hG hA hP hD ls hl
  have hl : lv_has ls 4 [(0, .ref a_t), (1, .int x1), (2, .int x2)] := hl
  have hx := hF.1
  have hb := hF.2.1
  have hml := hF.2.2.1
  have hown := hF.2.2.2.1
  have hts := hF.2.2.2.2
  have hS : va_S A s.heap s.heap [] := va_S.rf
  unfold f_X12_number at hf
  refine lv_aload_n hx hb dX12_number_0 rfl (lv_at hl 0 rfl) ?_
  refine lv_bipush (v := 48) hx hb dX12_number_1 (by decide) ?_
  refine lv_iload_n hx hb dX12_number_3 rfl (lv_at hl 1 rfl) ?_
  refine lv_iadd hx hb dX12_number_4 ?_
  refine lv_bipush (v := 57) hx hb dX12_number_5 (by decide) ?_
  obtain ⟨r_1, t_at_2, t_isWell_3, hq, hf⟩ := bd3_some hf
  refine wrV (As := [.int (48 + x1), .int 57]) (rest := []) (wn := [(a_t, .inr (8, [.int t_thrown, .ref a_t_s, .ref a_t_states, .int t_stateMany, .ref a_t_snapshot, .int t_hasSnapshot, .ref a_t_text, .int t_length, .int t_at_2, .int t_isWell_3, .ref a_t_read, .int t_readMany, .ref a_t_prices, .int t_priceMany, .int t_pieceMany, .long t_coins])), (a_t_text, .inl (G.2.1, 60, .inl t_text))]) hF hG hP hD hS hA hl.1 (c_X12_takes l G a_t t_thrown a_t_s a_t_states t_stateMany a_t_snapshot t_hasSnapshot t_length t_at t_isWell a_t_read t_readMany a_t_prices t_priceMany t_pieceMany t_coins a_t_text t_text (48 + x1) 57 r_1 t_at_2 t_isWell_3 hq) k_X12_takes q1190 [0, 1] [] [0, 1] rfl rfl rfl rfl ⟨rfl, rfl⟩ (by decide) ⟨0, 8, _, _, rfl, rfl, rfl⟩ rfl rfl (Nat.le_of_ble_eq_true rfl) ⟨(Nat.le_of_ble_eq_true rfl), (Nat.le_of_ble_eq_true rfl)⟩ ⟨(Nat.le_of_ble_eq_true rfl), (Nat.le_of_ble_eq_true rfl)⟩ dX12_number_7 (fun H locs hP hD hS => ?_)
  refine lv_istore_n (lv' := [(3, .int r_1), (0, .ref a_t), (1, .int x1), (2, .int x2)]) hx hb dX12_number_10 rfl hl (by decide) rfl (fun ls hl => ?_)
  obtain ⟨o3_6, t_at_7, hq, hf⟩ := bd2_some hf
  have K11 : ∀ (H : Heap) (locs : List Loc), va_P G.1 vwCl ([(a_t, .inr (8, [.int t_thrown, .ref a_t_s, .ref a_t_states, .int t_stateMany, .ref a_t_snapshot, .int t_hasSnapshot, .ref a_t_text, .int t_length, .int t_at_7, .int t_isWell_3, .ref a_t_read, .int t_readMany, .ref a_t_prices, .int t_priceMany, .int t_pieceMany, .long t_coins])), (a_t_text, .inl (G.2.1, 60, .inl t_text))] : va_W) H → va_D A ([(a_t, .inr (8, [.int t_thrown, .ref a_t_s, .ref a_t_states, .int t_stateMany, .ref a_t_snapshot, .int t_hasSnapshot, .ref a_t_text, .int t_length, .int t_at_7, .int t_isWell_3, .ref a_t_read, .int t_readMany, .ref a_t_prices, .int t_priceMany, .int t_pieceMany, .long t_coins])), (a_t_text, .inl (G.2.1, 60, .inl t_text))] : va_W) → va_S A s.heap H locs → ∀ ls : Array Slot, lv_has ls 4 [(3, .int o3_6)] → W p l e RM_X12_number s m [.ref a_t, .int x1, .int x2].toArray below meth c H locs 0 0 (MQ below (wrQ (some (.int rr)) G [(a_t, .inr (8, [.int t_thrown, .ref a_t_s, .ref a_t_states, .int t_stateMany, .ref a_t_snapshot, .int t_hasSnapshot, .ref a_t_text, .int t_length, .int w_t_at, .int w_t_isWell, .ref a_t_read, .int t_readMany, .ref a_t_prices, .int t_priceMany, .int t_pieceMany, .long t_coins])), (a_t_text, .inl (G.2.1, 60, .inl t_text))] A) [.ref a_t, .int x1, .int x2].toArray s 0 0 A) (F0 m 78 ls []) := by
    intro H locs hP hD hS ls hl
    refine lv_iload_n hx hb dX12_number_78 rfl (lv_at hl 0 rfl) ?_
    have hf : (some (o3_6, t_at_7, t_isWell_3) : Option (Int32 × Int32 × Int32)) = some (rr, w_t_at, w_t_isWell) := hf
    cases hf
    exact we_i hF hr hlk hP hD hS dX12_number_79 rfl
  clear hf
  have L11 : ∀ (n : Nat) (i3_4 : Int32) (t_at_5 : Int32), l_X12_number_11 t_length t_text x2 t_isWell_3 n i3_4 t_at_5 = some (o3_6, t_at_7) → ∀ (H : Heap) (locs : List Loc), va_P G.1 vwCl ([(a_t, .inr (8, [.int t_thrown, .ref a_t_s, .ref a_t_states, .int t_stateMany, .ref a_t_snapshot, .int t_hasSnapshot, .ref a_t_text, .int t_length, .int t_at_5, .int t_isWell_3, .ref a_t_read, .int t_readMany, .ref a_t_prices, .int t_priceMany, .int t_pieceMany, .long t_coins])), (a_t_text, .inl (G.2.1, 60, .inl t_text))] : va_W) H → va_D A ([(a_t, .inr (8, [.int t_thrown, .ref a_t_s, .ref a_t_states, .int t_stateMany, .ref a_t_snapshot, .int t_hasSnapshot, .ref a_t_text, .int t_length, .int t_at_5, .int t_isWell_3, .ref a_t_read, .int t_readMany, .ref a_t_prices, .int t_priceMany, .int t_pieceMany, .long t_coins])), (a_t_text, .inl (G.2.1, 60, .inl t_text))] : va_W) → va_S A s.heap H locs → ∀ ls : Array Slot, lv_has ls 4 [(0, .ref a_t), (2, .int x2), (3, .int i3_4)] → W p l e RM_X12_number s m [.ref a_t, .int x1, .int x2].toArray below meth c H locs 0 0 (MQ below (wrQ (some (.int rr)) G [(a_t, .inr (8, [.int t_thrown, .ref a_t_s, .ref a_t_states, .int t_stateMany, .ref a_t_snapshot, .int t_hasSnapshot, .ref a_t_text, .int t_length, .int w_t_at, .int w_t_isWell, .ref a_t_read, .int t_readMany, .ref a_t_prices, .int t_priceMany, .int t_pieceMany, .long t_coins])), (a_t_text, .inl (G.2.1, 60, .inl t_text))] A) [.ref a_t, .int x1, .int x2].toArray s 0 0 A) (F0 m 11 ls []) := by
    intro n
    induction n with
    | zero =>
      intro i3_4 t_at_5 hf
      exact nomatch (show none = some (o3_6, t_at_7) from hf)
    | succ n ih =>
      intro i3_4 t_at_5 hf H locs hP hD hS ls hl
      rw [l_X12_number_11] at hf
      refine lv_aload_n hx hb dX12_number_11 rfl (lv_at hl 0 rfl) ?_
      refine gf (C := RX12) (T := TX12) (N := 16) (ci := 8) (v := .int t_isWell_3) hF hG hP inX12 0 rfl rfl 9 (by decide) q1029 rfl rfl dX12_number_12 ?_
      refine lv_if_eq (tgt := 78) hx hb dX12_number_15 (by decide) (fun c0 => ?_) (fun c0 => ?_)
      · have hf := (if_pos c0).symm.trans hf
        have hf : (some (i3_4, t_at_5) : Option (Int32 × Int32)) = some (o3_6, t_at_7) := hf
        cases hf
        exact K11 _ _ hP hD hS ls (lv_sub hl [2] rfl)
      · have hf := (if_neg c0).symm.trans hf
        refine lv_iload_n hx hb dX12_number_18 rfl (lv_at hl 2 rfl) ?_
        refine lv_if_le (tgt := 78) hx hb dX12_number_19 (by decide) (fun c0 => ?_) (fun c0 => ?_)
        · have hf := (if_pos c0).symm.trans hf
          have hf : (some (i3_4, t_at_5) : Option (Int32 × Int32)) = some (o3_6, t_at_7) := hf
          cases hf
          exact K11 _ _ hP hD hS ls (lv_sub hl [2] rfl)
        · have hf := (if_neg c0).symm.trans hf
          refine lv_aload_n hx hb dX12_number_22 rfl (lv_at hl 0 rfl) ?_
          obtain ⟨r_8, hq, hf⟩ := bd1_some hf
          refine rdV (As := []) (rest := []) hF hG hP hl.1 (c_X12_sign l G a_t t_thrown a_t_s a_t_states t_stateMany a_t_snapshot t_hasSnapshot t_length t_at_5 t_isWell_3 a_t_read t_readMany a_t_prices t_priceMany t_pieceMany t_coins a_t_text t_text r_8 hq) k_X12_sign q1178 [0, 1] rfl ⟨0, 8, _, _, rfl, rfl, rfl⟩ rfl rfl (Nat.le_of_ble_eq_true rfl) ⟨(Nat.le_of_ble_eq_true rfl), (Nat.le_of_ble_eq_true rfl)⟩ ⟨(Nat.zero_le _), (Nat.zero_le _)⟩ dX12_number_23 ?_
          refine lv_bipush (v := 48) hx hb dX12_number_26 (by decide) ?_
          refine lv_bipush (v := 57) hx hb dX12_number_28 (by decide) ?_
          obtain ⟨r_9, hq, hf⟩ := bd1_some hf
          refine rdS (As := [.int r_8, .int 48, .int 57]) (rest := []) hF hG hP hl.1 (c_X12_in l G r_8 48 57 r_9 hq) k_X12_in q1080 [] rfl rfl rfl (Nat.le_of_ble_eq_true rfl) ⟨(Nat.le_of_ble_eq_true rfl), (Nat.le_of_ble_eq_true rfl)⟩ ⟨(Nat.zero_le _), (Nat.zero_le _)⟩ dX12_number_30 ?_
          refine lv_if_eq (tgt := 78) hx hb dX12_number_33 (by decide) (fun c0 => ?_) (fun c0 => ?_)
          · have hf := (if_pos c0).symm.trans hf
            have hf : (some (i3_4, t_at_5) : Option (Int32 × Int32)) = some (o3_6, t_at_7) := hf
            cases hf
            exact K11 _ _ hP hD hS ls (lv_sub hl [2] rfl)
          · have hf := (if_neg c0).symm.trans hf
            refine lv_bipush (v := 10) hx hb dX12_number_36 (by decide) ?_
            refine lv_iload_n hx hb dX12_number_38 rfl (lv_at hl 2 rfl) ?_
            refine lv_imul hx hb dX12_number_39 ?_
            refine lv_aload_n hx hb dX12_number_40 rfl (lv_at hl 0 rfl) ?_
            obtain ⟨r_10, hq, hf⟩ := bd1_some hf
            refine rdV (As := []) (rest := [.int (10 * i3_4)]) hF hG hP hl.1 (c_X12_sign l G a_t t_thrown a_t_s a_t_states t_stateMany a_t_snapshot t_hasSnapshot t_length t_at_5 t_isWell_3 a_t_read t_readMany a_t_prices t_priceMany t_pieceMany t_coins a_t_text t_text r_10 hq) k_X12_sign q1178 [0, 1] rfl ⟨0, 8, _, _, rfl, rfl, rfl⟩ rfl rfl (Nat.le_of_ble_eq_true rfl) ⟨(Nat.le_of_ble_eq_true rfl), (Nat.le_of_ble_eq_true rfl)⟩ ⟨(Nat.zero_le _), (Nat.zero_le _)⟩ dX12_number_41 ?_
            refine lv_iadd hx hb dX12_number_44 ?_
            refine lv_bipush (v := 48) hx hb dX12_number_45 (by decide) ?_
            refine lv_isub hx hb dX12_number_47 ?_
            refine lv_iload_n hx hb dX12_number_48 rfl (lv_at hl 1 rfl) ?_
            refine lv_icmp_gt (tgt := 78) hx hb dX12_number_49 (by decide) (fun c0 => ?_) (fun c0 => ?_)
            · have hf := (if_pos c0).symm.trans hf
              have hf : (some (i3_4, t_at_5) : Option (Int32 × Int32)) = some (o3_6, t_at_7) := hf
              cases hf
              exact K11 _ _ hP hD hS ls (lv_sub hl [2] rfl)
            · have hf := (if_neg c0).symm.trans hf
              refine lv_bipush (v := 10) hx hb dX12_number_52 (by decide) ?_
              refine lv_iload_n hx hb dX12_number_54 rfl (lv_at hl 2 rfl) ?_
              refine lv_imul hx hb dX12_number_55 ?_
              refine lv_aload_n hx hb dX12_number_56 rfl (lv_at hl 0 rfl) ?_
              obtain ⟨r_11, hq, hf⟩ := bd1_some hf
              refine rdV (As := []) (rest := [.int (10 * i3_4)]) hF hG hP hl.1 (c_X12_sign l G a_t t_thrown a_t_s a_t_states t_stateMany a_t_snapshot t_hasSnapshot t_length t_at_5 t_isWell_3 a_t_read t_readMany a_t_prices t_priceMany t_pieceMany t_coins a_t_text t_text r_11 hq) k_X12_sign q1178 [0, 1] rfl ⟨0, 8, _, _, rfl, rfl, rfl⟩ rfl rfl (Nat.le_of_ble_eq_true rfl) ⟨(Nat.le_of_ble_eq_true rfl), (Nat.le_of_ble_eq_true rfl)⟩ ⟨(Nat.zero_le _), (Nat.zero_le _)⟩ dX12_number_57 ?_
              refine lv_iadd hx hb dX12_number_60 ?_
              refine lv_bipush (v := 48) hx hb dX12_number_61 (by decide) ?_
              refine lv_isub hx hb dX12_number_63 ?_
              refine lv_istore_n (lv' := [(3, .int (((10 * i3_4) + r_11) - 48)), (0, .ref a_t), (2, .int x2)]) hx hb dX12_number_64 rfl hl (by decide) rfl (fun ls hl => ?_)
              refine lv_aload_n hx hb dX12_number_65 rfl (lv_at hl 1 rfl) ?_
              refine lv_dup hx hb dX12_number_66 rfl ?_
              refine gf (C := RX12) (T := TX12) (N := 16) (ci := 8) (v := .int t_at_5) hF hG hP inX12 0 rfl rfl 8 (by decide) q1028 rfl rfl dX12_number_67 ?_
              refine lv_iconst (v := 1) hx hb dX12_number_70 (by decide) ?_
              refine lv_iadd hx hb dX12_number_71 ?_
              refine pf (C := RX12) (T := TX12) (N := 16) (ci := 8) (v := .int (t_at_5 + 1)) (ty := .int) hF hG hP hD hS inX12 tyX12 tyX12_ok nmX12 0 rfl rfl 8 (by decide) q1028 rfl rfl (by decide +kernel) rfl rfl (Nat.le_of_ble_eq_true rfl) dX12_number_72 (fun H locs hP hD hS => ?_)
              replace hP : va_P G.1 vwCl [(a_t, .inr (8, [.int t_thrown, .ref a_t_s, .ref a_t_states, .int t_stateMany, .ref a_t_snapshot, .int t_hasSnapshot, .ref a_t_text, .int t_length, .int (t_at_5 + 1), .int t_isWell_3, .ref a_t_read, .int t_readMany, .ref a_t_prices, .int t_priceMany, .int t_pieceMany, .long t_coins])), (a_t_text, .inl (G.2.1, 60, .inl t_text))] H := hP
              replace hD : va_D A [(a_t, .inr (8, [.int t_thrown, .ref a_t_s, .ref a_t_states, .int t_stateMany, .ref a_t_snapshot, .int t_hasSnapshot, .ref a_t_text, .int t_length, .int (t_at_5 + 1), .int t_isWell_3, .ref a_t_read, .int t_readMany, .ref a_t_prices, .int t_priceMany, .int t_pieceMany, .long t_coins])), (a_t_text, .inl (G.2.1, 60, .inl t_text))] := hD
              refine lv_goto (tgt := 11) hx hb dX12_number_75 (by decide) ?_
              exact ih (((10 * i3_4) + r_11) - 48) (t_at_5 + 1) hf _ _ hP hD hS ls (lv_sub hl [1, 2, 0] rfl)
  exact L11 1000 r_1 t_at_2 hq _ _ hP hD hS ls (lv_sub hl [1, 3, 0] rfl)
def l_X12_readsPrices_2 (t_length : Int32) (t_text : Nat → Int32) (x1 : Int32) : Nat → Int32 → Int32 → Int32 → Int32 → (Nat → Int32) → (Nat → Int32) → Option (Int32 × Int32 × Int32 × (Nat → Int32) × (Nat → Int32))
  | 0, _, _, _, _, _, _ => none
  | n + 1, i2_1, t_at_2, t_isWell_3, t_priceMany_4, t_read_5, t_prices_6 => (if i2_1 = 0 then some (t_at_2, t_isWell_3, t_priceMany_4, t_read_5, t_prices_6) else bd3 (f_X12_number t_length t_at_2 t_isWell_3 t_text 1 9999) (fun (r_12 : Int32) (t_at_13 : Int32) (t_isWell_14 : Int32) => (if t_isWell_14 = 0 then (if t_isWell_14 = 0 then (if (0 : Int32) = 0 then l_X12_readsPrices_2 t_length t_text x1 n 0 (t_at_13 + 0) t_isWell_14 t_priceMany_4 t_read_5 t_prices_6 else l_X12_readsPrices_2 t_length t_text x1 n 0 (t_at_13 + 1) t_isWell_14 t_priceMany_4 t_read_5 t_prices_6) else bd1 (f_X12_sign t_length t_at_13 t_text) (fun (r_15 : Int32) => (if r_15 = 44 then (if (1 : Int32) = 0 then l_X12_readsPrices_2 t_length t_text x1 n 1 (t_at_13 + 0) t_isWell_14 t_priceMany_4 t_read_5 t_prices_6 else l_X12_readsPrices_2 t_length t_text x1 n 1 (t_at_13 + 1) t_isWell_14 t_priceMany_4 t_read_5 t_prices_6) else (if (0 : Int32) = 0 then l_X12_readsPrices_2 t_length t_text x1 n 0 (t_at_13 + 0) t_isWell_14 t_priceMany_4 t_read_5 t_prices_6 else l_X12_readsPrices_2 t_length t_text x1 n 0 (t_at_13 + 1) t_isWell_14 t_priceMany_4 t_read_5 t_prices_6)))) else gd (¬ (t_priceMany_4 < 0 ∨ 60 ≤ Int32.toNatClampNeg t_priceMany_4)) (gd (¬ ((x1 + 4) < 0 ∨ 160 ≤ Int32.toNatClampNeg (x1 + 4))) (gd (¬ ((x1 + 4) < 0 ∨ 160 ≤ Int32.toNatClampNeg (x1 + 4))) ((if t_isWell_14 = 0 then (if (0 : Int32) = 0 then l_X12_readsPrices_2 t_length t_text x1 n 0 (t_at_13 + 0) t_isWell_14 (t_priceMany_4 + 1) (upd t_read_5 (Int32.toNatClampNeg (x1 + 4)) ((t_read_5 (Int32.toNatClampNeg (x1 + 4))) + 1)) (upd t_prices_6 (Int32.toNatClampNeg t_priceMany_4) r_12) else l_X12_readsPrices_2 t_length t_text x1 n 0 (t_at_13 + 1) t_isWell_14 (t_priceMany_4 + 1) (upd t_read_5 (Int32.toNatClampNeg (x1 + 4)) ((t_read_5 (Int32.toNatClampNeg (x1 + 4))) + 1)) (upd t_prices_6 (Int32.toNatClampNeg t_priceMany_4) r_12)) else bd1 (f_X12_sign t_length t_at_13 t_text) (fun (r_16 : Int32) => (if r_16 = 44 then (if (1 : Int32) = 0 then l_X12_readsPrices_2 t_length t_text x1 n 1 (t_at_13 + 0) t_isWell_14 (t_priceMany_4 + 1) (upd t_read_5 (Int32.toNatClampNeg (x1 + 4)) ((t_read_5 (Int32.toNatClampNeg (x1 + 4))) + 1)) (upd t_prices_6 (Int32.toNatClampNeg t_priceMany_4) r_12) else l_X12_readsPrices_2 t_length t_text x1 n 1 (t_at_13 + 1) t_isWell_14 (t_priceMany_4 + 1) (upd t_read_5 (Int32.toNatClampNeg (x1 + 4)) ((t_read_5 (Int32.toNatClampNeg (x1 + 4))) + 1)) (upd t_prices_6 (Int32.toNatClampNeg t_priceMany_4) r_12)) else (if (0 : Int32) = 0 then l_X12_readsPrices_2 t_length t_text x1 n 0 (t_at_13 + 0) t_isWell_14 (t_priceMany_4 + 1) (upd t_read_5 (Int32.toNatClampNeg (x1 + 4)) ((t_read_5 (Int32.toNatClampNeg (x1 + 4))) + 1)) (upd t_prices_6 (Int32.toNatClampNeg t_priceMany_4) r_12) else l_X12_readsPrices_2 t_length t_text x1 n 0 (t_at_13 + 1) t_isWell_14 (t_priceMany_4 + 1) (upd t_read_5 (Int32.toNatClampNeg (x1 + 4)) ((t_read_5 (Int32.toNatClampNeg (x1 + 4))) + 1)) (upd t_prices_6 (Int32.toNatClampNeg t_priceMany_4) r_12)))))))))))
def f_X12_readsPrices (t_length : Int32) (t_at : Int32) (t_isWell : Int32) (t_priceMany : Int32) (t_text : Nat → Int32) (t_read : Nat → Int32) (t_prices : Nat → Int32) (x1 : Int32) : Option (Int32 × Int32 × Int32 × (Nat → Int32) × (Nat → Int32)) := bd5 (l_X12_readsPrices_2 t_length t_text x1 1000 1 t_at t_isWell t_priceMany t_read t_prices) (fun (t_at_7 : Int32) (t_isWell_8 : Int32) (t_priceMany_9 : Int32) (t_read_10 : Nat → Int32) (t_prices_11 : Nat → Int32) => some (t_at_7, t_isWell_8, t_priceMany_9, t_read_10, t_prices_11))
theorem k_X12_readsPrices : KV yX12_readsPrices cX12_readsPrices 4 none 1 := ⟨qc_yX12_readsPrices, q9, ⟨by decide +kernel, by decide +kernel, by decide +kernel⟩, qi_yX12_readsPrices, qs_yX12_readsPrices⟩
abbrev RM_X12_readsPrices : Room := { frames := 3, cells := 0, slots := 0, locals := 68 }
set_option maxHeartbeats 4000000 in
set_option maxRecDepth 100000 in
theorem c_X12_readsPrices (l : Launch) (G : GP) (a_t : Nat) (t_thrown : Int32) (a_t_s : Nat) (a_t_states : Nat) (t_stateMany : Int32) (a_t_snapshot : Nat) (t_hasSnapshot : Int32) (t_length : Int32) (t_at : Int32) (t_isWell : Int32) (t_readMany : Int32) (t_priceMany : Int32) (t_pieceMany : Int32) (t_coins : Int64) (a_t_text : Nat) (t_text : Nat → Int32) (a_t_read : Nat) (t_read : Nat → Int32) (a_t_prices : Nat) (t_prices : Nat → Int32) (x1 : Int32) (w_t_at : Int32) (w_t_isWell : Int32) (w_t_priceMany : Int32) (w_t_read : Nat → Int32) (w_t_prices : Nat → Int32) (hf : f_X12_readsPrices t_length t_at t_isWell t_priceMany t_text t_read t_prices x1 = some (w_t_at, w_t_isWell, w_t_priceMany, w_t_read, w_t_prices)) : WM l yX12_readsPrices cX12_readsPrices 4 none 3 68 G [.ref a_t, .int x1] [(a_t, .inr (8, [.int t_thrown, .ref a_t_s, .ref a_t_states, .int t_stateMany, .ref a_t_snapshot, .int t_hasSnapshot, .ref a_t_text, .int t_length, .int t_at, .int t_isWell, .ref a_t_read, .int t_readMany, .ref a_t_prices, .int t_priceMany, .int t_pieceMany, .long t_coins])), (a_t_text, .inl (G.2.1, 60, .inl t_text)), (a_t_read, .inl (G.2.1, 160, .inl t_read)), (a_t_prices, .inl (G.2.1, 60, .inl t_prices))] none [(a_t, .inr (8, [.int t_thrown, .ref a_t_s, .ref a_t_states, .int t_stateMany, .ref a_t_snapshot, .int t_hasSnapshot, .ref a_t_text, .int t_length, .int w_t_at, .int w_t_isWell, .ref a_t_read, .int t_readMany, .ref a_t_prices, .int w_t_priceMany, .int t_pieceMany, .long t_coins])), (a_t_text, .inl (G.2.1, 60, .inl t_text)), (a_t_read, .inl (G.2.1, 160, .inl w_t_read)), (a_t_prices, .inl (G.2.1, 60, .inl w_t_prices))] := by
  refine WM.ofW (C := RX12) (by decide) rfl (Nat.le_of_ble_eq_true rfl) ?_
  intro p e s m below meth c A hF hr hlk hG hA hP hD ls hl
  have hl : lv_has ls 4 [(0, .ref a_t), (1, .int x1)] := hl
  have hx := hF.1
  have hb := hF.2.1
  have hml := hF.2.2.1
  have hown := hF.2.2.2.1
  have hts := hF.2.2.2.2
  have hS : va_S A s.heap s.heap [] := va_S.rf
  unfold f_X12_readsPrices at hf
  refine lv_iconst (v := 1) hx hb dX12_readsPrices_0 (by decide) ?_
  refine lv_istore_n (lv' := [(2, .int 1), (0, .ref a_t), (1, .int x1)]) hx hb dX12_readsPrices_1 rfl hl (by decide) rfl (fun ls hl => ?_)
  obtain ⟨t_at_7, t_isWell_8, t_priceMany_9, t_read_10, t_prices_11, hq, hf⟩ := bd5_some hf
  have K2 : ∀ (H : Heap) (locs : List Loc), va_P G.1 vwCl ([(a_t, .inr (8, [.int t_thrown, .ref a_t_s, .ref a_t_states, .int t_stateMany, .ref a_t_snapshot, .int t_hasSnapshot, .ref a_t_text, .int t_length, .int t_at_7, .int t_isWell_8, .ref a_t_read, .int t_readMany, .ref a_t_prices, .int t_priceMany_9, .int t_pieceMany, .long t_coins])), (a_t_text, .inl (G.2.1, 60, .inl t_text)), (a_t_read, .inl (G.2.1, 160, .inl t_read_10)), (a_t_prices, .inl (G.2.1, 60, .inl t_prices_11))] : va_W) H → va_D A ([(a_t, .inr (8, [.int t_thrown, .ref a_t_s, .ref a_t_states, .int t_stateMany, .ref a_t_snapshot, .int t_hasSnapshot, .ref a_t_text, .int t_length, .int t_at_7, .int t_isWell_8, .ref a_t_read, .int t_readMany, .ref a_t_prices, .int t_priceMany_9, .int t_pieceMany, .long t_coins])), (a_t_text, .inl (G.2.1, 60, .inl t_text)), (a_t_read, .inl (G.2.1, 160, .inl t_read_10)), (a_t_prices, .inl (G.2.1, 60, .inl t_prices_11))] : va_W) → va_S A s.heap H locs → ∀ ls : Array Slot, lv_has ls 4 [] → W p l e RM_X12_readsPrices s m [.ref a_t, .int x1].toArray below meth c H locs 0 0 (MQ below (wrQ none G [(a_t, .inr (8, [.int t_thrown, .ref a_t_s, .ref a_t_states, .int t_stateMany, .ref a_t_snapshot, .int t_hasSnapshot, .ref a_t_text, .int t_length, .int w_t_at, .int w_t_isWell, .ref a_t_read, .int t_readMany, .ref a_t_prices, .int w_t_priceMany, .int t_pieceMany, .long t_coins])), (a_t_text, .inl (G.2.1, 60, .inl t_text)), (a_t_read, .inl (G.2.1, 160, .inl w_t_read)), (a_t_prices, .inl (G.2.1, 60, .inl w_t_prices))] A) [.ref a_t, .int x1].toArray s 0 0 A) (F0 m 97 ls []) := by
    intro H locs hP hD hS ls hl
    have hf : (some (t_at_7, t_isWell_8, t_priceMany_9, t_read_10, t_prices_11) : Option (Int32 × Int32 × Int32 × (Nat → Int32) × (Nat → Int32))) = some (w_t_at, w_t_isWell, w_t_priceMany, w_t_read, w_t_prices) := hf
    cases hf
    exact we_v hF hr hlk hP hD hS dX12_readsPrices_97 rfl
  clear hf
  have L2 : ∀ (n : Nat) (i2_1 : Int32) (t_at_2 : Int32) (t_isWell_3 : Int32) (t_priceMany_4 : Int32) (t_read_5 : Nat → Int32) (t_prices_6 : Nat → Int32), l_X12_readsPrices_2 t_length t_text x1 n i2_1 t_at_2 t_isWell_3 t_priceMany_4 t_read_5 t_prices_6 = some (t_at_7, t_isWell_8, t_priceMany_9, t_read_10, t_prices_11) → ∀ (H : Heap) (locs : List Loc), va_P G.1 vwCl ([(a_t, .inr (8, [.int t_thrown, .ref a_t_s, .ref a_t_states, .int t_stateMany, .ref a_t_snapshot, .int t_hasSnapshot, .ref a_t_text, .int t_length, .int t_at_2, .int t_isWell_3, .ref a_t_read, .int t_readMany, .ref a_t_prices, .int t_priceMany_4, .int t_pieceMany, .long t_coins])), (a_t_text, .inl (G.2.1, 60, .inl t_text)), (a_t_read, .inl (G.2.1, 160, .inl t_read_5)), (a_t_prices, .inl (G.2.1, 60, .inl t_prices_6))] : va_W) H → va_D A ([(a_t, .inr (8, [.int t_thrown, .ref a_t_s, .ref a_t_states, .int t_stateMany, .ref a_t_snapshot, .int t_hasSnapshot, .ref a_t_text, .int t_length, .int t_at_2, .int t_isWell_3, .ref a_t_read, .int t_readMany, .ref a_t_prices, .int t_priceMany_4, .int t_pieceMany, .long t_coins])), (a_t_text, .inl (G.2.1, 60, .inl t_text)), (a_t_read, .inl (G.2.1, 160, .inl t_read_5)), (a_t_prices, .inl (G.2.1, 60, .inl t_prices_6))] : va_W) → va_S A s.heap H locs → ∀ ls : Array Slot, lv_has ls 4 [(0, .ref a_t), (1, .int x1), (2, .int i2_1)] → W p l e RM_X12_readsPrices s m [.ref a_t, .int x1].toArray below meth c H locs 0 0 (MQ below (wrQ none G [(a_t, .inr (8, [.int t_thrown, .ref a_t_s, .ref a_t_states, .int t_stateMany, .ref a_t_snapshot, .int t_hasSnapshot, .ref a_t_text, .int t_length, .int w_t_at, .int w_t_isWell, .ref a_t_read, .int t_readMany, .ref a_t_prices, .int w_t_priceMany, .int t_pieceMany, .long t_coins])), (a_t_text, .inl (G.2.1, 60, .inl t_text)), (a_t_read, .inl (G.2.1, 160, .inl w_t_read)), (a_t_prices, .inl (G.2.1, 60, .inl w_t_prices))] A) [.ref a_t, .int x1].toArray s 0 0 A) (F0 m 2 ls []) := by
    intro n
    induction n with
    | zero =>
      intro i2_1 t_at_2 t_isWell_3 t_priceMany_4 t_read_5 t_prices_6 hf
      exact nomatch (show none = some (t_at_7, t_isWell_8, t_priceMany_9, t_read_10, t_prices_11) from hf)
    | succ n ih =>
      intro i2_1 t_at_2 t_isWell_3 t_priceMany_4 t_read_5 t_prices_6 hf H locs hP hD hS ls hl
      rw [l_X12_readsPrices_2] at hf
      refine lv_iload_n hx hb dX12_readsPrices_2 rfl (lv_at hl 2 rfl) ?_
      refine lv_if_eq (tgt := 97) hx hb dX12_readsPrices_3 (by decide) (fun c0 => ?_) (fun c0 => ?_)
      · have hf := (if_pos c0).symm.trans hf
        have hf : (some (t_at_2, t_isWell_3, t_priceMany_4, t_read_5, t_prices_6) : Option (Int32 × Int32 × Int32 × (Nat → Int32) × (Nat → Int32))) = some (t_at_7, t_isWell_8, t_priceMany_9, t_read_10, t_prices_11) := hf
        cases hf
        exact K2 _ _ hP hD hS ls (lv_sub hl [] rfl)
      · have hf := (if_neg c0).symm.trans hf
        refine lv_aload_n hx hb dX12_readsPrices_6 rfl (lv_at hl 0 rfl) ?_
        refine lv_iconst (v := 1) hx hb dX12_readsPrices_7 (by decide) ?_
        refine lv_sipush (v := 9999) hx hb dX12_readsPrices_8 (by decide) ?_
        obtain ⟨r_12, t_at_13, t_isWell_14, hq, hf⟩ := bd3_some hf
        refine wrV (As := [.int 1, .int 9999]) (rest := []) (wn := [(a_t, .inr (8, [.int t_thrown, .ref a_t_s, .ref a_t_states, .int t_stateMany, .ref a_t_snapshot, .int t_hasSnapshot, .ref a_t_text, .int t_length, .int t_at_13, .int t_isWell_14, .ref a_t_read, .int t_readMany, .ref a_t_prices, .int t_priceMany_4, .int t_pieceMany, .long t_coins])), (a_t_text, .inl (G.2.1, 60, .inl t_text)), (a_t_read, .inl (G.2.1, 160, .inl t_read_5)), (a_t_prices, .inl (G.2.1, 60, .inl t_prices_6))]) hF hG hP hD hS hA hl.1 (c_X12_number l G a_t t_thrown a_t_s a_t_states t_stateMany a_t_snapshot t_hasSnapshot t_length t_at_2 t_isWell_3 a_t_read t_readMany a_t_prices t_priceMany_4 t_pieceMany t_coins a_t_text t_text 1 9999 r_12 t_at_13 t_isWell_14 hq) k_X12_number q1186 [0, 1] [2, 3] [2, 3, 0, 1] rfl rfl rfl rfl ⟨rfl, rfl⟩ (by decide) ⟨0, 8, _, _, rfl, rfl, rfl⟩ rfl rfl (Nat.le_of_ble_eq_true rfl) ⟨(Nat.le_of_ble_eq_true rfl), (Nat.le_of_ble_eq_true rfl)⟩ ⟨(Nat.le_of_ble_eq_true rfl), (Nat.le_of_ble_eq_true rfl)⟩ dX12_readsPrices_11 (fun H locs hP hD hS => ?_)
        refine lv_istore_n (lv' := [(3, .int r_12), (0, .ref a_t), (1, .int x1), (2, .int i2_1)]) hx hb dX12_readsPrices_14 rfl hl (by decide) rfl (fun ls hl => ?_)
        refine lv_aload_n hx hb dX12_readsPrices_15 rfl (lv_at hl 1 rfl) ?_
        refine gf (C := RX12) (T := TX12) (N := 16) (ci := 8) (v := .int t_isWell_14) hF hG hP inX12 0 rfl rfl 9 (by decide) q1029 rfl rfl dX12_readsPrices_16 ?_
        refine lv_if_eq (tgt := 54) hx hb dX12_readsPrices_19 (by decide) (fun c0 => ?_) (fun c0 => ?_)
        · have hf := (if_pos c0).symm.trans hf
          refine lv_aload_n hx hb dX12_readsPrices_54 rfl (lv_at hl 1 rfl) ?_
          refine gf (C := RX12) (T := TX12) (N := 16) (ci := 8) (v := .int t_isWell_14) hF hG hP inX12 0 rfl rfl 9 (by decide) q1029 rfl rfl dX12_readsPrices_55 ?_
          refine lv_if_eq (tgt := 74) hx hb dX12_readsPrices_58 (by decide) (fun c0 => ?_) (fun c0 => ?_)
          · have hf := (if_pos c0).symm.trans hf
            refine lv_iconst (v := 0) hx hb dX12_readsPrices_74 (by decide) ?_
            refine lv_istore_n (lv' := [(2, .int 0), (3, .int r_12), (0, .ref a_t), (1, .int x1)]) hx hb dX12_readsPrices_75 rfl hl (by decide) rfl (fun ls hl => ?_)
            refine lv_aload_n hx hb dX12_readsPrices_76 rfl (lv_at hl 2 rfl) ?_
            refine lv_dup hx hb dX12_readsPrices_77 rfl ?_
            refine gf (C := RX12) (T := TX12) (N := 16) (ci := 8) (v := .int t_at_13) hF hG hP inX12 0 rfl rfl 8 (by decide) q1028 rfl rfl dX12_readsPrices_78 ?_
            refine lv_iload_n hx hb dX12_readsPrices_81 rfl (lv_at hl 0 rfl) ?_
            refine lv_if_eq (tgt := 89) hx hb dX12_readsPrices_82 (by decide) (fun c0 => ?_) (fun c0 => ?_)
            · have hf := (if_pos c0).symm.trans hf
              refine lv_iconst (v := 0) hx hb dX12_readsPrices_89 (by decide) ?_
              refine lv_iadd hx hb dX12_readsPrices_90 ?_
              refine pf (C := RX12) (T := TX12) (N := 16) (ci := 8) (v := .int (t_at_13 + 0)) (ty := .int) hF hG hP hD hS inX12 tyX12 tyX12_ok nmX12 0 rfl rfl 8 (by decide) q1028 rfl rfl (by decide +kernel) rfl rfl (Nat.le_of_ble_eq_true rfl) dX12_readsPrices_91 (fun H locs hP hD hS => ?_)
              replace hP : va_P G.1 vwCl [(a_t, .inr (8, [.int t_thrown, .ref a_t_s, .ref a_t_states, .int t_stateMany, .ref a_t_snapshot, .int t_hasSnapshot, .ref a_t_text, .int t_length, .int (t_at_13 + 0), .int t_isWell_14, .ref a_t_read, .int t_readMany, .ref a_t_prices, .int t_priceMany_4, .int t_pieceMany, .long t_coins])), (a_t_text, .inl (G.2.1, 60, .inl t_text)), (a_t_read, .inl (G.2.1, 160, .inl t_read_5)), (a_t_prices, .inl (G.2.1, 60, .inl t_prices_6))] H := hP
              replace hD : va_D A [(a_t, .inr (8, [.int t_thrown, .ref a_t_s, .ref a_t_states, .int t_stateMany, .ref a_t_snapshot, .int t_hasSnapshot, .ref a_t_text, .int t_length, .int (t_at_13 + 0), .int t_isWell_14, .ref a_t_read, .int t_readMany, .ref a_t_prices, .int t_priceMany_4, .int t_pieceMany, .long t_coins])), (a_t_text, .inl (G.2.1, 60, .inl t_text)), (a_t_read, .inl (G.2.1, 160, .inl t_read_5)), (a_t_prices, .inl (G.2.1, 60, .inl t_prices_6))] := hD
              refine lv_goto (tgt := 2) hx hb dX12_readsPrices_94 (by decide) ?_
              exact ih 0 (t_at_13 + 0) t_isWell_14 t_priceMany_4 t_read_5 t_prices_6 hf _ _ hP hD hS ls (lv_sub hl [2, 3, 0] rfl)
            · have hf := (if_neg c0).symm.trans hf
              refine lv_iconst (v := 1) hx hb dX12_readsPrices_85 (by decide) ?_
              refine lv_goto (tgt := 90) hx hb dX12_readsPrices_86 (by decide) ?_
              refine lv_iadd hx hb dX12_readsPrices_90 ?_
              refine pf (C := RX12) (T := TX12) (N := 16) (ci := 8) (v := .int (t_at_13 + 1)) (ty := .int) hF hG hP hD hS inX12 tyX12 tyX12_ok nmX12 0 rfl rfl 8 (by decide) q1028 rfl rfl (by decide +kernel) rfl rfl (Nat.le_of_ble_eq_true rfl) dX12_readsPrices_91 (fun H locs hP hD hS => ?_)
              replace hP : va_P G.1 vwCl [(a_t, .inr (8, [.int t_thrown, .ref a_t_s, .ref a_t_states, .int t_stateMany, .ref a_t_snapshot, .int t_hasSnapshot, .ref a_t_text, .int t_length, .int (t_at_13 + 1), .int t_isWell_14, .ref a_t_read, .int t_readMany, .ref a_t_prices, .int t_priceMany_4, .int t_pieceMany, .long t_coins])), (a_t_text, .inl (G.2.1, 60, .inl t_text)), (a_t_read, .inl (G.2.1, 160, .inl t_read_5)), (a_t_prices, .inl (G.2.1, 60, .inl t_prices_6))] H := hP
              replace hD : va_D A [(a_t, .inr (8, [.int t_thrown, .ref a_t_s, .ref a_t_states, .int t_stateMany, .ref a_t_snapshot, .int t_hasSnapshot, .ref a_t_text, .int t_length, .int (t_at_13 + 1), .int t_isWell_14, .ref a_t_read, .int t_readMany, .ref a_t_prices, .int t_priceMany_4, .int t_pieceMany, .long t_coins])), (a_t_text, .inl (G.2.1, 60, .inl t_text)), (a_t_read, .inl (G.2.1, 160, .inl t_read_5)), (a_t_prices, .inl (G.2.1, 60, .inl t_prices_6))] := hD
              refine lv_goto (tgt := 2) hx hb dX12_readsPrices_94 (by decide) ?_
              exact ih 0 (t_at_13 + 1) t_isWell_14 t_priceMany_4 t_read_5 t_prices_6 hf _ _ hP hD hS ls (lv_sub hl [2, 3, 0] rfl)
          · have hf := (if_neg c0).symm.trans hf
            refine lv_aload_n hx hb dX12_readsPrices_61 rfl (lv_at hl 1 rfl) ?_
            obtain ⟨r_15, hq, hf⟩ := bd1_some hf
            refine rdV (As := []) (rest := []) hF hG hP hl.1 (c_X12_sign l G a_t t_thrown a_t_s a_t_states t_stateMany a_t_snapshot t_hasSnapshot t_length t_at_13 t_isWell_14 a_t_read t_readMany a_t_prices t_priceMany_4 t_pieceMany t_coins a_t_text t_text r_15 hq) k_X12_sign q1178 [0, 1] rfl ⟨0, 8, _, _, rfl, rfl, rfl⟩ rfl rfl (Nat.le_of_ble_eq_true rfl) ⟨(Nat.le_of_ble_eq_true rfl), (Nat.le_of_ble_eq_true rfl)⟩ ⟨(Nat.zero_le _), (Nat.zero_le _)⟩ dX12_readsPrices_62 ?_
            refine lv_bipush (v := 44) hx hb dX12_readsPrices_65 (by decide) ?_
            refine lv_icmp_ne (tgt := 74) hx hb dX12_readsPrices_67 (by decide) (fun c0 => ?_) (fun c0 => ?_)
            · have hf := (if_neg c0).symm.trans hf
              refine lv_iconst (v := 0) hx hb dX12_readsPrices_74 (by decide) ?_
              refine lv_istore_n (lv' := [(2, .int 0), (3, .int r_12), (0, .ref a_t), (1, .int x1)]) hx hb dX12_readsPrices_75 rfl hl (by decide) rfl (fun ls hl => ?_)
              refine lv_aload_n hx hb dX12_readsPrices_76 rfl (lv_at hl 2 rfl) ?_
              refine lv_dup hx hb dX12_readsPrices_77 rfl ?_
              refine gf (C := RX12) (T := TX12) (N := 16) (ci := 8) (v := .int t_at_13) hF hG hP inX12 0 rfl rfl 8 (by decide) q1028 rfl rfl dX12_readsPrices_78 ?_
              refine lv_iload_n hx hb dX12_readsPrices_81 rfl (lv_at hl 0 rfl) ?_
              refine lv_if_eq (tgt := 89) hx hb dX12_readsPrices_82 (by decide) (fun c0 => ?_) (fun c0 => ?_)
              · have hf := (if_pos c0).symm.trans hf
                refine lv_iconst (v := 0) hx hb dX12_readsPrices_89 (by decide) ?_
                refine lv_iadd hx hb dX12_readsPrices_90 ?_
                refine pf (C := RX12) (T := TX12) (N := 16) (ci := 8) (v := .int (t_at_13 + 0)) (ty := .int) hF hG hP hD hS inX12 tyX12 tyX12_ok nmX12 0 rfl rfl 8 (by decide) q1028 rfl rfl (by decide +kernel) rfl rfl (Nat.le_of_ble_eq_true rfl) dX12_readsPrices_91 (fun H locs hP hD hS => ?_)
                replace hP : va_P G.1 vwCl [(a_t, .inr (8, [.int t_thrown, .ref a_t_s, .ref a_t_states, .int t_stateMany, .ref a_t_snapshot, .int t_hasSnapshot, .ref a_t_text, .int t_length, .int (t_at_13 + 0), .int t_isWell_14, .ref a_t_read, .int t_readMany, .ref a_t_prices, .int t_priceMany_4, .int t_pieceMany, .long t_coins])), (a_t_text, .inl (G.2.1, 60, .inl t_text)), (a_t_read, .inl (G.2.1, 160, .inl t_read_5)), (a_t_prices, .inl (G.2.1, 60, .inl t_prices_6))] H := hP
                replace hD : va_D A [(a_t, .inr (8, [.int t_thrown, .ref a_t_s, .ref a_t_states, .int t_stateMany, .ref a_t_snapshot, .int t_hasSnapshot, .ref a_t_text, .int t_length, .int (t_at_13 + 0), .int t_isWell_14, .ref a_t_read, .int t_readMany, .ref a_t_prices, .int t_priceMany_4, .int t_pieceMany, .long t_coins])), (a_t_text, .inl (G.2.1, 60, .inl t_text)), (a_t_read, .inl (G.2.1, 160, .inl t_read_5)), (a_t_prices, .inl (G.2.1, 60, .inl t_prices_6))] := hD
                refine lv_goto (tgt := 2) hx hb dX12_readsPrices_94 (by decide) ?_
                exact ih 0 (t_at_13 + 0) t_isWell_14 t_priceMany_4 t_read_5 t_prices_6 hf _ _ hP hD hS ls (lv_sub hl [2, 3, 0] rfl)
              · have hf := (if_neg c0).symm.trans hf
                refine lv_iconst (v := 1) hx hb dX12_readsPrices_85 (by decide) ?_
                refine lv_goto (tgt := 90) hx hb dX12_readsPrices_86 (by decide) ?_
                refine lv_iadd hx hb dX12_readsPrices_90 ?_
                refine pf (C := RX12) (T := TX12) (N := 16) (ci := 8) (v := .int (t_at_13 + 1)) (ty := .int) hF hG hP hD hS inX12 tyX12 tyX12_ok nmX12 0 rfl rfl 8 (by decide) q1028 rfl rfl (by decide +kernel) rfl rfl (Nat.le_of_ble_eq_true rfl) dX12_readsPrices_91 (fun H locs hP hD hS => ?_)
                replace hP : va_P G.1 vwCl [(a_t, .inr (8, [.int t_thrown, .ref a_t_s, .ref a_t_states, .int t_stateMany, .ref a_t_snapshot, .int t_hasSnapshot, .ref a_t_text, .int t_length, .int (t_at_13 + 1), .int t_isWell_14, .ref a_t_read, .int t_readMany, .ref a_t_prices, .int t_priceMany_4, .int t_pieceMany, .long t_coins])), (a_t_text, .inl (G.2.1, 60, .inl t_text)), (a_t_read, .inl (G.2.1, 160, .inl t_read_5)), (a_t_prices, .inl (G.2.1, 60, .inl t_prices_6))] H := hP
                replace hD : va_D A [(a_t, .inr (8, [.int t_thrown, .ref a_t_s, .ref a_t_states, .int t_stateMany, .ref a_t_snapshot, .int t_hasSnapshot, .ref a_t_text, .int t_length, .int (t_at_13 + 1), .int t_isWell_14, .ref a_t_read, .int t_readMany, .ref a_t_prices, .int t_priceMany_4, .int t_pieceMany, .long t_coins])), (a_t_text, .inl (G.2.1, 60, .inl t_text)), (a_t_read, .inl (G.2.1, 160, .inl t_read_5)), (a_t_prices, .inl (G.2.1, 60, .inl t_prices_6))] := hD
                refine lv_goto (tgt := 2) hx hb dX12_readsPrices_94 (by decide) ?_
                exact ih 0 (t_at_13 + 1) t_isWell_14 t_priceMany_4 t_read_5 t_prices_6 hf _ _ hP hD hS ls (lv_sub hl [2, 3, 0] rfl)
            · have hf := (if_pos c0).symm.trans hf
              refine lv_iconst (v := 1) hx hb dX12_readsPrices_70 (by decide) ?_
              refine lv_goto (tgt := 75) hx hb dX12_readsPrices_71 (by decide) ?_
              refine lv_istore_n (lv' := [(2, .int 1), (3, .int r_12), (0, .ref a_t), (1, .int x1)]) hx hb dX12_readsPrices_75 rfl hl (by decide) rfl (fun ls hl => ?_)
              refine lv_aload_n hx hb dX12_readsPrices_76 rfl (lv_at hl 2 rfl) ?_
              refine lv_dup hx hb dX12_readsPrices_77 rfl ?_
              refine gf (C := RX12) (T := TX12) (N := 16) (ci := 8) (v := .int t_at_13) hF hG hP inX12 0 rfl rfl 8 (by decide) q1028 rfl rfl dX12_readsPrices_78 ?_
              refine lv_iload_n hx hb dX12_readsPrices_81 rfl (lv_at hl 0 rfl) ?_
              refine lv_if_eq (tgt := 89) hx hb dX12_readsPrices_82 (by decide) (fun c0 => ?_) (fun c0 => ?_)
              · have hf := (if_pos c0).symm.trans hf
                refine lv_iconst (v := 0) hx hb dX12_readsPrices_89 (by decide) ?_
                refine lv_iadd hx hb dX12_readsPrices_90 ?_
                refine pf (C := RX12) (T := TX12) (N := 16) (ci := 8) (v := .int (t_at_13 + 0)) (ty := .int) hF hG hP hD hS inX12 tyX12 tyX12_ok nmX12 0 rfl rfl 8 (by decide) q1028 rfl rfl (by decide +kernel) rfl rfl (Nat.le_of_ble_eq_true rfl) dX12_readsPrices_91 (fun H locs hP hD hS => ?_)
                replace hP : va_P G.1 vwCl [(a_t, .inr (8, [.int t_thrown, .ref a_t_s, .ref a_t_states, .int t_stateMany, .ref a_t_snapshot, .int t_hasSnapshot, .ref a_t_text, .int t_length, .int (t_at_13 + 0), .int t_isWell_14, .ref a_t_read, .int t_readMany, .ref a_t_prices, .int t_priceMany_4, .int t_pieceMany, .long t_coins])), (a_t_text, .inl (G.2.1, 60, .inl t_text)), (a_t_read, .inl (G.2.1, 160, .inl t_read_5)), (a_t_prices, .inl (G.2.1, 60, .inl t_prices_6))] H := hP
                replace hD : va_D A [(a_t, .inr (8, [.int t_thrown, .ref a_t_s, .ref a_t_states, .int t_stateMany, .ref a_t_snapshot, .int t_hasSnapshot, .ref a_t_text, .int t_length, .int (t_at_13 + 0), .int t_isWell_14, .ref a_t_read, .int t_readMany, .ref a_t_prices, .int t_priceMany_4, .int t_pieceMany, .long t_coins])), (a_t_text, .inl (G.2.1, 60, .inl t_text)), (a_t_read, .inl (G.2.1, 160, .inl t_read_5)), (a_t_prices, .inl (G.2.1, 60, .inl t_prices_6))] := hD
                refine lv_goto (tgt := 2) hx hb dX12_readsPrices_94 (by decide) ?_
                exact ih 1 (t_at_13 + 0) t_isWell_14 t_priceMany_4 t_read_5 t_prices_6 hf _ _ hP hD hS ls (lv_sub hl [2, 3, 0] rfl)
              · have hf := (if_neg c0).symm.trans hf
                refine lv_iconst (v := 1) hx hb dX12_readsPrices_85 (by decide) ?_
                refine lv_goto (tgt := 90) hx hb dX12_readsPrices_86 (by decide) ?_
                refine lv_iadd hx hb dX12_readsPrices_90 ?_
                refine pf (C := RX12) (T := TX12) (N := 16) (ci := 8) (v := .int (t_at_13 + 1)) (ty := .int) hF hG hP hD hS inX12 tyX12 tyX12_ok nmX12 0 rfl rfl 8 (by decide) q1028 rfl rfl (by decide +kernel) rfl rfl (Nat.le_of_ble_eq_true rfl) dX12_readsPrices_91 (fun H locs hP hD hS => ?_)
                replace hP : va_P G.1 vwCl [(a_t, .inr (8, [.int t_thrown, .ref a_t_s, .ref a_t_states, .int t_stateMany, .ref a_t_snapshot, .int t_hasSnapshot, .ref a_t_text, .int t_length, .int (t_at_13 + 1), .int t_isWell_14, .ref a_t_read, .int t_readMany, .ref a_t_prices, .int t_priceMany_4, .int t_pieceMany, .long t_coins])), (a_t_text, .inl (G.2.1, 60, .inl t_text)), (a_t_read, .inl (G.2.1, 160, .inl t_read_5)), (a_t_prices, .inl (G.2.1, 60, .inl t_prices_6))] H := hP
                replace hD : va_D A [(a_t, .inr (8, [.int t_thrown, .ref a_t_s, .ref a_t_states, .int t_stateMany, .ref a_t_snapshot, .int t_hasSnapshot, .ref a_t_text, .int t_length, .int (t_at_13 + 1), .int t_isWell_14, .ref a_t_read, .int t_readMany, .ref a_t_prices, .int t_priceMany_4, .int t_pieceMany, .long t_coins])), (a_t_text, .inl (G.2.1, 60, .inl t_text)), (a_t_read, .inl (G.2.1, 160, .inl t_read_5)), (a_t_prices, .inl (G.2.1, 60, .inl t_prices_6))] := hD
                refine lv_goto (tgt := 2) hx hb dX12_readsPrices_94 (by decide) ?_
                exact ih 1 (t_at_13 + 1) t_isWell_14 t_priceMany_4 t_read_5 t_prices_6 hf _ _ hP hD hS ls (lv_sub hl [2, 3, 0] rfl)
        · have hf := (if_neg c0).symm.trans hf
          refine lv_aload_n hx hb dX12_readsPrices_22 rfl (lv_at hl 1 rfl) ?_
          refine gf (C := RX12) (T := TX12) (N := 16) (ci := 8) (v := .ref a_t_prices) hF hG hP inX12 0 rfl rfl 12 (by decide) q1032 rfl rfl dX12_readsPrices_23 ?_
          refine lv_aload_n hx hb dX12_readsPrices_26 rfl (lv_at hl 1 rfl) ?_
          refine gf (C := RX12) (T := TX12) (N := 16) (ci := 8) (v := .int t_priceMany_4) hF hG hP inX12 0 rfl rfl 13 (by decide) q1033 rfl rfl dX12_readsPrices_27 ?_
          refine lv_iload_n hx hb dX12_readsPrices_30 rfl (lv_at hl 0 rfl) ?_
          obtain ⟨hg, hf⟩ := gd_some hf
          refine ast_i (k := Int32.toNatClampNeg t_priceMany_4) hF hG hP hD hS 3 rfl rfl hg dX12_readsPrices_31 (fun H locs hP hD hS => ?_)
          replace hP : va_P G.1 vwCl [(a_t, .inr (8, [.int t_thrown, .ref a_t_s, .ref a_t_states, .int t_stateMany, .ref a_t_snapshot, .int t_hasSnapshot, .ref a_t_text, .int t_length, .int t_at_13, .int t_isWell_14, .ref a_t_read, .int t_readMany, .ref a_t_prices, .int t_priceMany_4, .int t_pieceMany, .long t_coins])), (a_t_text, .inl (G.2.1, 60, .inl t_text)), (a_t_read, .inl (G.2.1, 160, .inl t_read_5)), (a_t_prices, .inl (G.2.1, 60, .inl (upd t_prices_6 (Int32.toNatClampNeg t_priceMany_4) r_12)))] H := hP
          replace hD : va_D A [(a_t, .inr (8, [.int t_thrown, .ref a_t_s, .ref a_t_states, .int t_stateMany, .ref a_t_snapshot, .int t_hasSnapshot, .ref a_t_text, .int t_length, .int t_at_13, .int t_isWell_14, .ref a_t_read, .int t_readMany, .ref a_t_prices, .int t_priceMany_4, .int t_pieceMany, .long t_coins])), (a_t_text, .inl (G.2.1, 60, .inl t_text)), (a_t_read, .inl (G.2.1, 160, .inl t_read_5)), (a_t_prices, .inl (G.2.1, 60, .inl (upd t_prices_6 (Int32.toNatClampNeg t_priceMany_4) r_12)))] := hD
          refine lv_aload_n hx hb dX12_readsPrices_32 rfl (lv_at hl 1 rfl) ?_
          refine lv_dup hx hb dX12_readsPrices_33 rfl ?_
          refine gf (C := RX12) (T := TX12) (N := 16) (ci := 8) (v := .int t_priceMany_4) hF hG hP inX12 0 rfl rfl 13 (by decide) q1033 rfl rfl dX12_readsPrices_34 ?_
          refine lv_iconst (v := 1) hx hb dX12_readsPrices_37 (by decide) ?_
          refine lv_iadd hx hb dX12_readsPrices_38 ?_
          refine pf (C := RX12) (T := TX12) (N := 16) (ci := 8) (v := .int (t_priceMany_4 + 1)) (ty := .int) hF hG hP hD hS inX12 tyX12 tyX12_ok nmX12 0 rfl rfl 13 (by decide) q1033 rfl rfl (by decide +kernel) rfl rfl (Nat.le_of_ble_eq_true rfl) dX12_readsPrices_39 (fun H locs hP hD hS => ?_)
          replace hP : va_P G.1 vwCl [(a_t, .inr (8, [.int t_thrown, .ref a_t_s, .ref a_t_states, .int t_stateMany, .ref a_t_snapshot, .int t_hasSnapshot, .ref a_t_text, .int t_length, .int t_at_13, .int t_isWell_14, .ref a_t_read, .int t_readMany, .ref a_t_prices, .int (t_priceMany_4 + 1), .int t_pieceMany, .long t_coins])), (a_t_text, .inl (G.2.1, 60, .inl t_text)), (a_t_read, .inl (G.2.1, 160, .inl t_read_5)), (a_t_prices, .inl (G.2.1, 60, .inl (upd t_prices_6 (Int32.toNatClampNeg t_priceMany_4) r_12)))] H := hP
          replace hD : va_D A [(a_t, .inr (8, [.int t_thrown, .ref a_t_s, .ref a_t_states, .int t_stateMany, .ref a_t_snapshot, .int t_hasSnapshot, .ref a_t_text, .int t_length, .int t_at_13, .int t_isWell_14, .ref a_t_read, .int t_readMany, .ref a_t_prices, .int (t_priceMany_4 + 1), .int t_pieceMany, .long t_coins])), (a_t_text, .inl (G.2.1, 60, .inl t_text)), (a_t_read, .inl (G.2.1, 160, .inl t_read_5)), (a_t_prices, .inl (G.2.1, 60, .inl (upd t_prices_6 (Int32.toNatClampNeg t_priceMany_4) r_12)))] := hD
          refine lv_aload_n hx hb dX12_readsPrices_42 rfl (lv_at hl 1 rfl) ?_
          refine gf (C := RX12) (T := TX12) (N := 16) (ci := 8) (v := .ref a_t_read) hF hG hP inX12 0 rfl rfl 10 (by decide) q1030 rfl rfl dX12_readsPrices_43 ?_
          refine lv_iload_n hx hb dX12_readsPrices_46 rfl (lv_at hl 2 rfl) ?_
          refine lv_iconst (v := 4) hx hb dX12_readsPrices_47 (by decide) ?_
          refine lv_iadd hx hb dX12_readsPrices_48 ?_
          refine lv_dup2_11 hx hb dX12_readsPrices_49 rfl rfl ?_
          obtain ⟨hg, hf⟩ := gd_some hf
          refine ald_i (k := Int32.toNatClampNeg (x1 + 4)) hF hG hP 2 rfl rfl hg dX12_readsPrices_50 ?_
          refine lv_iconst (v := 1) hx hb dX12_readsPrices_51 (by decide) ?_
          refine lv_iadd hx hb dX12_readsPrices_52 ?_
          obtain ⟨hg, hf⟩ := gd_some hf
          refine ast_i (k := Int32.toNatClampNeg (x1 + 4)) hF hG hP hD hS 2 rfl rfl hg dX12_readsPrices_53 (fun H locs hP hD hS => ?_)
          replace hP : va_P G.1 vwCl [(a_t, .inr (8, [.int t_thrown, .ref a_t_s, .ref a_t_states, .int t_stateMany, .ref a_t_snapshot, .int t_hasSnapshot, .ref a_t_text, .int t_length, .int t_at_13, .int t_isWell_14, .ref a_t_read, .int t_readMany, .ref a_t_prices, .int (t_priceMany_4 + 1), .int t_pieceMany, .long t_coins])), (a_t_text, .inl (G.2.1, 60, .inl t_text)), (a_t_read, .inl (G.2.1, 160, .inl (upd t_read_5 (Int32.toNatClampNeg (x1 + 4)) ((t_read_5 (Int32.toNatClampNeg (x1 + 4))) + 1)))), (a_t_prices, .inl (G.2.1, 60, .inl (upd t_prices_6 (Int32.toNatClampNeg t_priceMany_4) r_12)))] H := hP
          replace hD : va_D A [(a_t, .inr (8, [.int t_thrown, .ref a_t_s, .ref a_t_states, .int t_stateMany, .ref a_t_snapshot, .int t_hasSnapshot, .ref a_t_text, .int t_length, .int t_at_13, .int t_isWell_14, .ref a_t_read, .int t_readMany, .ref a_t_prices, .int (t_priceMany_4 + 1), .int t_pieceMany, .long t_coins])), (a_t_text, .inl (G.2.1, 60, .inl t_text)), (a_t_read, .inl (G.2.1, 160, .inl (upd t_read_5 (Int32.toNatClampNeg (x1 + 4)) ((t_read_5 (Int32.toNatClampNeg (x1 + 4))) + 1)))), (a_t_prices, .inl (G.2.1, 60, .inl (upd t_prices_6 (Int32.toNatClampNeg t_priceMany_4) r_12)))] := hD
          refine lv_aload_n hx hb dX12_readsPrices_54 rfl (lv_at hl 1 rfl) ?_
          refine gf (C := RX12) (T := TX12) (N := 16) (ci := 8) (v := .int t_isWell_14) hF hG hP inX12 0 rfl rfl 9 (by decide) q1029 rfl rfl dX12_readsPrices_55 ?_
          refine lv_if_eq (tgt := 74) hx hb dX12_readsPrices_58 (by decide) (fun c0 => ?_) (fun c0 => ?_)
          · have hf := (if_pos c0).symm.trans hf
            refine lv_iconst (v := 0) hx hb dX12_readsPrices_74 (by decide) ?_
            refine lv_istore_n (lv' := [(2, .int 0), (3, .int r_12), (0, .ref a_t), (1, .int x1)]) hx hb dX12_readsPrices_75 rfl hl (by decide) rfl (fun ls hl => ?_)
            refine lv_aload_n hx hb dX12_readsPrices_76 rfl (lv_at hl 2 rfl) ?_
            refine lv_dup hx hb dX12_readsPrices_77 rfl ?_
            refine gf (C := RX12) (T := TX12) (N := 16) (ci := 8) (v := .int t_at_13) hF hG hP inX12 0 rfl rfl 8 (by decide) q1028 rfl rfl dX12_readsPrices_78 ?_
            refine lv_iload_n hx hb dX12_readsPrices_81 rfl (lv_at hl 0 rfl) ?_
            refine lv_if_eq (tgt := 89) hx hb dX12_readsPrices_82 (by decide) (fun c0 => ?_) (fun c0 => ?_)
            · have hf := (if_pos c0).symm.trans hf
              refine lv_iconst (v := 0) hx hb dX12_readsPrices_89 (by decide) ?_
              refine lv_iadd hx hb dX12_readsPrices_90 ?_
              refine pf (C := RX12) (T := TX12) (N := 16) (ci := 8) (v := .int (t_at_13 + 0)) (ty := .int) hF hG hP hD hS inX12 tyX12 tyX12_ok nmX12 0 rfl rfl 8 (by decide) q1028 rfl rfl (by decide +kernel) rfl rfl (Nat.le_of_ble_eq_true rfl) dX12_readsPrices_91 (fun H locs hP hD hS => ?_)
              replace hP : va_P G.1 vwCl [(a_t, .inr (8, [.int t_thrown, .ref a_t_s, .ref a_t_states, .int t_stateMany, .ref a_t_snapshot, .int t_hasSnapshot, .ref a_t_text, .int t_length, .int (t_at_13 + 0), .int t_isWell_14, .ref a_t_read, .int t_readMany, .ref a_t_prices, .int (t_priceMany_4 + 1), .int t_pieceMany, .long t_coins])), (a_t_text, .inl (G.2.1, 60, .inl t_text)), (a_t_read, .inl (G.2.1, 160, .inl (upd t_read_5 (Int32.toNatClampNeg (x1 + 4)) ((t_read_5 (Int32.toNatClampNeg (x1 + 4))) + 1)))), (a_t_prices, .inl (G.2.1, 60, .inl (upd t_prices_6 (Int32.toNatClampNeg t_priceMany_4) r_12)))] H := hP
              replace hD : va_D A [(a_t, .inr (8, [.int t_thrown, .ref a_t_s, .ref a_t_states, .int t_stateMany, .ref a_t_snapshot, .int t_hasSnapshot, .ref a_t_text, .int t_length, .int (t_at_13 + 0), .int t_isWell_14, .ref a_t_read, .int t_readMany, .ref a_t_prices, .int (t_priceMany_4 + 1), .int t_pieceMany, .long t_coins])), (a_t_text, .inl (G.2.1, 60, .inl t_text)), (a_t_read, .inl (G.2.1, 160, .inl (upd t_read_5 (Int32.toNatClampNeg (x1 + 4)) ((t_read_5 (Int32.toNatClampNeg (x1 + 4))) + 1)))), (a_t_prices, .inl (G.2.1, 60, .inl (upd t_prices_6 (Int32.toNatClampNeg t_priceMany_4) r_12)))] := hD
              refine lv_goto (tgt := 2) hx hb dX12_readsPrices_94 (by decide) ?_
              exact ih 0 (t_at_13 + 0) t_isWell_14 (t_priceMany_4 + 1) (upd t_read_5 (Int32.toNatClampNeg (x1 + 4)) ((t_read_5 (Int32.toNatClampNeg (x1 + 4))) + 1)) (upd t_prices_6 (Int32.toNatClampNeg t_priceMany_4) r_12) hf _ _ hP hD hS ls (lv_sub hl [2, 3, 0] rfl)
            · have hf := (if_neg c0).symm.trans hf
              refine lv_iconst (v := 1) hx hb dX12_readsPrices_85 (by decide) ?_
              refine lv_goto (tgt := 90) hx hb dX12_readsPrices_86 (by decide) ?_
              refine lv_iadd hx hb dX12_readsPrices_90 ?_
              refine pf (C := RX12) (T := TX12) (N := 16) (ci := 8) (v := .int (t_at_13 + 1)) (ty := .int) hF hG hP hD hS inX12 tyX12 tyX12_ok nmX12 0 rfl rfl 8 (by decide) q1028 rfl rfl (by decide +kernel) rfl rfl (Nat.le_of_ble_eq_true rfl) dX12_readsPrices_91 (fun H locs hP hD hS => ?_)
              replace hP : va_P G.1 vwCl [(a_t, .inr (8, [.int t_thrown, .ref a_t_s, .ref a_t_states, .int t_stateMany, .ref a_t_snapshot, .int t_hasSnapshot, .ref a_t_text, .int t_length, .int (t_at_13 + 1), .int t_isWell_14, .ref a_t_read, .int t_readMany, .ref a_t_prices, .int (t_priceMany_4 + 1), .int t_pieceMany, .long t_coins])), (a_t_text, .inl (G.2.1, 60, .inl t_text)), (a_t_read, .inl (G.2.1, 160, .inl (upd t_read_5 (Int32.toNatClampNeg (x1 + 4)) ((t_read_5 (Int32.toNatClampNeg (x1 + 4))) + 1)))), (a_t_prices, .inl (G.2.1, 60, .inl (upd t_prices_6 (Int32.toNatClampNeg t_priceMany_4) r_12)))] H := hP
              replace hD : va_D A [(a_t, .inr (8, [.int t_thrown, .ref a_t_s, .ref a_t_states, .int t_stateMany, .ref a_t_snapshot, .int t_hasSnapshot, .ref a_t_text, .int t_length, .int (t_at_13 + 1), .int t_isWell_14, .ref a_t_read, .int t_readMany, .ref a_t_prices, .int (t_priceMany_4 + 1), .int t_pieceMany, .long t_coins])), (a_t_text, .inl (G.2.1, 60, .inl t_text)), (a_t_read, .inl (G.2.1, 160, .inl (upd t_read_5 (Int32.toNatClampNeg (x1 + 4)) ((t_read_5 (Int32.toNatClampNeg (x1 + 4))) + 1)))), (a_t_prices, .inl (G.2.1, 60, .inl (upd t_prices_6 (Int32.toNatClampNeg t_priceMany_4) r_12)))] := hD
              refine lv_goto (tgt := 2) hx hb dX12_readsPrices_94 (by decide) ?_
              exact ih 0 (t_at_13 + 1) t_isWell_14 (t_priceMany_4 + 1) (upd t_read_5 (Int32.toNatClampNeg (x1 + 4)) ((t_read_5 (Int32.toNatClampNeg (x1 + 4))) + 1)) (upd t_prices_6 (Int32.toNatClampNeg t_priceMany_4) r_12) hf _ _ hP hD hS ls (lv_sub hl [2, 3, 0] rfl)
          · have hf := (if_neg c0).symm.trans hf
            refine lv_aload_n hx hb dX12_readsPrices_61 rfl (lv_at hl 1 rfl) ?_
            obtain ⟨r_16, hq, hf⟩ := bd1_some hf
            refine rdV (As := []) (rest := []) hF hG hP hl.1 (c_X12_sign l G a_t t_thrown a_t_s a_t_states t_stateMany a_t_snapshot t_hasSnapshot t_length t_at_13 t_isWell_14 a_t_read t_readMany a_t_prices (t_priceMany_4 + 1) t_pieceMany t_coins a_t_text t_text r_16 hq) k_X12_sign q1178 [0, 1] rfl ⟨0, 8, _, _, rfl, rfl, rfl⟩ rfl rfl (Nat.le_of_ble_eq_true rfl) ⟨(Nat.le_of_ble_eq_true rfl), (Nat.le_of_ble_eq_true rfl)⟩ ⟨(Nat.zero_le _), (Nat.zero_le _)⟩ dX12_readsPrices_62 ?_
            refine lv_bipush (v := 44) hx hb dX12_readsPrices_65 (by decide) ?_
            refine lv_icmp_ne (tgt := 74) hx hb dX12_readsPrices_67 (by decide) (fun c0 => ?_) (fun c0 => ?_)
            · have hf := (if_neg c0).symm.trans hf
              refine lv_iconst (v := 0) hx hb dX12_readsPrices_74 (by decide) ?_
              refine lv_istore_n (lv' := [(2, .int 0), (3, .int r_12), (0, .ref a_t), (1, .int x1)]) hx hb dX12_readsPrices_75 rfl hl (by decide) rfl (fun ls hl => ?_)
              refine lv_aload_n hx hb dX12_readsPrices_76 rfl (lv_at hl 2 rfl) ?_
              refine lv_dup hx hb dX12_readsPrices_77 rfl ?_
              refine gf (C := RX12) (T := TX12) (N := 16) (ci := 8) (v := .int t_at_13) hF hG hP inX12 0 rfl rfl 8 (by decide) q1028 rfl rfl dX12_readsPrices_78 ?_
              refine lv_iload_n hx hb dX12_readsPrices_81 rfl (lv_at hl 0 rfl) ?_
              refine lv_if_eq (tgt := 89) hx hb dX12_readsPrices_82 (by decide) (fun c0 => ?_) (fun c0 => ?_)
              · have hf := (if_pos c0).symm.trans hf
                refine lv_iconst (v := 0) hx hb dX12_readsPrices_89 (by decide) ?_
                refine lv_iadd hx hb dX12_readsPrices_90 ?_
                refine pf (C := RX12) (T := TX12) (N := 16) (ci := 8) (v := .int (t_at_13 + 0)) (ty := .int) hF hG hP hD hS inX12 tyX12 tyX12_ok nmX12 0 rfl rfl 8 (by decide) q1028 rfl rfl (by decide +kernel) rfl rfl (Nat.le_of_ble_eq_true rfl) dX12_readsPrices_91 (fun H locs hP hD hS => ?_)
                replace hP : va_P G.1 vwCl [(a_t, .inr (8, [.int t_thrown, .ref a_t_s, .ref a_t_states, .int t_stateMany, .ref a_t_snapshot, .int t_hasSnapshot, .ref a_t_text, .int t_length, .int (t_at_13 + 0), .int t_isWell_14, .ref a_t_read, .int t_readMany, .ref a_t_prices, .int (t_priceMany_4 + 1), .int t_pieceMany, .long t_coins])), (a_t_text, .inl (G.2.1, 60, .inl t_text)), (a_t_read, .inl (G.2.1, 160, .inl (upd t_read_5 (Int32.toNatClampNeg (x1 + 4)) ((t_read_5 (Int32.toNatClampNeg (x1 + 4))) + 1)))), (a_t_prices, .inl (G.2.1, 60, .inl (upd t_prices_6 (Int32.toNatClampNeg t_priceMany_4) r_12)))] H := hP
                replace hD : va_D A [(a_t, .inr (8, [.int t_thrown, .ref a_t_s, .ref a_t_states, .int t_stateMany, .ref a_t_snapshot, .int t_hasSnapshot, .ref a_t_text, .int t_length, .int (t_at_13 + 0), .int t_isWell_14, .ref a_t_read, .int t_readMany, .ref a_t_prices, .int (t_priceMany_4 + 1), .int t_pieceMany, .long t_coins])), (a_t_text, .inl (G.2.1, 60, .inl t_text)), (a_t_read, .inl (G.2.1, 160, .inl (upd t_read_5 (Int32.toNatClampNeg (x1 + 4)) ((t_read_5 (Int32.toNatClampNeg (x1 + 4))) + 1)))), (a_t_prices, .inl (G.2.1, 60, .inl (upd t_prices_6 (Int32.toNatClampNeg t_priceMany_4) r_12)))] := hD
                refine lv_goto (tgt := 2) hx hb dX12_readsPrices_94 (by decide) ?_
                exact ih 0 (t_at_13 + 0) t_isWell_14 (t_priceMany_4 + 1) (upd t_read_5 (Int32.toNatClampNeg (x1 + 4)) ((t_read_5 (Int32.toNatClampNeg (x1 + 4))) + 1)) (upd t_prices_6 (Int32.toNatClampNeg t_priceMany_4) r_12) hf _ _ hP hD hS ls (lv_sub hl [2, 3, 0] rfl)
              · have hf := (if_neg c0).symm.trans hf
                refine lv_iconst (v := 1) hx hb dX12_readsPrices_85 (by decide) ?_
                refine lv_goto (tgt := 90) hx hb dX12_readsPrices_86 (by decide) ?_
                refine lv_iadd hx hb dX12_readsPrices_90 ?_
                refine pf (C := RX12) (T := TX12) (N := 16) (ci := 8) (v := .int (t_at_13 + 1)) (ty := .int) hF hG hP hD hS inX12 tyX12 tyX12_ok nmX12 0 rfl rfl 8 (by decide) q1028 rfl rfl (by decide +kernel) rfl rfl (Nat.le_of_ble_eq_true rfl) dX12_readsPrices_91 (fun H locs hP hD hS => ?_)
                replace hP : va_P G.1 vwCl [(a_t, .inr (8, [.int t_thrown, .ref a_t_s, .ref a_t_states, .int t_stateMany, .ref a_t_snapshot, .int t_hasSnapshot, .ref a_t_text, .int t_length, .int (t_at_13 + 1), .int t_isWell_14, .ref a_t_read, .int t_readMany, .ref a_t_prices, .int (t_priceMany_4 + 1), .int t_pieceMany, .long t_coins])), (a_t_text, .inl (G.2.1, 60, .inl t_text)), (a_t_read, .inl (G.2.1, 160, .inl (upd t_read_5 (Int32.toNatClampNeg (x1 + 4)) ((t_read_5 (Int32.toNatClampNeg (x1 + 4))) + 1)))), (a_t_prices, .inl (G.2.1, 60, .inl (upd t_prices_6 (Int32.toNatClampNeg t_priceMany_4) r_12)))] H := hP
                replace hD : va_D A [(a_t, .inr (8, [.int t_thrown, .ref a_t_s, .ref a_t_states, .int t_stateMany, .ref a_t_snapshot, .int t_hasSnapshot, .ref a_t_text, .int t_length, .int (t_at_13 + 1), .int t_isWell_14, .ref a_t_read, .int t_readMany, .ref a_t_prices, .int (t_priceMany_4 + 1), .int t_pieceMany, .long t_coins])), (a_t_text, .inl (G.2.1, 60, .inl t_text)), (a_t_read, .inl (G.2.1, 160, .inl (upd t_read_5 (Int32.toNatClampNeg (x1 + 4)) ((t_read_5 (Int32.toNatClampNeg (x1 + 4))) + 1)))), (a_t_prices, .inl (G.2.1, 60, .inl (upd t_prices_6 (Int32.toNatClampNeg t_priceMany_4) r_12)))] := hD
                refine lv_goto (tgt := 2) hx hb dX12_readsPrices_94 (by decide) ?_
                exact ih 0 (t_at_13 + 1) t_isWell_14 (t_priceMany_4 + 1) (upd t_read_5 (Int32.toNatClampNeg (x1 + 4)) ((t_read_5 (Int32.toNatClampNeg (x1 + 4))) + 1)) (upd t_prices_6 (Int32.toNatClampNeg t_priceMany_4) r_12) hf _ _ hP hD hS ls (lv_sub hl [2, 3, 0] rfl)
            · have hf := (if_pos c0).symm.trans hf
              refine lv_iconst (v := 1) hx hb dX12_readsPrices_70 (by decide) ?_
              refine lv_goto (tgt := 75) hx hb dX12_readsPrices_71 (by decide) ?_
              refine lv_istore_n (lv' := [(2, .int 1), (3, .int r_12), (0, .ref a_t), (1, .int x1)]) hx hb dX12_readsPrices_75 rfl hl (by decide) rfl (fun ls hl => ?_)
              refine lv_aload_n hx hb dX12_readsPrices_76 rfl (lv_at hl 2 rfl) ?_
              refine lv_dup hx hb dX12_readsPrices_77 rfl ?_
              refine gf (C := RX12) (T := TX12) (N := 16) (ci := 8) (v := .int t_at_13) hF hG hP inX12 0 rfl rfl 8 (by decide) q1028 rfl rfl dX12_readsPrices_78 ?_
              refine lv_iload_n hx hb dX12_readsPrices_81 rfl (lv_at hl 0 rfl) ?_
              refine lv_if_eq (tgt := 89) hx hb dX12_readsPrices_82 (by decide) (fun c0 => ?_) (fun c0 => ?_)
              · have hf := (if_pos c0).symm.trans hf
                refine lv_iconst (v := 0) hx hb dX12_readsPrices_89 (by decide) ?_
                refine lv_iadd hx hb dX12_readsPrices_90 ?_
                refine pf (C := RX12) (T := TX12) (N := 16) (ci := 8) (v := .int (t_at_13 + 0)) (ty := .int) hF hG hP hD hS inX12 tyX12 tyX12_ok nmX12 0 rfl rfl 8 (by decide) q1028 rfl rfl (by decide +kernel) rfl rfl (Nat.le_of_ble_eq_true rfl) dX12_readsPrices_91 (fun H locs hP hD hS => ?_)
                replace hP : va_P G.1 vwCl [(a_t, .inr (8, [.int t_thrown, .ref a_t_s, .ref a_t_states, .int t_stateMany, .ref a_t_snapshot, .int t_hasSnapshot, .ref a_t_text, .int t_length, .int (t_at_13 + 0), .int t_isWell_14, .ref a_t_read, .int t_readMany, .ref a_t_prices, .int (t_priceMany_4 + 1), .int t_pieceMany, .long t_coins])), (a_t_text, .inl (G.2.1, 60, .inl t_text)), (a_t_read, .inl (G.2.1, 160, .inl (upd t_read_5 (Int32.toNatClampNeg (x1 + 4)) ((t_read_5 (Int32.toNatClampNeg (x1 + 4))) + 1)))), (a_t_prices, .inl (G.2.1, 60, .inl (upd t_prices_6 (Int32.toNatClampNeg t_priceMany_4) r_12)))] H := hP
                replace hD : va_D A [(a_t, .inr (8, [.int t_thrown, .ref a_t_s, .ref a_t_states, .int t_stateMany, .ref a_t_snapshot, .int t_hasSnapshot, .ref a_t_text, .int t_length, .int (t_at_13 + 0), .int t_isWell_14, .ref a_t_read, .int t_readMany, .ref a_t_prices, .int (t_priceMany_4 + 1), .int t_pieceMany, .long t_coins])), (a_t_text, .inl (G.2.1, 60, .inl t_text)), (a_t_read, .inl (G.2.1, 160, .inl (upd t_read_5 (Int32.toNatClampNeg (x1 + 4)) ((t_read_5 (Int32.toNatClampNeg (x1 + 4))) + 1)))), (a_t_prices, .inl (G.2.1, 60, .inl (upd t_prices_6 (Int32.toNatClampNeg t_priceMany_4) r_12)))] := hD
                refine lv_goto (tgt := 2) hx hb dX12_readsPrices_94 (by decide) ?_
                exact ih 1 (t_at_13 + 0) t_isWell_14 (t_priceMany_4 + 1) (upd t_read_5 (Int32.toNatClampNeg (x1 + 4)) ((t_read_5 (Int32.toNatClampNeg (x1 + 4))) + 1)) (upd t_prices_6 (Int32.toNatClampNeg t_priceMany_4) r_12) hf _ _ hP hD hS ls (lv_sub hl [2, 3, 0] rfl)
              · have hf := (if_neg c0).symm.trans hf
                refine lv_iconst (v := 1) hx hb dX12_readsPrices_85 (by decide) ?_
                refine lv_goto (tgt := 90) hx hb dX12_readsPrices_86 (by decide) ?_
                refine lv_iadd hx hb dX12_readsPrices_90 ?_
                refine pf (C := RX12) (T := TX12) (N := 16) (ci := 8) (v := .int (t_at_13 + 1)) (ty := .int) hF hG hP hD hS inX12 tyX12 tyX12_ok nmX12 0 rfl rfl 8 (by decide) q1028 rfl rfl (by decide +kernel) rfl rfl (Nat.le_of_ble_eq_true rfl) dX12_readsPrices_91 (fun H locs hP hD hS => ?_)
                replace hP : va_P G.1 vwCl [(a_t, .inr (8, [.int t_thrown, .ref a_t_s, .ref a_t_states, .int t_stateMany, .ref a_t_snapshot, .int t_hasSnapshot, .ref a_t_text, .int t_length, .int (t_at_13 + 1), .int t_isWell_14, .ref a_t_read, .int t_readMany, .ref a_t_prices, .int (t_priceMany_4 + 1), .int t_pieceMany, .long t_coins])), (a_t_text, .inl (G.2.1, 60, .inl t_text)), (a_t_read, .inl (G.2.1, 160, .inl (upd t_read_5 (Int32.toNatClampNeg (x1 + 4)) ((t_read_5 (Int32.toNatClampNeg (x1 + 4))) + 1)))), (a_t_prices, .inl (G.2.1, 60, .inl (upd t_prices_6 (Int32.toNatClampNeg t_priceMany_4) r_12)))] H := hP
                replace hD : va_D A [(a_t, .inr (8, [.int t_thrown, .ref a_t_s, .ref a_t_states, .int t_stateMany, .ref a_t_snapshot, .int t_hasSnapshot, .ref a_t_text, .int t_length, .int (t_at_13 + 1), .int t_isWell_14, .ref a_t_read, .int t_readMany, .ref a_t_prices, .int (t_priceMany_4 + 1), .int t_pieceMany, .long t_coins])), (a_t_text, .inl (G.2.1, 60, .inl t_text)), (a_t_read, .inl (G.2.1, 160, .inl (upd t_read_5 (Int32.toNatClampNeg (x1 + 4)) ((t_read_5 (Int32.toNatClampNeg (x1 + 4))) + 1)))), (a_t_prices, .inl (G.2.1, 60, .inl (upd t_prices_6 (Int32.toNatClampNeg t_priceMany_4) r_12)))] := hD
                refine lv_goto (tgt := 2) hx hb dX12_readsPrices_94 (by decide) ?_
                exact ih 1 (t_at_13 + 1) t_isWell_14 (t_priceMany_4 + 1) (upd t_read_5 (Int32.toNatClampNeg (x1 + 4)) ((t_read_5 (Int32.toNatClampNeg (x1 + 4))) + 1)) (upd t_prices_6 (Int32.toNatClampNeg t_priceMany_4) r_12) hf _ _ hP hD hS ls (lv_sub hl [2, 3, 0] rfl)
  exact L2 1000 1 t_at t_isWell t_priceMany t_read t_prices hq _ _ hP hD hS ls (lv_sub hl [1, 2, 0] rfl)
