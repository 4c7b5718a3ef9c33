/-! p53: a turn -/
theorem lgs (x : Int64) : lg_cmp x x = 0 := (lg_cmp_eq x x).mpr rfl
/-- what a turn leaves, as far as the next one needs it -/
def SI (len sh lo me li se st : Int32) (row : Nat → Int32) (oo cc : Int32) : Prop := ∃ (n a b e : Nat) (m i : Int) (P : Nat → Int) (o c : Nat), BD n a b e m i ∧ CR row n P ∧ len = iq n ∧ sh = iq a ∧ lo = iq b ∧ me = iq m ∧ li = iq i ∧ se = iq e ∧ st = 0 ∧ oo = iq ((o : Nat) : Int) ∧ cc = iq ((c : Nat) : Int) ∧ o < 6 ∧ c ≤ 6
set_option maxHeartbeats 4000000 in
theorem act_undo {n a b se n' a' b' se' : Nat} {me li me' li' : Int} {P P' : Nat → Int} {v x : Int32} (A1 : Act1 n a b se me li P v x n' a' b' se' me' li' P') {row : Nat → Int32} (h : CR row n P) {o c : Nat} (ho : o < 6) (hc : c ≤ 6) (RR : Nat → (Nat → Int32)) (RL RS RO RM RI RE RT RW RY : Nat → Int32) (sp sr : Int32) : ∃ (row' : Nat → Int32) (o1 c1 : Nat) (RR1 : Nat → (Nat → Int32)) (RL1 RS1 RO1 RM1 RI1 RE1 RT1 RW1 RY1 : Nat → Int32) (row2 : Nat → Int32), CR row' n' P' ∧ CR row2 n P ∧ o1 < 6 ∧ 1 ≤ c1 ∧ c1 ≤ 6 ∧ c1 = sc c ∧ f_L_act (iq n) (iq a) (iq b) (iq me) (iq li) (iq se) 0 sp sr row (iq o) (iq c) RR RL RS RO RM RI RE RT RW RY v x = some (1, (iq n'), (iq a'), (iq b'), (iq me'), (iq li'), (iq se'), row', (iq ((o1 : Nat) : Int)), (iq ((c1 : Nat) : Int)), RR1, RL1, RS1, RO1, RM1, RI1, RE1, RT1, RW1, RY1) ∧ f_X11_undo (iq n') (iq a') (iq b') (iq me') (iq li') (iq se') 0 sp sr row' (iq o1) (iq c1) RR1 RL1 RS1 RO1 RM1 RI1 RE1 RT1 RW1 RY1 = some ((iq ((c1 - 1 : Nat) : Int)), (iq n), (iq a), (iq b), (iq me), (iq li), (iq se), 0, sp, sr, row2, (iq ((c1 - 1 : Nat) : Int))) := by
  obtain ⟨row', h', eA⟩ := A1 row h o c ho hc RR RL RS RO RM RI RE RT RW RY sp sr
  have s1 := so_lt c ho
  have s2 := sc_le hc
  have hn := h.1
  have eU := y_undo (k := sk o c) s1 s2.1 s2.2 rfl (va_up RR (sk o c) (va_cpy row (RR (sk o c)) 0 0 60)) (va_up RL (sk o c) (iq n)) (va_up RS (sk o c) (iq a)) (va_up RO (sk o c) (iq b)) (va_up RM (sk o c) (iq me)) (va_up RI (sk o c) (iq li)) (va_up RE (sk o c) (iq se)) (va_up RT (sk o c) 0) (va_up RW (sk o c) sp) (va_up RY (sk o c) sr) (iq n') (iq a') (iq b') (iq me') (iq li') (iq se') 0 sp sr row' (by rw [va_up_self]; exact zz)
  simp only [va_up_self] at eU
  refine ⟨row', so o c, sc c, _, _, _, _, _, _, _, _, _, _, va_cpy (va_cpy row (RR (sk o c)) 0 0 60) row' 0 0 60, h', ⟨hn, h.2.1, fun d hd => ?_⟩, s1, s2.1, s2.2, rfl, eA, eU⟩
  rw [cpy_row _ _ d (by omega), cpy_row _ _ d (by omega)]
  exact h.2.2 d hd
set_option maxHeartbeats 16000000 in
set_option maxRecDepth 100000 in
theorem turn_ok {n a b se : Nat} {me li : Int} {P : Nat → Int} (B : BD n a b se me li) {row : Nat → Int32} (h : CR row n P) {o c : Nat} (ho : o < 6) (hc : c ≤ 6) (RR : Nat → (Nat → Int32)) (RL RS RO RM RI RE RT RW RY : Nat → Int32) (sp sr fr en : Int32) (cand : Nat → Int32) (cc : Int64) (hh : Int32) {t : Nat} (ht : t < 36) (xs : Nat → Int32) (L : Nat) : ∃ (w_x_now_length : Int32) (w_x_now_shorter : Int32) (w_x_now_longer : Int32) (w_x_now_memory : Int32) (w_x_now_limit : Int32) (w_x_now_seasonDays : Int32) (w_x_now_stopped : Int32) (w_x_now_stopPart : Int32) (w_x_now_stopReason : Int32) (w_x_now_row : Nat → Int32) (w_x_history_oldest : Int32) (w_x_history_count : Int32) (w_x_history_ring_row : Nat → (Nat → Int32)) (w_x_history_ring_length : Nat → Int32) (w_x_history_ring_shorter : Nat → Int32) (w_x_history_ring_longer : Nat → Int32) (w_x_history_ring_memory : Nat → Int32) (w_x_history_ring_limit : Nat → Int32) (w_x_history_ring_seasonDays : Nat → Int32) (w_x_history_ring_stopped : Nat → Int32) (w_x_history_ring_stopPart : Nat → Int32) (w_x_history_ring_stopReason : Nat → Int32) (w_x_highs_front : Int32) (w_x_highs_end : Int32) (w_x_highs_candidates : Nat → Int32) (w_x_trade_coins : Int64) (w_x_trade_held : Int32), f_turn (iq n) (iq a) (iq b) (iq me) (iq li) (iq se) 0 sp sr row (iq o) (iq c) RR RL RS RO RM RI RE RT RW RY fr en cand cc hh (nI t) xs L = some (w_x_now_length, w_x_now_shorter, w_x_now_longer, w_x_now_memory, w_x_now_limit, w_x_now_seasonDays, w_x_now_stopped, w_x_now_stopPart, w_x_now_stopReason, w_x_now_row, w_x_history_oldest, w_x_history_count, w_x_history_ring_row, w_x_history_ring_length, w_x_history_ring_shorter, w_x_history_ring_longer, w_x_history_ring_memory, w_x_history_ring_limit, w_x_history_ring_seasonDays, w_x_history_ring_stopped, w_x_history_ring_stopPart, w_x_history_ring_stopReason, w_x_highs_front, w_x_highs_end, w_x_highs_candidates, w_x_trade_coins, w_x_trade_held) ∧ SI w_x_now_length w_x_now_shorter w_x_now_longer w_x_now_memory w_x_now_limit w_x_now_seasonDays w_x_now_stopped w_x_now_row w_x_history_oldest w_x_history_count := by
  have G1 : ¬ 2 * nI t < 0 := by
    rw [nI_iq, iq_l2, iq_mul, iq_l0, iq_lt (by omega) (by omega) (by omega) (by omega)]
    omega
  have G2 : ¬ (2 * nI t) + 1 < 0 := by
    rw [nI_iq, iq_l2, iq_mul, iq_l1, iq_add, iq_l0, iq_lt (by omega) (by omega) (by omega) (by omega)]
    omega
  obtain ⟨v, ev⟩ : ∃ v : Int32, (if 4 ≤ nI t then some (cellv xs L (2 * nI t)) else some ((cellv xs L (2 * nI t)) &&& (-16))) = some v := by
    by_cases q : 4 ≤ nI t
    · exact ⟨_, if_pos q⟩
    · exact ⟨_, if_neg q⟩
  have eT := told_eq B h sp sr
  rcases act_ok B h.2.1 v (cellv xs L ((2 * nI t) + 1)) with A0 | ⟨n', a', b', se', me', li', P', B', A1⟩
  · have eA := A0 row h o c ho hc RR RL RS RO RM RI RE RT RW RY sp sr
    obtain ⟨fr2, en2, cand2, cc2, hh2, eH⟩ := holds_ok B h (((cellv xs L ((2 * nI t) + 1)) >>> ((3 : Int32) &&& 31)) &&& 65535) fr en cand cc hh
    refine ⟨iq n, iq a, iq b, iq me, iq li, iq se, 0, sp, sr, row, iq ((o : Nat) : Int), iq ((c : Nat) : Int), RR, RL, RS, RO, RM, RI, RE, RT, RW, RY, fr2, en2, cand2, cc2, hh2, ?_, n, a, b, se, me, li, P, o, c, B, h, rfl, rfl, rfl, rfl, rfl, rfl, rfl, rfl, rfl, ho, hc⟩
    unfold f_turn
    rw [gd_of G1, ev, bd1_s, gd_of G2]
    simp only [eA, eT, eH, f_X11_savedStates, lgs, zz_one0, eq_self, if_true, if_false, bd1_s, bd6_s, bd12_s, bd20_s]
  · obtain ⟨row', o1, c1, RR1, RL1, RS1, RO1, RM1, RI1, RE1, RT1, RW1, RY1, row2, h', h2, k1, k2, k3, k4, eA, eU⟩ := act_undo A1 h ho hc RR RL RS RO RM RI RE RT RW RY sp sr
    have eT1 := told_eq B' h' sp sr
    have hsc : sc c = if c = 6 then 6 else c + 1 := rfl
    have E6 : (if (6 : Int32) ≤ iq ((c : Nat) : Int) then some (6 : Int32) else some (iq ((c : Nat) : Int) + 1)) = some (iq ((c1 : Nat) : Int)) := by
      by_cases q : c = 6
      · rw [k4, hsc, if_pos q, if_pos (show (6 : Int32) ≤ iq ((c : Nat) : Int) by rw [iq_l6, iq_le (by omega) (by omega) (by omega) (by omega)]; omega)]
        rfl
      · rw [k4, hsc, if_neg q, if_neg (show ¬ (6 : Int32) ≤ iq ((c : Nat) : Int) by rw [iq_l6, iq_le (by omega) (by omega) (by omega) (by omega)]; omega), iq_l1, iq_add]
        rfl
    by_cases cb : ((v >>> ((20 : Int32) &&& 31)) &&& 1) = 0
    · have kb := eq_true cb
      have E7 : (iq ((c1 - 1 : Nat) : Int) = iq ((c1 : Nat) : Int) - 1) = True := eq_true (by rw [iq_l1, iq_sub, show ((c1 : Int) - 1) = ((c1 - 1 : Nat) : Int) by omega])
      have eT2 := told_eq B h2 sp sr
      obtain ⟨row3, o3, c3, RR3, RL3, RS3, RO3, RM3, RI3, RE3, RT3, RW3, RY3, row4, h3, h4, l1, l2, l3, l4, eA3, eU3⟩ := act_undo A1 h2 k1 (show c1 - 1 ≤ 6 by omega) RR1 RL1 RS1 RO1 RM1 RI1 RE1 RT1 RW1 RY1 sp sr
      have eT3 := told_eq B' h3 sp sr
      obtain ⟨fr2, en2, cand2, cc2, hh2, eH⟩ := holds_ok B' h3 (((cellv xs L ((2 * nI t) + 1)) >>> ((3 : Int32) &&& 31)) &&& 65535) fr en cand cc hh
      refine ⟨iq n', iq a', iq b', iq me', iq li', iq se', 0, sp, sr, row3, iq ((o3 : Nat) : Int), iq ((c3 : Nat) : Int), RR3, RL3, RS3, RO3, RM3, RI3, RE3, RT3, RW3, RY3, fr2, en2, cand2, cc2, hh2, ?_, n', a', b', se', me', li', P', o3, c3, B', h3, rfl, rfl, rfl, rfl, rfl, rfl, rfl, rfl, rfl, l1, l3⟩
      unfold f_turn
      rw [gd_of G1, ev, bd1_s, gd_of G2]
      simp only [eA, eT, eT1, E6, kb, eU, E7, eT2, eA3, eT3, eH, f_X11_savedStates, lgs, zz_one0, eq_self, if_true, if_false, bd1_s, bd6_s, bd12_s, bd20_s]
    · have kb := eq_false cb
      obtain ⟨fr2, en2, cand2, cc2, hh2, eH⟩ := holds_ok B' h' (((cellv xs L ((2 * nI t) + 1)) >>> ((3 : Int32) &&& 31)) &&& 65535) fr en cand cc hh
      refine ⟨iq n', iq a', iq b', iq me', iq li', iq se', 0, sp, sr, row', iq ((o1 : Nat) : Int), iq ((c1 : Nat) : Int), RR1, RL1, RS1, RO1, RM1, RI1, RE1, RT1, RW1, RY1, fr2, en2, cand2, cc2, hh2, ?_, n', a', b', se', me', li', P', o1, c1, B', h', rfl, rfl, rfl, rfl, rfl, rfl, rfl, rfl, rfl, k1, k3⟩
      unfold f_turn
      rw [gd_of G1, ev, bd1_s, gd_of G2]
      simp only [eA, eT, eT1, E6, kb, eH, f_X11_savedStates, lgs, zz_one0, eq_self, if_true, if_false, bd1_s, bd6_s, bd12_s, bd20_s]
