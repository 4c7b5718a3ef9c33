/-! p53: what the law's 'holds' asks is always so -/
theorem bt_least (me : Int) (P : Nat → Int) (a b se n : Nat) : ∀ k q : Nat, q ≤ k → er me P a b se (bt me P a b se n k) n ≤ er me P a b se q n := by
  intro k
  induction k with
  | zero =>
    intro q hq
    obtain rfl : q = 0 := by omega
    exact Int.le_refl _
  | succ k ih =>
    intro q hq
    have e : bt me P a b se n (k + 1) = if er me P a b se (bt me P a b se n k) n ≤ er me P a b se (k + 1) n then bt me P a b se n k else k + 1 := rfl
    by_cases c : er me P a b se (bt me P a b se n k) n ≤ er me P a b se (k + 1) n
    · rw [e, if_pos c]
      by_cases hk : q ≤ k
      · exact ih q hk
      · obtain rfl : q = k + 1 := by omega
        exact c
    · rw [e, if_neg c]
      by_cases hk : q ≤ k
      · have := ih q hk
        omega
      · obtain rfl : q = k + 1 := by omega
        exact Int.le_refl _
theorem zz_one0 : ((1 : Int32) = 0) = False := eq_false (by decide)
theorem best_loop {row : Nat → Int32} {n : Nat} {P : Nat → Int} (h : CR row n P) {me : Int} (hm1 : 0 ≤ me) (hm2 : me ≤ 9) {a b se : Nat} (ha : 1 ≤ a) (ha2 : a ≤ 60) (hb : 1 ≤ b) (hb2 : b ≤ 60) (h1 : 2 ≤ se) (h2 : se ≤ 7) (h3 : 2 ≤ n) : l_L_holds_403 (iq n) (iq a) (iq b) (iq me) (iq se) row (iq ((bt me P a b se n 3 : Nat) : Int)) 1000 1 0 = some 1 := by
  have hn := h.1
  have hbt := bt_le me P a b se n 3
  have E : ∀ q : Nat, q ≤ 3 → f_X11_error (iq n) (iq a) (iq b) (iq me) (iq se) row (iq ((q : Nat) : Int)) = some (iq (er me P a b se q n)) := fun q hq => y_error h hm1 hm2 ha ha2 hb hb2 h1 h2 hq h3
  have key := loop_run (fun f k => l_L_holds_403 (iq n) (iq a) (iq b) (iq me) (iq se) row (iq ((bt me P a b se n 3 : Nat) : Int)) f 1 (iq ((k : Nat) : Int))) 4 (1 : Int32) (by
    intro f k hk
    show l_L_holds_403 (iq n) (iq a) (iq b) (iq me) (iq se) row (iq ((bt me P a b se n 3 : Nat) : Int)) (f + 1) 1 (iq ((k : Nat) : Int)) = l_L_holds_403 (iq n) (iq a) (iq b) (iq me) (iq se) row (iq ((bt me P a b se n 3 : Nat) : Int)) f 1 (iq ((k + 1 : Nat) : Int))
    have g := bt_least me P a b se n 3 k (by omega)
    have g1 := er_bd h.2.1 h3 hn hm1 hm2 (a := a) (b := b) (se := se) (q := bt me P a b se n 3) ha hb
    have g2 := er_bd h.2.1 h3 hn hm1 hm2 (a := a) (b := b) (se := se) (q := k) ha hb
    have e1 : iq ((k : Nat) : Int) + 1 = iq ((k + 1 : Nat) : Int) := by rw [iq_l1, iq_add]; rfl
    rw [l_L_holds_403, if_neg (show ¬ (4 : Int32) ≤ iq ((k : Nat) : Int) by rw [iq_l4, iq_le (by omega) (by omega) (by omega) (by omega)]; omega), if_neg (show ¬ (1 : Int32) = 0 by decide), E _ hbt, bd1_s, E k (by omega), bd1_s, if_neg (show ¬ iq (er me P a b se k n) < iq (er me P a b se (bt me P a b se n 3) n) by rw [iq_lt (by omega) (by omega) (by omega) (by omega)]; omega), e1]) (by
    intro f
    show l_L_holds_403 (iq n) (iq a) (iq b) (iq me) (iq se) row (iq ((bt me P a b se n 3 : Nat) : Int)) (f + 1) 1 (iq ((4 : Nat) : Int)) = some 1
    rw [l_L_holds_403, if_pos (show (4 : Int32) ≤ iq ((4 : Nat) : Int) by decide)]) 1000 0 (by omega) (by omega)
  exact key
theorem sp_ge {n : Nat} {P : Nat → Int} (h : PB n P) {me : Int} (h1 : 0 ≤ me) (h2 : me ≤ 9) : ∀ {k : Nat}, k < n → 1000 ≤ sp me P k := by
  intro k
  induction k with
  | zero => intro hk; have := h 0 hk; unfold sp; omega
  | succ k ih =>
    intro hk
    have h3 := ih (by omega)
    have h5 := h (k + 1) hk
    have h6 : 10000 ≤ me * sp me P k + (10 - me) * 1000 * P (k + 1) := by
      generalize sp me P k = x at h3
      generalize P (k + 1) = p at h5
      have h : me = 0 ∨ me = 1 ∨ me = 2 ∨ me = 3 ∨ me = 4 ∨ me = 5 ∨ me = 6 ∨ me = 7 ∨ me = 8 ∨ me = 9 := by omega
      rcases h with h | h | h | h | h | h | h | h | h | h <;> subst h <;> omega
    unfold sp
    omega
theorem mn_1 (P : Nat → Int) (d : Nat) : mn P d 1 = 1000 * P d := by
  have e1 : fw d 1 = d := by unfold fw; omega
  have e2 : nw d 1 = 1 := by unfold nw; rw [e1]; omega
  have e3 : sa P d 1 = P d := by
    show 0 + P (d + 0) = P d
    rw [Nat.add_zero]; omega
  unfold mn
  rw [e1, e2, e3, show ((1 : Nat) : Int) = 1 from rfl, Int.ediv_one]
theorem co_sign (P : Nat → Int) (a b : Nat) : ∀ d : Nat, (co P a b d = 1 → mn P d b < mn P d a) ∧ (co P a b d = -1 → mn P d a < mn P d b) := by
  intro d
  cases d with
  | zero => exact ⟨fun h => by have h : (0 : Int) = 1 := h; omega, fun h => by have h : (0 : Int) = -1 := h; omega⟩
  | succ d =>
    have e : co P a b (d + 1) = if sd P (d + 1) a b = sd P d a b then 0 else sd P (d + 1) a b := rfl
    have s : sd P (d + 1) a b = if mn P (d + 1) a = mn P (d + 1) b then 0 else if mn P (d + 1) a < mn P (d + 1) b then -1 else 1 := rfl
    have k1 : sd P (d + 1) a b = 1 → mn P (d + 1) b < mn P (d + 1) a := by
      intro h
      rw [s] at h
      split at h
      · omega
      · split at h <;> omega
    have k2 : sd P (d + 1) a b = -1 → mn P (d + 1) a < mn P (d + 1) b := by
      intro h
      rw [s] at h
      split at h
      · omega
      · split at h <;> omega
    by_cases c : sd P (d + 1) a b = sd P d a b
    · rw [if_pos c] at e
      rw [e]
      exact ⟨fun h => by omega, fun h => by omega⟩
    · rw [if_neg c] at e
      rw [e]
      exact ⟨k1, k2⟩
theorem tr_down {P : Nat → Int} {a b d : Nat} (h : co P a b d = -1) : (tr P a b (d + 1)).2 = 0 := by
  have e : tr P a b (d + 1) = if co P a b d = 1 then ((tr P a b d).1 - mb (tr P a b d).1 (tr P a b d).2 (P d) * P d, (tr P a b d).2 + mb (tr P a b d).1 (tr P a b d).2 (P d)) else if co P a b d = -1 then ((tr P a b d).1 + (tr P a b d).2 * P d, 0) else tr P a b d := rfl
  rw [e, if_neg (show ¬ co P a b d = 1 by omega), if_pos h]
theorem wv_bd {n : Nat} {P : Nat → Int} (h : PB n P) (hn : n ≤ 60) (a b : Nat) {d : Nat} (hd : d < n) : 0 ≤ wv P a b d ∧ wv P a b d ≤ 1000000000 := by
  obtain ⟨b1, b2, b3, b4⟩ := tr_bd h a b (k := d + 1) (by omega)
  have hp := hp_bd b3 b4 (h d hd).1 (h d hd).2
  unfold wv
  omega
theorem cr_off {n : Nat} {P : Nat → Int} {d w : Nat} {lim : Int} (hl : 0 ≤ lim) (h : cr P d w lim = 1) : ¬ md P d w = P d := by
  intro e
  unfold cr at h
  rw [e] at h
  rw [if_neg (by omega)] at h
  omega
theorem fl_less {n : Nat} {P : Nat → Int} (h : PB n P) : 0 ≤ fl P n ∧ fl P n ≤ 9998 := by
  have h1 := fl_bd h (Nat.le_refl n)
  rcases fl_ex h (Nat.le_refl n) with e | ⟨i, j, h2, h3, e⟩
  · omega
  · have h4 := h i (by omega)
    have h5 := h j h3
    omega
set_option maxHeartbeats 16000000 in
set_option maxRecDepth 20000 in
theorem holds_step {row : Nat → Int32} {n a b se : Nat} {me li : Int} {P : Nat → Int} (B : BD n a b se me li) (h : CR row n P) {d : Nat} (hd : d < n) (x1 j4 : Int32) (f : Nat) (fr en : Int32) (cand : Nat → Int32) (cc : Int64) (hh : Int32) : ∃ (fr2 en2 : Int32) (cand2 : Nat → Int32) (cc2 : Int64) (hh2 : Int32), l_L_holds_95 (iq n) (iq a) (iq b) (iq me) (iq li) (iq se) row x1 (iq n) j4 (f + 1) (iq (cs_ P a li d)) (iq (ck P a b d)) (iq ((d : Nat) : Int)) fr en cand cc hh = l_L_holds_95 (iq n) (iq a) (iq b) (iq me) (iq li) (iq se) row x1 (iq n) j4 f (iq (cs_ P a li (d + 1))) (iq (ck P a b (d + 1))) (iq ((d + 1 : Nat) : Int)) fr2 en2 cand2 cc2 hh2 := by
  obtain ⟨b1, b2, b3, b4, b5, b6, b7, b8, b9, b10, b11⟩ := B
  have hn := h.1
  have a60 : a ≤ 60 := by omega
  have bb1 : 1 ≤ b := by omega
  have bb2 : b ≤ 60 := by omega
  obtain ⟨fr2, en2, cand2, eHB⟩ := y_highBy h hd bb1 bb2 fr en cand
  obtain ⟨z, hz, eL⟩ := low_lit (x1 + iq ((d : Nat) : Int)) 20 20 rfl (by omega) (by omega)
  refine ⟨fr2, en2, cand2, lq (tr P a b (d + 1)).1, iq (tr P a b (d + 1)).2, ?_⟩
  have hPd := h.2.1 d hd
  have g1 := mn_bd h.2.1 hd (w := a) b2
  have g2 := mn_bd h.2.1 hd (w := b) bb1
  have g3 := sp_ge h.2.1 b6 b7 hd
  have g4 := sp_bd h.2.1 b6 b7 hd
  have hfn := fw_nw d b
  have g5 := gm_le h.2.1 (a := fw d b) (k := nw d b) (by omega)
  have hnp := nw_pos (d := d) bb1
  have g6 : P d ≤ gm P (fw d b) (nw d b) := by
    have := (gm_ge (P := P) (a := fw d b) (k := nw d b)).2 (d - fw d b) (by omega)
    rw [show fw d b + (d - fw d b) = d by omega] at this
    exact this
  obtain ⟨t1, t2, t3, t4⟩ := tr_bd h.2.1 a b (k := d + 1) (by omega)
  have g7 := wv_bd h.2.1 hn a b hd
  have g8 := md_bd h.2.1 hd (w := a) b2
  have g9 := co_sign P a b d
  have g10 := co_bd P a b d
  have g11 := cr_le P d a li
  have g12 := cs_succ P a li d
  have g13 : ck P a b (d + 1) = if co P a b d = 0 then ck P a b d else ck P a b d + 1 := rfl
  have eN : ¬ iq ((n : Nat) : Int) ≤ iq ((d : Nat) : Int) := by rw [iq_le (by omega) (by omega) (by omega) (by omega)]; omega
  have eC := y_crossing h hd b2 a60 bb1 bb2
  have eI := y_isCrease h hd b2 a60 b8 b9
  have eM1 := y_mean h hd (w := a) b2 (by omega)
  have eM2 := y_mean h hd (w := b) bb1 (by omega)
  have eW : (1 : Int32) + iq ((z : Nat) : Int) = iq ((1 + z : Nat) : Int) := by rw [iq_l1, iq_add]; rfl
  have eM3 := y_mean h hd (w := 1 + z) (by omega) (by omega)
  have eS3 := y_bySums h hd (w := 1 + z) (by omega) (by omega)
  have eM4 : f_X11_mean (iq n) row (iq ((d : Nat) : Int)) 1 = some (iq (1000 * P d)) := by
    have e := y_mean h hd (w := 1) (by omega) (by omega)
    rw [mn_1] at e
    exact e
  have eP := y_priceOf h hd
  have eT : (1000 : Int32) * iq (P d) = iq (1000 * P d) := by rw [iq_l1000, iq_mul]
  have eSm := y_smoothed h b6 b7 hd
  have eSb := y_smoothedBack h b6 b7 hd
  have q1 : (iq (sp me P d) < 1000) = False := by rw [iq_l1000, iq_lt (by omega) (by omega) (by omega) (by omega)]; exact eq_false (by omega)
  have eH := y_high h hd bb1 bb2
  have q2 : (iq (gm P (fw d b) (nw d b)) < iq (P d)) = False := by rw [iq_lt (by omega) (by omega) (by omega) (by omega)]; exact eq_false (by omega)
  have ePc : ∀ (cc : Int64) (hh : Int32), f_X11_pieces (iq n) (iq a) (iq b) row cc hh (iq ((d : Nat) : Int)) = some (iq (tr P a b (d + 1)).2, lq (tr P a b (d + 1)).1, iq (tr P a b (d + 1)).2) := fun cc hh => y_pieces h hd b2 a60 bb1 bb2 cc hh
  have q3 : (iq (tr P a b (d + 1)).2 < 0) = False := by rw [iq_l0, iq_lt (by omega) (by omega) (by omega) (by omega)]; exact eq_false (by omega)
  have q4 : ((999 : Int32) < iq (tr P a b (d + 1)).2) = False := by rw [iq_l999, iq_lt (by omega) (by omega) (by omega) (by omega)]; exact eq_false (by omega)
  have eWo : ∀ (cc : Int64) (hh : Int32), f_X11_worth (iq n) (iq a) (iq b) row cc hh (iq ((d : Nat) : Int)) = some (lq (wv P a b d), lq (tr P a b (d + 1)).1, iq (tr P a b (d + 1)).2) := fun cc hh => y_worth h hd b2 a60 bb1 bb2 cc hh
  have q5 : (lg_cmp (lq (wv P a b d)) 0 < 0) = False := by
    refine eq_false (fun q => ?_)
    have q := (lg_cmp_lt _ _).mp q
    rw [lq_l0, lq_lt (by omega) (by omega) (by omega) (by omega)] at q
    omega
  have eMd := y_median h hd (w := a) b2 a60
  have eD : iq ((d : Nat) : Int) + 1 = iq ((d + 1 : Nat) : Int) := by rw [iq_l1, iq_add]; rfl
  rw [l_L_holds_95, if_neg eN]
  have hc : co P a b d = 0 ∨ co P a b d = 1 ∨ co P a b d = -1 := by omega
  have hr : cr P d a li = 0 ∨ cr P d a li = 1 := by omega
  rcases hc with hc | hc | hc <;> rcases hr with hr | hr
  · have k1 : (iq (co P a b d) = 0) = True := by rw [hc]; exact eq_true (by decide)
    have k2 : (iq (co P a b d) = -1) = False := by rw [hc]; exact eq_false (by decide)
    have k3 : iq (ck P a b d) + 0 = iq (ck P a b (d + 1)) := by rw [g13, if_pos hc, iq_l0, iq_add, Int.add_zero]
    have r1 : (iq (cr P d a li) = 0) = True := by rw [hr]; exact eq_true (by decide)
    have r2 : iq (cs_ P a li d) + 0 = iq (cs_ P a li (d + 1)) := by rw [g12, hr, iq_l0, iq_add]
    simp only [k1, k2, k3, r1, r2, eL, eC, eI, eM1, eM2, eW, eM3, eS3, eM4, eP, eT, eSm, eSb, q1, eH, eHB, q2, ePc, q3, q4, eWo, q5, eMd, eD, f_X11_shortWindow, f_X11_longWindow, zz_one0, eq_self, if_true, if_false, bd1_s, bd3_s, bd4_s]
  · have k1 : (iq (co P a b d) = 0) = True := by rw [hc]; exact eq_true (by decide)
    have k2 : (iq (co P a b d) = -1) = False := by rw [hc]; exact eq_false (by decide)
    have k3 : iq (ck P a b d) + 0 = iq (ck P a b (d + 1)) := by rw [g13, if_pos hc, iq_l0, iq_add, Int.add_zero]
    have r1 : (iq (cr P d a li) = 0) = False := by rw [hr]; exact eq_false (by decide)
    have r2 : iq (cs_ P a li d) + 1 = iq (cs_ P a li (d + 1)) := by rw [g12, hr, iq_l1, iq_add]
    have r3 : (iq (md P d a) = iq (P d)) = False := by rw [iq_eq (by omega) (by omega) (by omega) (by omega)]; exact eq_false (cr_off (n := n) b8 hr)
    simp only [k1, k2, k3, r1, r2, r3, eL, eC, eI, eM1, eM2, eW, eM3, eS3, eM4, eP, eT, eSm, eSb, q1, eH, eHB, q2, ePc, q3, q4, eWo, q5, eMd, eD, f_X11_shortWindow, f_X11_longWindow, zz_one0, eq_self, if_true, if_false, bd1_s, bd3_s, bd4_s]
  · have k1 : (iq (co P a b d) = 0) = False := by rw [hc]; exact eq_false (by decide)
    have k2 : (iq (co P a b d) = -1) = False := by rw [hc]; exact eq_false (by decide)
    have k3 : iq (ck P a b d) + 1 = iq (ck P a b (d + 1)) := by rw [g13, if_neg (show ¬ co P a b d = 0 by omega), iq_l1, iq_add]
    have k4 : (iq (co P a b d) * (iq (mn P d a) - iq (mn P d b)) ≤ 0) = False := by
      have g := g9.1 hc
      rw [hc, iq_sub, iq_mul, iq_l0, iq_le (by omega) (by omega) (by omega) (by omega)]
      exact eq_false (by omega)
    have r1 : (iq (cr P d a li) = 0) = True := by rw [hr]; exact eq_true (by decide)
    have r2 : iq (cs_ P a li d) + 0 = iq (cs_ P a li (d + 1)) := by rw [g12, hr, iq_l0, iq_add]
    simp only [k1, k2, k3, k4, r1, r2, eL, eC, eI, eM1, eM2, eW, eM3, eS3, eM4, eP, eT, eSm, eSb, q1, eH, eHB, q2, ePc, q3, q4, eWo, q5, eMd, eD, f_X11_shortWindow, f_X11_longWindow, zz_one0, eq_self, if_true, if_false, bd1_s, bd3_s, bd4_s]
  · have k1 : (iq (co P a b d) = 0) = False := by rw [hc]; exact eq_false (by decide)
    have k2 : (iq (co P a b d) = -1) = False := by rw [hc]; exact eq_false (by decide)
    have k3 : iq (ck P a b d) + 1 = iq (ck P a b (d + 1)) := by rw [g13, if_neg (show ¬ co P a b d = 0 by omega), iq_l1, iq_add]
    have k4 : (iq (co P a b d) * (iq (mn P d a) - iq (mn P d b)) ≤ 0) = False := by
      have g := g9.1 hc
      rw [hc, iq_sub, iq_mul, iq_l0, iq_le (by omega) (by omega) (by omega) (by omega)]
      exact eq_false (by omega)
    have r1 : (iq (cr P d a li) = 0) = False := by rw [hr]; exact eq_false (by decide)
    have r2 : iq (cs_ P a li d) + 1 = iq (cs_ P a li (d + 1)) := by rw [g12, hr, iq_l1, iq_add]
    have r3 : (iq (md P d a) = iq (P d)) = False := by rw [iq_eq (by omega) (by omega) (by omega) (by omega)]; exact eq_false (cr_off (n := n) b8 hr)
    simp only [k1, k2, k3, k4, r1, r2, r3, eL, eC, eI, eM1, eM2, eW, eM3, eS3, eM4, eP, eT, eSm, eSb, q1, eH, eHB, q2, ePc, q3, q4, eWo, q5, eMd, eD, f_X11_shortWindow, f_X11_longWindow, zz_one0, eq_self, if_true, if_false, bd1_s, bd3_s, bd4_s]
  · have k1 : (iq (co P a b d) = 0) = False := by rw [hc]; exact eq_false (by decide)
    have k2 : (iq (co P a b d) = -1) = True := by rw [hc]; exact eq_true (by decide)
    have k3 : iq (ck P a b d) + 1 = iq (ck P a b (d + 1)) := by rw [g13, if_neg (show ¬ co P a b d = 0 by omega), iq_l1, iq_add]
    have k4 : (iq (co P a b d) * (iq (mn P d a) - iq (mn P d b)) ≤ 0) = False := by
      have g := g9.2 hc
      rw [hc, iq_sub, iq_mul, iq_l0, iq_le (by omega) (by omega) (by omega) (by omega)]
      exact eq_false (by omega)
    have k5 : (iq (tr P a b (d + 1)).2 = 0) = True := by rw [tr_down hc]; exact eq_true (by decide)
    have r1 : (iq (cr P d a li) = 0) = True := by rw [hr]; exact eq_true (by decide)
    have r2 : iq (cs_ P a li d) + 0 = iq (cs_ P a li (d + 1)) := by rw [g12, hr, iq_l0, iq_add]
    simp only [k1, k2, k3, k4, k5, r1, r2, eL, eC, eI, eM1, eM2, eW, eM3, eS3, eM4, eP, eT, eSm, eSb, q1, eH, eHB, q2, ePc, q3, q4, eWo, q5, eMd, eD, f_X11_shortWindow, f_X11_longWindow, zz_one0, eq_self, if_true, if_false, bd1_s, bd3_s, bd4_s]
  · have k1 : (iq (co P a b d) = 0) = False := by rw [hc]; exact eq_false (by decide)
    have k2 : (iq (co P a b d) = -1) = True := by rw [hc]; exact eq_true (by decide)
    have k3 : iq (ck P a b d) + 1 = iq (ck P a b (d + 1)) := by rw [g13, if_neg (show ¬ co P a b d = 0 by omega), iq_l1, iq_add]
    have k4 : (iq (co P a b d) * (iq (mn P d a) - iq (mn P d b)) ≤ 0) = False := by
      have g := g9.2 hc
      rw [hc, iq_sub, iq_mul, iq_l0, iq_le (by omega) (by omega) (by omega) (by omega)]
      exact eq_false (by omega)
    have k5 : (iq (tr P a b (d + 1)).2 = 0) = True := by rw [tr_down hc]; exact eq_true (by decide)
    have r1 : (iq (cr P d a li) = 0) = False := by rw [hr]; exact eq_false (by decide)
    have r2 : iq (cs_ P a li d) + 1 = iq (cs_ P a li (d + 1)) := by rw [g12, hr, iq_l1, iq_add]
    have r3 : (iq (md P d a) = iq (P d)) = False := by rw [iq_eq (by omega) (by omega) (by omega) (by omega)]; exact eq_false (cr_off (n := n) b8 hr)
    simp only [k1, k2, k3, k4, k5, r1, r2, r3, eL, eC, eI, eM1, eM2, eW, eM3, eS3, eM4, eP, eT, eSm, eSb, q1, eH, eHB, q2, ePc, q3, q4, eWo, q5, eMd, eD, f_X11_shortWindow, f_X11_longWindow, zz_one0, eq_self, if_true, if_false, bd1_s, bd3_s, bd4_s]
set_option maxHeartbeats 4000000 in
theorem holds_end {row : Nat → Int32} {n a b se : Nat} {me li : Int} {P : Nat → Int} (B : BD n a b se me li) (h : CR row n P) (x1 : Int32) (f : Nat) (fr en : Int32) (cand : Nat → Int32) (cc : Int64) (hh : Int32) : l_L_holds_95 (iq n) (iq a) (iq b) (iq me) (iq li) (iq se) row x1 (iq n) 1 (f + 1) (iq (cs_ P a li n)) (iq (ck P a b n)) (iq ((n : Nat) : Int)) fr en cand cc hh = some (1, fr, en, cand, cc, hh) := by
  obtain ⟨b1, b2, b3, b4, b5, b6, b7, b8, b9, b10, b11⟩ := B
  have hn := h.1
  have a60 : a ≤ 60 := by omega
  have bb1 : 1 ≤ b := by omega
  have bb2 : b ≤ 60 := by omega
  have eCs := y_creases h b2 a60 b8 b9
  have eCk := y_crossings h b2 a60 bb1 bb2
  have eN : iq ((n : Nat) : Int) ≤ iq ((n : Nat) : Int) := by rw [iq_le (by omega) (by omega) (by omega) (by omega)]; exact Int.le_refl _
  rw [l_L_holds_95, if_pos eN]
  by_cases c : n ≤ 1
  · have k1 : (iq ((n : Nat) : Int) ≤ 1) = True := by rw [iq_l1, iq_le (by omega) (by omega) (by omega) (by omega)]; exact eq_true (by omega)
    by_cases c2 : n = 0
    · have k2 : (iq ((n : Nat) : Int) = 0) = True := by rw [iq_l0, iq_eq (by omega) (by omega) (by omega) (by omega)]; exact eq_true (by omega)
      simp only [k1, k2, zz_one0, eCs, eCk, eq_self, if_true, if_false, bd1_s]
    · have k2 : (iq ((n : Nat) : Int) = 0) = False := by rw [iq_l0, iq_eq (by omega) (by omega) (by omega) (by omega)]; exact eq_false (by omega)
      have eC : f_X11_crossing (iq n) (iq a) (iq b) row 0 = some 0 := y_crossing h (d := 0) (by omega) b2 a60 bb1 bb2
      simp only [k1, k2, zz_one0, eCs, eCk, eC, eq_self, if_true, if_false, bd1_s]
  · have k1 : (iq ((n : Nat) : Int) ≤ 1) = False := by rw [iq_l1, iq_le (by omega) (by omega) (by omega) (by omega)]; exact eq_false (by omega)
    have k2 : (iq ((n : Nat) : Int) = 0) = False := by rw [iq_l0, iq_eq (by omega) (by omega) (by omega) (by omega)]; exact eq_false (by omega)
    have eC : f_X11_crossing (iq n) (iq a) (iq b) row 0 = some 0 := y_crossing h (d := 0) (by omega) b2 a60 bb1 bb2
    have eB := y_best h b6 b7 b2 a60 bb1 bb2 b10 b11 (by omega)
    have eQ := best_loop h b6 b7 b2 a60 bb1 bb2 b10 b11 (by omega)
    simp only [k1, k2, zz_one0, eB, eQ, eCs, eCk, eC, eq_self, if_true, if_false, bd1_s]
theorem holds_loop {row : Nat → Int32} {n a b se : Nat} {me li : Int} {P : Nat → Int} (B : BD n a b se me li) (h : CR row n P) (x1 : Int32) : ∀ (m f d : Nat) (fr en : Int32) (cand : Nat → Int32) (cc : Int64) (hh : Int32), d + m = n → m < f → ∃ (fr2 en2 : Int32) (cand2 : Nat → Int32) (cc2 : Int64) (hh2 : Int32), l_L_holds_95 (iq n) (iq a) (iq b) (iq me) (iq li) (iq se) row x1 (iq n) 1 f (iq (cs_ P a li d)) (iq (ck P a b d)) (iq ((d : Nat) : Int)) fr en cand cc hh = some (1, fr2, en2, cand2, cc2, hh2) := by
  intro m
  induction m with
  | zero =>
    intro f d fr en cand cc hh e hf
    obtain ⟨g, rfl⟩ : ∃ g, f = g + 1 := ⟨f - 1, by omega⟩
    obtain rfl : d = n := by omega
    exact ⟨fr, en, cand, cc, hh, holds_end B h x1 g fr en cand cc hh⟩
  | succ m ih =>
    intro f d fr en cand cc hh e hf
    obtain ⟨g, rfl⟩ : ∃ g, f = g + 1 := ⟨f - 1, by omega⟩
    obtain ⟨fr2, en2, cand2, cc2, hh2, e1⟩ := holds_step B h (d := d) (by omega) x1 1 g fr en cand cc hh
    obtain ⟨fr3, en3, cand3, cc3, hh3, e2⟩ := ih g (d + 1) fr2 en2 cand2 cc2 hh2 (by omega) (by omega)
    exact ⟨fr3, en3, cand3, cc3, hh3, e1.trans e2⟩
set_option maxHeartbeats 4000000 in
theorem holds_ok {row : Nat → Int32} {n a b se : Nat} {me li : Int} {P : Nat → Int} (B : BD n a b se me li) (h : CR row n P) (x1 : Int32) (fr en : Int32) (cand : Nat → Int32) (cc : Int64) (hh : Int32) : ∃ (fr2 en2 : Int32) (cand2 : Nat → Int32) (cc2 : Int64) (hh2 : Int32), f_L_holds (iq n) (iq a) (iq b) (iq me) (iq li) (iq se) row fr en cand cc hh x1 = some (1, fr2, en2, cand2, cc2, hh2) := by
  have hn := h.1
  obtain ⟨fr2, en2, cand2, cc2, hh2, e⟩ := holds_loop B h x1 n 1000 0 fr en cand cc hh (by omega) (by omega)
  refine ⟨fr2, en2, cand2, cc2, hh2, ?_⟩
  rw [show cs_ P a li 0 = 0 from rfl, show ck P a b 0 = 0 from rfl, show ((0 : Nat) : Int) = 0 from rfl, ← iq_l0] at e
  obtain ⟨b1, b2, b3, b4, b5, b6, b7, b8, b9, b10, b11⟩ := B
  have eF := y_fall h
  have eG := y_fallPairs h
  have eR := y_rise h
  have eS := y_share h (w := a) (lim := li) b2 (by omega) b8 b9
  obtain ⟨s1, s2, s3⟩ := okw_shr h.2.1 (w := a) (lim := li) hn b2 b8
  have g1 := fl_less h.2.1
  have g2 := rl_bd P (n - 1)
  have q1 : (iq ((b : Nat) : Int) ≤ iq ((a : Nat) : Int)) = False := by rw [iq_le (by omega) (by omega) (by omega) (by omega)]; exact eq_false (by omega)
  have q2 : (iq (fl P n) < 0) = False := by rw [iq_l0, iq_lt (by omega) (by omega) (by omega) (by omega)]; exact eq_false (by omega)
  have q3 : ((9999 : Int32) ≤ iq (fl P n)) = False := by rw [iq_l9999, iq_le (by omega) (by omega) (by omega) (by omega)]; exact eq_false (by omega)
  have q4 : ((Op.cmpValue (FP.dcmp (shr P a li n) FP.dconst0) CmpOp.l) < 0) = False := eq_false s2
  have q5 : (0 < (Op.cmpValue (FP.dcmp (shr P a li n) FP.dconst1) CmpOp.g)) = False := eq_false s3
  unfold f_L_holds
  by_cases c : n = 0
  · have k1 : (iq ((n : Nat) : Int) = 0) = True := by rw [iq_l0, iq_eq (by omega) (by omega) (by omega) (by omega)]; exact eq_true (by omega)
    have k2 : ((0 : Int32) < iq (rl P (n - 1))) = False := by rw [iq_l0, iq_lt (by omega) (by omega) (by omega) (by omega)]; exact eq_false (by omega)
    simp only [f_X11_days, f_X11_shortWindow, f_X11_longWindow, q1, eF, eG, q2, q3, eR, k1, k2, eS, q4, q5, e, eq_self, if_true, if_false, bd1_s]
  · have k1 : (iq ((n : Nat) : Int) = 0) = False := by rw [iq_l0, iq_eq (by omega) (by omega) (by omega) (by omega)]; exact eq_false (by omega)
    have k3 : iq ((n : Nat) : Int) - 1 = iq ((n - 1 : Nat) : Int) := by rw [iq_l1, iq_sub, show ((n : Int) - 1) = ((n - 1 : Nat) : Int) by omega]
    have k2 : (iq ((n - 1 : Nat) : Int) < iq (rl P (n - 1))) = False := by rw [iq_lt (by omega) (by omega) (by omega) (by omega)]; exact eq_false (by omega)
    simp only [f_X11_days, f_X11_shortWindow, f_X11_longWindow, q1, eF, eG, q2, q3, eR, k1, k3, k2, eS, q4, q5, e, eq_self, if_true, if_false, bd1_s]
