/-- what the law tells of a state -/
def BD (n a b se : Nat) (me li : Int) : Prop := n ≤ 30 ∧ 1 ≤ a ∧ a ≤ 10 ∧ a < b ∧ b ≤ 20 ∧ 0 ≤ me ∧ me ≤ 9 ∧ 0 ≤ li ∧ li ≤ 9999 ∧ 2 ≤ se ∧ se ≤ 7
def tld (me : Int) (P : Nat → Int) : Nat → Nat → Int64 → Int64
  | 0, _, h => h
  | m + 1, d, h => tld me P m (d + 1) ((31 * ((31 * h) + w6 (P d))) + w6 (sp me P d))
def TO (n a b se : Nat) (me li : Int) (P : Nat → Int) : Int64 := 31 * tld me P n 0 ((31 * ((31 * ((31 * ((31 * ((31 * 3) + w6 n)) + w6 a)) + w6 b)) + w6 se)) + w6 (cs_ P a li n)) + Int32.toInt64 (0 : Int32)
theorem told_loop {row : Nat → Int32} {n : Nat} {P : Nat → Int} (h : CR row n P) {me : Int} (h1 : 0 ≤ me) (h2 : me ≤ 9) : ∀ (m f d : Nat) (x : Int64), d + m = n → m < f → l_L_told_60 (iq n) (iq me) row f x (iq d) = some (tld me P m d x) := by
  have hn := h.1
  intro m
  induction m with
  | zero =>
    intro f d x e hf
    obtain ⟨g, rfl⟩ : ∃ g, f = g + 1 := ⟨f - 1, by omega⟩
    rw [l_L_told_60, f_X11_days, bd1_s, if_pos (by rw [iq_le (by omega) (by omega) (by omega) (by omega)]; omega)]
    rfl
  | succ m ih =>
    intro f d x e hf
    obtain ⟨g, rfl⟩ : ∃ g, f = g + 1 := ⟨f - 1, by omega⟩
    have hd : d < n := by omega
    have e1 : iq ((d : Nat) : Int) + 1 = iq ((d + 1 : Nat) : Int) := by rw [iq_l1, iq_add]; rfl
    rw [l_L_told_60, f_X11_days, bd1_s, if_neg (by rw [iq_le (by omega) (by omega) (by omega) (by omega)]; omega), y_priceOf h hd, bd1_s, y_smoothed h h1 h2 hd, bd1_s, e1]
    exact ih g (d + 1) _ (by omega) (by omega)
theorem told_eq {row : Nat → Int32} {n a b se : Nat} {me li : Int} {P : Nat → Int} (B : BD n a b se me li) (h : CR row n P) (z1 z2 : Int32) : f_L_told (iq n) (iq a) (iq b) (iq me) (iq li) (iq se) 0 z1 z2 row = some (TO n a b se me li P) := by
  obtain ⟨b1, b2, b3, b4, b5, b6, b7, b8, b9, b10, b11⟩ := B
  unfold f_L_told
  rw [f_X11_days, bd1_s, f_X11_shortWindow, bd1_s, f_X11_longWindow, bd1_s, f_X11_season, bd1_s, y_creases h b2 (by omega) b8 b9, bd1_s]
  have e := told_loop h b6 b7 n 1000 0 ((31 * ((31 * ((31 * ((31 * ((31 * 3) + w6 n)) + w6 a)) + w6 b)) + w6 se)) + w6 (cs_ P a li n)) (by omega) (by omega)
  have e : l_L_told_60 (iq n) (iq me) row 1000 ((31 * ((31 * ((31 * ((31 * ((31 * 3) + Int32.toInt64 (iq n))) + Int32.toInt64 (iq a))) + Int32.toInt64 (iq b))) + Int32.toInt64 (iq se))) + Int32.toInt64 (iq (cs_ P a li n))) 0 = _ := e
  rw [e, bd1_s, f_X11_hasStopped, gd_of (show (0 : Int32) &&& 1 = 0 by decide), bd1_s, if_pos rfl]
  rfl
