/-! p53: what each look of the class answers, as pictures (no call throws here) -/
def w6 (z : Int) : Int64 := Int32.toInt64 (iq z)
theorem bd0_s {β : Type} {k : Unit → Option β} : bd0 (some ()) k = k () := rfl
theorem nI_iq (j : Nat) : nI j = iq ((j : Nat) : Int) := Int32.ofInt_eq_ofNat.symm
theorem one_ne : ¬ iq 1 = 0 := by decide
theorem zero_is : iq 0 = (0 : Int32) := by decide
theorem x_hasDay_yes {n d : Nat} (hn : n ≤ 60) (hd : d < n) : f_X6_hasDay (iq n) (iq d) = some (iq 1) := by
  simp (disch := omega) only [f_X6_hasDay, iq_l0, iq_lt, iq_le, if_neg, iq_l1]
theorem y_day {n d : Nat} (hn : n ≤ 60) (hd : d < n) : f_X11_requireDay (iq n) (iq d) = some () := by
  unfold f_X11_requireDay
  rw [x_hasDay_yes hn hd, bd1_s]
  exact if_neg one_ne
theorem y_range {z a b : Int} (h1 : a ≤ z) (h2 : z ≤ b) (ha : -2147483648 ≤ a) (hb : b < 2147483648) : f_X11_requireRange (iq z) (iq a) (iq b) = some () := by
  simp (disch := omega) only [f_X11_requireRange, iq_lt, iq_le, if_neg, if_pos]
theorem y_prices {n m : Nat} (hn : n ≤ 60) (hm : m ≤ 60) (h : m ≤ n) : f_X11_requirePrices (iq n) (iq m) = some () := by
  simp (disch := omega) only [f_X11_requirePrices, iq_le, if_pos]
theorem and_01 {z : Int} (h : 0 ≤ z ∧ z ≤ 1) : iq z &&& 1 = iq z := by
  have : z = 0 ∨ z = 1 := by omega
  rcases this with rfl | rfl <;> decide
section LOOKS
variable {row : Nat → Int32} {n : Nat} {P : Nat → Int}
theorem y_priceOf (h : CR row n P) {d : Nat} (hd : d < n) : f_X11_priceOf (iq n) row (iq d) = some (iq (P d)) := by
  unfold f_X11_priceOf
  rw [y_day h.1 hd, bd0_s, at_cr h hd, bd1_s]
theorem y_smoothed (h : CR row n P) {me : Int} (h1 : 0 ≤ me) (h2 : me ≤ 9) {d : Nat} (hd : d < n) : f_X11_smoothed (iq n) (iq me) row (iq d) = some (iq (sp me P d)) := by
  unfold f_X11_smoothed
  rw [y_day h.1 hd, bd0_s, x_smoothF h h1 h2 hd, bd1_s]
theorem y_smoothedBack (h : CR row n P) {me : Int} (h1 : 0 ≤ me) (h2 : me ≤ 9) {d : Nat} (hd : d < n) : f_X11_smoothedBack (iq n) (iq me) row (iq d) = some (iq (sp me P d)) := by
  have hn := h.1
  have e : f_X4_smoothedByRecursion (iq me) row 70 (iq d) 0 = some (iq (sp me P d)) := x_smoothR h h1 h2 d 70 0 hd (by omega) (by omega)
  unfold f_X11_smoothedBack
  rw [y_day h.1 hd, bd0_s, e, bd1_s]
theorem y_creases (h : CR row n P) {a : Nat} {li : Int} (ha : 1 ≤ a) (ha2 : a ≤ 60) (hl : 0 ≤ li) (hl2 : li ≤ 9999) : f_X11_creases (iq n) (iq a) (iq li) row = some (iq (cs_ P a li n)) := by
  unfold f_X11_creases
  rw [x_number h ha ha2 hl hl2, bd1_s]
theorem y_mean (h : CR row n P) {d w : Nat} (hd : d < n) (hw : 1 ≤ w) (hw2 : w ≤ 20) : f_X11_mean (iq n) row (iq d) (iq w) = some (iq (mn P d w)) := by
  unfold f_X11_mean
  rw [y_day h.1 hd, bd0_s, iq_l1, iq_l20, y_range (by omega) (by omega) (by omega) (by omega), bd0_s, x_byAdding h hd hw (by omega), bd1_s]
theorem y_bySums (h : CR row n P) {d w : Nat} (hd : d < n) (hw : 1 ≤ w) (hw2 : w ≤ 20) : f_X11_meanBySums (iq n) row (iq d) (iq w) = some (iq (mn P d w)) := by
  unfold f_X11_meanBySums
  rw [y_day h.1 hd, bd0_s, iq_l1, iq_l20, y_range (by omega) (by omega) (by omega) (by omega), bd0_s, x_bySums h hd hw (by omega), bd1_s]
theorem y_median (h : CR row n P) {d w : Nat} (hd : d < n) (hw : 1 ≤ w) (hw2 : w ≤ 60) : f_X11_median (iq n) (iq w) row (iq d) = some (iq (md P d w)) := by
  unfold f_X11_median
  rw [y_day h.1 hd, bd0_s, x_middle h hd hw hw2, bd1_s]
theorem y_isCrease (h : CR row n P) {d w : Nat} {li : Int} (hd : d < n) (hw : 1 ≤ w) (hw2 : w ≤ 60) (hl : 0 ≤ li) (hl2 : li ≤ 9999) : f_X11_isCrease (iq n) (iq w) (iq li) row (iq d) = some (iq (cr P d w li)) := by
  unfold f_X11_isCrease
  rw [y_day h.1 hd, bd0_s, x_standsOut h hd hw hw2 hl hl2, bd1_s]
  exact gd_of (and_01 (cr_le P d w li))
theorem y_high (h : CR row n P) {d w : Nat} (hd : d < n) (hw : 1 ≤ w) (hw2 : w ≤ 60) : f_X11_high (iq n) (iq w) row (iq d) = some (iq (gm P (fw d w) (nw d w))) := by
  unfold f_X11_high
  rw [y_day h.1 hd, bd0_s, x_byLooking h hd hw hw2, bd1_s]
theorem y_highBy (h : CR row n P) {d w : Nat} (hd : d < n) (hw : 1 ≤ w) (hw2 : w ≤ 60) (fr en : Int32) (cand : Nat → Int32) : ∃ (fr2 en2 : Int32) (cand2 : Nat → Int32), f_X11_highByCandidates (iq n) (iq w) row fr en cand (iq d) = some (iq (gm P (fw d w) (nw d w)), fr2, en2, cand2) := by
  obtain ⟨fr2, en2, cand2, e⟩ := x_byRow h hd hw hw2 fr en cand
  refine ⟨fr2, en2, cand2, ?_⟩
  unfold f_X11_highByCandidates
  rw [y_day h.1 hd, bd0_s, e, bd4_s]
theorem y_crossing (h : CR row n P) {d a b : Nat} (hd : d < n) (ha : 1 ≤ a) (ha2 : a ≤ 60) (hb : 1 ≤ b) (hb2 : b ≤ 60) : f_X11_crossing (iq n) (iq a) (iq b) row (iq d) = some (iq (co P a b d)) := by
  unfold f_X11_crossing
  rw [y_day h.1 hd, bd0_s, x_cross h hd ha ha2 hb hb2, bd1_s]
theorem y_crossings (h : CR row n P) {a b : Nat} (ha : 1 ≤ a) (ha2 : a ≤ 60) (hb : 1 ≤ b) (hb2 : b ≤ 60) : f_X11_crossings (iq n) (iq a) (iq b) row = some (iq (ck P a b n)) := by
  unfold f_X11_crossings
  rw [x_crossMany h ha ha2 hb hb2, bd1_s]
theorem y_pieces (h : CR row n P) {d a b : Nat} (hd : d < n) (ha : 1 ≤ a) (ha2 : a ≤ 60) (hb : 1 ≤ b) (hb2 : b ≤ 60) (cc : Int64) (hh : Int32) : f_X11_pieces (iq n) (iq a) (iq b) row cc hh (iq d) = some (iq (tr P a b (d + 1)).2, lq (tr P a b (d + 1)).1, iq (tr P a b (d + 1)).2) := by
  unfold f_X11_pieces
  rw [y_day h.1 hd, bd0_s, x_runTo h hd ha ha2 hb hb2, bd2_s]
theorem y_worth (h : CR row n P) {d a b : Nat} (hd : d < n) (ha : 1 ≤ a) (ha2 : a ≤ 60) (hb : 1 ≤ b) (hb2 : b ≤ 60) (cc : Int64) (hh : Int32) : f_X11_worth (iq n) (iq a) (iq b) row cc hh (iq d) = some (lq (wv P a b d), lq (tr P a b (d + 1)).1, iq (tr P a b (d + 1)).2) := by
  unfold f_X11_worth
  rw [y_day h.1 hd, bd0_s, x_runTo h hd ha ha2 hb hb2, bd2_s, x_valueAt h hd, bd1_s]
theorem y_fall (h : CR row n P) : f_X11_greatestFall (iq n) row = some (iq (fl P n)) := by
  unfold f_X11_greatestFall
  rw [x_fallGo h, bd1_s]
theorem y_fallPairs (h : CR row n P) : f_X11_greatestFallByPairs (iq n) row = some (iq (fl P n)) := by
  unfold f_X11_greatestFallByPairs
  rw [x_fallPairs h, bd1_s]
theorem y_rise (h : CR row n P) : f_X11_longestRise (iq n) row = some (iq (rl P (n - 1))) := by
  unfold f_X11_longestRise
  rw [x_rise h, bd1_s]
theorem y_error (h : CR row n P) {me : Int} (hm1 : 0 ≤ me) (hm2 : me ≤ 9) {a b se q : Nat} (ha : 1 ≤ a) (ha2 : a ≤ 60) (hb : 1 ≤ b) (hb2 : b ≤ 60) (h1 : 2 ≤ se) (h2 : se ≤ 7) (hq : q ≤ 3) (h3 : 2 ≤ n) : f_X11_error (iq n) (iq a) (iq b) (iq me) (iq se) row (iq q) = some (iq (er me P a b se q n)) := by
  have hn := h.1
  have e : f_X11_requirePrices (iq n) 2 = some () := y_prices (m := 2) hn (by omega) h3
  unfold f_X11_error
  rw [iq_l0, iq_l3, y_range (by omega) (by omega) (by omega) (by omega), bd0_s, e, bd0_s, x_missOf h hm1 hm2 ha ha2 hb hb2 h1 h2 hq h3, bd1_s]
theorem y_best (h : CR row n P) {me : Int} (hm1 : 0 ≤ me) (hm2 : me ≤ 9) {a b se : Nat} (ha : 1 ≤ a) (ha2 : a ≤ 60) (hb : 1 ≤ b) (hb2 : b ≤ 60) (h1 : 2 ≤ se) (h2 : se ≤ 7) (h3 : 2 ≤ n) : f_X11_bestMethod (iq n) (iq a) (iq b) (iq me) (iq se) row = some (iq ((bt me P a b se n 3 : Nat) : Int)) := by
  have hn := h.1
  have e : f_X11_requirePrices (iq n) 2 = some () := y_prices (m := 2) hn (by omega) h3
  unfold f_X11_bestMethod
  rw [e, bd0_s, x_best h hm1 hm2 ha ha2 hb hb2 h1 h2 h3, bd1_s]
end LOOKS
/-- the share: between 0.0 and 1.0, and a number -/
def okw (v : UInt64) : Prop := v &&& 0x7fffffffffffffff ≤ 0x7ff0000000000000 ∧ ¬ (Op.cmpValue (FP.dcmp v FP.dconst0) CmpOp.l) < 0 ∧ ¬ 0 < (Op.cmpValue (FP.dcmp v FP.dconst1) CmpOp.g)
theorem okw_all : ∀ n : Fin 61, ∀ k : Fin 61, 1 ≤ k.val → k.val ≤ n.val → (shv k.val n.val &&& 0x7fffffffffffffff ≤ 0x7ff0000000000000 ∧ ¬ (Op.cmpValue (FP.dcmp (shv k.val n.val) FP.dconst0) CmpOp.l) < 0 ∧ ¬ 0 < (Op.cmpValue (FP.dcmp (shv k.val n.val) FP.dconst1) CmpOp.g)) := by decide +kernel
theorem okw_sh {k n : Nat} (h1 : 1 ≤ k) (h2 : k ≤ n) (h3 : n ≤ 60) : okw (shv k n) := okw_all ⟨n, by omega⟩ ⟨k, by omega⟩ h1 h2
theorem okw_1 : okw FP.dconst1 := by
  unfold okw
  decide +kernel
theorem okw_shr {n : Nat} {P : Nat → Int} (h : PB n P) {w : Nat} {lim : Int} (hn : n ≤ 60) (hw : 1 ≤ w) (hl : 0 ≤ lim) : okw (shr P w lim n) := by
  unfold shr
  by_cases c : n = 0
  · rw [if_pos c]; exact okw_1
  · rw [if_neg c]
    have h1 := cs_first h (w := w) (lim := lim) (by omega) hw hl (m := n) (by omega) (by omega)
    have h2 := cs_bd P w lim n
    exact okw_sh (by omega) (by omega) hn
theorem y_share {row : Nat → Int32} {n : Nat} {P : Nat → Int} (h : CR row n P) {w : Nat} {lim : Int} (hw : 1 ≤ w) (hw2 : w ≤ 60) (hl : 0 ≤ lim) (hl2 : lim ≤ 9999) : f_X11_smoothShare (iq n) (iq w) (iq lim) row = some (shr P w lim n) := by
  have hn := h.1
  have hok := okw_shr h.2.1 (w := w) (lim := lim) hn hw hl
  unfold f_X11_smoothShare
  unfold shr at hok ⊢
  by_cases c : n = 0
  · subst c
    rw [if_pos (show iq ((0 : Nat) : Int) = 0 from rfl), if_pos rfl]
  · have h1 := cs_bd P w lim n
    have e : iq n - iq (cs_ P w lim n) = iq ((n - (cs_ P w lim n).toNat : Nat) : Int) := by rw [iq_sub, show ((n : Int) - cs_ P w lim n) = ((n - (cs_ P w lim n).toNat : Nat) : Int) by omega]
    rw [if_neg c] at hok ⊢
    rw [if_neg (show ¬ iq n = 0 by rw [iq_l0, iq_eq (by omega) (by omega) (by omega) (by omega)]; omega), x_number h hw hw2 hl hl2, bd1_s, e]
    exact gd_of hok.1
