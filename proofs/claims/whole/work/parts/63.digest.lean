/-! the share of smooth days; the digest -/
def shv (k n : Nat) : UInt64 := FP.ddiv (FP.i2d (iq k)) (FP.i2d (iq n))
def okv (v : UInt64) : Prop := v &&& 0x7fffffffffffffff ≤ 0x7ff0000000000000 ∧ (Op.cmpValue (FP.dcmp v v) CmpOp.l) = 0 ∧ f_X11_bitsOf v = some (UInt64.toInt64 v)
theorem okv_all : ∀ n : Fin 61, ∀ k : Fin 61, 1 ≤ k.val → k.val ≤ n.val → (shv k.val n.val &&& 0x7fffffffffffffff ≤ 0x7ff0000000000000 ∧ (Op.cmpValue (FP.dcmp (shv k.val n.val) (shv k.val n.val)) CmpOp.l) = 0 ∧ f_X11_bitsOf (shv k.val n.val) = some (UInt64.toInt64 (shv k.val n.val))) := by decide +kernel
theorem okv_sh {k n : Nat} (h1 : 1 ≤ k) (h2 : k ≤ n) (h3 : n ≤ 60) : okv (shv k n) := okv_all ⟨n, by omega⟩ ⟨k, by omega⟩ h1 h2
theorem okv_1 : okv FP.dconst1 := by
  have h : FP.dconst1 &&& 0x7fffffffffffffff ≤ 0x7ff0000000000000 ∧ (Op.cmpValue (FP.dcmp FP.dconst1 FP.dconst1) CmpOp.l) = 0 ∧ f_X11_bitsOf FP.dconst1 = some (UInt64.toInt64 FP.dconst1) := by decide +kernel
  exact h
theorem dtl_ok {v : UInt64} (h : okv v) : f_Jxe99ae_doubleToLongBits_ccdee v = some (UInt64.toInt64 v) := by
  unfold f_Jxe99ae_doubleToLongBits_ccdee f_Jxe99ae_isNaN_b9ae7
  rw [if_pos h.2.1, bd1_s, if_pos rfl]
/-- the value of the share -/
def shr (P : Nat → Int) (w : Nat) (lim : Int) (n : Nat) : UInt64 := if n = 0 then FP.dconst1 else shv (n - (cs_ P w lim n).toNat) n
theorem cs_first {n : Nat} {P : Nat → Int} (h : PB n P) {w : Nat} {lim : Int} (hn : 0 < n) (hw : 1 ≤ w) (hl : 0 ≤ lim) : ∀ {m : Nat}, 1 ≤ m → m ≤ n → cs_ P w lim m ≤ m - 1 := by
  intro m
  induction m with
  | zero => intro h1; omega
  | succ m ih =>
    intro h1 h2
    rw [cs_succ]
    have hc := cr_le P m w lim
    by_cases c : m = 0
    · subst c
      rw [cr_0 h hn hw hl]
      unfold cs_ sa
      omega
    · have := ih (by omega) (by omega)
      omega
theorem shr_ok {n : Nat} {P : Nat → Int} (h : PB n P) {w : Nat} {lim : Int} (hn : n ≤ 60) (hw : 1 ≤ w) (hl : 0 ≤ lim) : okv (shr P w lim n) := by
  unfold shr
  by_cases c : n = 0
  · rw [if_pos c]; exact okv_1
  · rw [if_neg c]
    have h1 := cs_bd P w lim n
    have h2 := cs_first h (by omega) hw hl (m := n) (by omega) (Nat.le_refl _)
    exact okv_sh (by omega) (by omega) hn
theorem x_share {row : Nat → Int32} {n : Nat} {P : Nat → Int} (h : CR row n P) {w : Nat} {lim : Int} (hw : 1 ≤ w) (hw2 : w ≤ 60) (hl : 0 ≤ lim) (hl2 : lim ≤ 9999) : f_X11_smoothShare (iq n) (iq w) (iq lim) row = some (shr P w lim n) := by
  have hn := h.1
  have hok := shr_ok h.2.1 (w := w) (lim := lim) hn hw hl
  unfold f_X11_smoothShare
  unfold shr at hok ⊢
  by_cases c : n = 0
  · subst c
    rw [if_pos (show iq ((0 : Nat) : Int) = 0 from rfl), if_pos rfl]
  · have h1 := cs_bd P w lim n
    have e : iq n - iq (cs_ P w lim n) = iq ((n - (cs_ P w lim n).toNat : Nat) : Int) := by rw [iq_sub, show ((n : Int) - cs_ P w lim n) = ((n - (cs_ P w lim n).toNat : Nat) : Int) by omega]
    rw [if_neg c] at hok ⊢
    rw [if_neg (show ¬ iq n = 0 by rw [iq_l0, iq_eq (by omega) (by omega) (by omega) (by omega)]; omega), x_number h hw hw2 hl hl2, bd1_s, e]
    exact gd_of hok.1
theorem m_share {s : Nat → Int32} {n : Nat} {P : Nat → Int} (h : MR s n P) {w : Nat} {lim : Int} (hw : 1 ≤ w) (hw2 : w ≤ 60) (h0 : s 0 = iq n) (h2 : s 1 = iq w) (hl : 0 ≤ lim) (hl2 : lim ≤ 9999) (h4 : s 4 = iq lim) : f_X12_share s = some (shr P w lim n) := by
  have hn := h.1
  have hok := shr_ok h.2.1 (w := w) (lim := lim) hn hw hl
  unfold f_X12_share
  rw [h0]
  unfold shr at hok ⊢
  by_cases c : n = 0
  · subst c
    rw [if_pos (show iq ((0 : Nat) : Int) = 0 from rfl), if_pos rfl]
  · have h1 := cs_bd P w lim n
    have e : iq n - iq (cs_ P w lim n) = iq ((n - (cs_ P w lim n).toNat : Nat) : Int) := by rw [iq_sub, show ((n : Int) - cs_ P w lim n) = ((n - (cs_ P w lim n).toNat : Nat) : Int) by omega]
    rw [if_neg c] at hok ⊢
    rw [if_neg (show ¬ iq n = 0 by rw [iq_l0, iq_eq (by omega) (by omega) (by omega) (by omega)]; omega), m_creaseMany h hw hw2 h0 h2 hl hl2 h4, bd1_s, e]
    exact gd_of hok.1
/-! the parts of the digest -/
def w6 (z : Int) : Int64 := Int32.toInt64 (iq z)
def dhv (P : Nat → Int) (n a b se : Nat) (me li : Int) (d : Nat) (h : Int64) : Int64 :=
  31 * (31 * (31 * (31 * (31 * (31 * (31 * (31 * (31 * (31 * (31 * (31 * (31 * (31 * (31 * h + w6 (P d)) + w6 (mn P d a)) + w6 (mn P d a)) + w6 (mn P d b)) + w6 (wm P d b)) + w6 (sp me P d)) + w6 (sp me P d)) + w6 (md P d a)) + w6 (cr P d a li)) + w6 (gm P (fw d b) (nw d b))) + w6 (gm P (fw d b) (nw d b))) + w6 (co P a b d)) + w6 (tr P a b (d + 1)).2) + lq (wv P a b d)) + lq (br P se d n)
def hdl (P : Nat → Int) (n a b se : Nat) (me li : Int) : Nat → Nat → Int64 → Int64
  | 0, _, h => h
  | m + 1, d, h => hdl P n a b se me li m (d + 1) (dhv P n a b se me li d h)
theorem w6_0 : w6 0 = 0 := by decide
theorem w6_1 : w6 1 = 1 := by decide
theorem mixed_ (x y : Int64) : f_X11_mixed x y = some (31 * x + y) := rfl
theorem x_hashOfMeans {row : Nat → Int32} {n : Nat} {P : Nat → Int} (h : CR row n P) {a b : Nat} {me : Int} (ha : 1 ≤ a) (ha2 : a ≤ 60) (hb : 1 ≤ b) (hb2 : b ≤ 60) (hm1 : 0 ≤ me) (hm2 : me ≤ 9) {d : Nat} (hd : d < n) (x : Int64) : f_X11_hashOfMeans (iq a) (iq b) (iq me) row x (iq d) = some (31 * (31 * (31 * (31 * (31 * (31 * (31 * x + w6 (P d)) + w6 (mn P d a)) + w6 (mn P d a)) + w6 (mn P d b)) + w6 (wm P d b)) + w6 (sp me P d)) + w6 (sp me P d)) := by
  have hn := h.1
  have e7 : f_X4_smoothedByRecursion (iq me) row 70 (iq d) 0 = some (iq (sp me P d)) := x_smoothR h hm1 hm2 d 70 0 hd (by omega) (by omega)
  have e1 := at_cr h hd
  have e2 := x_byAdding h hd ha ha2
  have e3 := x_bySums h hd ha ha2
  have e4 := x_byAdding h hd hb hb2
  have e5 := x_weighted h hd hb hb2
  have e6 := x_smoothF h hm1 hm2 hd
  simp only [f_X11_hashOfMeans, mixed_, bd1_s, e1, e2, e3, e4, e5, e6, e7]
  rfl
theorem x_hashOfDays_loop {row : Nat → Int32} {n : Nat} {P : Nat → Int} (h : CR row n P) {a b se : Nat} {me li : Int} (ha : 1 ≤ a) (ha2 : a ≤ 60) (hb : 1 ≤ b) (hb2 : b ≤ 60) (hm1 : 0 ≤ me) (hm2 : me ≤ 9) (hl : 0 ≤ li) (hl2 : li ≤ 9999) (h1 : 2 ≤ se) (h2 : se ≤ 7) : ∀ (m fu d : Nat) (x : Int64) (fr en : Int32) (cd : Nat → Int32), d + m = n → m < fu → ∃ (fr2 en2 : Int32) (cd2 : Nat → Int32), l_X11_hashOfDays_12 (iq n) (iq a) (iq b) (iq me) (iq li) (iq se) row fu x (iq d) fr en cd (lq (tr P a b d).1) (iq (tr P a b d).2) = some (hdl P n a b se me li m d x, fr2, en2, cd2, lq (tr P a b n).1, iq (tr P a b n).2) := by
  have hn := h.1
  intro m
  induction m with
  | zero =>
    intro fu d x fr en cd hd hf
    obtain ⟨fu, rfl⟩ : ∃ g, fu = g + 1 := ⟨fu - 1, by omega⟩
    obtain rfl : d = n := by omega
    refine ⟨fr, en, cd, ?_⟩
    rw [l_X11_hashOfDays_12]
    simp (disch := omega) only [iq_le, if_pos]
    rfl
  | succ m ih =>
    intro fu d x fr en cd hd hf
    obtain ⟨fu, rfl⟩ : ∃ g, fu = g + 1 := ⟨fu - 1, by omega⟩
    have hdn : d < n := by omega
    obtain ⟨fr2, en2, cd2, e8⟩ := x_byRow h hdn hb hb2 fr en cd
    obtain ⟨fr3, en3, cd3, k⟩ := ih fu (d + 1) (dhv P n a b se me li d x) fr2 en2 cd2 (by omega) (by omega)
    refine ⟨fr3, en3, cd3, ?_⟩
    have e1 := x_hashOfMeans h ha ha2 hb hb2 hm1 hm2 hdn x
    have e2 := x_middle h hdn ha ha2
    have e3 := x_standsOut h hdn ha ha2 hl hl2
    have e4 := x_byLooking h hdn hb hb2
    have e5 := x_cross h hdn ha ha2 hb hb2
    have e6 := x_pass h hdn ha ha2 hb hb2
    have e7 := x_valueAt h hdn (a := a) (b := b)
    have e9 := x_bare h h1 h2 hdn
    have hc := cr_le P d a li
    have ele : ¬ iq n ≤ iq d := by rw [iq_le (by omega) (by omega) (by omega) (by omega)]; omega
    have e10 : (if iq (cr P d a li) = 0 then some (0 : Int64) else some 1) = some (w6 (cr P d a li)) := by
      rcases (show cr P d a li = 0 ∨ cr P d a li = 1 by omega) with q | q
      · rw [q, w6_0]; rfl
      · rw [q, w6_1]; rfl
    have e11 : iq d + 1 = iq ((d + 1 : Nat) : Int) := by rw [iq_l1, iq_add]; rfl
    rw [l_X11_hashOfDays_12, if_neg ele]
    simp only [mixed_, bd1_s, bd2_s, bd4_s, e1, e2, e3, e4, e5, e6, e7, e8, e9, e10, e11]
    exact k
theorem x_hashOfDays {row : Nat → Int32} {n : Nat} {P : Nat → Int} (h : CR row n P) {a b se : Nat} {me li : Int} (ha : 1 ≤ a) (ha2 : a ≤ 60) (hb : 1 ≤ b) (hb2 : b ≤ 60) (hm1 : 0 ≤ me) (hm2 : me ≤ 9) (hl : 0 ≤ li) (hl2 : li ≤ 9999) (h1 : 2 ≤ se) (h2 : se ≤ 7) (x : Int64) (fr en : Int32) (cd : Nat → Int32) (tc : Int64) (th : Int32) : ∃ (fr2 en2 : Int32) (cd2 : Nat → Int32) (tc2 : Int64) (th2 : Int32), f_X11_hashOfDays (iq n) (iq a) (iq b) (iq me) (iq li) (iq se) row fr en cd tc th x = some (hdl P n a b se me li n 0 x, fr2, en2, cd2, tc2, th2) := by
  have hn := h.1
  obtain ⟨fr2, en2, cd2, k⟩ := x_hashOfDays_loop h ha ha2 hb hb2 hm1 hm2 hl hl2 h1 h2 n 1000 0 x fr en cd (by omega) (by omega)
  have k : l_X11_hashOfDays_12 (iq n) (iq a) (iq b) (iq me) (iq li) (iq se) row 1000 x 0 fr en cd 10000 0 = _ := k
  refine ⟨fr2, en2, cd2, lq (tr P a b n).1, iq (tr P a b n).2, ?_⟩
  unfold f_X11_hashOfDays f_X9_start
  rw [bd2_s, k, bd6_s]
theorem m_digestDay {s : Nat → Int32} {n : Nat} {P : Nat → Int} (h : MR s n P) {a b se : Nat} {me li : Int} (ha : 1 ≤ a) (ha2 : a ≤ 60) (hb : 1 ≤ b) (hb2 : b ≤ 60) (hm1 : 0 ≤ me) (hm2 : me ≤ 9) (hl : 0 ≤ li) (hl2 : li ≤ 9999) (h1 : 2 ≤ se) (h2 : se ≤ 7) (g0 : s 0 = iq n) (g1 : s 1 = iq a) (g2 : s 2 = iq b) (g3 : s 3 = iq me) (g4 : s 4 = iq li) (g5 : s 5 = iq se) {d : Nat} (hd : d < n) (x : Int64) (pm : Int32) (cc : Int64) : ∃ (pm2 : Int32) (cc2 : Int64), f_X12_digestDay pm cc s x (iq d) = some (dhv P n a b se me li d x, pm2, cc2) := by
  have e1 := m_meanOf h hd ha ha2
  have e2 := of_mr h hd
  have e3 := m_meanOf h hd hb hb2
  have e4 := m_weighted h hd hb hb2 g2
  have e5 := m_smooth h hm1 hm2 g3 hd
  have e6 := m_middle h hd ha ha2 g1
  have e7 := m_creased h hd ha ha2 g1 hl hl2 g4
  have e8 := m_greatest h hd hb hb2 g2
  have e9 := m_cross h hd ha ha2 hb hb2 g1 g2
  have e10 := m_piecesAt h hd ha ha2 hb hb2 g1 g2 pm cc
  have e11 := m_worthAt h hd ha ha2 hb hb2 g1 g2 (iq (tr P a b (d + 1)).2) (lq (tr P a b (d + 1)).1)
  have e12 := m_bare h g0 g5 h1 h2 hd
  have hc := cr_le P d a li
  have e13 : (if iq (cr P d a li) = 0 then some (0 : Int32) else some 1) = some (iq (cr P d a li)) := by
    rcases (show cr P d a li = 0 ∨ cr P d a li = 1 by omega) with q | q <;> rw [q] <;> rfl
  refine ⟨iq (tr P a b (d + 1)).2, lq (tr P a b (d + 1)).1, ?_⟩
  unfold f_X12_digestDay
  simp only [g1, g2, bd1_s, bd3_s, e1, e2, e3, e4, e5, e6, e7, e8, e9, e10, e11, e12, e13]
  rfl
theorem m_digest_loop {s : Nat → Int32} {n : Nat} {P : Nat → Int} (h : MR s n P) {a b se : Nat} {me li : Int} (ha : 1 ≤ a) (ha2 : a ≤ 60) (hb : 1 ≤ b) (hb2 : b ≤ 60) (hm1 : 0 ≤ me) (hm2 : me ≤ 9) (hl : 0 ≤ li) (hl2 : li ≤ 9999) (h1 : 2 ≤ se) (h2 : se ≤ 7) (g0 : s 0 = iq n) (g1 : s 1 = iq a) (g2 : s 2 = iq b) (g3 : s 3 = iq me) (g4 : s 4 = iq li) (g5 : s 5 = iq se) : ∀ (m fu d : Nat) (x : Int64) (pm : Int32) (cc : Int64), d + m = n → m < fu → ∃ (pm2 : Int32) (cc2 : Int64), l_X12_digest_125 s fu x (iq d) pm cc = some (hdl P n a b se me li m d x, pm2, cc2) := by
  have hn := h.1
  intro m
  induction m with
  | zero =>
    intro fu d x pm cc hd hf
    obtain ⟨fu, rfl⟩ : ∃ g, fu = g + 1 := ⟨fu - 1, by omega⟩
    obtain rfl : d = n := by omega
    refine ⟨pm, cc, ?_⟩
    rw [l_X12_digest_125, g0]
    simp (disch := omega) only [iq_le, if_pos]
    rfl
  | succ m ih =>
    intro fu d x pm cc hd hf
    obtain ⟨fu, rfl⟩ : ∃ g, fu = g + 1 := ⟨fu - 1, by omega⟩
    obtain ⟨pm2, cc2, e1⟩ := m_digestDay h ha ha2 hb hb2 hm1 hm2 hl hl2 h1 h2 g0 g1 g2 g3 g4 g5 (d := d) (by omega) x pm cc
    obtain ⟨pm3, cc3, k⟩ := ih fu (d + 1) (dhv P n a b se me li d x) pm2 cc2 (by omega) (by omega)
    refine ⟨pm3, cc3, ?_⟩
    rw [l_X12_digest_125, g0, e1, bd3_s]
    simp (disch := omega) only [iq_le, if_neg, iq_l1, iq_add]
    exact k
/-- the season's part -/
def shl_ (P : Nat → Int) (se n : Nat) : Nat → Nat → Int64 → Int64
  | 0, _, h => h
  | m + 1, p, h => if p < n then shl_ P se n m (p + 1) (31 * h + w6 (ix P se p n)) else shl_ P se n m (p + 1) h
theorem shl_past {P : Nat → Int} {se n : Nat} : ∀ (m p : Nat) (h : Int64), n ≤ p → shl_ P se n m p h = h := by
  intro m
  induction m with
  | zero => intro p h _; rfl
  | succ m ih =>
    intro p h hp
    show (if p < n then _ else shl_ P se n m (p + 1) h) = h
    rw [if_neg (by omega), ih (p + 1) h (by omega)]
theorem x_season {row : Nat → Int32} {n : Nat} {P : Nat → Int} (h : CR row n P) {se : Nat} (h1 : 2 ≤ se) (h2 : se ≤ 7) (x : Int64) : f_X11_hashOfSeason (iq n) (iq se) row x = some (shl_ P se n se 0 x) := by
  have hn := h.1
  have key : ∀ (m fu p : Nat) (x : Int64), p + m = se → m < fu → l_X11_hashOfSeason_5 (iq n) (iq se) row fu x (iq p) = some (shl_ P se n m p x) := by
    intro m
    induction m with
    | zero =>
      intro fu p x hp hf
      obtain ⟨fu, rfl⟩ : ∃ g, fu = g + 1 := ⟨fu - 1, by omega⟩
      rw [l_X11_hashOfSeason_5]
      simp (disch := omega) only [iq_le, if_pos]
      rfl
    | succ m ih =>
      intro fu p x hp hf
      obtain ⟨fu, rfl⟩ : ∃ g, fu = g + 1 := ⟨fu - 1, by omega⟩
      have hpl := pd_le se p n
      have hpd := pd_lt h1 h2 (p := p) (by omega) n 0
      rw [Nat.mul_zero, Nat.add_zero] at hpd
      show _ = some (if p < n then shl_ P se n m (p + 1) (31 * x + w6 (ix P se p n)) else shl_ P se n m (p + 1) x)
      rw [l_X11_hashOfSeason_5, x_daysOf h1 h2 (by omega) hn, bd1_s]
      by_cases c : p < n
      · have hq := hpd.mp c
        rw [if_pos c, x_index h h1 h2 (by omega) c, bd1_s, mixed_, bd1_s]
        simp (disch := omega) only [iq_l0, iq_le, if_neg, iq_l1, iq_add]
        exact ih fu (p + 1) _ (by omega) (by omega)
      · have hq : ¬ 0 < pd se p n := fun z => c (hpd.mpr z)
        rw [if_neg c]
        simp (disch := omega) only [iq_l0, iq_le, if_neg, if_pos, iq_l1, iq_add]
        exact ih fu (p + 1) _ (by omega) (by omega)
  have k : l_X11_hashOfSeason_5 (iq n) (iq se) row 1000 x 0 = _ := key se 1000 0 x (by omega) (by omega)
  unfold f_X11_hashOfSeason
  rw [k, bd1_s]
theorem m_season {s : Nat → Int32} {n : Nat} {P : Nat → Int} (h : MR s n P) {se : Nat} (h1 : 2 ≤ se) (h2 : se ≤ 7) (g0 : s 0 = iq n) (g5 : s 5 = iq se) (x : Int64) : l_X12_digestForecasts_5 s 1000 x 0 = some (shl_ P se n se 0 x) := by
  have hn := h.1
  have key : ∀ (m fu p : Nat) (x : Int64), p + m = se → m < fu → l_X12_digestForecasts_5 s fu x (iq p) = some (shl_ P se n m p x) := by
    intro m
    induction m with
    | zero =>
      intro fu p x hp hf
      obtain ⟨fu, rfl⟩ : ∃ g, fu = g + 1 := ⟨fu - 1, by omega⟩
      rw [l_X12_digestForecasts_5, g5]
      simp (disch := omega) only [iq_le, if_pos]
      rfl
    | succ m ih =>
      intro fu p x hp hf
      obtain ⟨fu, rfl⟩ : ∃ g, fu = g + 1 := ⟨fu - 1, by omega⟩
      rw [l_X12_digestForecasts_5, g5, g0]
      by_cases c : p < n
      · show _ = some (if p < n then shl_ P se n m (p + 1) (31 * x + w6 (ix P se p n)) else shl_ P se n m (p + 1) x)
        rw [if_pos c, m_index h g0 g5 h1 h2 (by omega) c, bd1_s]
        simp (disch := omega) only [iq_le, if_neg, iq_l1, iq_add]
        exact ih fu (p + 1) _ (by omega) (by omega)
      · rw [shl_past _ _ _ (by omega)]
        simp (disch := omega) only [iq_le, if_neg, if_pos]
  exact key se 1000 0 x (by omega) (by omega)
/-- four methods -/
def ith (g : Nat → Int) : Nat → Nat → Int64 → Int64
  | 0, _, h => h
  | m + 1, q, h => ith g m (q + 1) (31 * h + w6 (g q))
def fch (me : Int) (P : Nat → Int) (a b se n : Nat) (x : Int64) : Int64 := if n < 1 then x else ith (fun q => td me P a b se q n) 4 0 x
def erh (me : Int) (P : Nat → Int) (a b se n : Nat) (x : Int64) : Int64 := if n < 2 then x else 31 * ith (fun q => er me P a b se q n) 4 0 x + w6 (bt me P a b se n 3 : Nat)
theorem x_forecasts {row : Nat → Int32} {n : Nat} {P : Nat → Int} (h : CR row n P) {a b se : Nat} {me : Int} (ha : 1 ≤ a) (ha2 : a ≤ 60) (hb : 1 ≤ b) (hb2 : b ≤ 60) (hm1 : 0 ≤ me) (hm2 : me ≤ 9) (h1 : 2 ≤ se) (h2 : se ≤ 7) (x : Int64) : f_X11_hashOfForecasts (iq n) (iq a) (iq b) (iq me) (iq se) row x = some (erh me P a b se n (fch me P a b se n x)) := by
  have hn := h.1
  have k1 : 1 ≤ n → ∀ (m fu q : Nat) (x : Int64), q + m = 4 → m < fu → l_X11_hashOfForecasts_16 (iq n) (iq a) (iq b) (iq me) (iq se) row fu x (iq q) = some (ith (fun q => td me P a b se q n) m q x) := by
    intro hn1 m
    induction m with
    | zero =>
      intro fu q x hq hf
      obtain ⟨fu, rfl⟩ : ∃ g, fu = g + 1 := ⟨fu - 1, by omega⟩
      rw [l_X11_hashOfForecasts_16]
      simp (disch := omega) only [iq_l4, iq_le, if_pos]
      rfl
    | succ m ih =>
      intro fu q x hq hf
      obtain ⟨fu, rfl⟩ : ∃ g, fu = g + 1 := ⟨fu - 1, by omega⟩
      rw [l_X11_hashOfForecasts_16, x_behind h hm1 hm2 ha ha2 hb hb2 h1 h2 (by omega) hn1 (Nat.le_refl _), bd1_s, mixed_, bd1_s]
      simp (disch := omega) only [iq_l4, iq_le, if_neg, iq_l1, iq_add]
      exact ih fu (q + 1) _ (by omega) (by omega)
  have k2 : 2 ≤ n → ∀ (m fu q : Nat) (x : Int64), q + m = 4 → m < fu → l_X11_hashOfForecasts_64 (iq n) (iq a) (iq b) (iq me) (iq se) row fu x (iq q) = some (ith (fun q => er me P a b se q n) m q x) := by
    intro hn1 m
    induction m with
    | zero =>
      intro fu q x hq hf
      obtain ⟨fu, rfl⟩ : ∃ g, fu = g + 1 := ⟨fu - 1, by omega⟩
      rw [l_X11_hashOfForecasts_64]
      simp (disch := omega) only [iq_l4, iq_le, if_pos]
      rfl
    | succ m ih =>
      intro fu q x hq hf
      obtain ⟨fu, rfl⟩ : ∃ g, fu = g + 1 := ⟨fu - 1, by omega⟩
      rw [l_X11_hashOfForecasts_64, x_missOf h hm1 hm2 ha ha2 hb hb2 h1 h2 (by omega) hn1, bd1_s, mixed_, bd1_s]
      simp (disch := omega) only [iq_l4, iq_le, if_neg, iq_l1, iq_add]
      exact ih fu (q + 1) _ (by omega) (by omega)
  unfold f_X11_hashOfForecasts
  by_cases c1 : n < 1
  · have e1 : fch me P a b se n x = x := if_pos c1
    have e2 : erh me P a b se n x = x := if_pos (by omega)
    rw [e1, e2]
    simp (disch := omega) only [iq_l1, iq_l2, iq_lt, if_pos, bd1_s]
  · have e1 : fch me P a b se n x = ith (fun q => td me P a b se q n) 4 0 x := if_neg c1
    have g1 : l_X11_hashOfForecasts_16 (iq n) (iq a) (iq b) (iq me) (iq se) row 1000 x (iq 0) = _ := k1 (by omega) 4 1000 0 x (by omega) (by omega)
    rw [e1]
    by_cases c2 : n < 2
    · have e2 : erh me P a b se n (ith (fun q => td me P a b se q n) 4 0 x) = ith (fun q => td me P a b se q n) 4 0 x := if_pos c2
      rw [e2]
      simp (disch := omega) only [iq_l0, iq_l1, iq_l2, iq_lt, if_pos, if_neg, g1, bd1_s]
    · have e2 : erh me P a b se n (ith (fun q => td me P a b se q n) 4 0 x) = 31 * ith (fun q => er me P a b se q n) 4 0 (ith (fun q => td me P a b se q n) 4 0 x) + w6 (bt me P a b se n 3 : Nat) := if_neg c2
      have g2 : l_X11_hashOfForecasts_64 (iq n) (iq a) (iq b) (iq me) (iq se) row 1000 (ith (fun q => td me P a b se q n) 4 0 x) (iq 0) = _ := k2 (by omega) 4 1000 0 _ (by omega) (by omega)
      have g3 := x_best h hm1 hm2 ha ha2 hb hb2 h1 h2 (by omega)
      rw [e2]
      simp (disch := omega) only [iq_l0, iq_l1, iq_l2, iq_lt, if_neg, g1, g2, g3, bd1_s, mixed_]
      rfl
theorem m_forecasts {s : Nat → Int32} {n : Nat} {P : Nat → Int} (h : MR s n P) {a b se : Nat} {me : Int} (ha : 1 ≤ a) (ha2 : a ≤ 60) (hb : 1 ≤ b) (hb2 : b ≤ 60) (hm1 : 0 ≤ me) (hm2 : me ≤ 9) (h1 : 2 ≤ se) (h2 : se ≤ 7) (g0 : s 0 = iq n) (g1 : s 1 = iq a) (g2 : s 2 = iq b) (g3 : s 3 = iq me) (g5 : s 5 = iq se) (x : Int64) : f_X12_digestForecasts s x = some (erh me P a b se n (fch me P a b se n (shl_ P se n se 0 x))) := by
  have hn := h.1
  have k1 : 1 ≤ n → ∀ (m fu q : Nat) (x : Int64), q + m = 4 → m < fu → l_X12_digestForecasts_50 s fu x (iq q) = some (ith (fun q => td me P a b se q n) m q x) := by
    intro hn1 m
    induction m with
    | zero =>
      intro fu q x hq hf
      obtain ⟨fu, rfl⟩ : ∃ g, fu = g + 1 := ⟨fu - 1, by omega⟩
      rw [l_X12_digestForecasts_50]
      simp (disch := omega) only [iq_l4, iq_le, if_pos]
      rfl
    | succ m ih =>
      intro fu q x hq hf
      obtain ⟨fu, rfl⟩ : ∃ g, fu = g + 1 := ⟨fu - 1, by omega⟩
      rw [l_X12_digestForecasts_50, g0, m_told h hm1 hm2 ha ha2 hb hb2 h1 h2 (by omega) hn1 (Nat.le_refl _) g1 g2 g3 g5, bd1_s]
      simp (disch := omega) only [iq_l4, iq_l0, iq_le, if_neg, iq_l1, iq_add]
      exact ih fu (q + 1) _ (by omega) (by omega)
  have k2 : 2 ≤ n → ∀ (m fu q : Nat) (x : Int64), q + m = 4 → m < fu → l_X12_digestForecasts_94 s fu x (iq q) = some (ith (fun q => er me P a b se q n) m q x) := by
    intro hn1 m
    induction m with
    | zero =>
      intro fu q x hq hf
      obtain ⟨fu, rfl⟩ : ∃ g, fu = g + 1 := ⟨fu - 1, by omega⟩
      rw [l_X12_digestForecasts_94]
      simp (disch := omega) only [iq_l4, iq_le, if_pos]
      rfl
    | succ m ih =>
      intro fu q x hq hf
      obtain ⟨fu, rfl⟩ : ∃ g, fu = g + 1 := ⟨fu - 1, by omega⟩
      rw [l_X12_digestForecasts_94, g0, m_errorOf h hm1 hm2 ha ha2 hb hb2 h1 h2 (by omega) hn1 g0 g1 g2 g3 g5, bd1_s]
      simp (disch := omega) only [iq_l4, iq_l1, iq_le, if_neg, iq_add]
      exact ih fu (q + 1) _ (by omega) (by omega)
  have z1 : ∀ x : Int64, n < 1 → l_X12_digestForecasts_50 s 1000 x (iq 0) = some x := fun x hn1 => by
    rw [show (1000 : Nat) = 999 + 1 from rfl, l_X12_digestForecasts_50, g0]
    simp (disch := omega) only [iq_l4, iq_l0, iq_le, if_neg, if_pos]
  have z2 : ∀ x : Int64, n < 2 → l_X12_digestForecasts_94 s 1000 x (iq 0) = some x := fun x hn1 => by
    rw [show (1000 : Nat) = 999 + 1 from rfl, l_X12_digestForecasts_94, g0]
    simp (disch := omega) only [iq_l4, iq_l1, iq_le, if_neg, if_pos]
  unfold f_X12_digestForecasts
  rw [m_season h h1 h2 g0 g5, bd1_s, g0]
  generalize shl_ P se n se 0 x = x2
  by_cases c1 : n < 1
  · have e1 : fch me P a b se n x2 = x2 := if_pos c1
    have e2 : erh me P a b se n x2 = x2 := if_pos (by omega)
    rw [e1, e2, iq_l0, z1 x2 c1, bd1_s, z2 x2 (by omega), bd1_s]
    simp (disch := omega) only [iq_l1, iq_le, if_pos]
  · have e1 : fch me P a b se n x2 = ith (fun q => td me P a b se q n) 4 0 x2 := if_neg c1
    have f1 : l_X12_digestForecasts_50 s 1000 x2 (iq 0) = _ := k1 (by omega) 4 1000 0 x2 (by omega) (by omega)
    rw [e1, iq_l0, f1, bd1_s]
    by_cases c2 : n < 2
    · have e2 : erh me P a b se n (ith (fun q => td me P a b se q n) 4 0 x2) = ith (fun q => td me P a b se q n) 4 0 x2 := if_pos c2
      rw [e2, z2 _ c2, bd1_s]
      simp (disch := omega) only [iq_l1, iq_le, if_pos]
    · have e2 : erh me P a b se n (ith (fun q => td me P a b se q n) 4 0 x2) = 31 * ith (fun q => er me P a b se q n) 4 0 (ith (fun q => td me P a b se q n) 4 0 x2) + w6 (bt me P a b se n 3 : Nat) := if_neg c2
      have f2 : l_X12_digestForecasts_94 s 1000 (ith (fun q => td me P a b se q n) 4 0 x2) (iq 0) = _ := k2 (by omega) 4 1000 0 _ (by omega) (by omega)
      have f3 := m_best h hm1 hm2 ha ha2 hb hb2 h1 h2 (by omega) g0 g1 g2 g3 g5
      rw [e2, f2, bd1_s, f3, bd1_s]
      simp (disch := omega) only [iq_l1, iq_le, if_neg]
      rfl
/-- the text's part -/
def txh (T : Nat → Nat) : Nat → Nat → Int64 → Int64
  | 0, _, h => h
  | m + 1, i, h => txh T m (i + 1) (31 * h + w6 (T i : Nat))
theorem x_text {codes : Nat → Int32} {N : Nat} {T : Nat → Nat} (hN : N ≤ 60) (hc : ∀ i, i < N → codes i = iq (T i)) (x : Int64) : f_X11_hashOfText (iq N) codes x = some (txh T N 0 (31 * x + w6 (N : Nat))) := by
  have key : ∀ (m fu i : Nat) (x : Int64), i + m = N → m < fu → l_X11_hashOfText_16 (iq N) codes fu x (iq i) = some (txh T m i x) := by
    intro m
    induction m with
    | zero =>
      intro fu i x hi hf
      obtain ⟨fu, rfl⟩ : ∃ g, fu = g + 1 := ⟨fu - 1, by omega⟩
      rw [l_X11_hashOfText_16]
      simp (disch := omega) only [iq_le, if_pos]
      rfl
    | succ m ih =>
      intro fu i x hi hf
      obtain ⟨fu, rfl⟩ : ∃ g, fu = g + 1 := ⟨fu - 1, by omega⟩
      rw [l_X11_hashOfText_16, x_codeAt (by omega), bd1_s, hc i (by omega), mixed_, bd1_s]
      simp (disch := omega) only [iq_le, if_neg, iq_l1, iq_add]
      exact ih fu (i + 1) _ (by omega) (by omega)
  have k : l_X11_hashOfText_16 (iq N) codes 1000 (31 * x + Int32.toInt64 (iq N)) 0 = _ := key N 1000 0 _ (by omega) (by omega)
  unfold f_X11_hashOfText
  rw [mixed_, bd1_s, k, bd1_s]
  rfl
theorem m_text {text : Nat → Int32} {N : Nat} {T : Nat → Nat} (hN : N ≤ 60) (hc : ∀ i, i < N → text i = iq (T i)) (x : Int64) : l_X12_digest_249 (iq N) text 1000 x 0 = some (txh T N 0 x) := by
  have key : ∀ (m fu i : Nat) (x : Int64), i + m = N → m < fu → l_X12_digest_249 (iq N) text fu x (iq i) = some (txh T m i x) := by
    intro m
    induction m with
    | zero =>
      intro fu i x hi hf
      obtain ⟨fu, rfl⟩ : ∃ g, fu = g + 1 := ⟨fu - 1, by omega⟩
      rw [l_X12_digest_249]
      simp (disch := omega) only [iq_le, if_pos]
      rfl
    | succ m ih =>
      intro fu i x hi hf
      obtain ⟨fu, rfl⟩ : ∃ g, fu = g + 1 := ⟨fu - 1, by omega⟩
      rw [l_X12_digest_249]
      simp (disch := omega) only [iq_le, if_neg, iq_l0, iq_lt, iq_nat, gd_of, Int.toNat_natCast, iq_l1, iq_add]
      rw [hc i (by omega)]
      exact ih fu (i + 1) _ (by omega) (by omega)
  exact key N 1000 0 x (by omega) (by omega)
