/-! a part is done, by both -/
def NV (row s : Nat → Int32) (n a b se : Nat) (me li : Int) (P : Nat → Int) : Prop :=
  (1 ≤ a ∧ a ≤ 10 ∧ 2 ≤ b ∧ b ≤ 20 ∧ 2 ≤ se ∧ se ≤ 7 ∧ 0 ≤ me ∧ me ≤ 9 ∧ 0 ≤ li ∧ li ≤ 9999) ∧ CR row n P ∧ MR s n P ∧ s 0 = iq n ∧ s 1 = iq a ∧ s 2 = iq b ∧ s 3 = iq me ∧ s 4 = iq li ∧ s 5 = iq se
theorem x_num {nums : Nat → Int32} {j : Nat} (hj : j < 60) : f_X10_number nums (iq j) = some (nums j) := by
  simp (disch := omega) only [f_X10_number, iq_l0, iq_l60, iq_lt, iq_le, iq_nat, if_neg, gd_of, Int.toNat_natCast]
def apd (P : Nat → Int) (n : Nat) (vals : Nat → Int) : Nat → Int := fun d => if d < n then P d else vals (d - n)
theorem CR_add {row : Nat → Int32} {n : Nat} {P : Nat → Int} (h : CR row n P) (hn : n < 60) (h1 : 1 ≤ P n) (h2 : P n ≤ 9999) : CR (upd row n (iq (P n))) (n + 1) P := ⟨by omega, fun d hd => by
  by_cases c : d = n
  · subst c; exact ⟨h1, h2⟩
  · exact h.2.1 d (by omega), fun d hd => by
  by_cases c : d = n
  · subst c; exact upd_self _ _ _
  · rw [upd_ne c]; exact h.2.2 d (by omega)⟩
theorem x_add {row : Nat → Int32} {n : Nat} {v : Int32} (hn : n < 60) : f_X6_add (iq n) row v = some (iq ((n + 1 : Nat) : Int), upd row n v) := by
  simp (disch := omega) only [f_X6_add, iq_l60, iq_l0, iq_le, iq_lt, iq_nat, if_neg, gd_of, Int.toNat_natCast, iq_l1, iq_add]
  rfl
theorem m_adds {s : Nat → Int32} {n : Nat} {v : Int32} (hn : n < 60) (h0 : s 0 = iq n) : f_X12_adds s v = some (upd (upd s (8 + n) v) 0 (iq ((n + 1 : Nat) : Int))) := by
  have e : ((8 : Int) + (n : Int)).toNat = 8 + n := by omega
  unfold f_X12_adds
  rw [h0]
  simp (disch := omega) only [iq_l8, iq_l0, iq_l1, iq_add, iq_lt, iq_nat, gd_of, e]
  rw [upd_ne (by omega), h0, iq_add]
  rfl
theorem MR_add {s : Nat → Int32} {n : Nat} {P : Nat → Int} (h : MR s n P) (hn : n < 60) (h1 : 1 ≤ P n) (h2 : P n ≤ 9999) (z : Int32) : MR (upd (upd s (8 + n) (iq (P n))) 0 z) (n + 1) P := ⟨by omega, fun d hd => by
  by_cases c : d = n
  · subst c; exact ⟨h1, h2⟩
  · exact h.2.1 d (by omega), fun d hd => by
  rw [upd_ne (by omega)]
  by_cases c : d = n
  · subst c; exact upd_self _ _ _
  · rw [upd_ne (by omega)]; exact h.2.2 d (by omega)⟩
theorem x_addAll_loop {nums : Nat → Int32} {cnt n : Nat} {vals P : Nat → Int} (hcn : n + cnt ≤ 60) (hv : ∀ k, k < cnt → nums k = iq (vals k) ∧ 1 ≤ vals k ∧ vals k ≤ 9999) : ∀ (m fu k : Nat) (row : Nat → Int32), k + m = cnt → m < fu → CR row (n + k) (apd P n vals) → ∃ row2, l_X10_addAll_18 (iq cnt) nums fu (iq k) (iq ((n + k : Nat) : Int)) row = some (iq ((n + cnt : Nat) : Int), row2) ∧ CR row2 (n + cnt) (apd P n vals) := by
  intro m
  induction m with
  | zero =>
    intro fu k row hk hf h
    obtain ⟨fu, rfl⟩ : ∃ g, fu = g + 1 := ⟨fu - 1, by omega⟩
    obtain rfl : k = cnt := by omega
    refine ⟨row, ?_, h⟩
    rw [l_X10_addAll_18]
    simp (disch := omega) only [iq_le, if_pos]
  | succ m ih =>
    intro fu k row hk hf h
    obtain ⟨fu, rfl⟩ : ∃ g, fu = g + 1 := ⟨fu - 1, by omega⟩
    obtain ⟨g1, g2, g3⟩ := hv k (by omega)
    have e : apd P n vals (n + k) = vals k := by unfold apd; rw [if_neg (by omega), show n + k - n = k by omega]
    have h2 := CR_add h (by omega) (by rw [e]; exact g2) (by rw [e]; exact g3)
    obtain ⟨row2, k1, k2⟩ := ih fu (k + 1) (upd row (n + k) (iq (apd P n vals (n + k)))) (by omega) (by omega) h2
    refine ⟨row2, ?_, k2⟩
    rw [l_X10_addAll_18, x_num (by omega), bd1_s, g1, x_add (by omega), bd2_s]
    simp (disch := omega) only [iq_le, if_neg, iq_l1, iq_add]
    rw [e] at k1
    exact k1
theorem m_addAll_loop {rd pr : Nat → Int32} {q st cnt n : Nat} {vals P : Nat → Int} (hq : q ≤ 30) (hcn : n + cnt ≤ 60) (hst : st + cnt ≤ 60) (h3 : rd (5 * q + 3) = iq st) (h4 : rd (5 * q + 4) = iq cnt) (hv : ∀ k, k < cnt → pr (st + k) = iq (vals k) ∧ 1 ≤ vals k ∧ vals k ≤ 9999) : ∀ (m fu k : Nat) (s : Nat → Int32), k + m = cnt → m < fu → MR s (n + k) (apd P n vals) → s 0 = iq ((n + k : Nat) : Int) → ∃ s2, l_X12_does_122 rd pr (iq (5 * (q : Int))) (iq 0) fu (iq k) s = some s2 ∧ MR s2 (n + cnt) (apd P n vals) ∧ s2 0 = iq ((n + cnt : Nat) : Int) ∧ ∀ x, 1 ≤ x → x < 8 → s2 x = s x := by
  have k53 : (5 * (q : Int) + 3).toNat = 5 * q + 3 := by omega
  have k54 : (5 * (q : Int) + 4).toNat = 5 * q + 4 := by omega
  intro m
  induction m with
  | zero =>
    intro fu k s hk hf h h0
    obtain ⟨fu, rfl⟩ : ∃ g, fu = g + 1 := ⟨fu - 1, by omega⟩
    obtain rfl : k = cnt := by omega
    refine ⟨s, ?_, h, h0, fun _ _ _ => rfl⟩
    rw [l_X12_does_122]
    simp (disch := omega) only [iq_l4, iq_l0, iq_add, iq_lt, iq_nat, gd_of, k54, h4, iq_le, if_pos]
  | succ m ih =>
    intro fu k s hk hf h h0
    obtain ⟨fu, rfl⟩ : ∃ g, fu = g + 1 := ⟨fu - 1, by omega⟩
    obtain ⟨g1, g2, g3⟩ := hv k (by omega)
    have e : apd P n vals (n + k) = vals k := by unfold apd; rw [if_neg (by omega), show n + k - n = k by omega]
    have h2 := MR_add h (by omega) (by rw [e]; exact g2) (by rw [e]; exact g3) (iq ((n + k + 1 : Nat) : Int))
    obtain ⟨s2, k1, k2, k3, k4⟩ := ih fu (k + 1) (upd (upd s (8 + (n + k)) (iq (apd P n vals (n + k)))) 0 (iq ((n + k + 1 : Nat) : Int))) (by omega) (by omega) h2 (upd_self _ _ _)
    refine ⟨s2, ?_, k2, k3, fun x hx hx2 => by rw [k4 x hx hx2, upd_ne (by omega), upd_ne (by omega)]⟩
    have k55 : ((st : Int) + (k : Int)).toNat = st + k := by omega
    rw [l_X12_does_122]
    simp (disch := omega) only [iq_l4, iq_l3, iq_l0, iq_add, iq_lt, iq_nat, gd_of, k54, k53, h4, h3, iq_le, if_neg, if_true, k55, g1]
    rw [m_adds (n := n + k) (by omega) h0, bd1_s, iq_l1, iq_add]
    rw [e] at k1
    exact k1
theorem MR_keep {s s2 : Nat → Int32} {n : Nat} {P : Nat → Int} (h : MR s n P) (h2 : ∀ x, 8 ≤ x → s2 x = s x) : MR s2 n P := ⟨h.1, h.2.1, fun d hd => by rw [h2 _ (by omega)]; exact h.2.2 d hd⟩
theorem x_hasDay_yes {n d : Nat} (hn : n ≤ 60) (hd : d < n) : f_X6_hasDay (iq n) (iq d) = some (iq 1) := by
  simp (disch := omega) only [f_X6_hasDay, iq_l0, iq_lt, iq_le, if_neg, iq_l1]
theorem x_hasDay_no {n : Nat} {d : Int} (hn : n ≤ 60) (h1 : -2147483648 ≤ d) (h2 : d < 2147483648) (hd : ¬ (0 ≤ d ∧ d < n)) : f_X6_hasDay (iq n) (iq d) = some (iq 0) := by
  unfold f_X6_hasDay
  by_cases c : d < 0
  · simp (disch := omega) only [iq_l0, iq_lt, if_pos]
  · simp (disch := omega) only [iq_l0, iq_lt, iq_le, if_neg, if_pos]
theorem m_isDay_yes {s : Nat → Int32} {n d : Nat} (hn : n ≤ 60) (h0 : s 0 = iq n) (hd : d < n) : f_X12_isDay s (iq d) = some (iq 1) := by
  unfold f_X12_isDay
  rw [h0, iq_l1, iq_l0, iq_sub, m_in_yes (by omega) (by omega) (by omega) (by omega), bd1_s]
  exact gd_of and_1
theorem m_isDay_no {s : Nat → Int32} {n : Nat} {d : Int} (hn : n ≤ 60) (h0 : s 0 = iq n) (h1 : -2147483648 ≤ d) (h2 : d < 2147483648) (hd : ¬ (0 ≤ d ∧ d < n)) : f_X12_isDay s (iq d) = some (iq 0) := by
  unfold f_X12_isDay
  rw [h0, iq_l1, iq_l0, iq_sub, m_in_no (by omega) (by omega) (by omega) (by omega) (by omega) (by omega) (by omega), bd1_s]
  exact gd_of and_0
set_option maxHeartbeats 4000000 in
theorem do_part {row s : Nat → Int32} {n a b se q cnt pm : Nat} {me li : Int} {P vals : Nat → Int} {c : Nat} {rd pr nums : Nat → Int32} (hV : NV row s n a b se me li P) (hq : q ≤ 30) (hpm : pm ≤ 30) (hB : BD c q cnt vals pm rd pr) (hN : ∀ k, k < cnt → nums k = iq (vals k)) :
    ∃ (why : Int) (n2 a2 b2 : Nat) (me2 li2 : Int) (P2 : Nat → Int) (row2 s2 : Nat → Int32), 0 ≤ why ∧ why ≤ 4 ∧ f_X10_doPart (iq c) (iq cnt) nums (iq n) (iq a) (iq b) (iq me) (iq li) row = some (iq why, iq n2, iq a2, iq b2, iq me2, iq li2, row2) ∧ f_X12_does s rd pr (iq (5 * (q : Int))) = some (iq why, s2) ∧ NV row2 s2 n2 a2 b2 se me2 li2 P2 := by
  obtain ⟨⟨v1, v2, v3, v4, v5, v6, v7, v8, v9, v10⟩, hC, hM, h0, h1, h2, h3, h4, h5⟩ := hV
  have hn := hC.1
  have k5 : (5 * (q : Int)).toNat = 5 * q := by omega
  have k51 : (5 * (q : Int) + 1).toNat = 5 * q + 1 := by omega
  have k52 : (5 * (q : Int) + 2).toNat = 5 * q + 2 := by omega
  have k54 : (5 * (q : Int) + 4).toNat = 5 * q + 4 := by omega
  have z0 : (0 : Int32) = iq ((0 : Nat) : Int) := rfl
  have z1 : (1 : Int32) = iq ((1 : Nat) : Int) := rfl
  obtain ⟨hr, hB⟩ := hB
  unfold f_X10_doPart f_X12_does
  rcases hB with ⟨rfl, st, r3, r4, c1, c2, r5⟩ | ⟨rfl, rfl, r1, r2, b1, b2, b3, b4⟩ | ⟨rfl, rfl, r1, b1, b2⟩ | ⟨rfl, rfl, r1, b1, b2⟩ | ⟨rfl, rfl, r1, b1, b2⟩ | rfl
  · -- p
    by_cases cc : n + cnt ≤ 60
    · have hv : ∀ k, k < cnt → nums k = iq (vals k) ∧ 1 ≤ vals k ∧ vals k ≤ 9999 := fun k hk => ⟨hN k hk, (r5 k hk).2⟩
      have e : ∀ d, d < n → apd P n vals d = P d := fun d hd => if_pos hd
      have hC2 : CR row (n + 0) (apd P n vals) := ⟨hC.1, fun d hd => by rw [e d hd]; exact hC.2.1 d hd, fun d hd => by rw [e d hd]; exact hC.2.2 d hd⟩
      have hM2 : MR s (n + 0) (apd P n vals) := ⟨hM.1, fun d hd => by rw [e d hd]; exact hM.2.1 d hd, fun d hd => by rw [e d hd]; exact hM.2.2 d hd⟩
      obtain ⟨row2, g1, g2⟩ := x_addAll_loop cc hv cnt 1000 0 row (by omega) (by omega) hC2
      obtain ⟨s2, g3, g4, g5, g6⟩ := m_addAll_loop (pr := pr) (rd := rd) hq cc (by omega) r3 r4 r5 cnt 1000 0 s (by omega) (by omega) hM2 h0
      refine ⟨0, n + cnt, a, b, me, li, apd P n vals, row2, s2, by omega, by omega, ?_, ?_, ⟨v1, v2, v3, v4, v5, v6, v7, v8, v9, v10⟩, g2, g4, g5, by rw [g6 _ (by omega) (by omega)]; exact h1, by rw [g6 _ (by omega) (by omega)]; exact h2, by rw [g6 _ (by omega) (by omega)]; exact h3, by rw [g6 _ (by omega) (by omega)]; exact h4, by rw [g6 _ (by omega) (by omega)]; exact h5⟩
      · have g1 : l_X10_addAll_18 (iq cnt) nums 1000 (iq 0) (iq n) row = some (iq ((n + cnt : Nat) : Int), row2) := g1
        simp (disch := omega) only [iq_l108, iq_l109, iq_l112, iq_eq, if_neg, if_pos, if_true, f_X10_addAll, iq_l60, iq_add, iq_le, iq_l0, g1, bd2_s, bd3_s]
      · have g3 : l_X12_does_122 rd pr (iq (5 * (q : Int))) (iq 0) 1000 (iq 0) s = some s2 := g3
        simp (disch := omega) only [iq_l1, iq_l2, iq_l4, iq_l0, iq_add, iq_lt, iq_nat, gd_of, k5, hr, iq_l108, iq_l109, iq_l112, iq_eq, if_neg, if_pos, if_true, k54, r4, h0, iq_l60, iq_le, bd1_s, g3]
    · refine ⟨1, n, a, b, me, li, P, row, s, by omega, by omega, ?_, ?_, ⟨v1, v2, v3, v4, v5, v6, v7, v8, v9, v10⟩, hC, hM, h0, h1, h2, h3, h4, h5⟩
      · simp (disch := omega) only [iq_l108, iq_l109, iq_l112, iq_eq, if_neg, if_pos, if_true, f_X10_addAll, iq_l60, iq_add, iq_le, iq_l1, bd3_s]
      · simp (disch := omega) only [iq_l1, iq_l2, iq_l4, iq_l0, iq_add, iq_lt, iq_nat, gd_of, k5, hr, iq_l108, iq_l109, iq_l112, iq_eq, if_neg, if_pos, if_true, k54, r4, h0, iq_l60, iq_le, bd1_s]
        rw [show (1000 : Nat) = 999 + 1 from rfl, l_X12_does_122]
        simp (disch := omega) only [iq_l4, iq_l0, iq_add, iq_lt, iq_nat, gd_of, k54, r4, iq_le, if_neg, iq_eq, if_false, bd1_s]
  · -- w
    have hn0 := hN 0 (by omega)
    have hn1 := hN 1 (by omega)
    have y0 := x_num (nums := nums) (j := 0) (by omega)
    have y1 := x_num (nums := nums) (j := 1) (by omega)
    have y0 : f_X10_number nums (iq 0) = some (iq (vals 0)) := by rw [← hn0]; exact y0
    have y1 : f_X10_number nums (iq 1) = some (iq (vals 1)) := by rw [← hn1]; exact y1
    by_cases cc : vals 0 < vals 1
    · obtain ⟨A, hA⟩ : ∃ A : Nat, vals 0 = A := ⟨(vals 0).toNat, by omega⟩
      obtain ⟨B, hB⟩ : ∃ B : Nat, vals 1 = B := ⟨(vals 1).toNat, by omega⟩
      refine ⟨0, n, A, B, me, li, P, row, upd (upd s 1 (iq A)) 2 (iq B), by omega, by omega, ?_, ?_, ⟨by omega, by omega, by omega, by omega, v5, v6, v7, v8, v9, v10⟩, hC, MR_keep hM (fun x hx => by rw [upd_ne (by omega), upd_ne (by omega)]), by rw [upd_ne (by omega), upd_ne (by omega)]; exact h0, by rw [upd_ne (by omega), upd_self], upd_self _ _ _, by rw [upd_ne (by omega), upd_ne (by omega)]; exact h3, by rw [upd_ne (by omega), upd_ne (by omega)]; exact h4, by rw [upd_ne (by omega), upd_ne (by omega)]; exact h5⟩
      · simp (disch := omega) only [iq_l108, iq_l109, iq_l112, iq_l119, iq_eq, if_neg, if_pos, if_true, f_X10_changeWindows, iq_l0, iq_l1, y0, y1, bd1_s, iq_lt, bd3_s]
        rw [hA, hB]
      · simp (disch := omega) only [iq_l1, iq_l2, iq_l4, iq_l0, iq_add, iq_lt, iq_nat, gd_of, k5, k51, k52, hr, iq_l108, iq_l109, iq_l112, iq_l119, iq_eq, if_neg, if_pos, if_true, r1, r2, iq_le, bd1_s]
        rw [hA, hB]
    · refine ⟨4, n, a, b, me, li, P, row, s, by omega, by omega, ?_, ?_, ⟨v1, v2, v3, v4, v5, v6, v7, v8, v9, v10⟩, hC, hM, h0, h1, h2, h3, h4, h5⟩
      · simp (disch := omega) only [iq_l108, iq_l109, iq_l112, iq_l119, iq_eq, if_neg, if_pos, if_true, f_X10_changeWindows, iq_l0, iq_l1, iq_l4, y0, y1, bd1_s, iq_lt, bd3_s]
      · simp (disch := omega) only [iq_l1, iq_l2, iq_l4, iq_l0, iq_add, iq_lt, iq_nat, gd_of, k5, k51, k52, hr, iq_l108, iq_l109, iq_l112, iq_l119, iq_eq, if_neg, if_pos, if_true, if_false, r1, r2, iq_le, bd1_s]
  · -- m
    have y0 : f_X10_number nums (iq 0) = some (iq (vals 0)) := by rw [← hN 0 (by omega)]; exact x_num (j := 0) (by omega)
    refine ⟨0, n, a, b, vals 0, li, P, row, upd s 3 (iq (vals 0)), by omega, by omega, ?_, ?_, ⟨v1, v2, v3, v4, v5, v6, b1, b2, v9, v10⟩, hC, MR_keep hM (fun x hx => upd_ne (by omega)), by rw [upd_ne (by omega)]; exact h0, by rw [upd_ne (by omega)]; exact h1, by rw [upd_ne (by omega)]; exact h2, upd_self _ _ _, by rw [upd_ne (by omega)]; exact h4, by rw [upd_ne (by omega)]; exact h5⟩
    · simp (disch := omega) only [iq_l108, iq_l109, iq_eq, if_neg, if_pos, if_true, iq_l0, y0, bd1_s]
    · simp (disch := omega) only [iq_l1, iq_l2, iq_l0, iq_add, iq_lt, iq_nat, gd_of, k5, k51, hr, iq_l108, iq_l109, iq_eq, if_neg, if_pos, if_true, r1]
  · -- l
    have y0 : f_X10_number nums (iq 0) = some (iq (vals 0)) := by rw [← hN 0 (by omega)]; exact x_num (j := 0) (by omega)
    refine ⟨0, n, a, b, me, vals 0, P, row, upd s 4 (iq (vals 0)), by omega, by omega, ?_, ?_, ⟨v1, v2, v3, v4, v5, v6, v7, v8, b1, b2⟩, hC, MR_keep hM (fun x hx => upd_ne (by omega)), by rw [upd_ne (by omega)]; exact h0, by rw [upd_ne (by omega)]; exact h1, by rw [upd_ne (by omega)]; exact h2, by rw [upd_ne (by omega)]; exact h3, upd_self _ _ _, by rw [upd_ne (by omega)]; exact h5⟩
    · simp (disch := omega) only [iq_l108, iq_eq, if_pos, if_true, iq_l0, y0, bd1_s]
    · simp (disch := omega) only [iq_l1, iq_l2, iq_l0, iq_add, iq_lt, iq_nat, gd_of, k5, k51, hr, iq_l108, iq_eq, if_pos, if_true, r1]
  · -- x
    have y0 : f_X10_number nums (iq 0) = some (iq (vals 0)) := by rw [← hN 0 (by omega)]; exact x_num (j := 0) (by omega)
    by_cases cd : vals 0 < n
    · obtain ⟨d, hd⟩ : ∃ d : Nat, vals 0 = d := ⟨(vals 0).toNat, by omega⟩
      have hdn : d < n := by omega
      have t1 := x_hasDay_yes hn hdn
      have t2 := m_isDay_yes hn h0 hdn
      have t3 := x_standsOut hC hdn v1 (by omega) v9 v10
      have t4 := m_creased hM hdn v1 (by omega) h1 v9 v10 h4
      have hc9 := cr_le P d a li
      have hm9 := md_bd hC.2.1 hdn v1
      by_cases c9 : cr P d a li = 1
      · rw [c9] at t3 t4
        have t5 := x_flatten hC hdn v1 (by omega)
        have t6 := m_presses hM hdn v1 (by omega) h1
        refine ⟨0, n, a, b, me, li, st_ P d (md P d a), upd row d (iq (md P d a)), upd s (8 + d) (iq (md P d a)), by omega, by omega, ?_, ?_, ⟨v1, v2, v3, v4, v5, v6, v7, v8, v9, v10⟩, CR_put hC hm9, MR_put hM hm9, by rw [upd_ne (by omega)]; exact h0, by rw [upd_ne (by omega)]; exact h1, by rw [upd_ne (by omega)]; exact h2, by rw [upd_ne (by omega)]; exact h3, by rw [upd_ne (by omega)]; exact h4, by rw [upd_ne (by omega)]; exact h5⟩
        · simp (disch := omega) only [iq_l108, iq_l109, iq_l112, iq_l119, iq_l120, iq_eq, if_neg, if_pos, if_true, if_false, f_X10_flattenOne, iq_l0, y0, hd, bd1_s, t1, t3, t5, bd2_s]
        · simp (disch := omega) only [iq_l1, iq_l2, iq_l3, iq_l0, iq_add, iq_lt, iq_nat, gd_of, k5, k51, hr, iq_l108, iq_l109, iq_l112, iq_l119, iq_l120, iq_eq, if_neg, if_pos, if_true, if_false, r1, hd, t2, t4, t6, bd1_s, bd2_s]
      · have c8 : cr P d a li = 0 := by omega
        rw [c8] at t3 t4
        refine ⟨3, n, a, b, me, li, P, row, s, by omega, by omega, ?_, ?_, ⟨v1, v2, v3, v4, v5, v6, v7, v8, v9, v10⟩, hC, hM, h0, h1, h2, h3, h4, h5⟩
        · simp (disch := omega) only [iq_l108, iq_l109, iq_l112, iq_l119, iq_l120, iq_eq, if_neg, if_pos, if_true, if_false, f_X10_flattenOne, iq_l0, iq_l3, y0, hd, bd1_s, t1, t3, bd2_s]
        · simp (disch := omega) only [iq_l1, iq_l2, iq_l3, iq_l0, iq_add, iq_lt, iq_nat, gd_of, k5, k51, hr, iq_l108, iq_l109, iq_l112, iq_l119, iq_l120, iq_eq, if_neg, if_pos, if_true, if_false, r1, hd, t2, t4, bd1_s]
    · have t1 := x_hasDay_no (d := vals 0) hn (by omega) (by omega) (by omega)
      have t2 := m_isDay_no (d := vals 0) hn h0 (by omega) (by omega) (by omega)
      refine ⟨2, n, a, b, me, li, P, row, s, by omega, by omega, ?_, ?_, ⟨v1, v2, v3, v4, v5, v6, v7, v8, v9, v10⟩, hC, hM, h0, h1, h2, h3, h4, h5⟩
      · simp (disch := omega) only [iq_l108, iq_l109, iq_l112, iq_l119, iq_l120, iq_eq, if_neg, if_pos, if_true, if_false, f_X10_flattenOne, iq_l0, iq_l2, y0, bd1_s, t1, bd2_s]
      · simp (disch := omega) only [iq_l1, iq_l2, iq_l3, iq_l0, iq_add, iq_lt, iq_nat, gd_of, k5, k51, hr, iq_l108, iq_l109, iq_l112, iq_l119, iq_l120, iq_eq, if_neg, if_pos, if_true, if_false, r1, t2, bd1_s]
  · -- a
    obtain ⟨row2, g1, g2⟩ := x_flattenAll hC v1 (by omega : a ≤ 60) v9 v10
    obtain ⟨s2, g3, g4, g5⟩ := m_pressesAll hM v1 (by omega : a ≤ 60) h0 h1 v9 v10 h4
    refine ⟨0, n, a, b, me, li, (fa_ P a li n).2, row2, s2, by omega, by omega, ?_, ?_, ⟨v1, v2, v3, v4, v5, v6, v7, v8, v9, v10⟩, g2, g4, by rw [g5 _ (by omega)]; exact h0, by rw [g5 _ (by omega)]; exact h1, by rw [g5 _ (by omega)]; exact h2, by rw [g5 _ (by omega)]; exact h3, by rw [g5 _ (by omega)]; exact h4, by rw [g5 _ (by omega)]; exact h5⟩
    · simp (disch := omega) only [iq_l108, iq_l109, iq_l112, iq_l119, iq_l120, iq_eq, if_neg, if_false, g1, bd2_s, iq_l0]
    · simp (disch := omega) only [iq_l1, iq_l2, iq_l0, iq_add, iq_lt, iq_nat, gd_of, k5, hr, iq_l108, iq_l109, iq_l112, iq_l119, iq_l120, iq_eq, if_neg, if_false, g3, bd2_s]
