/-! the reference reads the text; the class's second reading of a part -/
def sg (T : Nat → Nat) (n i : Nat) : Nat := if i < n then T i else 0
theorem sg_in {T : Nat → Nat} {n i : Nat} (h : i < n) : sg T n i = T i := if_pos h
theorem sg_out {T : Nat → Nat} {n i : Nat} (h : ¬ i < n) : sg T n i = 0 := if_neg h
theorem sg_bd {T : Nat → Nat} (hT : ∀ i, T i < 1000) (n i : Nat) : sg T n i < 1000 := by
  unfold sg; split
  · exact hT i
  · omega
theorem m_sign {T : Nat → Nat} {n i : Nat} {text : Nat → Int32} (hn : n ≤ 60) (ht : ∀ i, i < n → text i = iq (T i)) (hi : i ≤ 1000) : f_X12_sign (iq n) (iq i) text = some (iq (sg T n i)) := by
  unfold f_X12_sign
  by_cases c : i < n
  · rw [sg_in c]
    simp (disch := omega) only [iq_le, if_neg, iq_l0, iq_lt, iq_nat, gd_of, Int.toNat_natCast]
    rw [ht i c]
  · rw [sg_out c]
    simp (disch := omega) only [iq_le, if_pos, iq_l0]
    rfl
theorem m_in_yes {v a b : Int} (h1 : a ≤ v) (h2 : v ≤ b) (ha : -2147483648 ≤ a) (hb : b < 2147483648) : f_X12_in (iq v) (iq a) (iq b) = some (iq 1) := by
  simp (disch := omega) only [f_X12_in, iq_lt, if_neg, iq_l1]
theorem m_in_no {v a b : Int} (h : ¬ (a ≤ v ∧ v ≤ b)) (hv : -2147483648 ≤ v) (hv2 : v < 2147483648) (ha : -2147483648 ≤ a) (ha2 : a < 2147483648) (hb : -2147483648 ≤ b) (hb2 : b < 2147483648) : f_X12_in (iq v) (iq a) (iq b) = some (iq 0) := by
  unfold f_X12_in
  by_cases c : v < a
  · simp (disch := omega) only [iq_lt, if_pos, iq_l0]
  · simp (disch := omega) only [iq_lt, if_pos, if_neg, iq_l0]
theorem m_takes_yes {T : Nat → Nat} (hT : ∀ i, T i < 1000) {n i lo hi : Nat} {text : Nat → Int32} (hn : n ≤ 60) (ht : ∀ i, i < n → text i = iq (T i)) (hi2 : i ≤ 900) (h1 : lo ≤ sg T n i) (h2 : sg T n i ≤ hi) (h3 : hi < 1000) : f_X12_takes (iq n) (iq i) (iq 1) text (iq lo) (iq hi) = some (iq ((sg T n i : Int) - 48), iq ((i + 1 : Nat) : Int), iq 1) := by
  have e1 := m_sign hn ht (i := i) (by omega)
  have e2 := m_in_yes (v := (sg T n i : Int)) (a := (lo : Int)) (b := (hi : Int)) (by omega) (by omega) (by omega) (by omega)
  unfold f_X12_takes
  rw [e1]
  simp (disch := omega) only [iq_l0, iq_l1, iq_l48, iq_eq, if_neg, if_false, if_true, bd1_s, e2, gd_z1, iq_sub, iq_add]
  first | exact gd_of and_z1 | rfl
theorem m_takes_no {T : Nat → Nat} (hT : ∀ i, T i < 1000) {n i lo hi : Nat} {text : Nat → Int32} (hn : n ≤ 60) (ht : ∀ i, i < n → text i = iq (T i)) (hi2 : i ≤ 900) (h1 : ¬ (lo ≤ sg T n i ∧ sg T n i ≤ hi)) (h2 : lo < 1000) (h3 : hi < 1000) : f_X12_takes (iq n) (iq i) (iq 1) text (iq lo) (iq hi) = some (iq ((sg T n i : Int) - 48), iq i, iq 0) := by
  have hb := sg_bd hT n i
  have e1 := m_sign hn ht (i := i) (by omega)
  have e2 := m_in_no (v := (sg T n i : Int)) (a := (lo : Int)) (b := (hi : Int)) (by omega) (by omega) (by omega) (by omega) (by omega) (by omega) (by omega)
  unfold f_X12_takes
  rw [e1]
  simp (disch := omega) only [iq_l0, iq_l1, iq_l48, iq_eq, if_neg, if_false, if_true, bd1_s, e2, gd_z0, iq_sub, iq_add, Int.add_zero]
theorem m_takes_0 {T : Nat → Nat} {n i : Nat} {text : Nat → Int32} (hn : n ≤ 60) (ht : ∀ i, i < n → text i = iq (T i)) (hi2 : i ≤ 900) (x y : Int32) : f_X12_takes (iq n) (iq i) (iq 0) text x y = some (iq ((sg T n i : Int) - 48), iq i, iq 0) := by
  have e1 := m_sign hn ht (i := i) (by omega)
  unfold f_X12_takes
  rw [e1]
  simp (disch := omega) only [iq_l0, iq_l1, iq_l48, iq_eq, if_neg, if_false, if_true, bd1_s, gd_z0, iq_sub, iq_add, Int.add_zero]
/-- the class's second reading, of the part from b on, has come to i: inn whether in a number, cnt numbers, vals -/
def Rd (codes : Nat → Int32) (n b i inn cnt : Nat) (vals : Nat → Int) : Prop := b + 1 ≤ i ∧ ∀ nums0 : Nat → Int32, ∃ nums : Nat → Int32, (∀ k, k < cnt → nums k = iq (vals k)) ∧ ∀ f, l_X10_readPart_21 (iq n) codes (f + (i - (b + 1))) (iq 0) (iq ((b + 1 : Nat) : Int)) (iq 0) nums0 = l_X10_readPart_21 (iq n) codes f (iq inn) (iq i) (iq cnt) nums
theorem rd_start (codes : Nat → Int32) (n b : Nat) (vals : Nat → Int) : Rd codes n b (b + 1) 0 0 vals := ⟨Nat.le_refl _, fun nums0 => ⟨nums0, fun k hk => absurd hk (Nat.not_lt_zero _), fun f => by rw [Nat.sub_self]; rfl⟩⟩
theorem upd_self (f : Nat → Int32) (k : Nat) (x : Int32) : upd f k x k = x := if_pos rfl
theorem upd_ne {f : Nat → Int32} {k j : Nat} {x : Int32} (h : j ≠ k) : upd f k x j = f j := if_neg h
theorem x_start {cnt : Nat} (hc : cnt < 60) (nums : Nat → Int32) : f_X10_startNumber (iq cnt) nums = some (iq ((cnt + 1 : Nat) : Int), upd nums cnt (iq 0)) := by
  simp (disch := omega) only [f_X10_startNumber, iq_l60, iq_l0, iq_le, iq_lt, iq_nat, if_neg, gd_of, Int.toNat_natCast, iq_l1, iq_add]
  rfl
theorem x_grow {cnt : Nat} (hc : cnt < 60) (nums : Nat → Int32) (x : Int32) : f_X10_growNumber (iq ((cnt + 1 : Nat) : Int)) nums x = some (upd nums cnt (iq 10 * nums cnt + x)) := by
  have e : (((cnt + 1 : Nat) : Int) - 1).toNat = cnt := by omega
  simp (disch := omega) only [f_X10_growNumber, iq_l60, iq_l0, iq_l1, iq_l10, iq_sub, iq_le, iq_lt, iq_nat, if_neg, gd_of, e]
theorem rd_first {T : Nat → Nat} {codes : Nat → Int32} {n b i cnt : Nat} {vals : Nat → Int} (hn : n ≤ 60) (hc : ∀ i, i < n → codes i = iq (T i)) (h : Rd codes n b i 0 cnt vals) (hi : i < n) (h1 : 48 ≤ T i) (h2 : T i ≤ 57) (hcnt : cnt < 60) : Rd codes n b (i + 1) 1 (cnt + 1) (st_ vals cnt ((T i : Int) - 48)) := by
  obtain ⟨hb, h⟩ := h
  refine ⟨by omega, fun nums0 => ?_⟩
  obtain ⟨nums, g1, g2⟩ := h nums0
  refine ⟨upd (upd nums cnt (iq 0)) cnt (iq ((T i : Int) - 48)), fun k hk => ?_, fun f => ?_⟩
  · unfold st_
    by_cases q : k = cnt
    · rw [q, upd_self, if_pos rfl]
    · rw [upd_ne q, upd_ne q, if_neg q, g1 k (by omega)]
  · rw [show f + (i + 1 - (b + 1)) = (f + 1) + (i - (b + 1)) by omega, g2 (f + 1), l_X10_readPart_21, x_codeAt (by omega), bd1_s, bd1_s, hc i hi]
    simp (disch := omega) only [iq_le, if_neg, iq_l59, iq_l48, iq_l57, iq_eq, iq_lt, iq_l0, iq_l1, if_false, if_true]
    rw [x_start hcnt, bd2_s, iq_sub, x_grow hcnt, bd1_s, upd_self]
    simp (disch := omega) only [iq_mul, iq_add, Int.mul_zero, Int.zero_add]
    rfl
theorem rd_more {T : Nat → Nat} {codes : Nat → Int32} {n b i cnt : Nat} {vals : Nat → Int} (hn : n ≤ 60) (hc : ∀ i, i < n → codes i = iq (T i)) (h : Rd codes n b i 1 (cnt + 1) vals) (hi : i < n) (h1 : 48 ≤ T i) (h2 : T i ≤ 57) (hcnt : cnt < 60) : Rd codes n b (i + 1) 1 (cnt + 1) (st_ vals cnt (10 * vals cnt + ((T i : Int) - 48))) := by
  obtain ⟨hb, h⟩ := h
  refine ⟨by omega, fun nums0 => ?_⟩
  obtain ⟨nums, g1, g2⟩ := h nums0
  refine ⟨upd nums cnt (iq (10 * vals cnt + ((T i : Int) - 48))), fun k hk => ?_, fun f => ?_⟩
  · unfold st_
    by_cases q : k = cnt
    · rw [q, upd_self, if_pos rfl]
    · rw [upd_ne q, if_neg q, g1 k (by omega)]
  · rw [show f + (i + 1 - (b + 1)) = (f + 1) + (i - (b + 1)) by omega, g2 (f + 1), l_X10_readPart_21, x_codeAt (by omega), bd1_s, bd1_s, hc i hi]
    simp (disch := omega) only [iq_le, if_neg, iq_l59, iq_l48, iq_l57, iq_eq, iq_lt, iq_l0, iq_l1, if_false, if_true]
    rw [iq_sub, x_grow hcnt, bd1_s, g1 cnt (by omega)]
    simp (disch := omega) only [iq_mul, iq_add]
    rfl
theorem rd_other {T : Nat → Nat} {codes : Nat → Int32} {n b i inn cnt : Nat} {vals : Nat → Int} (hn : n ≤ 60) (hT : ∀ i, T i < 1000) (hc : ∀ i, i < n → codes i = iq (T i)) (h : Rd codes n b i inn cnt vals) (hi : i < n) (h1 : ¬ (48 ≤ T i ∧ T i ≤ 57)) (h2 : T i ≠ 59) : Rd codes n b (i + 1) 0 cnt vals := by
  obtain ⟨hb, h⟩ := h
  have hTi := hT i
  refine ⟨by omega, fun nums0 => ?_⟩
  obtain ⟨nums, g1, g2⟩ := h nums0
  refine ⟨nums, g1, fun f => ?_⟩
  rw [show f + (i + 1 - (b + 1)) = (f + 1) + (i - (b + 1)) by omega, g2 (f + 1), l_X10_readPart_21, x_codeAt (by omega), bd1_s, bd1_s, hc i hi]
  by_cases c : T i < 48
  · simp (disch := omega) only [iq_le, if_neg, if_pos, iq_l59, iq_l48, iq_eq, iq_lt, iq_l0, iq_l1, if_false, if_true, iq_add]
    rfl
  · simp (disch := omega) only [iq_le, if_neg, if_pos, iq_l59, iq_l48, iq_l57, iq_eq, iq_lt, iq_l0, iq_l1, if_false, if_true, iq_add]
    rfl
/-- what the second reading of a part tells at its end -/
def RE (codes : Nat → Int32) (n b e cnt : Nat) (c : Int32) (vals : Nat → Int) : Prop := ∀ (z1 z2 : Int32) (nums0 : Nat → Int32), ∃ nums : Nat → Int32, (∀ k, k < cnt → nums k = iq (vals k)) ∧ f_X10_readPart z1 z2 nums0 (iq n) codes (iq b) = some (iq ((e + 1 : Nat) : Int), c, iq cnt, nums)
theorem rd_end {T : Nat → Nat} {codes : Nat → Int32} {n b j inn cnt : Nat} {vals : Nat → Int} (hn : n ≤ 60) (hT : ∀ i, T i < 1000) (hc : ∀ i, i < n → codes i = iq (T i)) (h : Rd codes n b j inn cnt vals) (hb : b < n) (hj : j ≤ n) (h1 : j = n ∨ T j = 59) : RE codes n b j cnt (iq (T b)) vals := by
  obtain ⟨hb2, h⟩ := h
  intro z1 z2 nums0
  obtain ⟨nums, g1, g2⟩ := h nums0
  refine ⟨nums, g1, ?_⟩
  have e : l_X10_readPart_21 (iq n) codes 1000 (iq 0) (iq ((b + 1 : Nat) : Int)) (iq 0) nums0 = some (iq j, iq cnt, nums) := by
    have g3 := g2 (999 - (j - (b + 1)) + 1)
    rw [show 999 - (j - (b + 1)) + 1 + (j - (b + 1)) = 1000 by omega] at g3
    rw [g3, l_X10_readPart_21]
    by_cases c : j = n
    · simp (disch := omega) only [iq_le, if_pos]
    · have h2 : T j = 59 := by rcases h1 with h1 | h1; exact absurd h1 c; exact h1
      rw [x_codeAt (by omega), bd1_s, hc j (by omega), h2]
      simp (disch := omega) only [iq_le, if_neg, iq_l59, iq_eq, if_pos]
  unfold f_X10_readPart
  rw [x_codeAt (by omega), bd1_s, iq_l0, iq_l1, iq_add, show ((b : Int) + 1) = ((b + 1 : Nat) : Int) from rfl, e, bd3_s, iq_add, hc b hb]
  rfl
/-! numbers -/
theorem m_number_0 {T : Nat → Nat} {n i : Nat} {text : Nat → Int32} (hn : n ≤ 60) (ht : ∀ i, i < n → text i = iq (T i)) (hi2 : i ≤ 900) (x y : Int32) : ∃ r, f_X12_number (iq n) (iq i) (iq 0) text x y = some (r, iq i, iq 0) := by
  refine ⟨iq ((sg T n i : Int) - 48), ?_⟩
  unfold f_X12_number
  rw [m_takes_0 hn ht hi2, bd3_s, l_X12_number_11]
  simp only [iq_l0, if_true, bd2_s]
def dig (c : Nat) : Prop := 48 ≤ c ∧ c ≤ 57
theorem m_number_loop {T : Nat → Nat} (hT : ∀ i, T i < 1000) {n L F b cnt : Nat} {text codes : Nat → Int32} (hn : n ≤ 60) (ht : ∀ i, i < n → text i = iq (T i)) (hc : ∀ i, i < n → codes i = iq (T i)) (hL : L ≠ 0) (hL2 : L ≠ 97) (hcnt : cnt < 60) (vals : Nat → Int) : ∀ (m fu i v dg : Nat), i + m = n → m < fu → At T i L F dg v → 0 < dg → lea L F ≤ v → v ≤ mos L F → Rd codes n b i 1 (cnt + 1) (st_ vals cnt v) →
    ∃ j v2 d2 : Nat, l_X12_number_11 (iq n) text (iq (mos L F)) (iq 1) fu (iq v) (iq i) = some (iq v2, iq j) ∧ i ≤ j ∧ j ≤ n ∧ At T j L F d2 v2 ∧ 0 < d2 ∧ lea L F ≤ v2 ∧ v2 ≤ mos L F ∧ (j < n → dig (T j) → No L F d2 v2 (T j)) ∧ Rd codes n b j 1 (cnt + 1) (st_ vals cnt v2) := by
  have hmo := mos_le L F
  have hle := lea_le L F
  intro m
  induction m with
  | zero =>
    intro fu i v dg hi hf h1 h2 h3 h4 h5
    obtain ⟨fu, rfl⟩ : ∃ g, fu = g + 1 := ⟨fu - 1, by omega⟩
    refine ⟨i, v, dg, ?_, by omega, by omega, h1, h2, h3, h4, fun q => by omega, h5⟩
    have e2 := m_in_no (v := ((sg T n i : Nat) : Int)) (a := 48) (b := 57) (by rw [sg_out (by omega)]; omega) (by omega) (by rw [sg_out (by omega)]; omega) (by omega) (by omega) (by omega) (by omega)
    rw [l_X12_number_11, m_sign hn ht (by omega), bd1_s, iq_l48, iq_l57, e2, bd1_s]
    by_cases c : v = 0
    · simp (disch := omega) only [iq_l0, iq_l1, iq_eq, iq_le, if_false, if_neg, if_pos]
    · simp (disch := omega) only [iq_l0, iq_l1, iq_eq, iq_le, if_false, if_true, if_neg]
  | succ m ih =>
    intro fu i v dg hi hf h1 h2 h3 h4 h5
    obtain ⟨fu, rfl⟩ : ∃ g, fu = g + 1 := ⟨fu - 1, by omega⟩
    have hTi := hT i
    by_cases c : v = 0
    · refine ⟨i, v, dg, ?_, by omega, by omega, h1, h2, h3, h4, fun _ q => Or.inr (Or.inl ⟨hL, q.1, q.2, Or.inr (Or.inl ⟨h2, c⟩)⟩), h5⟩
      rw [l_X12_number_11]
      simp (disch := omega) only [iq_l0, iq_l1, iq_eq, iq_le, if_false, if_neg, if_pos]
    · by_cases cd : dig (T i)
      · have hd : 48 ≤ T i ∧ T i ≤ 57 := cd
        have e0 : (10 * (v : Int) + (T i : Int) - 48) = ((10 * v + (T i - 48) : Nat) : Int) := by omega
        have e2 := m_in_yes (v := ((T i : Nat) : Int)) (a := 48) (b := 57) (by omega) (by omega) (by omega) (by omega)
        by_cases c2 : 10 * v + (T i - 48) ≤ mos L F
        · have h6 : At T (i + 1) L F (dg + 1) (10 * v + (T i - 48)) := ⟨L, F, dg, v, h1, Or.inr (Or.inl ⟨hL, hd.1, hd.2, hL2, fun q => c q.2, Or.inr ⟨by omega, c2⟩, rfl, rfl, rfl, rfl⟩)⟩
          have h7 := rd_more hn hc h5 (by omega) hd.1 hd.2 hcnt
          have e3 : st_ (st_ vals cnt v) cnt (10 * st_ vals cnt v cnt + ((T i : Int) - 48)) = st_ vals cnt ((10 * v + (T i - 48) : Nat) : Int) := by
            funext k
            unfold st_
            by_cases q : k = cnt
            · rw [if_pos q, if_pos q, if_pos rfl]; omega
            · rw [if_neg q, if_neg q, if_neg q]
          rw [e3] at h7
          obtain ⟨j, v2, d2, g1, g2, g3⟩ := ih fu (i + 1) (10 * v + (T i - 48)) (dg + 1) (by omega) (by omega) h6 (by omega) (by omega) c2 h7
          refine ⟨j, v2, d2, ?_, by omega, g3⟩
          rw [l_X12_number_11, m_sign hn ht (by omega), sg_in (by omega), bd1_s, iq_l48, iq_l57, e2, bd1_s, bd1_s, bd1_s]
          simp (disch := omega) only [iq_l0, iq_l1, iq_l10, iq_eq, iq_le, if_false, if_neg, iq_mul, iq_add, iq_sub, iq_lt]
          rw [e0]
          exact g1
        · refine ⟨i, v, dg, ?_, by omega, by omega, h1, h2, h3, h4, fun _ q => Or.inr (Or.inl ⟨hL, q.1, q.2, Or.inr (Or.inr (fun z => by unfold cbn at z; omega))⟩), h5⟩
          rw [l_X12_number_11, m_sign hn ht (by omega), sg_in (by omega), bd1_s, iq_l48, iq_l57, e2, bd1_s, bd1_s]
          simp (disch := omega) only [iq_l0, iq_l1, iq_l10, iq_eq, iq_le, if_false, if_neg, if_pos, iq_mul, iq_add, iq_sub, iq_lt]
      · refine ⟨i, v, dg, ?_, by omega, by omega, h1, h2, h3, h4, fun _ q => absurd q cd, h5⟩
        have hd : ¬ (48 ≤ T i ∧ T i ≤ 57) := cd
        have e2 := m_in_no (v := ((T i : Nat) : Int)) (a := 48) (b := 57) (by omega) (by omega) (by omega) (by omega) (by omega) (by omega) (by omega)
        rw [l_X12_number_11, m_sign hn ht (by omega), sg_in (by omega), bd1_s, iq_l48, iq_l57, e2, bd1_s]
        simp (disch := omega) only [iq_l0, iq_l1, iq_eq, iq_le, if_false, if_true, if_neg]
/-- where a number ends -/
def NE (T : Nat → Nat) (codes : Nat → Int32) (n b i cnt L F lo hi : Nat) (vals : Nat → Int) (j v dg : Nat) : Prop := i < j ∧ j ≤ n ∧ At T j L F dg v ∧ 0 < dg ∧ lo ≤ v ∧ v ≤ hi ∧ (j < n → dig (T j) → No L F dg v (T j)) ∧ Rd codes n b j 1 (cnt + 1) (st_ vals cnt v)
/-- ahead of a number: no digit, no go -/
theorem dead_0 {T : Nat → Nat} {n i L F : Nat} (hi : i ≤ n) (hL : L ≠ 0) (hL2 : L ≠ 97) (h : At T i L F 0 0) (h1 : i < n → dig (T i) → ¬ cbn L F (T i - 48)) : Dead T n i := by
  have hs : ¬ stn L F 0 0 := fun z => by unfold stn at z; omega
  refine ⟨L, F, 0, 0, h, ?_⟩
  by_cases c : i = n
  · exact Or.inr ⟨c, fun z => hs z.2.1⟩
  · refine Or.inl ⟨by omega, ?_⟩
    by_cases cd : dig (T i)
    · refine Or.inr (Or.inl ⟨hL, cd.1, cd.2, Or.inr (Or.inr ?_)⟩)
      rw [Nat.mul_zero, Nat.zero_add]
      exact h1 (by omega) cd
    · exact Or.inr (Or.inr ⟨hL, cd, Or.inl hs⟩)
theorem m_number {T : Nat → Nat} (hT : ∀ i, T i < 1000) {n i L F b cnt lo hi : Nat} {text codes : Nat → Int32} (hn : n ≤ 60) (ht : ∀ i, i < n → text i = iq (T i)) (hc : ∀ i, i < n → codes i = iq (T i)) (hL : L ≠ 0) (hL2 : L ≠ 97) (hcnt : cnt < 60) (hlo : lea L F = lo) (hhi : mos L F = hi) (hlo1 : lo ≤ 1) {vals : Nat → Int} (hi2 : i ≤ n) (h : At T i L F 0 0) (hr : Rd codes n b i 0 cnt vals) :
    (∃ r, f_X12_number (iq n) (iq i) (iq 1) text (iq lo) (iq hi) = some (r, iq i, iq 0) ∧ Dead T n i) ∨ (∃ j v dg : Nat, f_X12_number (iq n) (iq i) (iq 1) text (iq lo) (iq hi) = some (iq v, iq j, iq 1) ∧ NE T codes n b i cnt L F lo hi vals j v dg) := by
  have hmo := mos_le L F
  have e0 : ((48 : Int) + (lo : Int)) = ((48 + lo : Nat) : Int) := rfl
  by_cases c : 48 + lo ≤ sg T n i ∧ sg T n i ≤ 57
  · have hin : i < n := Classical.byContradiction fun z => by rw [sg_out z] at c; omega
    have hs := sg_in (T := T) hin
    rw [hs] at c
    have h6 : At T (i + 1) L F 1 (T i - 48) := ⟨L, F, 0, 0, h, Or.inr (Or.inl ⟨hL, by omega, by omega, hL2, fun q => by omega, by unfold cbn; omega, rfl, rfl, rfl, by omega⟩)⟩
    have h7 := rd_first hn hc hr hin (by omega) (by omega) hcnt
    have e1 : ((T i : Int) - 48) = ((T i - 48 : Nat) : Int) := by omega
    rw [e1] at h7
    obtain ⟨j, v2, d2, g1, g2, g3, g4, g5, g6, g7, g8, g9⟩ := m_number_loop hT (text := text) hn ht hc hL hL2 hcnt vals (n - (i + 1)) 1000 (i + 1) (T i - 48) 1 (by omega) (by omega) h6 (by omega) (by omega) (by omega) h7
    refine Or.inr ⟨j, v2, d2, ?_, by omega, g3, g4, g5, by omega, by omega, g8, g9⟩
    have g1 : l_X12_number_11 (iq n) text (iq (mos L F)) (iq 1) 1000 (iq ((T i - 48 : Nat) : Int)) (iq ((i + 1 : Nat) : Int)) = _ := g1
    unfold f_X12_number
    rw [iq_l48, iq_add, e0, iq_l57, show (57 : Int) = ((57 : Nat) : Int) from rfl, m_takes_yes hT hn ht (by omega) (by rw [hs]; omega) (by rw [hs]; omega) (by omega), bd3_s, hs, e1, ← hhi, g1, bd2_s]
  · refine Or.inl ⟨iq ((sg T n i : Int) - 48), ?_, dead_0 hi2 hL hL2 h (fun q q2 => by
      rw [sg_in q] at c
      have q3 : 48 ≤ T i ∧ T i ≤ 57 := q2
      unfold cbn
      omega)⟩
    unfold f_X12_number
    rw [iq_l48, iq_add, e0, iq_l57, show (57 : Int) = ((57 : Nat) : Int) from rfl, m_takes_no hT hn ht (by omega) c (by omega) (by omega), bd3_s, l_X12_number_11]
    simp only [iq_l0, if_true, bd2_s]
/-- one digit alone -/
theorem m_digit {T : Nat → Nat} (hT : ∀ i, T i < 1000) {n i b cnt : Nat} {text codes : Nat → Int32} (hn : n ≤ 60) (ht : ∀ i, i < n → text i = iq (T i)) (hc : ∀ i, i < n → codes i = iq (T i)) (hcnt : cnt < 60) {vals : Nat → Int} (hi2 : i ≤ n) (h : At T i 109 0 0 0) (hr : Rd codes n b i 0 cnt vals) :
    (∃ r, f_X12_takes (iq n) (iq i) (iq 1) text (iq 48) (iq 57) = some (r, iq i, iq 0) ∧ Dead T n i) ∨ (∃ j v dg : Nat, f_X12_takes (iq n) (iq i) (iq 1) text (iq 48) (iq 57) = some (iq v, iq j, iq 1) ∧ NE T codes n b i cnt 109 0 0 9 vals j v dg) := by
  have hlo : lea 109 0 = 0 := rfl
  have hhi : mos 109 0 = 9 := rfl
  rw [show iq 48 = iq ((48 : Nat) : Int) from rfl, show iq 57 = iq ((57 : Nat) : Int) from rfl]
  by_cases c : 48 ≤ sg T n i ∧ sg T n i ≤ 57
  · have hin : i < n := Classical.byContradiction fun z => by rw [sg_out z] at c; omega
    have hs := sg_in (T := T) hin
    rw [hs] at c
    have h6 : At T (i + 1) 109 0 1 (T i - 48) := ⟨109, 0, 0, 0, h, Or.inr (Or.inl ⟨by omega, by omega, by omega, by omega, fun q => by omega, by unfold cbn; omega, rfl, rfl, rfl, by omega⟩)⟩
    have h7 := rd_first hn hc hr hin (by omega) (by omega) hcnt
    have e1 : ((T i : Int) - 48) = ((T i - 48 : Nat) : Int) := by omega
    rw [e1] at h7
    refine Or.inr ⟨i + 1, T i - 48, 1, ?_, by omega, by omega, h6, by omega, by omega, by omega, fun q q2 => ?_, h7⟩
    · rw [m_takes_yes hT hn ht (by omega) (by rw [hs]; omega) (by rw [hs]; omega) (by omega), hs, e1]
    · have q3 : 48 ≤ T (i + 1) ∧ T (i + 1) ≤ 57 := q2
      refine Or.inr (Or.inl ⟨by omega, q3.1, q3.2, ?_⟩)
      by_cases z : T i - 48 = 0
      · exact Or.inr (Or.inl ⟨by omega, z⟩)
      · exact Or.inr (Or.inr (fun y => by unfold cbn at y; omega))
  · refine Or.inl ⟨iq ((sg T n i : Int) - 48), m_takes_no hT hn ht (by omega) c (by omega) (by omega), dead_0 hi2 (by omega) (by omega) h (fun q q2 => by
      rw [sg_in q] at c
      exact absurd q2 c)⟩
/-- the long window -/
theorem m_long {T : Nat → Nat} (hT : ∀ i, T i < 1000) {n i b cnt : Nat} {text codes : Nat → Int32} (hn : n ≤ 60) (ht : ∀ i, i < n → text i = iq (T i)) (hc : ∀ i, i < n → codes i = iq (T i)) (hcnt : cnt < 60) {vals : Nat → Int} (hi2 : i ≤ n) (h : At T i 119 1 0 0) (hr : Rd codes n b i 0 cnt vals) :
    (∃ (r : Int32) (j : Nat), f_X12_longNumber (iq n) (iq i) (iq 1) text = some (r, iq ((j : Nat) : Int), iq 0) ∧ Dead T n j) ∨ (∃ j v dg : Nat, f_X12_longNumber (iq n) (iq i) (iq 1) text = some (iq ((v : Nat) : Int), iq ((j : Nat) : Int), iq 1) ∧ NE T codes n b i cnt 119 1 2 20 vals j v dg) := by
  have hlo : lea 119 1 = 2 := rfl
  have hhi : mos 119 1 = 20 := rfl
  have k49 : (49 : Int32) = iq ((49 : Nat) : Int) := rfl
  have k57 : (57 : Int32) = iq ((57 : Nat) : Int) := rfl
  have k48 : (48 : Int32) = iq ((48 : Nat) : Int) := rfl
  unfold f_X12_longNumber
  by_cases c : 49 ≤ sg T n i ∧ sg T n i ≤ 57
  · have hin : i < n := Classical.byContradiction fun z => by rw [sg_out z] at c; omega
    have hs := sg_in (T := T) hin
    rw [hs] at c
    have h6 : At T (i + 1) 119 1 1 (T i - 48) := ⟨119, 1, 0, 0, h, Or.inr (Or.inl ⟨by omega, by omega, by omega, by omega, fun q => by omega, by unfold cbn; omega, rfl, rfl, rfl, by omega⟩)⟩
    have h7 := rd_first hn hc hr hin (by omega) (by omega) hcnt
    have e1 : ((T i : Int) - 48) = ((T i - 48 : Nat) : Int) := by omega
    rw [e1] at h7
    rw [k49, k57, m_takes_yes hT hn ht (by omega) (by rw [hs]; omega) (by rw [hs]; omega) (by omega), bd3_s, hs, e1]
    by_cases c1 : T i = 49
    · by_cases c2 : 48 ≤ sg T n (i + 1) ∧ sg T n (i + 1) ≤ 57
      · have hin2 : i + 1 < n := Classical.byContradiction fun z => by rw [sg_out z] at c2; omega
        have hs2 := sg_in (T := T) hin2
        rw [hs2] at c2
        have h8 : At T (i + 2) 119 1 2 (10 + (T (i + 1) - 48)) := ⟨119, 1, 1, T i - 48, h6, Or.inr (Or.inl ⟨by omega, by omega, by omega, by omega, fun q => by omega, by unfold cbn; omega, rfl, rfl, rfl, by omega⟩)⟩
        have h9 := rd_more hn hc h7 hin2 (by omega) (by omega) hcnt
        have e3 : st_ (st_ vals cnt ((T i - 48 : Nat) : Int)) cnt (10 * st_ vals cnt ((T i - 48 : Nat) : Int) cnt + ((T (i + 1) : Int) - 48)) = st_ vals cnt ((10 + (T (i + 1) - 48) : Nat) : Int) := by
          funext k
          unfold st_
          by_cases q : k = cnt
          · rw [if_pos q, if_pos q, if_pos rfl]; omega
          · rw [if_neg q, if_neg q, if_neg q]
        rw [e3] at h9
        refine Or.inr ⟨i + 2, 10 + (T (i + 1) - 48), 2, ?_, by omega, by omega, h8, by omega, by omega, by omega, fun q q2 => ?_, h9⟩
        · rw [k48, m_takes_yes hT hn ht (by omega) (by rw [hs2]; omega) (by rw [hs2]; omega) (by omega), bd3_s, hs2]
          simp (disch := omega) only [iq_l0, iq_l1, iq_l10, iq_eq, if_false, if_pos, if_neg, iq_add]
          rw [show (10 + ((T (i + 1) : Int) - 48)) = ((10 + (T (i + 1) - 48) : Nat) : Int) by omega]
        · have q3 : 48 ≤ T (i + 2) ∧ T (i + 2) ≤ 57 := q2
          exact Or.inr (Or.inl ⟨by omega, q3.1, q3.2, Or.inr (Or.inr (fun y => by unfold cbn at y; omega))⟩)
      · refine Or.inl ⟨iq (10 + ((sg T n (i + 1) : Int) - 48)), i + 1, ?_, 119, 1, 1, T i - 48, h6, ?_⟩
        · rw [k48, m_takes_no hT hn ht (by omega) c2 (by omega) (by omega), bd3_s]
          simp (disch := omega) only [iq_l0, iq_l1, iq_l10, iq_eq, if_false, if_pos, if_neg, iq_add]
        · have hs9 : ¬ stn 119 1 1 (T i - 48) := fun z => by unfold stn at z; omega
          by_cases c3 : i + 1 = n
          · exact Or.inr ⟨c3, fun z => hs9 z.2.1⟩
          · rw [sg_in (by omega)] at c2
            exact Or.inl ⟨by omega, Or.inr (Or.inr ⟨by omega, c2, Or.inl hs9⟩)⟩
    · have hb2 := sg_bd hT n (i + 1)
      by_cases c2 : T i = 50 ∧ sg T n (i + 1) = 48
      · have hin2 : i + 1 < n := Classical.byContradiction fun z => by rw [sg_out z] at c2; omega
        have hs2 := sg_in (T := T) hin2
        have c4 : T (i + 1) = 48 := by rw [← hs2]; exact c2.2
        have h8 : At T (i + 2) 119 1 2 20 := ⟨119, 1, 1, T i - 48, h6, Or.inr (Or.inl ⟨by omega, by omega, by omega, by omega, fun q => by omega, by unfold cbn; omega, rfl, rfl, rfl, by omega⟩)⟩
        have h9 := rd_more hn hc h7 hin2 (by omega) (by omega) hcnt
        have e3 : st_ (st_ vals cnt ((T i - 48 : Nat) : Int)) cnt (10 * st_ vals cnt ((T i - 48 : Nat) : Int) cnt + ((T (i + 1) : Int) - 48)) = st_ vals cnt ((20 : Nat) : Int) := by
          funext k
          unfold st_
          by_cases q : k = cnt
          · rw [if_pos q, if_pos q, if_pos rfl]; omega
          · rw [if_neg q, if_neg q, if_neg q]
        rw [e3] at h9
        refine Or.inr ⟨i + 2, 20, 2, ?_, by omega, by omega, h8, by omega, by omega, by omega, fun q q2 => ?_, h9⟩
        · rw [m_sign hn ht (by omega), bd1_s, c2.2]
          simp (disch := omega) only [iq_l0, iq_l1, iq_l2, iq_l48, iq_eq, if_false, if_pos, if_neg, iq_add]
          rfl
        · have q3 : 48 ≤ T (i + 2) ∧ T (i + 2) ≤ 57 := q2
          exact Or.inr (Or.inl ⟨by omega, q3.1, q3.2, Or.inr (Or.inr (fun y => by unfold cbn at y; omega))⟩)
      · refine Or.inr ⟨i + 1, T i - 48, 1, ?_, by omega, by omega, h6, by omega, by omega, by omega, fun q q2 => ?_, h7⟩
        · rw [m_sign hn ht (by omega), bd1_s]
          by_cases c5 : T i = 50
          · simp (disch := omega) only [iq_l0, iq_l1, iq_l2, iq_l48, iq_eq, if_false, if_pos, if_neg]
          · simp (disch := omega) only [iq_l0, iq_l1, iq_l2, iq_l48, iq_eq, if_false, if_neg]
        · have q3 : 48 ≤ T (i + 1) ∧ T (i + 1) ≤ 57 := q2
          rw [sg_in q] at c2
          exact Or.inr (Or.inl ⟨by omega, q3.1, q3.2, Or.inr (Or.inr (fun y => by unfold cbn at y; omega))⟩)
  · refine Or.inl ⟨iq ((sg T n i : Int) - 48), i, ?_, dead_0 hi2 (by omega) (by omega) h (fun q q2 => by
      rw [sg_in q] at c
      have q3 : 48 ≤ T i ∧ T i ≤ 57 := q2
      unfold cbn
      omega)⟩
    rw [k49, k57, m_takes_no hT hn ht (by omega) c (by omega) (by omega), bd3_s]
    simp (disch := omega) only [iq_l0, if_true]
theorem m_long_0 {T : Nat → Nat} {n i : Nat} {text : Nat → Int32} (hn : n ≤ 60) (ht : ∀ i, i < n → text i = iq (T i)) (hi2 : i ≤ 900) : ∃ r, f_X12_longNumber (iq n) (iq i) (iq 0) text = some (r, iq i, iq 0) := by
  refine ⟨iq ((sg T n i : Int) - 48), ?_⟩
  unfold f_X12_longNumber
  rw [m_takes_0 hn ht hi2, bd3_s]
  simp only [iq_l0, if_true]
