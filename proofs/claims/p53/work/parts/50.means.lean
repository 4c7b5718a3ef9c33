/-! prices in the class's row and in the reference's, bounded; means, weighted means, smoothing: one number for both -/
def PB (n : Nat) (P : Nat → Int) : Prop := ∀ d, d < n → 1 ≤ P d ∧ P d ≤ 9999
def CR (row : Nat → Int32) (n : Nat) (P : Nat → Int) : Prop := n ≤ 60 ∧ PB n P ∧ ∀ d, d < n → row d = iq (P d)
def MR (s : Nat → Int32) (n : Nat) (P : Nat → Int) : Prop := n ≤ 60 ∧ PB n P ∧ ∀ d, d < n → s (8 + d) = iq (P d)
theorem at_cr {row : Nat → Int32} {n : Nat} {P : Nat → Int} (h : CR row n P) {d : Nat} (hd : d < n) : f_X6_at row (iq d) = some (iq (P d)) := by
  have h1 := h.1
  have h2 := h.2.2 d hd
  simp (disch := omega) only [f_X6_at, iq_l0, iq_l60, iq_lt, iq_le, iq_nat, if_neg, gd_of, Int.toNat_natCast, h2]
theorem sa_P {n : Nat} {P : Nat → Int} (h : PB n P) {a k : Nat} (hk : a + k ≤ n) : (k : Int) ≤ sa P a k ∧ sa P a k ≤ 9999 * k := by
  have := sa_bd (g := P) (a := a) (lo := 1) (hi := 9999) (k := k) (fun j hj => h (a + j) (by omega))
  omega
/-- the first day of a window, and how many days it has -/
def fw (d w : Nat) : Nat := d + 1 - w
def nw (d w : Nat) : Nat := d + 1 - fw d w
theorem fw_nw (d w : Nat) : fw d w + nw d w = d + 1 := by unfold nw fw; omega
theorem nw_pos {d w : Nat} (h : 1 ≤ w) : 1 ≤ nw d w := by unfold nw fw; omega
theorem nw_le (d w : Nat) : nw d w ≤ w ∧ nw d w ≤ d + 1 := by unfold nw fw; omega
theorem x_firstOf {d w : Nat} (hd : d < 1000) (hw : w < 1000) : f_X4_firstOf (iq d) (iq w) = some (iq ((fw d w : Nat) : Int)) := by
  unfold f_X4_firstOf fw
  by_cases h : w ≤ d
  · simp (disch := omega) only [iq_le, iq_sub, iq_l1, iq_add, if_pos]
    congr 2; omega
  · simp (disch := omega) only [iq_le, iq_l0, if_neg]
    congr 2; omega
theorem x_div {a b : Int} (h1 : 0 ≤ a) (h2 : a < 9223372036854775808) (h3 : 0 < b) (h4 : b < 9223372036854775808) : f_X11_divided (lq a) (lq b) = some (lq (a / b)) := by
  simp (disch := omega) only [f_X11_divided, pr_cmp_le, lq_l0, lq_le, lq_eq, if_neg, gd_of, lq_div]
theorem x_byAdding_loop {row : Nat → Int32} {n : Nat} {P : Nat → Int} (h : CR row n P) {d a N : Nat} (hd : d < n) (hN : a + N = d + 1) : l_X4_byAdding_12 row (iq d) 1000 (lq 0) (iq a) = some (lq (sa P a N)) := by
  have h1 := h.1
  refine loop_run (fun f k => l_X4_byAdding_12 row (iq d) f (lq (sa P a k)) (iq ((a + k : Nat) : Int))) N _ ?_ ?_ 1000 0 (Nat.zero_le _) (by omega)
  · intro f k hk
    show l_X4_byAdding_12 row (iq d) (f + 1) _ _ = _
    rw [l_X4_byAdding_12]
    have hP := h.2.1 (a + k) (by omega)
    simp (disch := omega) only [iq_lt, if_neg, at_cr h, bd1_s, iq_long, lq_add, iq_l1, iq_add]
    rfl
  · intro f
    show l_X4_byAdding_12 row (iq d) (f + 1) _ _ = _
    rw [l_X4_byAdding_12]
    simp (disch := omega) only [iq_lt, if_pos]
/-- the mean of a window -/
def mn (P : Nat → Int) (d w : Nat) : Int := 1000 * sa P (fw d w) (nw d w) / (nw d w : Int)
theorem mn_bd {n : Nat} {P : Nat → Int} (h : PB n P) {d w : Nat} (hd : d < n) (hw : 1 ≤ w) : 1000 ≤ mn P d w ∧ mn P d w ≤ 9999000 := by
  have h2 := nw_pos (d := d) hw
  have h3 := sa_P h (a := fw d w) (k := nw d w) (by rw [fw_nw]; omega)
  unfold mn
  generalize sa P (fw d w) (nw d w) = S at h3 ⊢
  generalize nw d w = N at h2 h3 ⊢
  constructor
  · exact Int.le_ediv_of_mul_le (by omega) (by omega)
  · exact Int.ediv_le_of_le_mul (by omega) (by omega)
theorem x_byAdding {row : Nat → Int32} {n : Nat} {P : Nat → Int} (h : CR row n P) {d w : Nat} (hd : d < n) (hw : 1 ≤ w) (hw2 : w ≤ 60) : f_X4_byAdding row (iq d) (iq w) = some (iq (mn P d w)) := by
  have h1 := h.1
  have hn := nw_pos (d := d) hw
  have hn2 := nw_le d w
  have hn3 := fw_nw d w
  have hb := sa_P h.2.1 (a := fw d w) (k := nw d w) (by omega)
  unfold f_X4_byAdding
  rw [x_firstOf (by omega) (by omega), bd1_s, lq_l0, x_byAdding_loop h hd hn3, bd1_s]
  simp (disch := omega) only [lq_l1000, lq_mul, iq_sub, iq_l1, iq_add, iq_long]
  rw [show ((d : Int) - ((fw d w : Nat) : Int) + 1 : Int) = (nw d w : Int) by omega, x_div (by omega) (by omega) (by omega) (by omega), bd1_s, lq_int]
  rfl
theorem x_sumAhead {row : Nat → Int32} {n : Nat} {P : Nat → Int} (h : CR row n P) {m : Nat} (hm : m ≤ n) : f_X4_sumAhead row (iq m) = some (lq (sa P 0 m)) := by
  have h1 := h.1
  have e : l_X4_sumAhead_5 row (iq m) 1000 (lq 0) (iq 0) = some (lq (sa P 0 m)) := by
    refine loop_run (fun f k => l_X4_sumAhead_5 row (iq m) f (lq (sa P 0 k)) (iq ((k : Nat) : Int))) m _ ?_ ?_ 1000 0 (Nat.zero_le _) (by omega)
    · intro f k hk
      show l_X4_sumAhead_5 row (iq m) (f + 1) _ _ = _
      rw [l_X4_sumAhead_5]
      have hP := h.2.1 k (by omega)
      simp (disch := omega) only [iq_le, if_neg, at_cr h, bd1_s, iq_long, lq_add, iq_l1, iq_add]
      show _ = l_X4_sumAhead_5 row (iq m) f (lq (sa P 0 k + P (0 + k))) (iq ((k : Int) + 1))
      rw [Nat.zero_add]
    · intro f
      show l_X4_sumAhead_5 row (iq m) (f + 1) _ _ = _
      rw [l_X4_sumAhead_5]
      simp (disch := omega) only [iq_le, if_pos]
  unfold f_X4_sumAhead
  rw [lq_l0, iq_l0, e, bd1_s]
theorem x_bySums {row : Nat → Int32} {n : Nat} {P : Nat → Int} (h : CR row n P) {d w : Nat} (hd : d < n) (hw : 1 ≤ w) (hw2 : w ≤ 60) : f_X4_bySums row (iq d) (iq w) = some (iq (mn P d w)) := by
  have h1 := h.1
  have hn := nw_pos (d := d) hw
  have hn2 := nw_le d w
  have hn3 := fw_nw d w
  have hb := sa_P h.2.1 (a := fw d w) (k := nw d w) (by omega)
  have hs := sa_append P 0 (fw d w) (nw d w)
  rw [Nat.zero_add] at hs
  unfold f_X4_bySums
  rw [x_firstOf (by omega) (by omega), bd1_s, iq_l1, iq_add, show ((d : Int) + 1 : Int) = ((d + 1 : Nat) : Int) from rfl, x_sumAhead h (by omega), bd1_s, x_sumAhead h (by omega), bd1_s]
  rw [← hn3, hs]
  simp (disch := omega) only [lq_l1000, lq_sub, lq_mul, iq_sub, iq_l1, iq_add, iq_long]
  rw [show ((d : Int) - ((fw d w : Nat) : Int) + 1 : Int) = (nw d w : Int) by omega, show (1000 * (sa P 0 (fw d w) + sa P (fw d w) (nw d w) - sa P 0 (fw d w)) : Int) = 1000 * sa P (fw d w) (nw d w) by omega, x_div (by omega) (by omega) (by omega) (by omega), bd1_s, lq_int]
  rfl
/-- the weighted mean -/
def wg (P : Nat → Int) (a : Nat) : Nat → Int := fun e => ((e : Int) - a + 1) * P e
def wt (a : Nat) : Nat → Int := fun e => ((e : Int) - a + 1)
def wm (P : Nat → Int) (d w : Nat) : Int := 1000 * sa (wg P (fw d w)) (fw d w) (nw d w) / sa (wt (fw d w)) (fw d w) (nw d w)
theorem wg_bd {n : Nat} {P : Nat → Int} (h : PB n P) {a k : Nat} (hk : a + k ≤ n) (hn : n ≤ 60) : 0 ≤ sa (wg P a) a k ∧ sa (wg P a) a k ≤ 599940 * k := by
  have := sa_bd (g := wg P a) (a := a) (lo := 0) (hi := 599940) (k := k) (fun j hj => by
    have hp := h (a + j) (by omega)
    unfold wg
    have e : (((a + j : Nat) : Int) - a + 1) = (j : Int) + 1 := by omega
    rw [e]
    constructor
    · exact Int.mul_nonneg (by omega) (by omega)
    · have h3 : ((j : Int) + 1) * P (a + j) ≤ 60 * 9999 := Int.mul_le_mul (by omega) (by omega) (by omega) (by omega)
      omega)
  omega
theorem wt_bd {a k n : Nat} (hk : a + k ≤ n) (hn : n ≤ 60) : (k : Int) ≤ sa (wt a) a k ∧ sa (wt a) a k ≤ 60 * k := by
  have := sa_bd (g := wt a) (a := a) (lo := 1) (hi := 60) (k := k) (fun j hj => by unfold wt; omega)
  omega
/-- smoothing -/
def sp (me : Int) (P : Nat → Int) : Nat → Int
  | 0 => 1000 * P 0
  | k + 1 => (me * sp me P k + (10 - me) * 1000 * P (k + 1)) / 10
theorem sp_step {me x p : Int} (h1 : 0 ≤ me) (h2 : me ≤ 9) (h3 : 0 ≤ x) (h4 : x ≤ 9999000) (h5 : 1 ≤ p) (h6 : p ≤ 9999) : 0 ≤ me * x + (10 - me) * 1000 * p ∧ me * x + (10 - me) * 1000 * p ≤ 99990000 := by
  have h : me = 0 ∨ me = 1 ∨ me = 2 ∨ me = 3 ∨ me = 4 ∨ me = 5 ∨ me = 6 ∨ me = 7 ∨ me = 8 ∨ me = 9 := by omega
  rcases h with h | h | h | h | h | h | h | h | h | h <;> subst h <;> omega
theorem sp_bd {n : Nat} {P : Nat → Int} (h : PB n P) {me : Int} (h1 : 0 ≤ me) (h2 : me ≤ 9) : ∀ {k : Nat}, k < n → 0 ≤ sp me P k ∧ sp me P k ≤ 9999000 := by
  intro k
  induction k with
  | zero => intro hk; have := h 0 hk; unfold sp; omega
  | succ k ih =>
    intro hk
    obtain ⟨h3, h4⟩ := ih (by omega)
    have h5 := h (k + 1) hk
    have h6 := sp_step h1 h2 h3 h4 h5.1 h5.2
    unfold sp
    omega
theorem x_nextSmooth {row : Nat → Int32} {n : Nat} {P : Nat → Int} (h : CR row n P) {me : Int} (h1 : 0 ≤ me) (h2 : me ≤ 9) {k : Nat} (hk : k + 1 < n) : f_X4_nextSmooth (iq me) (iq (sp me P k)) (iq (P (k + 1))) = some (iq (sp me P (k + 1))) := by
  have hP := h.2.1 (k + 1) hk
  have hb := sp_bd h.2.1 h1 h2 (k := k) (by omega)
  have hs := sp_step h1 h2 hb.1 hb.2 hP.1 hP.2
  unfold f_X4_nextSmooth
  simp (disch := omega) only [iq_l10, iq_l1000, iq_sub, iq_mul, iq_add, iq_div]
  rfl
theorem x_smoothF {row : Nat → Int32} {n : Nat} {P : Nat → Int} (h : CR row n P) {me : Int} (h1 : 0 ≤ me) (h2 : me ≤ 9) {d : Nat} (hd : d < n) : f_X4_smoothedForwards (iq me) row (iq d) = some (iq (sp me P d)) := by
  have hn := h.1
  have e : l_X4_smoothedForwards_12 (iq me) row (iq d) 1000 (iq (sp me P 0)) (iq 1) = some (iq (sp me P d)) := by
    refine loop_run (fun f k => l_X4_smoothedForwards_12 (iq me) row (iq d) f (iq (sp me P k)) (iq ((k + 1 : Nat) : Int))) d _ ?_ ?_ 1000 0 (Nat.zero_le _) (by omega)
    · intro f k hk
      show l_X4_smoothedForwards_12 (iq me) row (iq d) (f + 1) _ _ = _
      rw [l_X4_smoothedForwards_12, at_cr h (d := k + 1) (by omega), bd1_s, x_nextSmooth h h1 h2 (by omega), bd1_s]
      simp (disch := omega) only [iq_lt, if_neg, iq_l1, iq_add]
      rfl
    · intro f
      show l_X4_smoothedForwards_12 (iq me) row (iq d) (f + 1) _ _ = _
      rw [l_X4_smoothedForwards_12]
      simp (disch := omega) only [iq_lt, if_pos]
  unfold f_X4_smoothedForwards
  rw [iq_l0, show (iq 0) = iq ((0 : Nat) : Int) from rfl, at_cr h (d := 0) (by omega), bd1_s, iq_l1000, iq_mul, iq_l1]
  rw [show (1000 * P 0 : Int) = sp me P 0 from rfl, e, bd1_s]
theorem x_smoothR {row : Nat → Int32} {n : Nat} {P : Nat → Int} (h : CR row n P) {me : Int} (h1 : 0 ≤ me) (h2 : me ≤ 9) : ∀ (k f dep : Nat), k < n → k < f → dep + k ≤ 59 → f_X4_smoothedByRecursion (iq me) row f (iq k) (iq dep) = some (iq (sp me P k)) := by
  intro k
  induction k with
  | zero =>
    intro f dep hk hf hd
    obtain ⟨f, rfl⟩ : ∃ g, f = g + 1 := ⟨f - 1, by omega⟩
    rw [f_X4_smoothedByRecursion]
    simp (disch := omega) only [iq_l0, iq_le, if_pos]
    rw [show (iq 0) = iq ((0 : Nat) : Int) from rfl, at_cr h (d := 0) (by omega), bd1_s, iq_l1000, iq_mul]
    rfl
  | succ k ih =>
    intro f dep hk hf hd
    obtain ⟨f, rfl⟩ : ∃ g, f = g + 1 := ⟨f - 1, by omega⟩
    rw [f_X4_smoothedByRecursion]
    simp (disch := omega) only [iq_l0, iq_l60, iq_le, iq_lt, if_neg, if_pos, iq_l1, iq_sub, iq_add]
    rw [show (((k + 1 : Nat) : Int) - 1 : Int) = (k : Int) by omega, show ((dep : Int) + 1 : Int) = ((dep + 1 : Nat) : Int) from rfl, ih f (dep + 1) (by omega) (by omega) (by omega), bd1_s, at_cr h (d := k + 1) (by omega), bd1_s, x_nextSmooth h h1 h2 (by omega), bd1_s]