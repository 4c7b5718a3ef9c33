/-! crossings and the trade -/
def sd (P : Nat → Int) (d a b : Nat) : Int := if mn P d a = mn P d b then 0 else if mn P d a < mn P d b then -1 else 1
theorem sd_bd (P : Nat → Int) (d a b : Nat) : -1 ≤ sd P d a b ∧ sd P d a b ≤ 1 := by unfold sd; split <;> (try split) <;> omega
theorem x_side {row : Nat → Int32} {n : Nat} {P : Nat → Int} (h : CR row n P) {d a b : Nat} (hd : d < n) (ha : 1 ≤ a) (ha2 : a ≤ 60) (hb : 1 ≤ b) (hb2 : b ≤ 60) : f_X9_sideAt (iq a) (iq b) row (iq d) = some (iq (sd P d a b)) := by
  have g1 := mn_bd h.2.1 hd ha
  have g2 := mn_bd h.2.1 hd hb
  unfold f_X9_sideAt
  rw [x_byAdding h hd ha ha2, bd1_s, x_byAdding h hd hb hb2, bd1_s]
  unfold sd
  rcases Int.lt_trichotomy (mn P d a) (mn P d b) with c | c | c
  · simp (disch := omega) only [iq_eq, iq_le, if_neg, if_pos, iq_l1, iq_neg]
  · simp (disch := omega) only [iq_eq, if_pos, iq_l0]
  · simp (disch := omega) only [iq_eq, iq_le, if_neg, iq_l1]
def co (P : Nat → Int) (a b : Nat) : Nat → Int
  | 0 => 0
  | d + 1 => if sd P (d + 1) a b = sd P d a b then 0 else sd P (d + 1) a b
theorem co_bd (P : Nat → Int) (a b : Nat) : ∀ d : Nat, -1 ≤ co P a b d ∧ co P a b d ≤ 1 := by
  intro d
  cases d with
  | zero => show -1 ≤ (0 : Int) ∧ (0 : Int) ≤ 1; omega
  | succ d =>
    have h := sd_bd P (d + 1) a b
    show -1 ≤ (if sd P (d + 1) a b = sd P d a b then 0 else sd P (d + 1) a b) ∧ (if sd P (d + 1) a b = sd P d a b then 0 else sd P (d + 1) a b) ≤ 1
    by_cases c : sd P (d + 1) a b = sd P d a b
    · rw [if_pos c]; omega
    · rw [if_neg c]; exact h
theorem x_cross {row : Nat → Int32} {n : Nat} {P : Nat → Int} (h : CR row n P) {d a b : Nat} (hd : d < n) (ha : 1 ≤ a) (ha2 : a ≤ 60) (hb : 1 ≤ b) (hb2 : b ≤ 60) : f_X9_crossingAt (iq a) (iq b) row (iq d) = some (iq (co P a b d)) := by
  have h1 := h.1
  unfold f_X9_crossingAt
  cases d with
  | zero =>
    simp (disch := omega) only [iq_l1, iq_le, if_neg, iq_l0]
    rfl
  | succ d =>
    have g1 := sd_bd P (d + 1) a b
    have g2 := sd_bd P d a b
    rw [x_side h hd ha ha2 hb hb2, bd1_s]
    simp (disch := omega) only [iq_l1, iq_le, if_pos, iq_sub]
    rw [show (((d + 1 : Nat) : Int) - 1) = (d : Int) by omega, x_side h (by omega) ha ha2 hb hb2, bd1_s]
    unfold co
    by_cases c : sd P (d + 1) a b = sd P d a b <;> simp (disch := omega) only [iq_eq, if_pos, if_neg, iq_l0]
/-- how many crossings -/
def ck (P : Nat → Int) (a b : Nat) : Nat → Int
  | 0 => 0
  | k + 1 => if co P a b k = 0 then ck P a b k else ck P a b k + 1
theorem ck_bd (P : Nat → Int) (a b : Nat) : ∀ k : Nat, 0 ≤ ck P a b k ∧ ck P a b k ≤ k := by
  intro k
  induction k with
  | zero => unfold ck; omega
  | succ k ih => unfold ck; split <;> omega
theorem x_crossMany {row : Nat → Int32} {n : Nat} {P : Nat → Int} (h : CR row n P) {a b : Nat} (ha : 1 ≤ a) (ha2 : a ≤ 60) (hb : 1 ≤ b) (hb2 : b ≤ 60) : f_X9_numberOfCrossings (iq n) (iq a) (iq b) row = some (iq (ck P a b n)) := by
  have h1 := h.1
  have e : l_X9_numberOfCrossings_4 (iq n) (iq a) (iq b) row 1000 (iq 0) (iq 1) = some (iq (ck P a b (n - 1 + 1))) := by
    refine loop_run (fun f k => l_X9_numberOfCrossings_4 (iq n) (iq a) (iq b) row f (iq (ck P a b (k + 1))) (iq ((k + 1 : Nat) : Int))) (n - 1) _ ?_ ?_ 1000 0 (Nat.zero_le _) (by omega)
    · intro f k hk
      show l_X9_numberOfCrossings_4 (iq n) (iq a) (iq b) row (f + 1) _ _ = l_X9_numberOfCrossings_4 (iq n) (iq a) (iq b) row f (iq (if co P a b (k + 1) = 0 then ck P a b (k + 1) else ck P a b (k + 1) + 1)) (iq (((k + 1 : Nat) : Int) + 1))
      rw [l_X9_numberOfCrossings_4, x_cross h (by omega) ha ha2 hb hb2, bd1_s]
      have hc := co_bd P a b (k + 1)
      by_cases c : co P a b (k + 1) = 0 <;> simp (disch := omega) only [iq_le, iq_l0, iq_eq, if_pos, if_neg, iq_l1, iq_add]
    · intro f
      show l_X9_numberOfCrossings_4 (iq n) (iq a) (iq b) row (f + 1) _ _ = _
      rw [l_X9_numberOfCrossings_4]
      simp (disch := omega) only [iq_le, if_pos]
  have e2 : ck P a b (n - 1 + 1) = ck P a b n := by
    cases n with
    | zero => rfl
    | succ n => rfl
  unfold f_X9_numberOfCrossings
  rw [iq_l0, iq_l1, e, bd1_s, e2]
/-- the trade: coins, pieces, behind k days -/
def mb (c h p : Int) : Int := if 999 - h < c / p then 999 - h else c / p
def tr (P : Nat → Int) (a b : Nat) : Nat → Int × Int
  | 0 => (10000, 0)
  | k + 1 => if co P a b k = 1 then ((tr P a b k).1 - mb (tr P a b k).1 (tr P a b k).2 (P k) * P k, (tr P a b k).2 + mb (tr P a b k).1 (tr P a b k).2 (P k)) else if co P a b k = -1 then ((tr P a b k).1 + (tr P a b k).2 * P k, 0) else tr P a b k
theorem mb_bd {c h p : Int} (h1 : 0 ≤ c) (h2 : 0 ≤ h) (h3 : h ≤ 999) (h4 : 1 ≤ p) : 0 ≤ mb c h p ∧ mb c h p ≤ 999 - h ∧ 0 ≤ mb c h p * p ∧ mb c h p * p ≤ c ∧ 0 ≤ c / p ∧ c / p ≤ c := by
  have h5 : 0 ≤ c / p := Int.ediv_nonneg h1 (by omega)
  have h6 : c / p * p ≤ c := Int.ediv_mul_le c (by omega)
  have h8 : c / p ≤ c := Int.ediv_le_self p h1
  have h7 : 0 ≤ mb c h p ∧ mb c h p ≤ 999 - h ∧ mb c h p ≤ c / p := by unfold mb; split <;> omega
  refine ⟨h7.1, h7.2.1, Int.mul_nonneg h7.1 (by omega), ?_, h5, h8⟩
  exact Int.le_trans (Int.mul_le_mul_of_nonneg_right h7.2.2 (by omega)) h6
theorem hp_bd {h p : Int} (h2 : 0 ≤ h) (h3 : h ≤ 999) (h4 : 1 ≤ p) (h5 : p ≤ 9999) : 0 ≤ h * p ∧ h * p ≤ 9989001 := by
  refine ⟨Int.mul_nonneg h2 (by omega), ?_⟩
  have : h * p ≤ 999 * 9999 := Int.mul_le_mul h3 h5 (by omega) (by omega)
  omega
theorem tr_bd {n : Nat} {P : Nat → Int} (h : PB n P) (a b : Nat) : ∀ {k : Nat}, k ≤ n → 0 ≤ (tr P a b k).1 ∧ (tr P a b k).1 ≤ 10000 + 10000000 * k ∧ 0 ≤ (tr P a b k).2 ∧ (tr P a b k).2 ≤ 999 := by
  intro k
  induction k with
  | zero => intro _; show 0 ≤ (10000 : Int) ∧ (10000 : Int) ≤ _ ∧ 0 ≤ (0 : Int) ∧ (0 : Int) ≤ 999; omega
  | succ k ih =>
    intro hk
    obtain ⟨h1, h2, h3, h4⟩ := ih (by omega)
    have hP := h k (by omega)
    have g := mb_bd h1 h3 h4 hP.1
    have g2 := hp_bd h3 h4 hP.1 hP.2
    unfold tr
    split
    · show 0 ≤ _ - _ ∧ _ - _ ≤ _ ∧ 0 ≤ _ + _ ∧ _ + _ ≤ _; omega
    · split
      · show 0 ≤ _ + _ ∧ _ + _ ≤ _ ∧ 0 ≤ (0 : Int) ∧ (0 : Int) ≤ 999; omega
      · omega
theorem x_pass {row : Nat → Int32} {n : Nat} {P : Nat → Int} (h : CR row n P) {k a b : Nat} (hk : k < n) (ha : 1 ≤ a) (ha2 : a ≤ 60) (hb : 1 ≤ b) (hb2 : b ≤ 60) : f_X9_pass (lq (tr P a b k).1) (iq (tr P a b k).2) (iq a) (iq b) row (iq k) = some (lq (tr P a b (k + 1)).1, iq (tr P a b (k + 1)).2) := by
  have h1 := h.1
  have hP := h.2.1 k hk
  obtain ⟨b1, b2, b3, b4⟩ := tr_bd h.2.1 a b (k := k) (by omega)
  have g := mb_bd b1 b3 b4 hP.1
  have g2 := hp_bd b3 b4 hP.1 hP.2
  have hc := co_bd P a b k
  unfold f_X9_pass
  rw [x_cross h hk ha ha2 hb hb2, bd1_s, at_cr h hk, bd1_s]
  by_cases c : co P a b k = 1
  · have e : tr P a b (k + 1) = ((tr P a b k).1 - mb (tr P a b k).1 (tr P a b k).2 (P k) * P k, (tr P a b k).2 + mb (tr P a b k).1 (tr P a b k).2 (P k)) := by show (if _ then _ else _) = _; rw [if_pos c]
    rw [e]
    simp (disch := omega) only [iq_l0, iq_le, if_neg, iq_long, iq_l999, iq_sub]
    rw [x_div b1 (by omega) (by omega) (by omega), bd1_s]
    by_cases c2 : 999 - (tr P a b k).2 < (tr P a b k).1 / P k
    · have e2 : mb (tr P a b k).1 (tr P a b k).2 (P k) = 999 - (tr P a b k).2 := if_pos c2
      rw [e2]
      simp (disch := omega) only [lq_lt, if_pos, lq_mul, lq_sub, lq_int, iq_add]
    · have e2 : mb (tr P a b k).1 (tr P a b k).2 (P k) = (tr P a b k).1 / P k := if_neg c2
      rw [e2]
      simp (disch := omega) only [lq_lt, if_neg, lq_mul, lq_sub, lq_int, iq_add]
  · by_cases c2 : co P a b k = -1
    · have e : tr P a b (k + 1) = ((tr P a b k).1 + (tr P a b k).2 * P k, 0) := by show (if _ then _ else _) = _; rw [if_neg c, if_pos c2]
      rw [e]
      simp (disch := omega) only [iq_l0, iq_le, if_neg, if_pos, iq_long, lq_mul, lq_add]
    · have e : tr P a b (k + 1) = tr P a b k := by show (if _ then _ else _) = _; rw [if_neg c, if_neg c2]
      rw [e]
      simp (disch := omega) only [iq_l0, iq_le, if_pos]
theorem x_runTo {row : Nat → Int32} {n : Nat} {P : Nat → Int} (h : CR row n P) {d a b : Nat} (hd : d < n) (ha : 1 ≤ a) (ha2 : a ≤ 60) (hb : 1 ≤ b) (hb2 : b ≤ 60) (cc : Int64) (hh : Int32) : f_X9_runTo cc hh (iq a) (iq b) row (iq d) = some (lq (tr P a b (d + 1)).1, iq (tr P a b (d + 1)).2) := by
  have h1 := h.1
  have e : l_X9_runTo_6 (iq a) (iq b) row (iq d) 1000 (iq 0) (lq 10000) (iq 0) = some (lq (tr P a b (d + 1)).1, iq (tr P a b (d + 1)).2) := by
    refine loop_run (fun f k => l_X9_runTo_6 (iq a) (iq b) row (iq d) f (iq ((k : Nat) : Int)) (lq (tr P a b k).1) (iq (tr P a b k).2)) (d + 1) _ ?_ ?_ 1000 0 (Nat.zero_le _) (by omega)
    · intro f k hk
      show l_X9_runTo_6 (iq a) (iq b) row (iq d) (f + 1) _ _ _ = l_X9_runTo_6 (iq a) (iq b) row (iq d) f (iq ((k : Int) + 1)) _ _
      rw [l_X9_runTo_6, x_pass h (by omega) ha ha2 hb hb2, bd2_s]
      simp (disch := omega) only [iq_lt, if_neg, iq_l1, iq_add]
    · intro f
      show l_X9_runTo_6 (iq a) (iq b) row (iq d) (f + 1) _ _ _ = _
      rw [l_X9_runTo_6]
      simp (disch := omega) only [iq_lt, if_pos]
  unfold f_X9_runTo f_X9_start
  rw [bd2_s, iq_l0, lq_l10000, e, bd2_s]
/-- what it is worth -/
def wv (P : Nat → Int) (a b d : Nat) : Int := (tr P a b (d + 1)).1 + (tr P a b (d + 1)).2 * P d
theorem x_valueAt {row : Nat → Int32} {n : Nat} {P : Nat → Int} (h : CR row n P) {d a b : Nat} (hd : d < n) : f_X9_valueAt (lq (tr P a b (d + 1)).1) (iq (tr P a b (d + 1)).2) row (iq d) = some (lq (wv P a b d)) := by
  have hP := h.2.1 d hd
  obtain ⟨b1, b2, b3, b4⟩ := tr_bd h.2.1 a b (k := d + 1) (by omega)
  unfold f_X9_valueAt
  rw [at_cr h hd, bd1_s]
  simp (disch := omega) only [iq_long, lq_mul, lq_add]
  rfl
theorem cmp_ge (x y : Int64) : (0 ≤ lg_cmp x y) = (y ≤ x) := by
  unfold lg_cmp
  apply propext
  by_cases h : x > y
  · rw [if_pos h]
    have h2 : y.toInt < x.toInt := Int64.lt_iff_toInt_lt.mp h
    constructor
    · intro _; exact Int64.le_iff_toInt_le.mpr (by omega)
    · intro _; decide
  · rw [if_neg h]
    have h2 : ¬ y.toInt < x.toInt := fun h3 => h (Int64.lt_iff_toInt_lt.mpr h3)
    by_cases h4 : x = y
    · rw [if_pos h4]
      constructor
      · intro _; exact Int64.le_iff_toInt_le.mpr (by rw [h4]; exact Int.le_refl _)
      · intro _; decide
    · rw [if_neg h4]
      constructor
      · intro h5; exact absurd h5 (by decide)
      · intro h5
        have h6 := Int64.le_iff_toInt_le.mp h5
        exact absurd (Int64.toInt_inj.mp (show x.toInt = y.toInt by omega)) h4