/-! seasons, forecasts -/
def pd (se p : Nat) : Nat → Nat
  | 0 => 0
  | m + 1 => if m % se = p then pd se p m + 1 else pd se p m
def ps (P : Nat → Int) (se p : Nat) : Nat → Int
  | 0 => 0
  | m + 1 => if m % se = p then ps P se p m + P m else ps P se p m
theorem pd_eq {se p : Nat} (h1 : 2 ≤ se) (h2 : se ≤ 7) (hp : p < se) : ∀ m : Nat, pd se p m = (m + se - 1 - p) / se := by
  intro m
  induction m with
  | zero =>
    unfold pd
    rcases (show se = 2 ∨ se = 3 ∨ se = 4 ∨ se = 5 ∨ se = 6 ∨ se = 7 by omega) with q | q | q | q | q | q <;> subst q <;> omega
  | succ m ih =>
    unfold pd
    rw [ih]
    rcases (show se = 2 ∨ se = 3 ∨ se = 4 ∨ se = 5 ∨ se = 6 ∨ se = 7 by omega) with q | q | q | q | q | q <;> subst q <;> split <;> omega
theorem pd_lt {se p : Nat} (h1 : 2 ≤ se) (h2 : se ≤ 7) (hp : p < se) (m k : Nat) : p + se * k < m ↔ k < pd se p m := by
  rw [pd_eq h1 h2 hp]
  rcases (show se = 2 ∨ se = 3 ∨ se = 4 ∨ se = 5 ∨ se = 6 ∨ se = 7 by omega) with q | q | q | q | q | q <;> subst q <;> omega
theorem pd_at {se p : Nat} (h1 : 2 ≤ se) (h2 : se ≤ 7) (hp : p < se) {m : Nat} (hm : m % se = p) : m = p + se * pd se p m := by
  rw [pd_eq h1 h2 hp]
  rcases (show se = 2 ∨ se = 3 ∨ se = 4 ∨ se = 5 ∨ se = 6 ∨ se = 7 by omega) with q | q | q | q | q | q <;> subst q <;> omega
theorem pd_le (se p : Nat) : ∀ m : Nat, pd se p m ≤ m := by
  intro m
  induction m with
  | zero => exact Nat.le_refl _
  | succ m ih => unfold pd; split <;> omega
theorem part_eq {se : Nat} (h1 : 2 ≤ se) (h2 : se ≤ 7) (d : Nat) : (d : Int) - (d : Int) / (se : Int) * (se : Int) = ((d % se : Nat) : Int) := by
  rcases (show se = 2 ∨ se = 3 ∨ se = 4 ∨ se = 5 ∨ se = 6 ∨ se = 7 by omega) with q | q | q | q | q | q <;> subst q <;> omega
theorem part_lt {se : Nat} (h1 : 2 ≤ se) (d : Nat) : d % se < se := Nat.mod_lt _ (by omega)
theorem ps_bd {n : Nat} {P : Nat → Int} (h : PB n P) (se p : Nat) : ∀ {m : Nat}, m ≤ n → (pd se p m : Int) ≤ ps P se p m ∧ ps P se p m ≤ 9999 * (pd se p m : Int) := by
  intro m
  induction m with
  | zero => intro _; unfold pd ps; omega
  | succ m ih =>
    intro hm
    have h1 := ih (by omega)
    have h2 := h m (by omega)
    unfold pd ps
    split <;> omega
theorem ps_sa (P : Nat → Int) {se p : Nat} (h1 : 2 ≤ se) (h2 : se ≤ 7) (hp : p < se) : ∀ m : Nat, ps P se p m = sa (fun j => P (p + se * j)) 0 (pd se p m) := by
  intro m
  induction m with
  | zero => rfl
  | succ m ih =>
    unfold ps
    by_cases c : m % se = p
    · have e : pd se p (m + 1) = pd se p m + 1 := by show (if _ then _ else _) = _; rw [if_pos c]
      rw [if_pos c, e, ih]
      show _ = sa (fun j => P (p + se * j)) 0 (pd se p m) + P (p + se * (0 + pd se p m))
      rw [Nat.zero_add, ← pd_at h1 h2 hp c]
    · have e : pd se p (m + 1) = pd se p m := by show (if _ then _ else _) = _; rw [if_neg c]
      rw [if_neg c, e, ih]
theorem x_partOf {se d : Nat} (h1 : 2 ≤ se) (h2 : se ≤ 7) (hd : d ≤ 1000) : f_X6_partOf (iq se) (iq d) = some (iq ((d % se : Nat) : Int)) := by
  have e := part_eq h1 h2 d
  have h3 : d % se ≤ d := Nat.mod_le _ _
  simp (disch := omega) only [f_X6_partOf, iq_l0, iq_le, iq_eq, if_neg, gd_of, iq_div, iq_mul, iq_sub]
  rw [e]
theorem x_daysOf {se p m : Nat} (h1 : 2 ≤ se) (h2 : se ≤ 7) (hp : p < se) (hm : m ≤ 60) : f_X5_daysOf (iq se) (iq p) (iq m) = some (iq ((pd se p m : Nat) : Int)) := by
  have e : l_X5_daysOf_5 (iq se) (iq p) (iq m) 1000 (iq 0) (iq 0) = some (iq ((pd se p m : Nat) : Int)) := by
    refine loop_run (fun f k => l_X5_daysOf_5 (iq se) (iq p) (iq m) f (iq ((pd se p k : Nat) : Int)) (iq ((k : Nat) : Int))) m _ ?_ ?_ 1000 0 (Nat.zero_le _) (by omega)
    · intro f k hk
      show l_X5_daysOf_5 (iq se) (iq p) (iq m) (f + 1) _ _ = l_X5_daysOf_5 (iq se) (iq p) (iq m) f (iq (((if k % se = p then pd se p k + 1 else pd se p k : Nat)) : Int)) (iq ((k : Int) + 1))
      have h4 := part_lt h1 k
      rw [l_X5_daysOf_5, x_partOf h1 h2 (by omega), bd1_s]
      by_cases c : k % se = p
      · rw [if_pos c]
        simp (disch := omega) only [iq_le, if_neg, iq_eq, if_pos, iq_l1, iq_add]
        rfl
      · rw [if_neg c]
        simp (disch := omega) only [iq_le, if_neg, iq_eq, iq_l1, iq_add]
    · intro f
      show l_X5_daysOf_5 (iq se) (iq p) (iq m) (f + 1) _ _ = _
      rw [l_X5_daysOf_5]
      simp (disch := omega) only [iq_le, if_pos]
  unfold f_X5_daysOf
  rw [iq_l0, e, bd1_s]
theorem x_sumOf {row : Nat → Int32} {n : Nat} {P : Nat → Int} (h : CR row n P) {se p m : Nat} (h1 : 2 ≤ se) (h2 : se ≤ 7) (hp : p < se) (hm : m ≤ n) : f_X5_sumOf (iq se) row (iq p) (iq m) = some (lq (ps P se p m)) := by
  have hn := h.1
  have e : l_X5_sumOf_5 (iq se) row (iq p) (iq m) 1000 (lq 0) (iq 0) = some (lq (ps P se p m)) := by
    refine loop_run (fun f k => l_X5_sumOf_5 (iq se) row (iq p) (iq m) f (lq (ps P se p k)) (iq ((k : Nat) : Int))) m _ ?_ ?_ 1000 0 (Nat.zero_le _) (by omega)
    · intro f k hk
      show l_X5_sumOf_5 (iq se) row (iq p) (iq m) (f + 1) _ _ = l_X5_sumOf_5 (iq se) row (iq p) (iq m) f (lq (if k % se = p then ps P se p k + P k else ps P se p k)) (iq ((k : Int) + 1))
      have h4 := part_lt h1 k
      have hP := h.2.1 k (by omega)
      rw [l_X5_sumOf_5, x_partOf h1 h2 (by omega), bd1_s]
      by_cases c : k % se = p
      · rw [if_pos c]
        simp (disch := omega) only [iq_le, if_neg, iq_eq, if_pos, at_cr h, bd1_s, iq_long, lq_add, iq_l1, iq_add]
      · rw [if_neg c]
        simp (disch := omega) only [iq_le, if_neg, iq_eq, iq_l1, iq_add]
    · intro f
      show l_X5_sumOf_5 (iq se) row (iq p) (iq m) (f + 1) _ _ = _
      rw [l_X5_sumOf_5]
      simp (disch := omega) only [iq_le, if_pos]
  unfold f_X5_sumOf
  rw [lq_l0, iq_l0, e, bd1_s]
theorem se_succ (p se k : Nat) : ((p + se * (k + 1) : Nat) : Int) = ((p + se * k : Nat) : Int) + (se : Int) := by
  rw [Nat.mul_succ]; omega
theorem mul_bd {x y a b : Int} (h1 : 1 ≤ x) (h2 : x ≤ a) (h3 : 1 ≤ y) (h4 : y ≤ b) : 1 ≤ x * y ∧ x * y ≤ a * b := by
  have h5 : 0 < x * y := Int.mul_pos (by omega) (by omega)
  have h6 : x * y ≤ a * b := Int.mul_le_mul h2 h4 (by omega) (by omega)
  omega
/-- the index of a part -/
def ix (P : Nat → Int) (se p n : Nat) : Int := 1000 * ps P se p n * (n : Int) / ((pd se p n : Int) * sa P 0 n)
theorem ix_bd {n : Nat} {P : Nat → Int} (h : PB n P) (hn : n ≤ 60) {se p : Nat} (h1 : 2 ≤ se) (h2 : se ≤ 7) (hp : p < se) (hpn : p < n) : 1 ≤ pd se p n ∧ (1 ≤ ps P se p n * (n : Int) ∧ ps P se p n * (n : Int) ≤ 35996400) ∧ (1 ≤ (pd se p n : Int) * sa P 0 n ∧ (pd se p n : Int) * sa P 0 n ≤ 35996400) ∧ (1 ≤ 1000 * ps P se p n * (n : Int) ∧ 1000 * ps P se p n * (n : Int) ≤ 35996400000) := by
  have g0 := (pd_lt h1 h2 hp n 0).mp (by omega)
  have g1 := pd_le se p n
  have g2 := ps_bd h se p (m := n) (by omega)
  have g3 := sa_P h (a := 0) (k := n) (by omega)
  have g4 := mul_bd (x := ps P se p n) (y := (n : Int)) (a := 599940) (b := 60) (by omega) (by omega) (by omega) (by omega)
  have g5 := mul_bd (x := (pd se p n : Int)) (y := sa P 0 n) (a := 60) (b := 599940) (by omega) (by omega) (by omega) (by omega)
  have e : 1000 * ps P se p n * (n : Int) = 1000 * (ps P se p n * (n : Int)) := Int.mul_assoc _ _ _
  refine ⟨by omega, by omega, by omega, ?_⟩
  rw [e]
  omega
/-- the bare price -/
def br (P : Nat → Int) (se d n : Nat) : Int := 1000 * P d * ((pd se (d % se) n : Int) * sa P 0 n) / (ps P se (d % se) n * (n : Int))
theorem br_bd {n : Nat} {P : Nat → Int} (h : PB n P) (hn : n ≤ 60) {se d : Nat} (h1 : 2 ≤ se) (h2 : se ≤ 7) (hd : d < n) : 1 ≤ 1000 * P d * ((pd se (d % se) n : Int) * sa P 0 n) ∧ 1000 * P d * ((pd se (d % se) n : Int) * sa P 0 n) ≤ 359928003600000000 := by
  obtain ⟨g0, g1, g2, g3⟩ := ix_bd h hn h1 h2 (part_lt h1 d) (Nat.lt_of_le_of_lt (Nat.mod_le _ _) hd)
  have hP := h d hd
  have := mul_bd (x := 1000 * P d) (y := (pd se (d % se) n : Int) * sa P 0 n) (a := 9999000) (b := 35996400) (by omega) (by omega) (by omega) (by omega)
  omega
/-- a forecast for day m by the days ahead of it -/
def td (me : Int) (P : Nat → Int) (a b se q m : Nat) : Int := if q = 2 then sp me P (m - 1) else if q = 3 ∧ 0 < pd se (m % se) m then 1000 * ps P se (m % se) m / (pd se (m % se) m : Int) else mn P (m - 1) (if q = 0 then a else b)
theorem td_2 {me : Int} {P : Nat → Int} {a b se q m : Nat} (c : q = 2) : td me P a b se q m = sp me P (m - 1) := if_pos c
theorem td_3 {me : Int} {P : Nat → Int} {a b se q m : Nat} (c : q = 3) (c4 : 0 < pd se (m % se) m) : td me P a b se q m = 1000 * ps P se (m % se) m / (pd se (m % se) m : Int) := by
  unfold td
  rw [if_neg (show ¬ q = 2 by omega), if_pos ⟨c, c4⟩]
theorem td_b {me : Int} {P : Nat → Int} {a b se q m : Nat} (c2 : q ≠ 2) (c : q = 3 → ¬ 0 < pd se (m % se) m) (c0 : q ≠ 0) : td me P a b se q m = mn P (m - 1) b := by
  unfold td
  rw [if_neg c2, if_neg (fun z => c z.1 z.2), if_neg c0]
theorem td_0 {me : Int} {P : Nat → Int} {a b se q m : Nat} (c0 : q = 0) : td me P a b se q m = mn P (m - 1) a := by
  unfold td
  rw [if_neg (show ¬ q = 2 by omega), if_neg (fun z => absurd (c0.symm.trans z.1) (by decide)), if_pos c0]
theorem pt_bd {n : Nat} {P : Nat → Int} (h : PB n P) (se p : Nat) {m : Nat} (hm : m ≤ n) (h0 : 0 < pd se p m) : 0 ≤ 1000 * ps P se p m / (pd se p m : Int) ∧ 1000 * ps P se p m / (pd se p m : Int) ≤ 9999000 := by
  have h1 := ps_bd h se p hm
  constructor
  · exact Int.ediv_nonneg (by omega) (by omega)
  · exact Int.ediv_le_of_le_mul (by omega) (by omega)
theorem td_bd {n : Nat} {P : Nat → Int} (h : PB n P) {me : Int} (hm1 : 0 ≤ me) (hm2 : me ≤ 9) {a b se q m : Nat} (ha : 1 ≤ a) (hb : 1 ≤ b) (h3 : 1 ≤ m) (h4 : m ≤ n) : 0 ≤ td me P a b se q m ∧ td me P a b se q m ≤ 9999000 := by
  unfold td
  by_cases c2 : q = 2
  · rw [if_pos c2]; exact sp_bd h hm1 hm2 (by omega)
  · rw [if_neg c2]
    by_cases c3 : q = 3 ∧ 0 < pd se (m % se) m
    · rw [if_pos c3]; exact pt_bd h se _ h4 c3.2
    · rw [if_neg c3]
      by_cases c0 : q = 0
      · rw [if_pos c0]; have := mn_bd h (d := m - 1) (w := a) (by omega) ha; omega
      · rw [if_neg c0]; have := mn_bd h (d := m - 1) (w := b) (by omega) hb; omega
theorem x_behind {row : Nat → Int32} {n : Nat} {P : Nat → Int} (h : CR row n P) {me : Int} (hm1 : 0 ≤ me) (hm2 : me ≤ 9) {a b se q m : Nat} (ha : 1 ≤ a) (ha2 : a ≤ 60) (hb : 1 ≤ b) (hb2 : b ≤ 60) (h1 : 2 ≤ se) (h2 : se ≤ 7) (hq : q ≤ 3) (h3 : 1 ≤ m) (h4 : m ≤ n) : f_X1_behind (iq a) (iq b) (iq me) (iq se) row (iq q) (iq m) = some (iq (td me P a b se q m)) := by
  have hn := h.1
  have hp := part_lt h1 m
  have hl := pd_le se (m % se) m
  have hs := ps_bd h.2.1 se (m % se) h4
  have e1 : ((m : Int) - 1) = ((m - 1 : Nat) : Int) := by omega
  unfold f_X1_behind
  rw [x_partOf h1 h2 (by omega), bd1_s]
  by_cases c2 : q = 2
  · rw [td_2 c2]
    simp (disch := omega) only [iq_l3, iq_l0, iq_eq, if_neg, bd1_s, iq_le, if_pos, iq_l2, iq_l1, iq_sub]
    rw [e1, x_smoothF h hm1 hm2 (by omega), bd1_s]
  · by_cases c3 : q = 3
    · by_cases c4 : 0 < pd se (m % se) m
      · rw [td_3 c3 c4]
        simp (disch := omega) only [iq_l3, iq_eq, if_pos]
        rw [x_daysOf h1 h2 hp (by omega), bd1_s, bd1_s]
        simp (disch := omega) only [iq_l0, iq_le, if_neg]
        rw [x_sumOf h h1 h2 hp h4, bd1_s]
        simp (disch := omega) only [lq_l1000, lq_mul, iq_long]
        rw [x_div (by omega) (by omega) (by omega) (by omega), bd1_s, lq_int]
      · rw [td_b c2 (fun _ => c4) (by omega)]
        simp (disch := omega) only [iq_l3, iq_eq, if_pos]
        rw [x_daysOf h1 h2 hp (by omega), bd1_s, bd1_s]
        simp (disch := omega) only [iq_l0, iq_le, if_pos, iq_l2, iq_eq, if_neg, bd1_s, iq_l1, iq_sub]
        rw [e1, x_byAdding h (by omega) hb hb2, bd1_s]
    · by_cases c0 : q = 0
      · rw [td_0 c0]
        simp (disch := omega) only [iq_l3, iq_l0, iq_eq, if_neg, bd1_s, iq_le, if_pos, iq_l2, iq_l1, iq_sub]
        rw [e1, x_byAdding h (by omega) ha ha2, bd1_s]
      · rw [td_b c2 (fun z => absurd z c3) c0]
        simp (disch := omega) only [iq_l3, iq_l0, iq_eq, if_neg, bd1_s, iq_le, if_pos, iq_l2, iq_l1, iq_sub]
        rw [e1, x_byAdding h (by omega) hb hb2, bd1_s]
/-- the error of a method -/
def ab (x : Int) : Int := if 0 ≤ x then x else 0 - x
def es (me : Int) (P : Nat → Int) (a b se q : Nat) : Nat → Int
  | 0 => 0
  | k + 1 => es me P a b se q k + ab (td me P a b se q (k + 1) - 1000 * P (k + 1))
def er (me : Int) (P : Nat → Int) (a b se q n : Nat) : Int := es me P a b se q (n - 1) / ((n : Int) - 1)
theorem es_bd {n : Nat} {P : Nat → Int} (h : PB n P) {me : Int} (hm1 : 0 ≤ me) (hm2 : me ≤ 9) {a b se q : Nat} (ha : 1 ≤ a) (hb : 1 ≤ b) : ∀ {k : Nat}, k + 1 ≤ n → 0 ≤ es me P a b se q k ∧ es me P a b se q k ≤ 10000000 * k := by
  intro k
  induction k with
  | zero => intro _; unfold es; omega
  | succ k ih =>
    intro hk
    have h1 := ih (by omega)
    have h2 := td_bd h hm1 hm2 (a := a) (b := b) (se := se) (q := q) (m := k + 1) ha hb (by omega) (by omega)
    have h3 := h (k + 1) (by omega)
    unfold es ab
    split <;> omega
theorem er_bd {n : Nat} {P : Nat → Int} (h : PB n P) (hn : 2 ≤ n) (hn2 : n ≤ 60) {me : Int} (hm1 : 0 ≤ me) (hm2 : me ≤ 9) {a b se q : Nat} (ha : 1 ≤ a) (hb : 1 ≤ b) : 0 ≤ er me P a b se q n ∧ er me P a b se q n ≤ 600000000 := by
  have h1 := es_bd h hm1 hm2 (a := a) (b := b) (se := se) (q := q) ha hb (k := n - 1) (by omega)
  unfold er
  have h2 : 0 ≤ es me P a b se q (n - 1) / ((n : Int) - 1) := Int.ediv_nonneg h1.1 (by omega)
  have h3 := Int.ediv_le_self ((n : Int) - 1) h1.1
  omega
theorem x_missOf {row : Nat → Int32} {n : Nat} {P : Nat → Int} (h : CR row n P) {me : Int} (hm1 : 0 ≤ me) (hm2 : me ≤ 9) {a b se q : Nat} (ha : 1 ≤ a) (ha2 : a ≤ 60) (hb : 1 ≤ b) (hb2 : b ≤ 60) (h1 : 2 ≤ se) (h2 : se ≤ 7) (hq : q ≤ 3) (h3 : 2 ≤ n) : f_X1_missOf (iq n) (iq a) (iq b) (iq me) (iq se) row (iq q) = some (iq (er me P a b se q n)) := by
  have hn := h.1
  have e : l_X1_missOf_5 (iq n) (iq a) (iq b) (iq me) (iq se) row (iq q) 1000 (lq 0) (iq 1) = some (lq (es me P a b se q (n - 1))) := by
    refine loop_run (fun f k => l_X1_missOf_5 (iq n) (iq a) (iq b) (iq me) (iq se) row (iq q) f (lq (es me P a b se q k)) (iq ((k + 1 : Nat) : Int))) (n - 1) _ ?_ ?_ 1000 0 (Nat.zero_le _) (by omega)
    · intro f k hk
      show l_X1_missOf_5 (iq n) (iq a) (iq b) (iq me) (iq se) row (iq q) (f + 1) _ _ = l_X1_missOf_5 (iq n) (iq a) (iq b) (iq me) (iq se) row (iq q) f (lq (es me P a b se q k + (if 0 ≤ td me P a b se q (k + 1) - 1000 * P (k + 1) then td me P a b se q (k + 1) - 1000 * P (k + 1) else 0 - (td me P a b se q (k + 1) - 1000 * P (k + 1))))) (iq (((k + 1 : Nat) : Int) + 1))
      have g2 := td_bd h.2.1 hm1 hm2 (a := a) (b := b) (se := se) (q := q) (m := k + 1) ha hb (by omega) (by omega)
      have g3 := h.2.1 (k + 1) (by omega)
      rw [l_X1_missOf_5, x_behind h hm1 hm2 ha ha2 hb hb2 h1 h2 hq (by omega) (by omega), bd1_s, at_cr h (by omega), bd1_s]
      by_cases c : 0 ≤ td me P a b se q (k + 1) - 1000 * P (k + 1) <;> simp (disch := omega) only [iq_l1000, iq_mul, iq_sub, iq_l0, iq_le, if_neg, if_pos, iq_long, lq_add, iq_l1, iq_add]
    · intro f
      show l_X1_missOf_5 (iq n) (iq a) (iq b) (iq me) (iq se) row (iq q) (f + 1) _ _ = _
      rw [l_X1_missOf_5]
      simp (disch := omega) only [iq_le, if_pos]
  have hb3 := es_bd h.2.1 hm1 hm2 (a := a) (b := b) (se := se) (q := q) ha hb (k := n - 1) (by omega)
  unfold f_X1_missOf
  rw [lq_l0, iq_l1, e, bd1_s]
  simp (disch := omega) only [iq_sub, iq_long]
  rw [x_div (by omega) (by omega) (by omega) (by omega), bd1_s, lq_int]
  rfl
/-- the best method -/
def bt (me : Int) (P : Nat → Int) (a b se n : Nat) : Nat → Nat
  | 0 => 0
  | k + 1 => if er me P a b se (bt me P a b se n k) n ≤ er me P a b se (k + 1) n then bt me P a b se n k else k + 1
theorem bt_le (me : Int) (P : Nat → Int) (a b se n : Nat) : ∀ k : Nat, bt me P a b se n k ≤ k := by
  intro k
  induction k with
  | zero => exact Nat.le_refl _
  | succ k ih => unfold bt; split <;> omega
theorem x_best {row : Nat → Int32} {n : Nat} {P : Nat → Int} (h : CR row n P) {me : Int} (hm1 : 0 ≤ me) (hm2 : me ≤ 9) {a b se : Nat} (ha : 1 ≤ a) (ha2 : a ≤ 60) (hb : 1 ≤ b) (hb2 : b ≤ 60) (h1 : 2 ≤ se) (h2 : se ≤ 7) (h3 : 2 ≤ n) : f_X1_best (iq n) (iq a) (iq b) (iq me) (iq se) row = some (iq ((bt me P a b se n 3 : Nat) : Int)) := by
  have hn := h.1
  have e : l_X1_best_10 (iq n) (iq a) (iq b) (iq me) (iq se) row 1000 (iq 0) (iq (er me P a b se 0 n)) (iq 1) = some (iq ((bt me P a b se n 3 : Nat) : Int)) := by
    refine loop_run (fun f k => l_X1_best_10 (iq n) (iq a) (iq b) (iq me) (iq se) row f (iq ((bt me P a b se n k : Nat) : Int)) (iq (er me P a b se (bt me P a b se n k) n)) (iq ((k + 1 : Nat) : Int))) 3 _ ?_ ?_ 1000 0 (Nat.zero_le _) (by omega)
    · intro f k hk
      show l_X1_best_10 (iq n) (iq a) (iq b) (iq me) (iq se) row (f + 1) _ _ _ = l_X1_best_10 (iq n) (iq a) (iq b) (iq me) (iq se) row f (iq ((bt me P a b se n (k + 1) : Nat) : Int)) (iq (er me P a b se (bt me P a b se n (k + 1)) n)) (iq (((k + 1 : Nat) : Int) + 1))
      have k1 := bt_le me P a b se n k
      have k2 := er_bd h.2.1 h3 hn hm1 hm2 (a := a) (b := b) (se := se) (q := k + 1) ha hb
      have k3 := er_bd h.2.1 h3 hn hm1 hm2 (a := a) (b := b) (se := se) (q := bt me P a b se n k) ha hb
      rw [l_X1_best_10, x_missOf h hm1 hm2 ha ha2 hb hb2 h1 h2 (by omega) h3, bd1_s]
      by_cases c : er me P a b se (bt me P a b se n k) n ≤ er me P a b se (k + 1) n
      · have e : bt me P a b se n (k + 1) = bt me P a b se n k := by show (if _ then _ else _) = _; rw [if_pos c]
        rw [e]
        simp (disch := omega) only [iq_l4, iq_le, if_neg, if_pos, iq_l1, iq_add]
      · have e : bt me P a b se n (k + 1) = k + 1 := by show (if _ then _ else _) = _; rw [if_neg c]
        rw [e]
        simp (disch := omega) only [iq_l4, iq_le, if_neg, iq_l1, iq_add]
    · intro f
      show l_X1_best_10 (iq n) (iq a) (iq b) (iq me) (iq se) row (f + 1) _ _ _ = _
      rw [l_X1_best_10]
      simp (disch := omega) only [iq_l4, iq_le, if_pos]
  unfold f_X1_best
  rw [iq_l0, show iq 0 = iq ((0 : Nat) : Int) from rfl, x_missOf h hm1 hm2 ha ha2 hb hb2 h1 h2 (by omega) h3, bd1_s, iq_l1]
  have e : l_X1_best_10 (iq n) (iq a) (iq b) (iq me) (iq se) row 1000 (iq ((0 : Nat) : Int)) (iq (er me P a b se 0 n)) (iq 1) = _ := e
  rw [e, bd1_s]