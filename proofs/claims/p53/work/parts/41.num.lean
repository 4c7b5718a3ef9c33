/-! numbers: an int, a long as pictures of whole numbers; loops with fuel -/
def iq (z : Int) : Int32 := Int32.ofInt z
def lq (z : Int) : Int64 := Int64.ofInt z
theorem iq_self (x : Int32) : iq x.toInt = x := Int32.ofInt_toInt x
theorem iq_toInt {z : Int} (h1 : -2147483648 ≤ z) (h2 : z < 2147483648) : (iq z).toInt = z := Int32.toInt_ofInt_of_le (by omega) (by omega)
theorem lq_toInt {z : Int} (h1 : -9223372036854775808 ≤ z) (h2 : z < 9223372036854775808) : (lq z).toInt = z := Int64.toInt_ofInt_of_le (by omega) (by omega)
theorem iq_add (a b : Int) : iq a + iq b = iq (a + b) := (Int32.ofInt_add a b).symm
theorem iq_sub (a b : Int) : iq a - iq b = iq (a - b) := (Int32.ofInt_sub a b).symm
theorem iq_mul (a b : Int) : iq a * iq b = iq (a * b) := (Int32.ofInt_mul a b).symm
theorem iq_neg (a : Int) : - iq a = iq (-a) := (Int32.ofInt_neg a).symm
theorem lq_add (a b : Int) : lq a + lq b = lq (a + b) := (Int64.ofInt_add a b).symm
theorem lq_sub (a b : Int) : lq a - lq b = lq (a - b) := (Int64.ofInt_sub a b).symm
theorem lq_mul (a b : Int) : lq a * lq b = lq (a * b) := (Int64.ofInt_mul a b).symm
theorem iq_nat {z : Int} (h1 : -2147483648 ≤ z) (h2 : z < 2147483648) : Int32.toNatClampNeg (iq z) = z.toNat := Int32.toNatClampNeg_ofInt_of_le (by omega) (by omega)
theorem iq_lt {a b : Int} (h1 : -2147483648 ≤ a) (h2 : a < 2147483648) (h3 : -2147483648 ≤ b) (h4 : b < 2147483648) : (iq a < iq b) = (a < b) := by
  rw [Int32.lt_iff_toInt_lt, iq_toInt h1 h2, iq_toInt h3 h4]
theorem iq_le {a b : Int} (h1 : -2147483648 ≤ a) (h2 : a < 2147483648) (h3 : -2147483648 ≤ b) (h4 : b < 2147483648) : (iq a ≤ iq b) = (a ≤ b) := by
  rw [Int32.le_iff_toInt_le, iq_toInt h1 h2, iq_toInt h3 h4]
theorem iq_eq {a b : Int} (h1 : -2147483648 ≤ a) (h2 : a < 2147483648) (h3 : -2147483648 ≤ b) (h4 : b < 2147483648) : (iq a = iq b) = (a = b) := by
  rw [← Int32.toInt_inj, iq_toInt h1 h2, iq_toInt h3 h4]
theorem lq_lt {a b : Int} (h1 : -9223372036854775808 ≤ a) (h2 : a < 9223372036854775808) (h3 : -9223372036854775808 ≤ b) (h4 : b < 9223372036854775808) : (lq a < lq b) = (a < b) := by
  rw [Int64.lt_iff_toInt_lt, lq_toInt h1 h2, lq_toInt h3 h4]
theorem lq_le {a b : Int} (h1 : -9223372036854775808 ≤ a) (h2 : a < 9223372036854775808) (h3 : -9223372036854775808 ≤ b) (h4 : b < 9223372036854775808) : (lq a ≤ lq b) = (a ≤ b) := by
  rw [Int64.le_iff_toInt_le, lq_toInt h1 h2, lq_toInt h3 h4]
theorem lq_eq {a b : Int} (h1 : -9223372036854775808 ≤ a) (h2 : a < 9223372036854775808) (h3 : -9223372036854775808 ≤ b) (h4 : b < 9223372036854775808) : (lq a = lq b) = (a = b) := by
  rw [← Int64.toInt_inj, lq_toInt h1 h2, lq_toInt h3 h4]
theorem iq_long {z : Int} (h1 : -2147483648 ≤ z) (h2 : z < 2147483648) : (iq z).toInt64 = lq z := by
  rw [← Int64.toInt_inj, Int32.toInt_toInt64, iq_toInt h1 h2, lq_toInt (by omega) (by omega)]
theorem lq_int (z : Int) : (lq z).toInt32 = iq z := Int64.toInt32_ofInt
theorem iq_div {a b : Int} (h1 : 0 ≤ a) (h2 : a < 2147483648) (h3 : 0 < b) (h4 : b < 2147483648) : iq a / iq b = iq (a / b) := by
  have e : (iq b).toInt = b := iq_toInt (by omega) h4
  have hb : iq b ≠ -1 := by
    intro h
    rw [h] at e
    have : ((-1 : Int32)).toInt = -1 := by decide
    omega
  rw [← Int32.toInt_inj, Int32.toInt_div_of_ne_right _ _ hb, e, iq_toInt (by omega) h2, Int.tdiv_eq_ediv_of_nonneg h1]
  have h5 : a / b ≤ a := Int.ediv_le_self b h1
  have h6 : 0 ≤ a / b := Int.ediv_nonneg h1 (by omega)
  rw [iq_toInt (by omega) (by omega)]
theorem lq_div {a b : Int} (h1 : 0 ≤ a) (h2 : a < 9223372036854775808) (h3 : 0 < b) (h4 : b < 9223372036854775808) : lq a / lq b = lq (a / b) := by
  have e : (lq b).toInt = b := lq_toInt (by omega) h4
  have hb : lq b ≠ -1 := by
    intro h
    rw [h] at e
    have : ((-1 : Int64)).toInt = -1 := by decide
    omega
  rw [← Int64.toInt_inj, Int64.toInt_div_of_ne_right _ _ hb, e, lq_toInt (by omega) h2, Int.tdiv_eq_ediv_of_nonneg h1]
  have h5 : a / b ≤ a := Int.ediv_le_self b h1
  have h6 : 0 ≤ a / b := Int.ediv_nonneg h1 (by omega)
  rw [lq_toInt (by omega) (by omega)]
theorem pr_cmp_le (x y : Int64) : (lg_cmp x y ≤ 0) = (x ≤ y) := by
  unfold lg_cmp
  apply propext
  by_cases h : x > y
  · rw [if_pos h]
    have h2 : y.toInt < x.toInt := Int64.lt_iff_toInt_lt.mp h
    constructor
    · intro h3; exact absurd h3 (by decide)
    · intro h3; have h4 := Int64.le_iff_toInt_le.mp h3; omega
  · rw [if_neg h]
    have h2 : ¬ y.toInt < x.toInt := fun h3 => h (Int64.lt_iff_toInt_lt.mpr h3)
    constructor
    · intro _; exact Int64.le_iff_toInt_le.mpr (by omega)
    · intro _
      by_cases h4 : x = y
      · rw [if_pos h4]; decide
      · rw [if_neg h4]; decide
theorem gd_of {α : Type} {c : Prop} [Decidable c] {x : Option α} (h : c) : gd c x = x := if_pos h
theorem bd1_s {A1 β : Type} {a : A1} {k : A1 → Option β} : bd1 (some a) k = k a := rfl
theorem bd2_s {A1 A2 β : Type} {a1 : A1} {a2 : A2} {k : A1 → A2 → Option β} : bd2 (some (a1, a2)) k = k a1 a2 := rfl
theorem bd3_s {A1 A2 A3 β : Type} {a1 : A1} {a2 : A2} {a3 : A3} {k : A1 → A2 → A3 → Option β} : bd3 (some (a1, a2, a3)) k = k a1 a2 a3 := rfl
theorem bd4_s {A1 A2 A3 A4 β : Type} {a1 : A1} {a2 : A2} {a3 : A3} {a4 : A4} {k : A1 → A2 → A3 → A4 → Option β} : bd4 (some (a1, a2, a3, a4)) k = k a1 a2 a3 a4 := rfl
theorem bd5_s {A1 A2 A3 A4 A5 β : Type} {a1 : A1} {a2 : A2} {a3 : A3} {a4 : A4} {a5 : A5} {k : A1 → A2 → A3 → A4 → A5 → Option β} : bd5 (some (a1, a2, a3, a4, a5)) k = k a1 a2 a3 a4 a5 := rfl
theorem bd6_s {A1 A2 A3 A4 A5 A6 β : Type} {a1 : A1} {a2 : A2} {a3 : A3} {a4 : A4} {a5 : A5} {a6 : A6} {k : A1 → A2 → A3 → A4 → A5 → A6 → Option β} : bd6 (some (a1, a2, a3, a4, a5, a6)) k = k a1 a2 a3 a4 a5 a6 := rfl
theorem bd7_s {A1 A2 A3 A4 A5 A6 A7 β : Type} {a1 : A1} {a2 : A2} {a3 : A3} {a4 : A4} {a5 : A5} {a6 : A6} {a7 : A7} {k : A1 → A2 → A3 → A4 → A5 → A6 → A7 → Option β} : bd7 (some (a1, a2, a3, a4, a5, a6, a7)) k = k a1 a2 a3 a4 a5 a6 a7 := rfl
theorem iq_l0 : (0 : Int32) = iq 0 := rfl
theorem iq_l1 : (1 : Int32) = iq 1 := rfl
theorem iq_l2 : (2 : Int32) = iq 2 := rfl
theorem iq_l3 : (3 : Int32) = iq 3 := rfl
theorem iq_l4 : (4 : Int32) = iq 4 := rfl
theorem iq_l5 : (5 : Int32) = iq 5 := rfl
theorem iq_l6 : (6 : Int32) = iq 6 := rfl
theorem iq_l7 : (7 : Int32) = iq 7 := rfl
theorem iq_l8 : (8 : Int32) = iq 8 := rfl
theorem iq_l9 : (9 : Int32) = iq 9 := rfl
theorem iq_l10 : (10 : Int32) = iq 10 := rfl
theorem iq_l20 : (20 : Int32) = iq 20 := rfl
theorem iq_l48 : (48 : Int32) = iq 48 := rfl
theorem iq_l49 : (49 : Int32) = iq 49 := rfl
theorem iq_l57 : (57 : Int32) = iq 57 := rfl
theorem iq_l58 : (58 : Int32) = iq 58 := rfl
theorem iq_l59 : (59 : Int32) = iq 59 := rfl
theorem iq_l44 : (44 : Int32) = iq 44 := rfl
theorem iq_l60 : (60 : Int32) = iq 60 := rfl
theorem iq_l33 : (33 : Int32) = iq 33 := rfl
theorem iq_l126 : (126 : Int32) = iq 126 := rfl
theorem iq_l97 : (97 : Int32) = iq 97 := rfl
theorem iq_l108 : (108 : Int32) = iq 108 := rfl
theorem iq_l109 : (109 : Int32) = iq 109 := rfl
theorem iq_l112 : (112 : Int32) = iq 112 := rfl
theorem iq_l119 : (119 : Int32) = iq 119 := rfl
theorem iq_l120 : (120 : Int32) = iq 120 := rfl
theorem iq_l68 : (68 : Int32) = iq 68 := rfl
theorem iq_l340 : (340 : Int32) = iq 340 := rfl
theorem iq_l999 : (999 : Int32) = iq 999 := rfl
theorem iq_l1000 : (1000 : Int32) = iq 1000 := rfl
theorem iq_l9999 : (9999 : Int32) = iq 9999 := rfl
theorem lq_l0 : (0 : Int64) = lq 0 := rfl
theorem lq_l1 : (1 : Int64) = lq 1 := rfl
theorem lq_l31 : (31 : Int64) = lq 31 := rfl
theorem lq_l999 : (999 : Int64) = lq 999 := rfl
theorem lq_l1000 : (1000 : Int64) = lq 1000 := rfl
theorem lq_l10000 : (10000 : Int64) = lq 10000 := rfl
/-- a loop with fuel: at k it goes on to k + 1 till N, where it ends with r -/
theorem loop_run {τ : Type} (L : Nat → Nat → Option τ) (N : Nat) (r : τ) (hs : ∀ f k, k < N → L (f + 1) k = L f (k + 1)) (he : ∀ f, L (f + 1) N = some r) : ∀ f k, k ≤ N → N - k < f → L f k = some r := by
  intro f
  induction f with
  | zero => intro k _ h; exact absurd h (Nat.not_lt_zero _)
  | succ f ih =>
    intro k hk hf
    by_cases h : k = N
    · subst h; exact he f
    · rw [hs f k (by omega)]; exact ih (k + 1) (by omega) (by omega)
/-- sums: of g from a on, k of them -/
def sa (g : Nat → Int) (a : Nat) : Nat → Int
  | 0 => 0
  | k + 1 => sa g a k + g (a + k)
theorem sa_bd {g : Nat → Int} {a : Nat} {lo hi : Int} : ∀ {k : Nat}, (∀ j, j < k → lo ≤ g (a + j) ∧ g (a + j) ≤ hi) → lo * k ≤ sa g a k ∧ sa g a k ≤ hi * k := by
  intro k
  induction k with
  | zero => intro _; simp [sa]
  | succ k ih =>
    intro h
    obtain ⟨h1, h2⟩ := ih (fun j hj => h j (by omega))
    obtain ⟨h3, h4⟩ := h k (by omega)
    have e1 : lo * ((k + 1 : Nat) : Int) = lo * k + lo := by rw [Int.natCast_add, Int.mul_add]; simp
    have e2 : hi * ((k + 1 : Nat) : Int) = hi * k + hi := by rw [Int.natCast_add, Int.mul_add]; simp
    rw [e1, e2]
    unfold sa
    omega
theorem sa_cong {g g2 : Nat → Int} {a : Nat} : ∀ {k : Nat}, (∀ j, j < k → g (a + j) = g2 (a + j)) → sa g a k = sa g2 a k := by
  intro k
  induction k with
  | zero => intro _; rfl
  | succ k ih =>
    intro h
    unfold sa
    rw [ih (fun j hj => h j (by omega)), h k (by omega)]
theorem sa_append (g : Nat → Int) (a j : Nat) : ∀ k : Nat, sa g a (j + k) = sa g a j + sa g (a + j) k := by
  intro k
  induction k with
  | zero => simp [sa]
  | succ k ih =>
    show sa g a (j + k) + g (a + (j + k)) = sa g a j + (sa g (a + j) k + g (a + j + k))
    rw [ih, Nat.add_assoc a j k]
    omega
/-- the first step over a bound -/
theorem ivt {F : Nat → Int} {c : Int} : ∀ {N : Nat}, F 0 ≤ c → c < F N → ∃ j, j < N ∧ F j ≤ c ∧ c < F (j + 1) := by
  intro N
  induction N with
  | zero => intro h1 h2; omega
  | succ N ih =>
    intro h1 h2
    by_cases h : c < F N
    · obtain ⟨j, h3, h4⟩ := ih h1 h
      exact ⟨j, by omega, h4⟩
    · exact ⟨N, by omega, by omega, h2⟩
