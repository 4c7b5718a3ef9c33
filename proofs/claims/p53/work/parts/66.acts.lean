theorem bd8_s {A1 A2 A3 A4 A5 A6 A7 A8 β : Type} {a1 : A1} {a2 : A2} {a3 : A3} {a4 : A4} {a5 : A5} {a6 : A6} {a7 : A7} {a8 : A8} {k : A1 → A2 → A3 → A4 → A5 → A6 → A7 → A8 → Option β} : bd8 (some (a1, a2, a3, a4, a5, a6, a7, a8)) k = k a1 a2 a3 a4 a5 a6 a7 a8 := rfl
theorem bd10_s {A1 A2 A3 A4 A5 A6 A7 A8 A9 A10 β : Type} {a1 : A1} {a2 : A2} {a3 : A3} {a4 : A4} {a5 : A5} {a6 : A6} {a7 : A7} {a8 : A8} {a9 : A9} {a10 : A10} {k : A1 → A2 → A3 → A4 → A5 → A6 → A7 → A8 → A9 → A10 → Option β} : bd10 (some (a1, a2, a3, a4, a5, a6, a7, a8, a9, a10)) k = k a1 a2 a3 a4 a5 a6 a7 a8 a9 a10 := rfl
theorem bd11_s {A1 A2 A3 A4 A5 A6 A7 A8 A9 A10 A11 β : Type} {a1 : A1} {a2 : A2} {a3 : A3} {a4 : A4} {a5 : A5} {a6 : A6} {a7 : A7} {a8 : A8} {a9 : A9} {a10 : A10} {a11 : A11} {k : A1 → A2 → A3 → A4 → A5 → A6 → A7 → A8 → A9 → A10 → A11 → Option β} : bd11 (some (a1, a2, a3, a4, a5, a6, a7, a8, a9, a10, a11)) k = k a1 a2 a3 a4 a5 a6 a7 a8 a9 a10 a11 := rfl
theorem bd12_s {A1 A2 A3 A4 A5 A6 A7 A8 A9 A10 A11 A12 β : Type} {a1 : A1} {a2 : A2} {a3 : A3} {a4 : A4} {a5 : A5} {a6 : A6} {a7 : A7} {a8 : A8} {a9 : A9} {a10 : A10} {a11 : A11} {a12 : A12} {k : A1 → A2 → A3 → A4 → A5 → A6 → A7 → A8 → A9 → A10 → A11 → A12 → Option β} : bd12 (some (a1, a2, a3, a4, a5, a6, a7, a8, a9, a10, a11, a12)) k = k a1 a2 a3 a4 a5 a6 a7 a8 a9 a10 a11 a12 := rfl
theorem bd13_s {A1 A2 A3 A4 A5 A6 A7 A8 A9 A10 A11 A12 A13 β : Type} {a1 : A1} {a2 : A2} {a3 : A3} {a4 : A4} {a5 : A5} {a6 : A6} {a7 : A7} {a8 : A8} {a9 : A9} {a10 : A10} {a11 : A11} {a12 : A12} {a13 : A13} {k : A1 → A2 → A3 → A4 → A5 → A6 → A7 → A8 → A9 → A10 → A11 → A12 → A13 → Option β} : bd13 (some (a1, a2, a3, a4, a5, a6, a7, a8, a9, a10, a11, a12, a13)) k = k a1 a2 a3 a4 a5 a6 a7 a8 a9 a10 a11 a12 a13 := rfl
theorem bd14_s {A1 A2 A3 A4 A5 A6 A7 A8 A9 A10 A11 A12 A13 A14 β : Type} {a1 : A1} {a2 : A2} {a3 : A3} {a4 : A4} {a5 : A5} {a6 : A6} {a7 : A7} {a8 : A8} {a9 : A9} {a10 : A10} {a11 : A11} {a12 : A12} {a13 : A13} {a14 : A14} {k : A1 → A2 → A3 → A4 → A5 → A6 → A7 → A8 → A9 → A10 → A11 → A12 → A13 → A14 → Option β} : bd14 (some (a1, a2, a3, a4, a5, a6, a7, a8, a9, a10, a11, a12, a13, a14)) k = k a1 a2 a3 a4 a5 a6 a7 a8 a9 a10 a11 a12 a13 a14 := rfl
theorem bd15_s {A1 A2 A3 A4 A5 A6 A7 A8 A9 A10 A11 A12 A13 A14 A15 β : Type} {a1 : A1} {a2 : A2} {a3 : A3} {a4 : A4} {a5 : A5} {a6 : A6} {a7 : A7} {a8 : A8} {a9 : A9} {a10 : A10} {a11 : A11} {a12 : A12} {a13 : A13} {a14 : A14} {a15 : A15} {k : A1 → A2 → A3 → A4 → A5 → A6 → A7 → A8 → A9 → A10 → A11 → A12 → A13 → A14 → A15 → Option β} : bd15 (some (a1, a2, a3, a4, a5, a6, a7, a8, a9, a10, a11, a12, a13, a14, a15)) k = k a1 a2 a3 a4 a5 a6 a7 a8 a9 a10 a11 a12 a13 a14 a15 := rfl
theorem bd20_s {A1 A2 A3 A4 A5 A6 A7 A8 A9 A10 A11 A12 A13 A14 A15 A16 A17 A18 A19 A20 β : Type} {a1 : A1} {a2 : A2} {a3 : A3} {a4 : A4} {a5 : A5} {a6 : A6} {a7 : A7} {a8 : A8} {a9 : A9} {a10 : A10} {a11 : A11} {a12 : A12} {a13 : A13} {a14 : A14} {a15 : A15} {a16 : A16} {a17 : A17} {a18 : A18} {a19 : A19} {a20 : A20} {k : A1 → A2 → A3 → A4 → A5 → A6 → A7 → A8 → A9 → A10 → A11 → A12 → A13 → A14 → A15 → A16 → A17 → A18 → A19 → A20 → Option β} : bd20 (some (a1, a2, a3, a4, a5, a6, a7, a8, a9, a10, a11, a12, a13, a14, a15, a16, a17, a18, a19, a20)) k = k a1 a2 a3 a4 a5 a6 a7 a8 a9 a10 a11 a12 a13 a14 a15 a16 a17 a18 a19 a20 := rfl
def so (o c : Nat) : Nat := if c = 6 then (o + 1) % 6 else o
def sc (c : Nat) : Nat := if c = 6 then 6 else c + 1
def sk (o c : Nat) : Nat := (so o c + sc c + 5) % 6
theorem so_lt {o : Nat} (c : Nat) (ho : o < 6) : so o c < 6 := by unfold so; split <;> omega
theorem sc_le {c : Nat} (hc : c ≤ 6) : 1 ≤ sc c ∧ sc c ≤ 6 := by unfold sc; split <;> omega
theorem sk_lt (o c : Nat) : sk o c < 6 := Nat.mod_lt _ (by decide)
theorem y_copy (z1 z2 z3 z4 z5 z6 z7 z8 z9 : Int32) (r0 : Nat → Int32) (len sh lo me li se st sp sr : Int32) (row : Nat → Int32) (hst : st &&& 1 = st) : f_X6_copyFrom z1 z2 z3 z4 z5 z6 z7 z8 z9 r0 len sh lo me li se st sp sr row = some (len, sh, lo, me, li, se, st, sp, sr, va_cpy row r0 0 0 60) := by
  unfold f_X6_copyFrom
  exact gd_of hst
theorem so_eq {o c : Nat} (ho : o < 6) (hc : c ≤ 6) : (if iq c = 6 then some (((iq o + 1) - (iq o + 1) / 6 * 6), iq c) else some (iq o, (iq c + 1))) = some (iq ((so o c : Nat) : Int), iq ((sc c : Nat) : Int)) := by
  unfold so sc
  by_cases h : c = 6
  · subst h
    rw [if_pos (show iq ((6 : Nat) : Int) = 6 from rfl), if_pos rfl, if_pos rfl, iq_l1, iq_l6, iq_add, iq_div (by omega) (by omega) (by omega) (by omega), iq_mul, iq_sub]
    rw [show (o : Int) + 1 - ((o : Int) + 1) / 6 * 6 = (((o + 1) % 6 : Nat) : Int) by omega]
  · rw [if_neg (show ¬ iq ((c : Nat) : Int) = 6 by rw [iq_l6, iq_eq (by omega) (by omega) (by omega) (by omega)]; omega), if_neg h, if_neg h, iq_l1, iq_add]
    rfl
theorem six {k : Nat} (h : k < 6) : k = 0 ∨ k = 1 ∨ k = 2 ∨ k = 3 ∨ k = 4 ∨ k = 5 := by omega
set_option maxHeartbeats 4000000 in
theorem y_save {o c : Nat} (ho : o < 6) (hc : c ≤ 6) (RR : Nat → (Nat → Int32)) (RL RS RO RM RI RE RT RW RY : Nat → Int32) (len sh lo me li se st sp sr : Int32) (row : Nat → Int32) (hst : st &&& 1 = st) : f_X3_save (iq o) (iq c) RR RL RS RO RM RI RE RT RW RY len sh lo me li se st sp sr row = some ((iq ((so o c : Nat) : Int)), (iq ((sc c : Nat) : Int)), (va_up RR (sk o c) (va_cpy row (RR (sk o c)) 0 0 60)), (va_up RL (sk o c) len), (va_up RS (sk o c) sh), (va_up RO (sk o c) lo), (va_up RM (sk o c) me), (va_up RI (sk o c) li), (va_up RE (sk o c) se), (va_up RT (sk o c) st), (va_up RW (sk o c) sp), (va_up RY (sk o c) sr)) := by
  have h1 := so_lt c ho
  have h2 := sc_le hc
  have e1 : f_X3_newest (iq ((so o c : Nat) : Int)) (iq ((sc c : Nat) : Int)) = some (iq ((sk o c : Nat) : Int)) := x_newest h1 h2.2
  have h3 := sk_lt o c
  have e2 : Int32.toNatClampNeg (iq ((sk o c : Nat) : Int)) = sk o c := by rw [iq_nat (by omega) (by omega)]; rfl
  unfold f_X3_save
  rw [so_eq ho hc, bd2_s, e1, bd1_s, e2]
  rcases six (sk_lt o c) with h | h | h | h | h | h
  · rw [h, if_pos (rfl : (0 : Nat) = 0), y_copy _ _ _ _ _ _ _ _ _ _ _ _ _ _ _ _ _ _ _ _ hst, bd10_s]
  · rw [h, if_neg (show ¬ (1 : Nat) = 0 by decide), if_pos (rfl : (1 : Nat) = 1), y_copy _ _ _ _ _ _ _ _ _ _ _ _ _ _ _ _ _ _ _ _ hst, bd10_s]
  · rw [h, if_neg (show ¬ (2 : Nat) = 0 by decide), if_neg (show ¬ (2 : Nat) = 1 by decide), if_pos (rfl : (2 : Nat) = 2), y_copy _ _ _ _ _ _ _ _ _ _ _ _ _ _ _ _ _ _ _ _ hst, bd10_s]
  · rw [h, if_neg (show ¬ (3 : Nat) = 0 by decide), if_neg (show ¬ (3 : Nat) = 1 by decide), if_neg (show ¬ (3 : Nat) = 2 by decide), if_pos (rfl : (3 : Nat) = 3), y_copy _ _ _ _ _ _ _ _ _ _ _ _ _ _ _ _ _ _ _ _ hst, bd10_s]
  · rw [h, if_neg (show ¬ (4 : Nat) = 0 by decide), if_neg (show ¬ (4 : Nat) = 1 by decide), if_neg (show ¬ (4 : Nat) = 2 by decide), if_neg (show ¬ (4 : Nat) = 3 by decide), if_pos (rfl : (4 : Nat) = 4), y_copy _ _ _ _ _ _ _ _ _ _ _ _ _ _ _ _ _ _ _ _ hst, bd10_s]
  · rw [h, if_neg (show ¬ (5 : Nat) = 0 by decide), if_neg (show ¬ (5 : Nat) = 1 by decide), if_neg (show ¬ (5 : Nat) = 2 by decide), if_neg (show ¬ (5 : Nat) = 3 by decide), if_neg (show ¬ (5 : Nat) = 4 by decide), if_pos (rfl : (5 : Nat) = 5), y_copy _ _ _ _ _ _ _ _ _ _ _ _ _ _ _ _ _ _ _ _ hst, bd10_s]
set_option maxHeartbeats 4000000 in
theorem y_undo {o c k : Nat} (ho : o < 6) (hc1 : 1 ≤ c) (hc : c ≤ 6) (ek : k = (o + c + 5) % 6) (RR : Nat → (Nat → Int32)) (RL RS RO RM RI RE RT RW RY : Nat → Int32) (len sh lo me li se st sp sr : Int32) (row : Nat → Int32) (hst : RT k &&& 1 = RT k) : f_X11_undo len sh lo me li se st sp sr row (iq o) (iq c) RR RL RS RO RM RI RE RT RW RY = some ((iq ((c - 1 : Nat) : Int)), RL k, RS k, RO k, RM k, RI k, RE k, RT k, RW k, RY k, (va_cpy (RR k) row 0 0 60), (iq ((c - 1 : Nat) : Int))) := by
  have hk : k < 6 := by rw [ek]; exact Nat.mod_lt _ (by decide)
  have e1 : f_X3_newest (iq o) (iq c) = some (iq ((k : Nat) : Int)) := by rw [ek]; exact x_newest ho hc
  have e2 : Int32.toNatClampNeg (iq ((k : Nat) : Int)) = k := by rw [iq_nat (by omega) (by omega)]; rfl
  have c0 : ¬ iq ((c : Nat) : Int) = 0 := by rw [iq_l0, iq_eq (by omega) (by omega) (by omega) (by omega)]; omega
  have c1 : ¬ iq ((c : Nat) : Int) ≤ 0 := by rw [iq_l0, iq_le (by omega) (by omega) (by omega) (by omega)]; omega
  have e3 : iq ((c : Nat) : Int) - 1 = iq ((c - 1 : Nat) : Int) := by rw [iq_l1, iq_sub, show ((c : Int) - 1) = ((c - 1 : Nat) : Int) by omega]
  have key : f_X3_takeBack (iq o) (iq c) RR RL RS RO RM RI RE RT RW RY len sh lo me li se st sp sr row = some ((iq ((c - 1 : Nat) : Int)), RL k, RS k, RO k, RM k, RI k, RE k, RT k, RW k, RY k, (va_cpy (RR k) row 0 0 60)) := by
    unfold f_X3_takeBack
    rw [e1, bd1_s, e2]
    clear e1 e2 ek
    rcases six hk with h | h | h | h | h | h
    · subst h; rw [if_pos (rfl : (0 : Nat) = 0), if_neg c1, y_copy _ _ _ _ _ _ _ _ _ _ _ _ _ _ _ _ _ _ _ _ hst, bd10_s, e3]
    · subst h; rw [if_neg (show ¬ (1 : Nat) = 0 by decide), if_pos (rfl : (1 : Nat) = 1), if_neg c1, y_copy _ _ _ _ _ _ _ _ _ _ _ _ _ _ _ _ _ _ _ _ hst, bd10_s, e3]
    · subst h; rw [if_neg (show ¬ (2 : Nat) = 0 by decide), if_neg (show ¬ (2 : Nat) = 1 by decide), if_pos (rfl : (2 : Nat) = 2), if_neg c1, y_copy _ _ _ _ _ _ _ _ _ _ _ _ _ _ _ _ _ _ _ _ hst, bd10_s, e3]
    · subst h; rw [if_neg (show ¬ (3 : Nat) = 0 by decide), if_neg (show ¬ (3 : Nat) = 1 by decide), if_neg (show ¬ (3 : Nat) = 2 by decide), if_pos (rfl : (3 : Nat) = 3), if_neg c1, y_copy _ _ _ _ _ _ _ _ _ _ _ _ _ _ _ _ _ _ _ _ hst, bd10_s, e3]
    · subst h; rw [if_neg (show ¬ (4 : Nat) = 0 by decide), if_neg (show ¬ (4 : Nat) = 1 by decide), if_neg (show ¬ (4 : Nat) = 2 by decide), if_neg (show ¬ (4 : Nat) = 3 by decide), if_pos (rfl : (4 : Nat) = 4), if_neg c1, y_copy _ _ _ _ _ _ _ _ _ _ _ _ _ _ _ _ _ _ _ _ hst, bd10_s, e3]
    · subst h; rw [if_neg (show ¬ (5 : Nat) = 0 by decide), if_neg (show ¬ (5 : Nat) = 1 by decide), if_neg (show ¬ (5 : Nat) = 2 by decide), if_neg (show ¬ (5 : Nat) = 3 by decide), if_neg (show ¬ (5 : Nat) = 4 by decide), if_pos (rfl : (5 : Nat) = 5), if_neg c1, y_copy _ _ _ _ _ _ _ _ _ _ _ _ _ _ _ _ _ _ _ _ hst, bd10_s, e3]
  unfold f_X11_undo
  rw [if_neg c0, key, bd11_s]
theorem zz : (0 : Int32) &&& 1 = 0 := by decide
theorem x_at_raw {row : Nat → Int32} {j : Nat} (hj : j < 60) : f_X6_at row (iq j) = some (row j) := by
  simp (disch := omega) only [f_X6_at, iq_l0, iq_l60, iq_lt, iq_le, iq_nat, if_neg, gd_of, Int.toNat_natCast]
theorem x_add {row : Nat → Int32} {n : Nat} {v : Int32} (hn : n < 60) : f_X6_add (iq n) row v = some (iq ((n + 1 : Nat) : Int), upd row n v) := by
  simp (disch := omega) only [f_X6_add, iq_l60, iq_l0, iq_le, iq_lt, iq_nat, if_neg, gd_of, Int.toNat_natCast, iq_l1, iq_add]
  rfl
def shk (row : Nat → Int32) (q i : Nat) : Nat → Int32 := fun j => if j < i then row (j + q) else row j
theorem shk_succ (row : Nat → Int32) (q i : Nat) : upd (shk row q i) i (shk row q i (i + q)) = shk row q (i + 1) := by
  funext j
  unfold shk upd
  dsimp only
  rw [if_neg (show ¬ i + q < i by omega)]
  by_cases c : j = i
  · rw [if_pos c, if_pos (by omega), c]
  · rw [if_neg c]
    by_cases c2 : j < i
    · rw [if_pos c2, if_pos (by omega)]
    · rw [if_neg c2, if_neg (by omega)]
theorem x_drop {row : Nat → Int32} {n q : Nat} (hn : n ≤ 60) (hq : q ≤ n) : f_X6_drop (iq n) row (iq q) = some (iq ((n - q : Nat) : Int), shk row q (n - q)) := by
  have e0 : iq n - iq q = iq ((n - q : Nat) : Int) := by rw [iq_sub, show ((n : Int) - (q : Int)) = ((n - q : Nat) : Int) by omega]
  have h0 : shk row q 0 = row := by funext j; unfold shk; rw [if_neg (Nat.not_lt_zero _)]
  have key := loop_run (fun f k => l_X6_drop_9 (iq n) (iq q) f (iq ((k : Nat) : Int)) (shk row q k)) (n - q) (shk row q (n - q)) (fun f k hk => by
    show l_X6_drop_9 (iq n) (iq q) (f + 1) (iq ((k : Nat) : Int)) (shk row q k) = l_X6_drop_9 (iq n) (iq q) f (iq ((k : Int) + 1)) (shk row q (k + 1))
    have e1 : iq ((k : Nat) : Int) + iq q = iq ((k + q : Nat) : Int) := by rw [iq_add]; rfl
    rw [l_X6_drop_9, e0, e1, x_at_raw (by omega), bd1_s, x_put (by omega), bd1_s, shk_succ]
    simp (disch := omega) only [iq_le, if_neg, iq_l1, iq_add]) (fun f => by
    show l_X6_drop_9 (iq n) (iq q) (f + 1) (iq ((n - q : Nat) : Int)) _ = _
    rw [l_X6_drop_9, e0]
    simp (disch := omega) only [iq_le, if_pos]) 1000 0 (by omega) (by omega)
  have key : l_X6_drop_9 (iq n) (iq q) 1000 0 (shk row q 0) = _ := key
  rw [h0] at key
  unfold f_X6_drop
  rw [key, bd1_s, e0]
theorem y_addPrice {o c : Nat} (ho : o < 6) (hc : c ≤ 6) (RR : Nat → (Nat → Int32)) (RL RS RO RM RI RE RT RW RY : Nat → Int32) (sp sr : Int32) {row : Nat → Int32} {n a b se : Nat} {me li : Int} {p : Int} (hn : n < 60) (h1 : 1 ≤ p) (h2 : p ≤ 9999) : f_X11_addPrice (iq n) (iq a) (iq b) (iq me) (iq li) (iq se) 0 sp sr row (iq o) (iq c) RR RL RS RO RM RI RE RT RW RY (iq p) = some ((iq n), (iq ((n + 1 : Nat) : Int)), (upd row n (iq p)), (iq ((so o c : Nat) : Int)), (iq ((sc c : Nat) : Int)), (va_up RR (sk o c) (va_cpy row (RR (sk o c)) 0 0 60)), (va_up RL (sk o c) (iq n)), (va_up RS (sk o c) (iq a)), (va_up RO (sk o c) (iq b)), (va_up RM (sk o c) (iq me)), (va_up RI (sk o c) (iq li)), (va_up RE (sk o c) (iq se)), (va_up RT (sk o c) 0), (va_up RW (sk o c) sp), (va_up RY (sk o c) sr)) := by
  have e1 : iq ((n : Nat) : Int) < 60 := by rw [iq_l60, iq_lt (by omega) (by omega) (by omega) (by omega)]; omega
  have e2 : iq ((n + 1 : Nat) : Int) - 1 = iq ((n : Nat) : Int) := by rw [iq_l1, iq_sub, show (((n + 1 : Nat) : Int) - 1) = ((n : Nat) : Int) by omega]
  unfold f_X11_addPrice
  rw [iq_l1, iq_l9999, y_range h1 h2 (by omega) (by omega), bd0_s, if_pos e1, y_save ho hc RR RL RS RO RM RI RE RT RW RY _ _ _ _ _ _ _ _ _ _ zz, bd12_s, x_add hn, bd2_s, ← iq_l1, e2]
theorem y_setPrice {o c : Nat} (ho : o < 6) (hc : c ≤ 6) (RR : Nat → (Nat → Int32)) (RL RS RO RM RI RE RT RW RY : Nat → Int32) (sp sr : Int32) {row : Nat → Int32} {n a b se : Nat} {me li : Int} {d : Nat} {p : Int} (hn : n ≤ 60) (hd : d < n) (h1 : 1 ≤ p) (h2 : p ≤ 9999) : f_X11_setPrice (iq n) (iq a) (iq b) (iq me) (iq li) (iq se) 0 sp sr row (iq o) (iq c) RR RL RS RO RM RI RE RT RW RY (iq d) (iq p) = some ((row d), (upd row d (iq p)), (iq ((so o c : Nat) : Int)), (iq ((sc c : Nat) : Int)), (va_up RR (sk o c) (va_cpy row (RR (sk o c)) 0 0 60)), (va_up RL (sk o c) (iq n)), (va_up RS (sk o c) (iq a)), (va_up RO (sk o c) (iq b)), (va_up RM (sk o c) (iq me)), (va_up RI (sk o c) (iq li)), (va_up RE (sk o c) (iq se)), (va_up RT (sk o c) 0), (va_up RW (sk o c) sp), (va_up RY (sk o c) sr)) := by
  unfold f_X11_setPrice
  rw [y_day hn hd, bd0_s, iq_l1, iq_l9999, y_range h1 h2 (by omega) (by omega), bd0_s, y_save ho hc RR RL RS RO RM RI RE RT RW RY _ _ _ _ _ _ _ _ _ _ zz, bd12_s, x_at_raw (by omega), bd1_s, x_put (by omega), bd1_s]
theorem y_dropOldest {o c : Nat} (ho : o < 6) (hc : c ≤ 6) (RR : Nat → (Nat → Int32)) (RL RS RO RM RI RE RT RW RY : Nat → Int32) (sp sr : Int32) {row : Nat → Int32} {n a b se : Nat} {me li : Int} {q : Nat} (hn : n ≤ 60) (h1 : 1 ≤ q) (h2 : q ≤ n) : f_X11_dropOldest (iq n) (iq a) (iq b) (iq me) (iq li) (iq se) 0 sp sr row (iq o) (iq c) RR RL RS RO RM RI RE RT RW RY (iq q) = some ((iq ((n - q : Nat) : Int)), (iq ((n - q : Nat) : Int)), (shk row q (n - q)), (iq ((so o c : Nat) : Int)), (iq ((sc c : Nat) : Int)), (va_up RR (sk o c) (va_cpy row (RR (sk o c)) 0 0 60)), (va_up RL (sk o c) (iq n)), (va_up RS (sk o c) (iq a)), (va_up RO (sk o c) (iq b)), (va_up RM (sk o c) (iq me)), (va_up RI (sk o c) (iq li)), (va_up RE (sk o c) (iq se)), (va_up RT (sk o c) 0), (va_up RW (sk o c) sp), (va_up RY (sk o c) sr)) := by
  have e1 : iq ((q : Nat) : Int) ≤ iq ((n : Nat) : Int) := by rw [iq_le (by omega) (by omega) (by omega) (by omega)]; omega
  unfold f_X11_dropOldest
  rw [iq_l1, iq_l60, y_range (by omega) (by omega) (by omega) (by omega), bd0_s, if_pos e1, y_save ho hc RR RL RS RO RM RI RE RT RW RY _ _ _ _ _ _ _ _ _ _ zz, bd12_s, x_drop hn h2, bd2_s]
theorem y_press {o c : Nat} (ho : o < 6) (hc : c ≤ 6) (RR : Nat → (Nat → Int32)) (RL RS RO RM RI RE RT RW RY : Nat → Int32) (sp sr : Int32) {row : Nat → Int32} {n a b se : Nat} {me li : Int} {d : Nat} {P : Nat → Int} (h : CR row n P) (hd : d < n) (ha : 1 ≤ a) (ha2 : a ≤ 60) (hl : 0 ≤ li) (hl2 : li ≤ 9999) (hcr : ¬ cr P d a li = 0) : f_X11_press (iq n) (iq a) (iq b) (iq me) (iq li) (iq se) 0 sp sr row (iq o) (iq c) RR RL RS RO RM RI RE RT RW RY (iq d) = some ((iq (md P d a)), (upd row d (iq (md P d a))), (iq ((so o c : Nat) : Int)), (iq ((sc c : Nat) : Int)), (va_up RR (sk o c) (va_cpy row (RR (sk o c)) 0 0 60)), (va_up RL (sk o c) (iq n)), (va_up RS (sk o c) (iq a)), (va_up RO (sk o c) (iq b)), (va_up RM (sk o c) (iq me)), (va_up RI (sk o c) (iq li)), (va_up RE (sk o c) (iq se)), (va_up RT (sk o c) 0), (va_up RW (sk o c) sp), (va_up RY (sk o c) sr)) := by
  have hn := h.1
  have hb := cr_le P d a li
  have e1 : ¬ iq (cr P d a li) = 0 := by rw [iq_l0, iq_eq (by omega) (by omega) (by omega) (by omega)]; omega
  have e2 : f_X6_at (upd row d (iq (md P d a))) (iq d) = some (iq (md P d a)) := by rw [x_at_raw (by omega), upd_self]
  unfold f_X11_press
  rw [y_day hn hd, bd0_s, x_standsOut h hd ha ha2 hl hl2, bd1_s, if_neg e1, y_save ho hc RR RL RS RO RM RI RE RT RW RY _ _ _ _ _ _ _ _ _ _ zz, bd12_s, x_flatten h hd ha ha2, bd1_s, e2, bd1_s]
theorem y_pressAll {o c : Nat} (ho : o < 6) (hc : c ≤ 6) (RR : Nat → (Nat → Int32)) (RL RS RO RM RI RE RT RW RY : Nat → Int32) (sp sr : Int32) {row : Nat → Int32} {n a b se : Nat} {me li : Int} {P : Nat → Int} (h : CR row n P) (ha : 1 ≤ a) (ha2 : a ≤ 60) (hl : 0 ≤ li) (hl2 : li ≤ 9999) : ∃ row', CR row' n (fa_ P a li n).2 ∧ f_X11_pressAll (iq n) (iq a) (iq b) (iq me) (iq li) (iq se) 0 sp sr row (iq o) (iq c) RR RL RS RO RM RI RE RT RW RY = some ((iq (fa_ P a li n).1), row', (iq ((so o c : Nat) : Int)), (iq ((sc c : Nat) : Int)), (va_up RR (sk o c) (va_cpy row (RR (sk o c)) 0 0 60)), (va_up RL (sk o c) (iq n)), (va_up RS (sk o c) (iq a)), (va_up RO (sk o c) (iq b)), (va_up RM (sk o c) (iq me)), (va_up RI (sk o c) (iq li)), (va_up RE (sk o c) (iq se)), (va_up RT (sk o c) 0), (va_up RW (sk o c) sp), (va_up RY (sk o c) sr)) := by
  obtain ⟨row', e, hC⟩ := x_flattenAll h ha ha2 hl hl2
  refine ⟨row', hC, ?_⟩
  unfold f_X11_pressAll
  rw [y_save ho hc RR RL RS RO RM RI RE RT RW RY _ _ _ _ _ _ _ _ _ _ zz, bd12_s, e, bd2_s]
theorem y_setWindows {o c : Nat} (ho : o < 6) (hc : c ≤ 6) (RR : Nat → (Nat → Int32)) (RL RS RO RM RI RE RT RW RY : Nat → Int32) (sp sr : Int32) {row : Nat → Int32} {n a b se : Nat} {me li : Int} {u w : Nat} (h1 : 1 ≤ u) (h2 : u ≤ 10) (h3 : u < w) (h4 : w ≤ 20) : f_X11_setWindows (iq n) (iq a) (iq b) (iq me) (iq li) (iq se) 0 sp sr row (iq o) (iq c) RR RL RS RO RM RI RE RT RW RY (iq u) (iq w) = some ((iq b), (iq u), (iq w), (iq ((so o c : Nat) : Int)), (iq ((sc c : Nat) : Int)), (va_up RR (sk o c) (va_cpy row (RR (sk o c)) 0 0 60)), (va_up RL (sk o c) (iq n)), (va_up RS (sk o c) (iq a)), (va_up RO (sk o c) (iq b)), (va_up RM (sk o c) (iq me)), (va_up RI (sk o c) (iq li)), (va_up RE (sk o c) (iq se)), (va_up RT (sk o c) 0), (va_up RW (sk o c) sp), (va_up RY (sk o c) sr)) := by
  have e1 : iq ((u : Nat) : Int) < iq ((w : Nat) : Int) := by rw [iq_lt (by omega) (by omega) (by omega) (by omega)]; omega
  unfold f_X11_setWindows
  rw [iq_l1, iq_l10, y_range (by omega) (by omega) (by omega) (by omega), bd0_s, iq_l2, iq_l20, y_range (by omega) (by omega) (by omega) (by omega), bd0_s, if_pos e1, y_save ho hc RR RL RS RO RM RI RE RT RW RY _ _ _ _ _ _ _ _ _ _ zz, bd12_s]
theorem y_setMemory {o c : Nat} (ho : o < 6) (hc : c ≤ 6) (RR : Nat → (Nat → Int32)) (RL RS RO RM RI RE RT RW RY : Nat → Int32) (sp sr : Int32) {row : Nat → Int32} {n a b se : Nat} {me li : Int} {z : Int} (h1 : 0 ≤ z) (h2 : z ≤ 9) : f_X11_setMemory (iq n) (iq a) (iq b) (iq me) (iq li) (iq se) 0 sp sr row (iq o) (iq c) RR RL RS RO RM RI RE RT RW RY (iq z) = some ((iq me), (iq z), (iq ((so o c : Nat) : Int)), (iq ((sc c : Nat) : Int)), (va_up RR (sk o c) (va_cpy row (RR (sk o c)) 0 0 60)), (va_up RL (sk o c) (iq n)), (va_up RS (sk o c) (iq a)), (va_up RO (sk o c) (iq b)), (va_up RM (sk o c) (iq me)), (va_up RI (sk o c) (iq li)), (va_up RE (sk o c) (iq se)), (va_up RT (sk o c) 0), (va_up RW (sk o c) sp), (va_up RY (sk o c) sr)) := by
  have e : f_X11_requireRange (iq z) 0 9 = some () := y_range (a := 0) (b := 9) h1 h2 (by omega) (by omega)
  unfold f_X11_setMemory
  rw [e, bd0_s, y_save ho hc RR RL RS RO RM RI RE RT RW RY _ _ _ _ _ _ _ _ _ _ zz, bd12_s]
theorem y_setLimit {o c : Nat} (ho : o < 6) (hc : c ≤ 6) (RR : Nat → (Nat → Int32)) (RL RS RO RM RI RE RT RW RY : Nat → Int32) (sp sr : Int32) {row : Nat → Int32} {n a b se : Nat} {me li : Int} {z : Int} (h1 : 0 ≤ z) (h2 : z ≤ 9999) : f_X11_setLimit (iq n) (iq a) (iq b) (iq me) (iq li) (iq se) 0 sp sr row (iq o) (iq c) RR RL RS RO RM RI RE RT RW RY (iq z) = some ((iq li), (iq z), (iq ((so o c : Nat) : Int)), (iq ((sc c : Nat) : Int)), (va_up RR (sk o c) (va_cpy row (RR (sk o c)) 0 0 60)), (va_up RL (sk o c) (iq n)), (va_up RS (sk o c) (iq a)), (va_up RO (sk o c) (iq b)), (va_up RM (sk o c) (iq me)), (va_up RI (sk o c) (iq li)), (va_up RE (sk o c) (iq se)), (va_up RT (sk o c) 0), (va_up RW (sk o c) sp), (va_up RY (sk o c) sr)) := by
  have e : f_X11_requireRange (iq z) 0 9999 = some () := y_range (a := 0) (b := 9999) h1 h2 (by omega) (by omega)
  unfold f_X11_setLimit
  rw [e, bd0_s, y_save ho hc RR RL RS RO RM RI RE RT RW RY _ _ _ _ _ _ _ _ _ _ zz, bd12_s]
theorem y_setSeason {o c : Nat} (ho : o < 6) (hc : c ≤ 6) (RR : Nat → (Nat → Int32)) (RL RS RO RM RI RE RT RW RY : Nat → Int32) (sp sr : Int32) {row : Nat → Int32} {n a b se : Nat} {me li : Int} {u : Nat} (h1 : 2 ≤ u) (h2 : u ≤ 7) : f_X11_setSeason (iq n) (iq a) (iq b) (iq me) (iq li) (iq se) 0 sp sr row (iq o) (iq c) RR RL RS RO RM RI RE RT RW RY (iq u) = some ((iq se), (iq u), (iq ((so o c : Nat) : Int)), (iq ((sc c : Nat) : Int)), (va_up RR (sk o c) (va_cpy row (RR (sk o c)) 0 0 60)), (va_up RL (sk o c) (iq n)), (va_up RS (sk o c) (iq a)), (va_up RO (sk o c) (iq b)), (va_up RM (sk o c) (iq me)), (va_up RI (sk o c) (iq li)), (va_up RE (sk o c) (iq se)), (va_up RT (sk o c) 0), (va_up RW (sk o c) sp), (va_up RY (sk o c) sr)) := by
  have e : f_X11_requireRange (iq u) 2 7 = some () := y_range (a := 2) (b := 7) (by omega) (by omega) (by omega) (by omega)
  unfold f_X11_setSeason
  rw [e, bd0_s, y_save ho hc RR RL RS RO RM RI RE RT RW RY _ _ _ _ _ _ _ _ _ _ zz, bd12_s]
theorem low_ok (x : Int32) {m : Nat} (h1 : 1 ≤ m) (h2 : m < 100000) : ∃ z : Nat, z < m ∧ f_L_low x (iq m) = some (iq z) := by
  obtain ⟨j, hj, e⟩ := pk_andE x (m := 2147483647) 31 (by decide)
  refine ⟨j % m, Nat.mod_lt _ h1, ?_⟩
  have c : ¬ iq ((m : Nat) : Int) = 0 := by rw [iq_l0, iq_eq (by omega) (by omega) (by omega) (by omega)]; omega
  have hj2 : j < 2147483648 := hj
  unfold f_L_low
  rw [gd_of c, e, nI_iq, iq_div (by omega) (by omega) (by omega) (by omega), iq_mul, iq_sub]
  have e2 : (j : Int) - (j : Int) / (m : Int) * (m : Int) = ((j % m : Nat) : Int) := by
    have h3 := Int.emod_def (j : Int) (m : Int)
    rw [Int.mul_comm] at h3
    omega
  rw [e2]
theorem low_lit (x : Int32) (m : Nat) (w : Int32) (e : w = iq m) (h1 : 1 ≤ m) (h2 : m < 100000) : ∃ z : Nat, z < m ∧ f_L_low x w = some (iq z) := by
  rw [e]; exact low_ok x h1 h2
theorem price_ok (x : Int32) : ∃ p : Int, 1 ≤ p ∧ p ≤ 9999 ∧ f_L_price x = some (iq p) := by
  unfold f_L_price
  by_cases c : ((x >>> ((20 : Int32) &&& 31)) &&& 1) = 0
  · obtain ⟨z, hz, e⟩ := low_lit x 300 300 rfl (by omega) (by omega)
    refine ⟨1 + z, by omega, by omega, ?_⟩
    rw [if_pos c, bd1_s, e, bd1_s, iq_l1, iq_add]
  · obtain ⟨z, hz, e⟩ := low_lit x 9999 9999 rfl (by omega) (by omega)
    refine ⟨1 + z, by omega, by omega, ?_⟩
    rw [if_neg c, bd1_s, e, bd1_s, iq_l1, iq_add]
theorem day_ok (v : Int32) {n : Nat} (hn : n ≤ 60) : ∃ z : Int, ((n = 0 ∧ z = -1) ∨ (0 ≤ z ∧ z < n)) ∧ (if iq n = 0 then some (-1) else bd1 (f_L_low (v >>> ((4 : Int32) &&& 31)) (iq n)) (fun (r_3 : Int32) => some r_3)) = some (iq z) := by
  by_cases c : n = 0
  · subst c
    exact ⟨-1, Or.inl ⟨rfl, rfl⟩, by rw [if_pos (show iq ((0 : Nat) : Int) = 0 from rfl)]; rfl⟩
  · obtain ⟨z, hz, e⟩ := low_ok (v >>> ((4 : Int32) &&& 31)) (m := n) (by omega) (by omega)
    refine ⟨z, Or.inr ⟨by omega, by omega⟩, ?_⟩
    rw [if_neg (show ¬ iq ((n : Nat) : Int) = 0 by rw [iq_l0, iq_eq (by omega) (by omega) (by omega) (by omega)]; omega), e, bd1_s]
theorem CR_more {row : Nat → Int32} {n : Nat} {P : Nat → Int} (h : CR row n P) {p : Int} (hn : n < 60) (h1 : 1 ≤ p) (h2 : p ≤ 9999) : CR (upd row n (iq p)) (n + 1) (st_ P n p) := ⟨by omega, fun d hd => by
  unfold st_
  by_cases c : d = n
  · rw [if_pos c]; exact ⟨h1, h2⟩
  · rw [if_neg c]; exact h.2.1 d (by omega), fun d hd => by
  unfold st_
  by_cases c : d = n
  · subst c; rw [if_pos rfl]; exact upd_self _ _ _
  · rw [if_neg c, upd_ne c]; exact h.2.2 d (by omega)⟩
theorem CR_less {row : Nat → Int32} {n : Nat} {P : Nat → Int} (h : CR row n P) {q : Nat} (hq : q ≤ n) : CR (shk row q (n - q)) (n - q) (fun j => P (j + q)) := ⟨by have := h.1; omega, fun d hd => h.2.1 (d + q) (by omega), fun d hd => by
  unfold shk
  rw [if_pos hd]
  exact h.2.2 (d + q) (by omega)⟩
def Act0 (n a b se : Nat) (me li : Int) (P : Nat → Int) (v x : Int32) : Prop := ∀ (row : Nat → Int32), CR row n P → ∀ (o c : Nat), o < 6 → c ≤ 6 → ∀ (RR : Nat → (Nat → Int32)) (RL RS RO RM RI RE RT RW RY : Nat → Int32) (sp sr : Int32), f_L_act (iq n) (iq a) (iq b) (iq me) (iq li) (iq se) 0 sp sr row (iq o) (iq c) RR RL RS RO RM RI RE RT RW RY v x = some (0, (iq n), (iq a), (iq b), (iq me), (iq li), (iq se), row, (iq o), (iq c), RR, RL, RS, RO, RM, RI, RE, RT, RW, RY)
def Act1 (n a b se : Nat) (me li : Int) (P : Nat → Int) (v x : Int32) (n' a' b' se' : Nat) (me' li' : Int) (P' : Nat → Int) : Prop := ∀ (row : Nat → Int32), CR row n P → ∀ (o c : Nat), o < 6 → c ≤ 6 → ∀ (RR : Nat → (Nat → Int32)) (RL RS RO RM RI RE RT RW RY : Nat → Int32) (sp sr : Int32), ∃ row', CR row' n' P' ∧ f_L_act (iq n) (iq a) (iq b) (iq me) (iq li) (iq se) 0 sp sr row (iq o) (iq c) RR RL RS RO RM RI RE RT RW RY v x = some (1, (iq n'), (iq a'), (iq b'), (iq me'), (iq li'), (iq se'), row', (iq ((so o c : Nat) : Int)), (iq ((sc c : Nat) : Int)), (va_up RR (sk o c) (va_cpy row (RR (sk o c)) 0 0 60)), (va_up RL (sk o c) (iq n)), (va_up RS (sk o c) (iq a)), (va_up RO (sk o c) (iq b)), (va_up RM (sk o c) (iq me)), (va_up RI (sk o c) (iq li)), (va_up RE (sk o c) (iq se)), (va_up RT (sk o c) 0), (va_up RW (sk o c) sp), (va_up RY (sk o c) sr))
set_option maxHeartbeats 16000000 in
set_option maxRecDepth 100000 in
theorem act_ok {n a b se : Nat} {me li : Int} {P : Nat → Int} (B : BD n a b se me li) (hP : PB n P) (v x : Int32) : Act0 n a b se me li P v x ∨ ∃ (n' a' b' se' : Nat) (me' li' : Int) (P' : Nat → Int), BD n' a' b' se' me' li' ∧ Act1 n a b se me li P v x n' a' b' se' me' li' P' := by
  obtain ⟨b1, b2, b3, b4, b5, b6, b7, b8, b9, b10, b11⟩ := B
  obtain ⟨z, hz, ez⟩ := day_ok v (n := n) (by omega)
  obtain ⟨p, p1, p2, ep⟩ := price_ok x
  by_cases k0 : (v &&& 15) = 0
  · by_cases q : n = 30
    · refine Or.inl ?_
      intro row h o c ho hc RR RL RS RO RM RI RE RT RW RY sp sr
      unfold f_L_act
      rw [f_X11_days, bd1_s, ez, bd1_s, if_pos k0, if_pos (show iq ((n : Nat) : Int) = 30 by rw [q]; rfl)]
    · refine Or.inr ⟨n + 1, a, b, se, me, li, st_ P n p, ⟨by omega, b2, b3, b4, b5, b6, b7, b8, b9, b10, b11⟩, ?_⟩
      intro row h o c ho hc RR RL RS RO RM RI RE RT RW RY sp sr
      refine ⟨upd row n (iq p), CR_more h (by omega) p1 p2, ?_⟩
      unfold f_L_act
      rw [f_X11_days, bd1_s, ez, bd1_s, if_pos k0, if_neg (show ¬ iq ((n : Nat) : Int) = 30 by rw [show (30 : Int32) = iq 30 from rfl, iq_eq (by omega) (by omega) (by omega) (by omega)]; omega), ep, bd1_s, y_addPrice ho hc RR RL RS RO RM RI RE RT RW RY sp sr (by omega) p1 p2, bd15_s]
  by_cases k1 : (v &&& 15) = 1
  · by_cases q : n = 30
    · refine Or.inl ?_
      intro row h o c ho hc RR RL RS RO RM RI RE RT RW RY sp sr
      unfold f_L_act
      rw [f_X11_days, bd1_s, ez, bd1_s, if_neg k0, if_pos k1, if_pos (show iq ((n : Nat) : Int) = 30 by rw [q]; rfl)]
    · refine Or.inr ⟨n + 1, a, b, se, me, li, st_ P n p, ⟨by omega, b2, b3, b4, b5, b6, b7, b8, b9, b10, b11⟩, ?_⟩
      intro row h o c ho hc RR RL RS RO RM RI RE RT RW RY sp sr
      refine ⟨upd row n (iq p), CR_more h (by omega) p1 p2, ?_⟩
      unfold f_L_act
      rw [f_X11_days, bd1_s, ez, bd1_s, if_neg k0, if_pos k1, if_neg (show ¬ iq ((n : Nat) : Int) = 30 by rw [show (30 : Int32) = iq 30 from rfl, iq_eq (by omega) (by omega) (by omega) (by omega)]; omega), ep, bd1_s, y_addPrice ho hc RR RL RS RO RM RI RE RT RW RY sp sr (by omega) p1 p2, bd15_s]
  by_cases k2 : (v &&& 15) = 2
  · by_cases q : n = 30
    · refine Or.inl ?_
      intro row h o c ho hc RR RL RS RO RM RI RE RT RW RY sp sr
      unfold f_L_act
      rw [f_X11_days, bd1_s, ez, bd1_s, if_neg k0, if_neg k1, if_pos k2, if_pos (show iq ((n : Nat) : Int) = 30 by rw [q]; rfl)]
    · refine Or.inr ⟨n + 1, a, b, se, me, li, st_ P n p, ⟨by omega, b2, b3, b4, b5, b6, b7, b8, b9, b10, b11⟩, ?_⟩
      intro row h o c ho hc RR RL RS RO RM RI RE RT RW RY sp sr
      refine ⟨upd row n (iq p), CR_more h (by omega) p1 p2, ?_⟩
      unfold f_L_act
      rw [f_X11_days, bd1_s, ez, bd1_s, if_neg k0, if_neg k1, if_pos k2, if_neg (show ¬ iq ((n : Nat) : Int) = 30 by rw [show (30 : Int32) = iq 30 from rfl, iq_eq (by omega) (by omega) (by omega) (by omega)]; omega), ep, bd1_s, y_addPrice ho hc RR RL RS RO RM RI RE RT RW RY sp sr (by omega) p1 p2, bd15_s]
  by_cases k3 : (v &&& 15) = 3
  · by_cases q : n = 30
    · refine Or.inl ?_
      intro row h o c ho hc RR RL RS RO RM RI RE RT RW RY sp sr
      unfold f_L_act
      rw [f_X11_days, bd1_s, ez, bd1_s, if_neg k0, if_neg k1, if_neg k2, if_pos k3, if_pos (show iq ((n : Nat) : Int) = 30 by rw [q]; rfl)]
    · refine Or.inr ⟨n + 1, a, b, se, me, li, st_ P n p, ⟨by omega, b2, b3, b4, b5, b6, b7, b8, b9, b10, b11⟩, ?_⟩
      intro row h o c ho hc RR RL RS RO RM RI RE RT RW RY sp sr
      refine ⟨upd row n (iq p), CR_more h (by omega) p1 p2, ?_⟩
      unfold f_L_act
      rw [f_X11_days, bd1_s, ez, bd1_s, if_neg k0, if_neg k1, if_neg k2, if_pos k3, if_neg (show ¬ iq ((n : Nat) : Int) = 30 by rw [show (30 : Int32) = iq 30 from rfl, iq_eq (by omega) (by omega) (by omega) (by omega)]; omega), ep, bd1_s, y_addPrice ho hc RR RL RS RO RM RI RE RT RW RY sp sr (by omega) p1 p2, bd15_s]
  by_cases k4 : (v &&& 15) = 4
  · by_cases q : n = 30
    · refine Or.inl ?_
      intro row h o c ho hc RR RL RS RO RM RI RE RT RW RY sp sr
      unfold f_L_act
      rw [f_X11_days, bd1_s, ez, bd1_s, if_neg k0, if_neg k1, if_neg k2, if_neg k3, if_pos k4, if_pos (show iq ((n : Nat) : Int) = 30 by rw [q]; rfl)]
    · refine Or.inr ⟨n + 1, a, b, se, me, li, st_ P n p, ⟨by omega, b2, b3, b4, b5, b6, b7, b8, b9, b10, b11⟩, ?_⟩
      intro row h o c ho hc RR RL RS RO RM RI RE RT RW RY sp sr
      refine ⟨upd row n (iq p), CR_more h (by omega) p1 p2, ?_⟩
      unfold f_L_act
      rw [f_X11_days, bd1_s, ez, bd1_s, if_neg k0, if_neg k1, if_neg k2, if_neg k3, if_pos k4, if_neg (show ¬ iq ((n : Nat) : Int) = 30 by rw [show (30 : Int32) = iq 30 from rfl, iq_eq (by omega) (by omega) (by omega) (by omega)]; omega), ep, bd1_s, y_addPrice ho hc RR RL RS RO RM RI RE RT RW RY sp sr (by omega) p1 p2, bd15_s]
  by_cases k5 : (v &&& 15) = 5
  · by_cases q : n = 30
    · refine Or.inl ?_
      intro row h o c ho hc RR RL RS RO RM RI RE RT RW RY sp sr
      unfold f_L_act
      rw [f_X11_days, bd1_s, ez, bd1_s, if_neg k0, if_neg k1, if_neg k2, if_neg k3, if_neg k4, if_pos k5, if_pos (show iq ((n : Nat) : Int) = 30 by rw [q]; rfl)]
    · refine Or.inr ⟨n + 1, a, b, se, me, li, st_ P n p, ⟨by omega, b2, b3, b4, b5, b6, b7, b8, b9, b10, b11⟩, ?_⟩
      intro row h o c ho hc RR RL RS RO RM RI RE RT RW RY sp sr
      refine ⟨upd row n (iq p), CR_more h (by omega) p1 p2, ?_⟩
      unfold f_L_act
      rw [f_X11_days, bd1_s, ez, bd1_s, if_neg k0, if_neg k1, if_neg k2, if_neg k3, if_neg k4, if_pos k5, if_neg (show ¬ iq ((n : Nat) : Int) = 30 by rw [show (30 : Int32) = iq 30 from rfl, iq_eq (by omega) (by omega) (by omega) (by omega)]; omega), ep, bd1_s, y_addPrice ho hc RR RL RS RO RM RI RE RT RW RY sp sr (by omega) p1 p2, bd15_s]
  by_cases k6 : (v &&& 15) = 6
  · by_cases q : n = 30
    · refine Or.inl ?_
      intro row h o c ho hc RR RL RS RO RM RI RE RT RW RY sp sr
      unfold f_L_act
      rw [f_X11_days, bd1_s, ez, bd1_s, if_neg k0, if_neg k1, if_neg k2, if_neg k3, if_neg k4, if_neg k5, if_pos k6, if_pos (show iq ((n : Nat) : Int) = 30 by rw [q]; rfl)]
    · refine Or.inr ⟨n + 1, a, b, se, me, li, st_ P n p, ⟨by omega, b2, b3, b4, b5, b6, b7, b8, b9, b10, b11⟩, ?_⟩
      intro row h o c ho hc RR RL RS RO RM RI RE RT RW RY sp sr
      refine ⟨upd row n (iq p), CR_more h (by omega) p1 p2, ?_⟩
      unfold f_L_act
      rw [f_X11_days, bd1_s, ez, bd1_s, if_neg k0, if_neg k1, if_neg k2, if_neg k3, if_neg k4, if_neg k5, if_pos k6, if_neg (show ¬ iq ((n : Nat) : Int) = 30 by rw [show (30 : Int32) = iq 30 from rfl, iq_eq (by omega) (by omega) (by omega) (by omega)]; omega), ep, bd1_s, y_addPrice ho hc RR RL RS RO RM RI RE RT RW RY sp sr (by omega) p1 p2, bd15_s]
  by_cases k7 : (v &&& 15) = 7
  · rcases hz with ⟨q, rfl⟩ | ⟨q1, q2⟩
    · refine Or.inl ?_
      intro row h o c ho hc RR RL RS RO RM RI RE RT RW RY sp sr
      unfold f_L_act
      rw [f_X11_days, bd1_s, ez, bd1_s, if_neg k0, if_neg k1, if_neg k2, if_neg k3, if_neg k4, if_neg k5, if_neg k6, if_pos k7, if_neg (show ¬ (0 : Int32) ≤ iq (-1) by decide)]
    · obtain ⟨d, rfl⟩ : ∃ d : Nat, z = d := ⟨z.toNat, by omega⟩
      refine Or.inr ⟨n, a, b, se, me, li, st_ P d p, ⟨b1, b2, b3, b4, b5, b6, b7, b8, b9, b10, b11⟩, ?_⟩
      intro row h o c ho hc RR RL RS RO RM RI RE RT RW RY sp sr
      refine ⟨upd row d (iq p), CR_put h ⟨p1, p2⟩, ?_⟩
      unfold f_L_act
      rw [f_X11_days, bd1_s, ez, bd1_s, if_neg k0, if_neg k1, if_neg k2, if_neg k3, if_neg k4, if_neg k5, if_neg k6, if_pos k7, if_pos (show (0 : Int32) ≤ iq ((d : Nat) : Int) by rw [iq_l0, iq_le (by omega) (by omega) (by omega) (by omega)]; omega), ep, bd1_s, y_setPrice ho hc RR RL RS RO RM RI RE RT RW RY sp sr (by omega) (by omega) p1 p2, bd14_s]
  by_cases k8 : (v &&& 15) = 8
  · by_cases q : n < 3
    · refine Or.inl ?_
      intro row h o c ho hc RR RL RS RO RM RI RE RT RW RY sp sr
      unfold f_L_act
      rw [f_X11_days, bd1_s, ez, bd1_s, if_neg k0, if_neg k1, if_neg k2, if_neg k3, if_neg k4, if_neg k5, if_neg k6, if_neg k7, if_pos k8, if_neg (show ¬ (3 : Int32) ≤ iq ((n : Nat) : Int) by rw [iq_l3, iq_le (by omega) (by omega) (by omega) (by omega)]; omega)]
    · obtain ⟨u, hu, eu⟩ := low_lit x 3 3 rfl (by omega) (by omega)
      refine Or.inr ⟨n - (1 + u), a, b, se, me, li, fun j => P (j + (1 + u)), ⟨by omega, b2, b3, b4, b5, b6, b7, b8, b9, b10, b11⟩, ?_⟩
      intro row h o c ho hc RR RL RS RO RM RI RE RT RW RY sp sr
      refine ⟨shk row (1 + u) (n - (1 + u)), CR_less h (by omega), ?_⟩
      unfold f_L_act
      have e1 : (1 : Int32) + iq ((u : Nat) : Int) = iq ((1 + u : Nat) : Int) := by rw [iq_l1, iq_add]; rfl
      rw [f_X11_days, bd1_s, ez, bd1_s, if_neg k0, if_neg k1, if_neg k2, if_neg k3, if_neg k4, if_neg k5, if_neg k6, if_neg k7, if_pos k8, if_pos (show (3 : Int32) ≤ iq ((n : Nat) : Int) by rw [iq_l3, iq_le (by omega) (by omega) (by omega) (by omega)]; omega), eu, bd1_s, e1, y_dropOldest ho hc RR RL RS RO RM RI RE RT RW RY sp sr (by omega) (by omega) (by omega), bd15_s]
  by_cases k9 : (v &&& 15) = 9
  · rcases hz with ⟨q, rfl⟩ | ⟨q1, q2⟩
    · refine Or.inl ?_
      intro row h o c ho hc RR RL RS RO RM RI RE RT RW RY sp sr
      unfold f_L_act
      rw [f_X11_days, bd1_s, ez, bd1_s, if_neg k0, if_neg k1, if_neg k2, if_neg k3, if_neg k4, if_neg k5, if_neg k6, if_neg k7, if_neg k8, if_pos k9, if_pos (show iq (-1) < (0 : Int32) by decide)]
    · obtain ⟨d, rfl⟩ : ∃ d : Nat, z = d := ⟨z.toNat, by omega⟩
      have c0 : ¬ iq ((d : Nat) : Int) < (0 : Int32) := by rw [iq_l0, iq_lt (by omega) (by omega) (by omega) (by omega)]; omega
      have hcb := cr_le P d a li
      by_cases q : cr P d a li = 0
      · refine Or.inl ?_
        intro row h o c ho hc RR RL RS RO RM RI RE RT RW RY sp sr
        unfold f_L_act
        rw [f_X11_days, bd1_s, ez, bd1_s, if_neg k0, if_neg k1, if_neg k2, if_neg k3, if_neg k4, if_neg k5, if_neg k6, if_neg k7, if_neg k8, if_pos k9, if_neg c0, y_isCrease h (by omega) b2 (by omega) b8 b9, bd1_s, if_pos (show iq (cr P d a li) = 0 by rw [q]; rfl)]
      · refine Or.inr ⟨n, a, b, se, me, li, st_ P d (md P d a), ⟨b1, b2, b3, b4, b5, b6, b7, b8, b9, b10, b11⟩, ?_⟩
        intro row h o c ho hc RR RL RS RO RM RI RE RT RW RY sp sr
        refine ⟨upd row d (iq (md P d a)), CR_put h (md_bd hP (by omega) b2), ?_⟩
        unfold f_L_act
        rw [f_X11_days, bd1_s, ez, bd1_s, if_neg k0, if_neg k1, if_neg k2, if_neg k3, if_neg k4, if_neg k5, if_neg k6, if_neg k7, if_neg k8, if_pos k9, if_neg c0, y_isCrease h (by omega) b2 (by omega) b8 b9, bd1_s, if_neg (show ¬ iq (cr P d a li) = 0 by rw [iq_l0, iq_eq (by omega) (by omega) (by omega) (by omega)]; omega), y_press ho hc RR RL RS RO RM RI RE RT RW RY sp sr h (by omega) b2 (by omega) b8 b9 q, bd14_s]
  by_cases k10 : (v &&& 15) = 10
  · refine Or.inr ⟨n, a, b, se, me, li, (fa_ P a li n).2, ⟨b1, b2, b3, b4, b5, b6, b7, b8, b9, b10, b11⟩, ?_⟩
    intro row h o c ho hc RR RL RS RO RM RI RE RT RW RY sp sr
    obtain ⟨row', hC, e⟩ := y_pressAll (se := se) (b := b) (me := me) ho hc RR RL RS RO RM RI RE RT RW RY sp sr h b2 (by omega) b8 b9
    refine ⟨row', hC, ?_⟩
    unfold f_L_act
    rw [f_X11_days, bd1_s, ez, bd1_s, if_neg k0, if_neg k1, if_neg k2, if_neg k3, if_neg k4, if_neg k5, if_neg k6, if_neg k7, if_neg k8, if_neg k9, if_pos k10, e, bd14_s]
  by_cases k11 : (v &&& 15) = 11
  · obtain ⟨u, hu, eu⟩ := low_lit x 10 10 rfl (by omega) (by omega)
    obtain ⟨w, hw, ew⟩ := low_lit (x >>> ((4 : Int32) &&& 31)) 10 10 rfl (by omega) (by omega)
    refine Or.inr ⟨n, 1 + u, 1 + u + 1 + w, se, me, li, P, ⟨b1, by omega, by omega, by omega, by omega, b6, b7, b8, b9, b10, b11⟩, ?_⟩
    intro row h o c ho hc RR RL RS RO RM RI RE RT RW RY sp sr
    refine ⟨row, h, ?_⟩
    unfold f_L_act
    have e1 : (1 : Int32) + iq ((u : Nat) : Int) = iq ((1 + u : Nat) : Int) := by rw [iq_l1, iq_add]; rfl
    have e2 : iq ((1 + u : Nat) : Int) + 1 + iq ((w : Nat) : Int) = iq ((1 + u + 1 + w : Nat) : Int) := by rw [iq_l1, iq_add, iq_add]; rfl
    rw [f_X11_days, bd1_s, ez, bd1_s, if_neg k0, if_neg k1, if_neg k2, if_neg k3, if_neg k4, if_neg k5, if_neg k6, if_neg k7, if_neg k8, if_neg k9, if_neg k10, if_pos k11, eu, bd1_s, ew, bd1_s, e1, e2, y_setWindows ho hc RR RL RS RO RM RI RE RT RW RY sp sr (by omega) (by omega) (by omega) (by omega), bd15_s]
  by_cases k12 : (v &&& 15) = 12
  · obtain ⟨u, hu, eu⟩ := low_lit x 10 10 rfl (by omega) (by omega)
    obtain ⟨w, hw, ew⟩ := low_lit (x >>> ((4 : Int32) &&& 31)) 10 10 rfl (by omega) (by omega)
    refine Or.inr ⟨n, 1 + u, 1 + u + 1 + w, se, me, li, P, ⟨b1, by omega, by omega, by omega, by omega, b6, b7, b8, b9, b10, b11⟩, ?_⟩
    intro row h o c ho hc RR RL RS RO RM RI RE RT RW RY sp sr
    refine ⟨row, h, ?_⟩
    unfold f_L_act
    have e1 : (1 : Int32) + iq ((u : Nat) : Int) = iq ((1 + u : Nat) : Int) := by rw [iq_l1, iq_add]; rfl
    have e2 : iq ((1 + u : Nat) : Int) + 1 + iq ((w : Nat) : Int) = iq ((1 + u + 1 + w : Nat) : Int) := by rw [iq_l1, iq_add, iq_add]; rfl
    rw [f_X11_days, bd1_s, ez, bd1_s, if_neg k0, if_neg k1, if_neg k2, if_neg k3, if_neg k4, if_neg k5, if_neg k6, if_neg k7, if_neg k8, if_neg k9, if_neg k10, if_neg k11, if_pos k12, eu, bd1_s, ew, bd1_s, e1, e2, y_setWindows ho hc RR RL RS RO RM RI RE RT RW RY sp sr (by omega) (by omega) (by omega) (by omega), bd15_s]
  by_cases k13 : (v &&& 15) = 13
  · obtain ⟨u, hu, eu⟩ := low_lit x 10 10 rfl (by omega) (by omega)
    refine Or.inr ⟨n, a, b, se, u, li, P, ⟨b1, b2, b3, b4, b5, by omega, by omega, b8, b9, b10, b11⟩, ?_⟩
    intro row h o c ho hc RR RL RS RO RM RI RE RT RW RY sp sr
    refine ⟨row, h, ?_⟩
    unfold f_L_act
    rw [f_X11_days, bd1_s, ez, bd1_s, if_neg k0, if_neg k1, if_neg k2, if_neg k3, if_neg k4, if_neg k5, if_neg k6, if_neg k7, if_neg k8, if_neg k9, if_neg k10, if_neg k11, if_neg k12, if_pos k13, eu, bd1_s, y_setMemory ho hc RR RL RS RO RM RI RE RT RW RY sp sr (by omega) (by omega), bd14_s]
  by_cases k14 : (v &&& 15) = 14
  · obtain ⟨w, ew, hw⟩ : ∃ w : Nat, (if ((x >>> ((20 : Int32) &&& 31)) &&& 1) = 0 then some (200 : Int32) else some 10000) = some (iq w) ∧ 1 ≤ w ∧ w ≤ 10000 := by
      by_cases q : ((x >>> ((20 : Int32) &&& 31)) &&& 1) = 0
      · exact ⟨200, by rw [if_pos q]; rfl, by omega, by omega⟩
      · exact ⟨10000, by rw [if_neg q]; rfl, by omega, by omega⟩
    obtain ⟨u, hu, eu⟩ := low_ok x (m := w) (by omega) (by omega)
    refine Or.inr ⟨n, a, b, se, me, u, P, ⟨b1, b2, b3, b4, b5, b6, b7, by omega, by omega, b10, b11⟩, ?_⟩
    intro row h o c ho hc RR RL RS RO RM RI RE RT RW RY sp sr
    refine ⟨row, h, ?_⟩
    unfold f_L_act
    rw [f_X11_days, bd1_s, ez, bd1_s, if_neg k0, if_neg k1, if_neg k2, if_neg k3, if_neg k4, if_neg k5, if_neg k6, if_neg k7, if_neg k8, if_neg k9, if_neg k10, if_neg k11, if_neg k12, if_neg k13, if_pos k14, ew, bd1_s, eu, bd1_s, y_setLimit ho hc RR RL RS RO RM RI RE RT RW RY sp sr (by omega) (by omega), bd14_s]
  obtain ⟨u, hu, eu⟩ := low_lit x 6 6 rfl (by omega) (by omega)
  refine Or.inr ⟨n, a, b, 2 + u, me, li, P, ⟨b1, b2, b3, b4, b5, b6, b7, b8, b9, by omega, by omega⟩, ?_⟩
  intro row h o c ho hc RR RL RS RO RM RI RE RT RW RY sp sr
  refine ⟨row, h, ?_⟩
  unfold f_L_act
  have e1 : (2 : Int32) + iq ((u : Nat) : Int) = iq ((2 + u : Nat) : Int) := by rw [iq_l2, iq_add]; rfl
  rw [f_X11_days, bd1_s, ez, bd1_s, if_neg k0, if_neg k1, if_neg k2, if_neg k3, if_neg k4, if_neg k5, if_neg k6, if_neg k7, if_neg k8, if_neg k9, if_neg k10, if_neg k11, if_neg k12, if_neg k13, if_neg k14, eu, bd1_s, e1, y_setSeason ho hc RR RL RS RO RM RI RE RT RW RY sp sr (by omega) (by omega), bd14_s]
