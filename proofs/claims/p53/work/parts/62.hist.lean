/-! the relation of states; saved states, the snapshot -/
/-- a state of the class (its fields) and one of the reference (its 68 ints) -/
def SR (row : Nat → Int32) (len sh lo me li se st sp sr : Int32) (s : Nat → Int32) : Prop :=
  ∃ (n a b e : Nat) (m l : Int) (P : Nat → Int), NV row s n a b e m l P ∧ len = iq n ∧ sh = iq a ∧ lo = iq b ∧ me = iq m ∧ li = iq l ∧ se = iq e ∧ s 7 = sr ∧ ((st = iq 0 ∧ s 6 = iq (-1)) ∨ (st = iq 1 ∧ s 6 = sp ∧ ∃ k : Nat, sp = iq k ∧ k ≤ 60))
theorem NV_cong {row row2 s s2 : Nat → Int32} {n a b e : Nat} {m l : Int} {P : Nat → Int} (h : NV row s n a b e m l P) (h1 : ∀ j, j < 60 → row2 j = row j) (h2 : ∀ j, j < 68 → s2 j = s j) : NV row2 s2 n a b e m l P := by
  obtain ⟨hv, hC, hM, h0, h3, h4, h5, h6, h7⟩ := h
  have hn := hC.1
  exact ⟨hv, ⟨hC.1, hC.2.1, fun d hd => by rw [h1 d (by omega)]; exact hC.2.2 d hd⟩, ⟨hM.1, hM.2.1, fun d hd => by rw [h2 _ (by omega)]; exact hM.2.2 d hd⟩, by rw [h2 _ (by omega)]; exact h0, by rw [h2 _ (by omega)]; exact h3, by rw [h2 _ (by omega)]; exact h4, by rw [h2 _ (by omega)]; exact h5, by rw [h2 _ (by omega)]; exact h6, by rw [h2 _ (by omega)]; exact h7⟩
theorem SR_cong {row row2 : Nat → Int32} {len sh lo me li se st sp sr : Int32} {s s2 : Nat → Int32} (h : SR row len sh lo me li se st sp sr s) (h1 : ∀ j, j < 60 → row2 j = row j) (h2 : ∀ j, j < 68 → s2 j = s j) : SR row2 len sh lo me li se st sp sr s2 := by
  obtain ⟨n, a, b, e, m, l, P, hV, g1, g2, g3, g4, g5, g6, g7, g8⟩ := h
  refine ⟨n, a, b, e, m, l, P, NV_cong hV h1 h2, g1, g2, g3, g4, g5, g6, by rw [h2 _ (by omega)]; exact g7, ?_⟩
  rw [h2 6 (by omega)]
  exact g8
theorem cpy_row (f g : Nat → Int32) : ∀ j, j < 60 → va_cpy f g 0 0 60 j = f j := fun j hj => by
  unfold va_cpy
  rw [if_pos (by omega), show 0 + (j - 0) = j by omega]
theorem x_copyFrom {row : Nat → Int32} {len sh lo me li se st sp sr : Int32} {s : Nat → Int32} (h : SR row len sh lo me li se st sp sr s) (z1 z2 z3 z4 z5 z6 z7 z8 z9 : Int32) (r0 : Nat → Int32) : f_X6_copyFrom z1 z2 z3 z4 z5 z6 z7 z8 z9 r0 len sh lo me li se st sp sr row = some (len, sh, lo, me, li, se, st, sp, sr, va_cpy row r0 0 0 60) := by
  obtain ⟨n, a, b, e, m, l, P, hV, g1, g2, g3, g4, g5, g6, g7, g8⟩ := h
  unfold f_X6_copyFrom
  rcases g8 with ⟨g8, -⟩ | ⟨g8, -⟩
  · subst g8; exact gd_of and_0
  · subst g8; exact gd_of and_1
theorem x_newest {o c : Nat} (ho : o < 6) (hc : c ≤ 6) : f_X3_newest (iq o) (iq c) = some (iq (((o + c + 5) % 6 : Nat) : Int)) := by
  have e : ((o : Int) + c + 6 - 1 - ((o : Int) + c + 6 - 1) / 6 * 6) = (((o + c + 5) % 6 : Nat) : Int) := by omega
  have e2 : (o + c + 5) % 6 < 6 := by omega
  unfold f_X3_newest
  simp (disch := omega) only [iq_l6, iq_l1, iq_add, iq_sub, iq_div, iq_mul]
  rw [e]
  simp (disch := omega) only [iq_l0, iq_lt, iq_le, iq_nat, if_neg, gd_of, Int.toNat_natCast]
/-- saved states: c of them, in the ring from o on, in the reference's row from 0 on -/
def HR (R : Nat → (Nat → Int32)) (L S O M I E T W Y : Nat → Int32) (o c : Int32) (sts : Nat → Int32) (sm : Int32) : Prop :=
  ∃ (o' c' : Nat), o' < 6 ∧ c' ≤ 6 ∧ o = iq o' ∧ c = iq c' ∧ sm = iq c' ∧ ∀ i, i < c' → SR (R ((o' + i) % 6)) (L ((o' + i) % 6)) (S ((o' + i) % 6)) (O ((o' + i) % 6)) (M ((o' + i) % 6)) (I ((o' + i) % 6)) (E ((o' + i) % 6)) (T ((o' + i) % 6)) (W ((o' + i) % 6)) (Y ((o' + i) % 6)) (fun k => sts (68 * i + k))
def shf (sts : Nat → Int32) (k : Nat) : Nat → Int32 := fun j => if j < k then sts (j + 68) else sts j
theorem shf_succ (sts : Nat → Int32) (k : Nat) : upd (shf sts k) k (shf sts k (k + 68)) = shf sts (k + 1) := by
  funext j
  unfold shf upd
  rw [if_neg (show ¬ k + 68 < k by omega)]
  by_cases c : j = k
  · rw [if_pos c, if_pos (by omega), c]
  · rw [if_neg c]
    dsimp only
    by_cases c2 : j < k
    · rw [if_pos c2, if_pos (by omega)]
    · rw [if_neg c2, if_neg (by omega)]
def cpf (sts s : Nat → Int32) (b k : Nat) : Nat → Int32 := fun j => if b ≤ j ∧ j < b + k then s (j - b) else sts j
theorem cpf_succ (sts s : Nat → Int32) (b k : Nat) : upd (cpf sts s b k) (b + k) (s k) = cpf sts s b (k + 1) := by
  funext j
  unfold cpf upd
  by_cases c : j = b + k
  · rw [if_pos c, if_pos (by omega), c, show b + k - b = k by omega]
  · rw [if_neg c]
    dsimp only
    by_cases c2 : b ≤ j ∧ j < b + k
    · rw [if_pos c2, if_pos (by omega)]
    · rw [if_neg c2, if_neg (by omega)]
theorem cpf_0 (sts s : Nat → Int32) (b : Nat) : cpf sts s b 0 = sts := by
  funext j
  unfold cpf
  rw [if_neg (by omega)]
theorem cpf_in {sts s : Nat → Int32} {b n k : Nat} (h : k < n) : cpf sts s b n (b + k) = s k := by
  unfold cpf
  rw [if_pos (by omega), show b + k - b = k by omega]
theorem cpf_out {sts s : Nat → Int32} {b n j : Nat} (h : j < b ∨ b + n ≤ j) : cpf sts s b n j = sts j := by
  unfold cpf
  rw [if_neg (by omega)]
theorem cpf_0in {z s : Nat → Int32} {j : Nat} (h : j < 68) : cpf z s 0 68 j = s j := by
  have := cpf_in (sts := z) (s := s) (b := 0) (n := 68) (k := j) h
  rw [Nat.zero_add] at this
  exact this
