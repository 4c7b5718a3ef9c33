/-! the relation of states; saved states, the snapshot -/
/-- a state of the class (its fields) and one of the reference (its 68 ints) -/
def SR (row : Nat → Int32) (len sh lo me li se st sp sr : Int32) (s : Nat → Int32) : Prop :=
  ∃ (n a b e : Nat) (m l : Int) (P : Nat → Int), NV row s n a b e m l P ∧ len = iq n ∧ sh = iq a ∧ lo = iq b ∧ me = iq m ∧ li = iq l ∧ se = iq e ∧ s 7 = sr ∧ ((st = iq 0 ∧ s 6 = iq (-1)) ∨ (st = iq 1 ∧ s 6 = sp ∧ ∃ k : Nat, sp = iq k ∧ k ≤ 60))
theorem NV_cong {row row2 s s2 : Nat → Int32} {n a b e : Nat} {m l : Int} {P : Nat → Int} (h : NV row s n a b e m l P) (h1 : ∀ j, j < 60 → row2 j = row j) (h2 : ∀ j, j < 68 → s2 j = s j) : NV row2 s2 n a b e m l P := by
  obtain ⟨hv, hC, hM, h0, h3, h4, h5, h6, h7⟩ := h
  have hn := hC.1
  exact ⟨hv, ⟨hC.1, hC.2.1, fun d hd => by rw [h1 d (by omega)]; exact hC.2.2 d hd⟩, ⟨hM.1, hM.2.1, fun d hd => by rw [h2 _ (by omega)]; exact hM.2.2 d hd⟩, by rw [h2 _ (by omega)]; exact h0, by rw [h2 _ (by omega)]; exact h3, by rw [h2 _ (by omega)]; exact h4, by rw [h2 _ (by omega)]; exact h5, by rw [h2 _ (by omega)]; exact h6, by rw [h2 _ (by omega)]; exact h7⟩
theorem SR_cong {row row2 : Nat → Int32} {len sh lo me li se st sp sr : Int32} {s s2 : Nat → Int32} (h : SR row len sh lo me li se st sp sr s) (h1 : ∀ j, j < 60 → row2 j = row j) (h2 : ∀ j, j < 68 → s2 j = s j) : SR row2 len sh lo me li se st sp sr s2 := by
  obtain ⟨n, a, b, e, m, l, P, hV, g1, g2, g3, g4, g5, g6, g7, g8⟩ := h
  refine ⟨n, a, b, e, m, l, P, NV_cong hV h1 h2, g1, g2, g3, g4, g5, g6, by rw [h2 _ (by omega)]; exact g7, ?_⟩
  rw [h2 6 (by omega)]
  exact g8
theorem cpy_row (f g : Nat → Int32) : ∀ j, j < 60 → va_cpy f g 0 0 60 j = f j := fun j hj => by
  unfold va_cpy
  rw [if_pos (by omega), show 0 + (j - 0) = j by omega]
theorem x_copyFrom {row : Nat → Int32} {len sh lo me li se st sp sr : Int32} {s : Nat → Int32} (h : SR row len sh lo me li se st sp sr s) (z1 z2 z3 z4 z5 z6 z7 z8 z9 : Int32) (r0 : Nat → Int32) : f_X6_copyFrom z1 z2 z3 z4 z5 z6 z7 z8 z9 r0 len sh lo me li se st sp sr row = some (len, sh, lo, me, li, se, st, sp, sr, va_cpy row r0 0 0 60) := by
  obtain ⟨n, a, b, e, m, l, P, hV, g1, g2, g3, g4, g5, g6, g7, g8⟩ := h
  unfold f_X6_copyFrom
  rcases g8 with ⟨g8, -⟩ | ⟨g8, -⟩
  · subst g8; exact gd_of and_0
  · subst g8; exact gd_of and_1
theorem x_newest {o c : Nat} (ho : o < 6) (hc : c ≤ 6) : f_X3_newest (iq o) (iq c) = some (iq (((o + c + 5) % 6 : Nat) : Int)) := by
  have e : ((o : Int) + c + 6 - 1 - ((o : Int) + c + 6 - 1) / 6 * 6) = (((o + c + 5) % 6 : Nat) : Int) := by omega
  have e2 : (o + c + 5) % 6 < 6 := by omega
  unfold f_X3_newest
  simp (disch := omega) only [iq_l6, iq_l1, iq_add, iq_sub, iq_div, iq_mul]
  rw [e]
  simp (disch := omega) only [iq_l0, iq_lt, iq_le, iq_nat, if_neg, gd_of, Int.toNat_natCast]
/-- saved states: c of them, in the ring from o on, in the reference's row from 0 on -/
def HR (R : Nat → (Nat → Int32)) (L S O M I E T W Y : Nat → Int32) (o c : Int32) (sts : Nat → Int32) (sm : Int32) : Prop :=
  ∃ (o' c' : Nat), o' < 6 ∧ c' ≤ 6 ∧ o = iq o' ∧ c = iq c' ∧ sm = iq c' ∧ ∀ i, i < c' → SR (R ((o' + i) % 6)) (L ((o' + i) % 6)) (S ((o' + i) % 6)) (O ((o' + i) % 6)) (M ((o' + i) % 6)) (I ((o' + i) % 6)) (E ((o' + i) % 6)) (T ((o' + i) % 6)) (W ((o' + i) % 6)) (Y ((o' + i) % 6)) (fun k => sts (68 * i + k))
def shf (sts : Nat → Int32) (k : Nat) : Nat → Int32 := fun j => if j < k then sts (j + 68) else sts j
theorem shf_succ (sts : Nat → Int32) (k : Nat) : upd (shf sts k) k (shf sts k (k + 68)) = shf sts (k + 1) := by
  funext j
  unfold shf upd
  rw [if_neg (show ¬ k + 68 < k by omega)]
  by_cases c : j = k
  · rw [if_pos c, if_pos (by omega), c]
  · rw [if_neg c]
    dsimp only
    by_cases c2 : j < k
    · rw [if_pos c2, if_pos (by omega)]
    · rw [if_neg c2, if_neg (by omega)]
def cpf (sts s : Nat → Int32) (b k : Nat) : Nat → Int32 := fun j => if b ≤ j ∧ j < b + k then s (j - b) else sts j
theorem cpf_succ (sts s : Nat → Int32) (b k : Nat) : upd (cpf sts s b k) (b + k) (s k) = cpf sts s b (k + 1) := by
  funext j
  unfold cpf upd
  by_cases c : j = b + k
  · rw [if_pos c, if_pos (by omega), c, show b + k - b = k by omega]
  · rw [if_neg c]
    dsimp only
    by_cases c2 : b ≤ j ∧ j < b + k
    · rw [if_pos c2, if_pos (by omega)]
    · rw [if_neg c2, if_neg (by omega)]
theorem cpf_0 (sts s : Nat → Int32) (b : Nat) : cpf sts s b 0 = sts := by
  funext j
  unfold cpf
  rw [if_neg (by omega)]
theorem cpf_in {sts s : Nat → Int32} {b n k : Nat} (h : k < n) : cpf sts s b n (b + k) = s k := by
  unfold cpf
  rw [if_pos (by omega), show b + k - b = k by omega]
theorem cpf_out {sts s : Nat → Int32} {b n j : Nat} (h : j < b ∨ b + n ≤ j) : cpf sts s b n j = sts j := by
  unfold cpf
  rw [if_neg (by omega)]
theorem m_shift (sts : Nat → Int32) : l_X12_records_11 1000 (iq 0) sts = some (shf sts 340) := by
  have h0 : shf sts 0 = sts := by funext j; unfold shf; rw [if_neg (Nat.not_lt_zero _)]
  have key := loop_run (fun f k => l_X12_records_11 f (iq ((k : Nat) : Int)) (shf sts k)) 340 (shf sts 340) (fun f k hk => by
    show l_X12_records_11 (f + 1) (iq ((k : Nat) : Int)) (shf sts k) = l_X12_records_11 f (iq ((k : Int) + 1)) (shf sts (k + 1))
    have e : ((k : Int) + 68).toNat = k + 68 := by omega
    rw [l_X12_records_11]
    simp (disch := omega) only [iq_l340, iq_l68, iq_l0, iq_l1, iq_add, iq_le, iq_lt, iq_nat, if_neg, gd_of, Int.toNat_natCast, e, shf_succ]) (fun f => by
    show l_X12_records_11 (f + 1) (iq ((340 : Nat) : Int)) (shf sts 340) = _
    rw [l_X12_records_11]
    simp (disch := omega) only [iq_l340, iq_le, if_pos]) 1000 0 (by omega) (by omega)
  have key : l_X12_records_11 1000 (iq 0) (shf sts 0) = _ := key
  rw [h0] at key
  exact key
theorem m_copy (s sts : Nat → Int32) {c : Nat} (hc : c ≤ 5) : l_X12_records_51 s (iq c) 1000 (iq 0) sts = some (cpf sts s (68 * c) 68) := by
  have key := loop_run (fun f k => l_X12_records_51 s (iq c) f (iq ((k : Nat) : Int)) (cpf sts s (68 * c) k)) 68 (cpf sts s (68 * c) 68) (fun f k hk => by
    show l_X12_records_51 s (iq c) (f + 1) (iq ((k : Nat) : Int)) (cpf sts s (68 * c) k) = l_X12_records_51 s (iq c) f (iq ((k : Int) + 1)) (cpf sts s (68 * c) (k + 1))
    have e : (68 * (c : Int) + (k : Int)).toNat = 68 * c + k := by omega
    rw [l_X12_records_51]
    simp (disch := omega) only [iq_l68, iq_l0, iq_l1, iq_mul, iq_add, iq_le, iq_lt, iq_nat, if_neg, gd_of, Int.toNat_natCast, e, cpf_succ]) (fun f => by
    show l_X12_records_51 s (iq c) (f + 1) (iq ((68 : Nat) : Int)) (cpf sts s (68 * c) 68) = _
    rw [l_X12_records_51]
    simp (disch := omega) only [iq_l68, iq_le, if_pos]) 1000 0 (by omega) (by omega)
  have key : l_X12_records_51 s (iq c) 1000 (iq 0) (cpf sts s (68 * c) 0) = _ := key
  rw [cpf_0] at key
  exact key
/-- a state is saved -/
theorem save_rel {R : Nat → (Nat → Int32)} {L S O M I E T W Y : Nat → Int32} {o c sm : Int32} {sts s row : Nat → Int32} {len sh lo me li se st sp sr : Int32} (h : HR R L S O M I E T W Y o c sts sm) (hs : SR row len sh lo me li se st sp sr s) :
    ∃ (o2 c2 : Int32) (R2 : Nat → (Nat → Int32)) (L2 S2 O2 M2 I2 E2 T2 W2 Y2 : Nat → Int32) (sts2 : Nat → Int32), f_X3_save o c R L S O M I E T W Y len sh lo me li se st sp sr row = some (o2, c2, R2, L2, S2, O2, M2, I2, E2, T2, W2, Y2) ∧ f_X12_records sm s sts = some (c2, sts2) ∧ HR R2 L2 S2 O2 M2 I2 E2 T2 W2 Y2 o2 c2 sts2 c2 := by
  obtain ⟨o', c', ho, hc, rfl, rfl, rfl, hR⟩ := h
  -- the new counters
  obtain ⟨o2, c2, ho2, hc2, hc3, e1, e2⟩ : ∃ o2 c2 : Nat, o2 < 6 ∧ c2 < 6 ∧ (∀ i, i < c2 → (o2 + i) % 6 = (if c' = 6 then (o' + (i + 1)) % 6 else (o' + i) % 6)) ∧ (if iq c' = 6 then some (((iq o' + 1) - (iq o' + 1) / 6 * 6), iq c') else some (iq o', (iq c' + 1))) = some (iq o2, iq ((c2 + 1 : Nat) : Int)) ∧ c2 = (if c' = 6 then 5 else c') := by
    by_cases q : c' = 6
    · refine ⟨(o' + 1) % 6, 5, by omega, by omega, fun i hi => by rw [if_pos q]; omega, ?_, by rw [if_pos q]⟩
      rw [if_pos (show iq c' = 6 by rw [q]; rfl)]
      simp (disch := omega) only [iq_l6, iq_l1, iq_add, iq_div, iq_mul, iq_sub]
      rw [show ((o' : Int) + 1 - ((o' : Int) + 1) / 6 * 6) = (((o' + 1) % 6 : Nat) : Int) by omega, q]
    · refine ⟨o', c', ho, by omega, fun i hi => by rw [if_neg q], ?_, by rw [if_neg q]⟩
      rw [if_neg (show ¬ iq c' = 6 by rw [iq_l6, iq_eq (by omega) (by omega) (by omega) (by omega)]; omega), iq_l1, iq_add]
      rfl
  obtain ⟨p, hp⟩ : ∃ p, p = (o2 + c2) % 6 := ⟨_, rfl⟩
  have hp6 : p < 6 := by omega
  have hpn : ∀ i, i < c2 → (o2 + i) % 6 ≠ p := fun i hi => by omega
  have hnew : f_X3_newest (iq o2) (iq ((c2 + 1 : Nat) : Int)) = some (iq p) := by
    rw [x_newest ho2 (by omega), show (o2 + (c2 + 1) + 5) % 6 = p by omega]
  have hcp := fun (z1 z2 z3 z4 z5 z6 z7 z8 z9 : Int32) (r0 : Nat → Int32) => x_copyFrom hs z1 z2 z3 z4 z5 z6 z7 z8 z9 r0
  refine ⟨iq o2, iq ((c2 + 1 : Nat) : Int), va_up R p (va_cpy row (R p) 0 0 60), va_up L p len, va_up S p sh, va_up O p lo, va_up M p me, va_up I p li, va_up E p se, va_up T p st, va_up W p sp, va_up Y p sr, cpf (if c' = 6 then shf sts 340 else sts) s (68 * c2) 68, ?_, ?_, o2, c2 + 1, ho2, by omega, rfl, rfl, rfl, fun i hi => ?_⟩
  · unfold f_X3_save
    rw [e1, bd2_s, hnew, bd1_s]
    rcases (show p = 0 ∨ p = 1 ∨ p = 2 ∨ p = 3 ∨ p = 4 ∨ p = 5 by omega) with q | q | q | q | q | q
    · subst q
      rw [if_pos (show Int32.toNatClampNeg (iq ((0 : Nat) : Int)) = 0 from rfl), hcp]
      rfl
    · rw [q]
      rw [if_neg (show ¬ Int32.toNatClampNeg (iq ((1 : Nat) : Int)) = 0 by decide), if_pos (show Int32.toNatClampNeg (iq ((1 : Nat) : Int)) = 1 from rfl), hcp]
      rfl
    · rw [q]
      rw [if_neg (show ¬ Int32.toNatClampNeg (iq ((2 : Nat) : Int)) = 0 by decide), if_neg (show ¬ Int32.toNatClampNeg (iq ((2 : Nat) : Int)) = 1 by decide), if_pos (show Int32.toNatClampNeg (iq ((2 : Nat) : Int)) = 2 from rfl), hcp]
      rfl
    · rw [q]
      rw [if_neg (show ¬ Int32.toNatClampNeg (iq ((3 : Nat) : Int)) = 0 by decide), if_neg (show ¬ Int32.toNatClampNeg (iq ((3 : Nat) : Int)) = 1 by decide), if_neg (show ¬ Int32.toNatClampNeg (iq ((3 : Nat) : Int)) = 2 by decide), if_pos (show Int32.toNatClampNeg (iq ((3 : Nat) : Int)) = 3 from rfl), hcp]
      rfl
    · rw [q]
      rw [if_neg (show ¬ Int32.toNatClampNeg (iq ((4 : Nat) : Int)) = 0 by decide), if_neg (show ¬ Int32.toNatClampNeg (iq ((4 : Nat) : Int)) = 1 by decide), if_neg (show ¬ Int32.toNatClampNeg (iq ((4 : Nat) : Int)) = 2 by decide), if_neg (show ¬ Int32.toNatClampNeg (iq ((4 : Nat) : Int)) = 3 by decide), if_pos (show Int32.toNatClampNeg (iq ((4 : Nat) : Int)) = 4 from rfl), hcp]
      rfl
    · rw [q]
      rw [if_neg (show ¬ Int32.toNatClampNeg (iq ((5 : Nat) : Int)) = 0 by decide), if_neg (show ¬ Int32.toNatClampNeg (iq ((5 : Nat) : Int)) = 1 by decide), if_neg (show ¬ Int32.toNatClampNeg (iq ((5 : Nat) : Int)) = 2 by decide), if_neg (show ¬ Int32.toNatClampNeg (iq ((5 : Nat) : Int)) = 3 by decide), if_neg (show ¬ Int32.toNatClampNeg (iq ((5 : Nat) : Int)) = 4 by decide), if_pos (show Int32.toNatClampNeg (iq ((5 : Nat) : Int)) = 5 from rfl), hcp]
      rfl
  · unfold f_X12_records
    by_cases q : c' = 6
    · rw [if_pos q] at e2
      rw [if_pos (show iq c' = 6 by rw [q]; rfl), if_pos q, iq_l0, m_shift, bd1_s, q, e2]
      have e9 := m_copy s (shf sts 340) (c := 5) (by omega)
      have e8 : (iq ((6 : Nat) : Int) - 1) = iq ((5 : Nat) : Int) := by decide
      rw [bd2_s, e8, e9, bd1_s]
      rfl
    · rw [if_neg q] at e2
      rw [if_neg (show ¬ iq c' = 6 by rw [iq_l6, iq_eq (by omega) (by omega) (by omega) (by omega)]; omega), if_neg q, bd2_s, e2, iq_l0, m_copy s sts (by omega), bd1_s, iq_l1, iq_add]
      rfl
  · by_cases q : i = c2
    · subst q
      rw [← hp]
      have up : ∀ {α : Type} (f : Nat → α) (v : α), va_up f p v p = v := fun f v => if_pos rfl
      rw [up, up, up, up, up, up, up, up, up, up]
      exact SR_cong hs (cpy_row row (R p)) (fun j hj => cpf_in hj)
    · have hne := hpn i (by omega)
      have up : ∀ {α : Type} (f : Nat → α) (v : α), va_up f p v ((o2 + i) % 6) = f ((o2 + i) % 6) := fun f v => if_neg hne
      rw [up, up, up, up, up, up, up, up, up, up, hc3 i (by omega)]
      by_cases q6 : c' = 6
      · rw [if_pos q6] at e2
        rw [if_pos q6]
        refine SR_cong (hR (i + 1) (by omega)) (fun _ _ => rfl) (fun j hj => ?_)
        show cpf (if c' = 6 then shf sts 340 else sts) s (68 * c2) 68 (68 * i + j) = sts (68 * (i + 1) + j)
        rw [cpf_out (by omega), if_pos q6]
        unfold shf
        rw [if_pos (by omega), show 68 * i + j + 68 = 68 * (i + 1) + j by omega]
      · rw [if_neg q6] at e2
        rw [if_neg q6]
        refine SR_cong (hR i (by omega)) (fun _ _ => rfl) (fun j hj => ?_)
        show cpf (if c' = 6 then shf sts 340 else sts) s (68 * c2) 68 (68 * i + j) = sts (68 * i + j)
        rw [cpf_out (by omega), if_neg q6]
/-- the latest saved state comes back -/
theorem back_rel {R : Nat → (Nat → Int32)} {L S O M I E T W Y : Nat → Int32} {o c sm : Int32} {sts s row : Nat → Int32} {len sh lo me li se st sp sr : Int32} (h : HR R L S O M I E T W Y o c sts sm) (hc0 : ¬ c = 0) :
    ∃ (len2 sh2 lo2 me2 li2 se2 st2 sp2 sr2 : Int32) (row2 s2 : Nat → Int32), f_X3_takeBack o c R L S O M I E T W Y len sh lo me li se st sp sr row = some (c - 1, len2, sh2, lo2, me2, li2, se2, st2, sp2, sr2, row2) ∧ l_X12_undo_30 sm sts 1000 0 s = some s2 ∧ SR row2 len2 sh2 lo2 me2 li2 se2 st2 sp2 sr2 s2 ∧ HR R L S O M I E T W Y o (c - 1) sts (c - 1) ∧ sm = c := by
  obtain ⟨o', c', ho, hc, rfl, rfl, rfl, hR⟩ := h
  have hc1 : c' ≠ 0 := fun z => hc0 (by rw [z]; rfl)
  have ec : iq c' - 1 = iq ((c' - 1 : Nat) : Int) := by rw [iq_l1, iq_sub, show ((c' : Int) - 1) = ((c' - 1 : Nat) : Int) by omega]
  obtain ⟨p, hp⟩ : ∃ p, p = (o' + (c' - 1)) % 6 := ⟨_, rfl⟩
  have hp6 : p < 6 := by omega
  have hnew : f_X3_newest (iq o') (iq c') = some (iq p) := by rw [x_newest ho hc, show (o' + c' + 5) % 6 = p by omega]
  have hS := hR (c' - 1) (by omega)
  rw [← hp] at hS
  have hcp := x_copyFrom hS len sh lo me li se st sp sr row
  have hle : ¬ iq c' ≤ 0 := by rw [iq_l0, iq_le (by omega) (by omega) (by omega) (by omega)]; omega
  have hcopy : l_X12_undo_30 (iq c') sts 1000 (iq 0) s = some (cpf s (fun k => sts (68 * (c' - 1) + k)) 0 68) := by
    have key := loop_run (fun f k => l_X12_undo_30 (iq c') sts f (iq ((k : Nat) : Int)) (cpf s (fun k => sts (68 * (c' - 1) + k)) 0 k)) 68 (cpf s (fun k => sts (68 * (c' - 1) + k)) 0 68) (fun f k hk => by
      show l_X12_undo_30 (iq c') sts (f + 1) (iq ((k : Nat) : Int)) _ = l_X12_undo_30 (iq c') sts f (iq ((k : Int) + 1)) _
      have e : (68 * (((c' - 1 : Nat)) : Int) + (k : Int)).toNat = 68 * (c' - 1) + k := by omega
      rw [l_X12_undo_30, ec]
      simp (disch := omega) only [iq_l68, iq_l0, iq_l1, iq_mul, iq_add, iq_le, iq_lt, iq_nat, if_neg, gd_of, Int.toNat_natCast, e]
      have e2 := cpf_succ s (fun k => sts (68 * (c' - 1) + k)) 0 k
      rw [Nat.zero_add] at e2
      rw [← e2]) (fun f => by
      show l_X12_undo_30 (iq c') sts (f + 1) (iq ((68 : Nat) : Int)) _ = _
      rw [l_X12_undo_30]
      simp (disch := omega) only [iq_l68, iq_le, if_pos]) 1000 0 (by omega) (by omega)
    have key : l_X12_undo_30 (iq c') sts 1000 (iq 0) (cpf s (fun k => sts (68 * (c' - 1) + k)) 0 0) = _ := key
    rw [cpf_0] at key
    exact key
  refine ⟨_, _, _, _, _, _, _, _, _, _, _, ?_, hcopy, SR_cong hS (cpy_row (R p) row) (fun j hj => by have := cpf_in (sts := s) (s := fun k => sts (68 * (c' - 1) + k)) (b := 0) (n := 68) (k := j) hj; rw [Nat.zero_add] at this; exact this), ⟨o', c' - 1, ho, by omega, rfl, ec, ec, fun i hi => hR i (by omega)⟩, rfl⟩
  unfold f_X3_takeBack
  rw [hnew, bd1_s]
  rcases (show p = 0 ∨ p = 1 ∨ p = 2 ∨ p = 3 ∨ p = 4 ∨ p = 5 by omega) with q | q | q | q | q | q
  · rw [q] at hcp ⊢
    rw [if_pos (show Int32.toNatClampNeg (iq ((0 : Nat) : Int)) = 0 from rfl), if_neg hle, hcp]
    rfl
  · rw [q] at hcp ⊢
    rw [if_neg (show ¬ Int32.toNatClampNeg (iq ((1 : Nat) : Int)) = 0 by decide), if_pos (show Int32.toNatClampNeg (iq ((1 : Nat) : Int)) = 1 from rfl), if_neg hle, hcp]
    rfl
  · rw [q] at hcp ⊢
    rw [if_neg (show ¬ Int32.toNatClampNeg (iq ((2 : Nat) : Int)) = 0 by decide), if_neg (show ¬ Int32.toNatClampNeg (iq ((2 : Nat) : Int)) = 1 by decide), if_pos (show Int32.toNatClampNeg (iq ((2 : Nat) : Int)) = 2 from rfl), if_neg hle, hcp]
    rfl
  · rw [q] at hcp ⊢
    rw [if_neg (show ¬ Int32.toNatClampNeg (iq ((3 : Nat) : Int)) = 0 by decide), if_neg (show ¬ Int32.toNatClampNeg (iq ((3 : Nat) : Int)) = 1 by decide), if_neg (show ¬ Int32.toNatClampNeg (iq ((3 : Nat) : Int)) = 2 by decide), if_pos (show Int32.toNatClampNeg (iq ((3 : Nat) : Int)) = 3 from rfl), if_neg hle, hcp]
    rfl
  · rw [q] at hcp ⊢
    rw [if_neg (show ¬ Int32.toNatClampNeg (iq ((4 : Nat) : Int)) = 0 by decide), if_neg (show ¬ Int32.toNatClampNeg (iq ((4 : Nat) : Int)) = 1 by decide), if_neg (show ¬ Int32.toNatClampNeg (iq ((4 : Nat) : Int)) = 2 by decide), if_neg (show ¬ Int32.toNatClampNeg (iq ((4 : Nat) : Int)) = 3 by decide), if_pos (show Int32.toNatClampNeg (iq ((4 : Nat) : Int)) = 4 from rfl), if_neg hle, hcp]
    rfl
  · rw [q] at hcp ⊢
    rw [if_neg (show ¬ Int32.toNatClampNeg (iq ((5 : Nat) : Int)) = 0 by decide), if_neg (show ¬ Int32.toNatClampNeg (iq ((5 : Nat) : Int)) = 1 by decide), if_neg (show ¬ Int32.toNatClampNeg (iq ((5 : Nat) : Int)) = 2 by decide), if_neg (show ¬ Int32.toNatClampNeg (iq ((5 : Nat) : Int)) = 3 by decide), if_neg (show ¬ Int32.toNatClampNeg (iq ((5 : Nat) : Int)) = 4 by decide), if_pos (show Int32.toNatClampNeg (iq ((5 : Nat) : Int)) = 5 from rfl), if_neg hle, hcp]
    rfl
theorem m_keepLoop (s z : Nat → Int32) : l_X12_keep_7 s 1000 0 z = some (cpf z s 0 68) := by
  have key := loop_run (fun f k => l_X12_keep_7 s f (iq ((k : Nat) : Int)) (cpf z s 0 k)) 68 (cpf z s 0 68) (fun f k hk => by
    show l_X12_keep_7 s (f + 1) (iq ((k : Nat) : Int)) _ = l_X12_keep_7 s f (iq ((k : Int) + 1)) _
    rw [l_X12_keep_7]
    simp (disch := omega) only [iq_l68, iq_l0, iq_l1, iq_add, iq_le, iq_lt, iq_nat, if_neg, gd_of, Int.toNat_natCast]
    have e2 := cpf_succ z s 0 k
    rw [Nat.zero_add] at e2
    rw [← e2]) (fun f => by
    show l_X12_keep_7 s (f + 1) (iq ((68 : Nat) : Int)) _ = _
    rw [l_X12_keep_7]
    simp (disch := omega) only [iq_l68, iq_le, if_pos]) 1000 0 (by omega) (by omega)
  have key : l_X12_keep_7 s 1000 (iq 0) (cpf z s 0 0) = _ := key
  rw [cpf_0] at key
  exact key
theorem m_restoreLoop (s z : Nat → Int32) : l_X12_restore_24 s 1000 0 z = some (cpf z s 0 68) := by
  have key := loop_run (fun f k => l_X12_restore_24 s f (iq ((k : Nat) : Int)) (cpf z s 0 k)) 68 (cpf z s 0 68) (fun f k hk => by
    show l_X12_restore_24 s (f + 1) (iq ((k : Nat) : Int)) _ = l_X12_restore_24 s f (iq ((k : Int) + 1)) _
    rw [l_X12_restore_24]
    simp (disch := omega) only [iq_l68, iq_l0, iq_l1, iq_add, iq_le, iq_lt, iq_nat, if_neg, gd_of, Int.toNat_natCast]
    have e2 := cpf_succ z s 0 k
    rw [Nat.zero_add] at e2
    rw [← e2]) (fun f => by
    show l_X12_restore_24 s (f + 1) (iq ((68 : Nat) : Int)) _ = _
    rw [l_X12_restore_24]
    simp (disch := omega) only [iq_l68, iq_le, if_pos]) 1000 0 (by omega) (by omega)
  have key : l_X12_restore_24 s 1000 (iq 0) (cpf z s 0 0) = _ := key
  rw [cpf_0] at key
  exact key
theorem cpf_0in {z s : Nat → Int32} {j : Nat} (h : j < 68) : cpf z s 0 68 j = s j := by
  have := cpf_in (sts := z) (s := s) (b := 0) (n := 68) (k := j) h
  rw [Nat.zero_add] at this
  exact this
