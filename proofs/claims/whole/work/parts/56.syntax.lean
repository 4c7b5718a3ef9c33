/-! the class's reader of signs, as steps -/
def lea (l f : Nat) : Nat := if l = 112 then 1 else if l = 119 then (if f = 0 then 1 else 2) else 0
def mos (l f : Nat) : Nat := if l = 108 then 9999 else if l = 109 then 9 else if l = 112 then 9999 else if l = 119 then (if f = 0 then 10 else 20) else 59
theorem lea_le (l f : Nat) : lea l f ≤ 2 := by unfold lea; split <;> (try split) <;> (try split) <;> omega
theorem mos_le (l f : Nat) : 9 ≤ mos l f ∧ mos l f ≤ 9999 := by unfold mos; split <;> (try split) <;> (try split) <;> (try split) <;> (try split) <;> omega
theorem and_z1 : iq 1 &&& iq 1 = iq 1 := by decide
theorem and_z0 : iq 0 &&& iq 1 = iq 0 := by decide
theorem gd_z1 {α : Type} {inst : Decidable (iq 1 &&& iq 1 = iq 1)} {x : Option α} : @gd α (iq 1 &&& iq 1 = iq 1) inst x = x := if_pos and_z1
theorem gd_z0 {α : Type} {inst : Decidable (iq 0 &&& iq 1 = iq 0)} {x : Option α} : @gd α (iq 0 &&& iq 1 = iq 0) inst x = x := if_pos and_z0
theorem x_least {l f : Nat} (hl : l < 1000) (hf : f < 1000) : f_X7_least (iq l) (iq f) = some (iq ((lea l f : Nat) : Int)) := by
  unfold f_X7_least lea
  by_cases c1 : l = 112
  · rw [if_pos c1]; simp (disch := omega) only [iq_l112, iq_eq, if_pos, iq_l1]; rfl
  · rw [if_neg c1]
    by_cases c2 : l = 119
    · rw [if_pos c2]
      by_cases c3 : f = 0
      · rw [if_pos c3]; simp (disch := omega) only [iq_l112, iq_l119, iq_l0, iq_eq, if_pos, if_neg, iq_l1]; rfl
      · rw [if_neg c3]; simp (disch := omega) only [iq_l112, iq_l119, iq_l0, iq_eq, if_pos, if_neg, iq_l2]; rfl
    · rw [if_neg c2]; simp (disch := omega) only [iq_l112, iq_l119, iq_l0, iq_eq, if_neg]; rfl
theorem x_most {l f : Nat} (hl : l < 1000) (hf : f < 1000) : f_X7_most (iq l) (iq f) = some (iq ((mos l f : Nat) : Int)) := by
  unfold f_X7_most mos
  by_cases c0 : l = 108
  · rw [if_pos c0]; simp (disch := omega) only [iq_l108, iq_eq, if_pos, iq_l9999]; rfl
  · rw [if_neg c0]
    by_cases c4 : l = 109
    · rw [if_pos c4]; simp (disch := omega) only [iq_l108, iq_l109, iq_eq, if_pos, if_neg, iq_l9]; rfl
    · rw [if_neg c4]
      by_cases c1 : l = 112
      · rw [if_pos c1]; simp (disch := omega) only [iq_l108, iq_l109, iq_l112, iq_eq, if_pos, if_neg, iq_l9999]; rfl
      · rw [if_neg c1]
        by_cases c2 : l = 119
        · rw [if_pos c2]
          by_cases c3 : f = 0
          · rw [if_pos c3]; simp (disch := omega) only [iq_l108, iq_l109, iq_l112, iq_l119, iq_l0, iq_eq, if_pos, if_neg, iq_l10]; rfl
          · rw [if_neg c3]; simp (disch := omega) only [iq_l108, iq_l109, iq_l112, iq_l119, iq_l0, iq_eq, if_pos, if_neg, iq_l20]; rfl
        · rw [if_neg c2]; simp (disch := omega) only [iq_l108, iq_l109, iq_l112, iq_l119, iq_eq, if_neg, iq_l59]; rfl
/-- whether some number in range begins with these digits -/
def cbn (l f v : Nat) : Prop := (v = 0 ∧ lea l f = 0) ∨ (v ≠ 0 ∧ v ≤ mos l f)
theorem mos_ten {l f v : Nat} (h0 : v ≠ 0) (c3 : ¬ lea l f ≤ v) : 10 ≤ mos l f := by
  unfold lea at c3
  unfold mos
  by_cases q1 : l = 112
  · rw [if_pos q1] at c3; omega
  · rw [if_neg q1] at c3
    by_cases q2 : l = 119
    · rw [if_neg (by omega), if_neg (by omega), if_neg q1, if_pos q2]; split <;> omega
    · rw [if_neg q2] at c3; omega
theorem x_cbn_yes {l f v : Nat} (hl : l < 1000) (hf : f < 1000) (hv : v < 1000000) (h : cbn l f v) : f_X7_canBecomeNumber (iq l) (iq f) (iq v) = some (iq 1) := by
  have h1 := lea_le l f
  have h2 := mos_le l f
  unfold f_X7_canBecomeNumber
  rcases h with ⟨c, c2⟩ | ⟨c, c2⟩
  · simp (disch := omega) only [x_least hl hf, bd1_s, iq_l0, iq_eq, if_pos, iq_l1]
  · by_cases c3 : lea l f ≤ v
    · simp (disch := omega) only [x_least hl hf, x_most hl hf, bd1_s, iq_l0, iq_eq, iq_lt, if_neg, iq_l1]
    · have c4 := mos_ten c c3
      simp (disch := omega) only [x_least hl hf, x_most hl hf, bd1_s, iq_l0, iq_l10, iq_mul, iq_eq, iq_lt, if_neg, if_pos, iq_l1]
theorem x_cbn_no {l f v : Nat} (hl : l < 1000) (hf : f < 1000) (hv : v < 1000000) (h : ¬ cbn l f v) : f_X7_canBecomeNumber (iq l) (iq f) (iq v) = some (iq 0) := by
  have h1 := lea_le l f
  have h2 := mos_le l f
  unfold cbn at h
  unfold f_X7_canBecomeNumber
  by_cases c : v = 0
  · simp (disch := omega) only [x_least hl hf, bd1_s, iq_l0, iq_eq, if_pos, if_neg]
  · simp (disch := omega) only [x_least hl hf, x_most hl hf, bd1_s, iq_l0, iq_eq, iq_lt, if_neg, if_pos]
def stn (l f dg v : Nat) : Prop := l = 97 ∨ (0 < dg ∧ lea l f ≤ v)
def wlo (l f : Nat) : Prop := l = 119 ∧ f = 0
theorem x_stands_yes {l f dg v : Nat} (hl : l < 1000) (hf : f < 1000) (hd : dg < 1000) (hv : v < 1000000) (h : stn l f dg v) : f_X7_numberStands (iq l) (iq f) (iq dg) (iq v) = some (iq 1) := by
  have h1 := lea_le l f
  unfold f_X7_numberStands
  by_cases c : l = 97
  · simp (disch := omega) only [iq_l97, iq_eq, if_pos, iq_l1]
  · unfold stn at h
    rw [x_least hl hf, bd1_s]
    simp (disch := omega) only [iq_l97, iq_l0, iq_eq, iq_le, iq_lt, if_neg, iq_l1]
theorem x_stands_no {l f dg v : Nat} (hl : l < 1000) (hf : f < 1000) (hd : dg < 1000) (hv : v < 1000000) (h : ¬ stn l f dg v) : f_X7_numberStands (iq l) (iq f) (iq dg) (iq v) = some (iq 0) := by
  have h1 := lea_le l f
  unfold stn at h
  unfold f_X7_numberStands
  by_cases c : dg = 0
  · simp (disch := omega) only [iq_l97, iq_l0, iq_eq, iq_le, if_neg, if_pos]
  · rw [x_least hl hf, bd1_s]
    simp (disch := omega) only [iq_l97, iq_l0, iq_eq, iq_le, iq_lt, if_neg, if_pos]
theorem x_wants_yes {l f : Nat} (h : wlo l f) : f_X7_wantsLonger (iq l) (iq f) = some (iq 1) := by
  obtain ⟨h1, h2⟩ := h
  subst h1; subst h2
  rfl
theorem x_wants_no {l f : Nat} (hl : l < 1000) (hf : f < 1000) (h : ¬ wlo l f) : f_X7_wantsLonger (iq l) (iq f) = some (iq 0) := by
  unfold wlo at h
  unfold f_X7_wantsLonger
  by_cases c : l = 119
  · simp (disch := omega) only [iq_l119, iq_l0, iq_eq, if_pos, if_neg]
  · simp (disch := omega) only [iq_l119, iq_l0, iq_eq, if_neg]
def isL (c : Nat) : Prop := c = 97 ∨ c = 108 ∨ c = 109 ∨ c = 112 ∨ c = 119 ∨ c = 120
/-- a step: T l f dg v c l' f' dg' v' -/
def Tk (l f dg v c l' f' dg' v' : Nat) : Prop :=
  (l = 0 ∧ isL c ∧ l' = c ∧ f' = 0 ∧ dg' = 0 ∧ v' = 0) ∨
  (l ≠ 0 ∧ 48 ≤ c ∧ c ≤ 57 ∧ l ≠ 97 ∧ ¬ (0 < dg ∧ v = 0) ∧ cbn l f (10 * v + (c - 48)) ∧ l' = l ∧ f' = f ∧ dg' = dg + 1 ∧ v' = 10 * v + (c - 48)) ∨
  (l ≠ 0 ∧ ¬ (48 ≤ c ∧ c ≤ 57) ∧ stn l f dg v ∧ c = 59 ∧ ¬ wlo l f ∧ l' = 0 ∧ f' = 0 ∧ dg' = 0 ∧ v' = 0) ∨
  (l ≠ 0 ∧ ¬ (48 ≤ c ∧ c ≤ 57) ∧ stn l f dg v ∧ ((c = 44 ∧ l = 112) ∨ (c = 58 ∧ wlo l f)) ∧ l' = l ∧ f' = f + 1 ∧ dg' = 0 ∧ v' = 0)
def No (l f dg v c : Nat) : Prop :=
  (l = 0 ∧ ¬ isL c) ∨
  (l ≠ 0 ∧ 48 ≤ c ∧ c ≤ 57 ∧ (l = 97 ∨ (0 < dg ∧ v = 0) ∨ ¬ cbn l f (10 * v + (c - 48)))) ∨
  (l ≠ 0 ∧ ¬ (48 ≤ c ∧ c ≤ 57) ∧ (¬ stn l f dg v ∨ (¬ (c = 59 ∧ ¬ wlo l f) ∧ ¬ (c = 44 ∧ l = 112) ∧ ¬ (c = 58 ∧ wlo l f))))
theorem x_takes_yes {l f dg v c l' f' dg' v' : Nat} (hl : l < 1000) (hf : f < 900) (hd : dg < 900) (hv : v < 10000) (hc : c < 1000) (h : Tk l f dg v c l' f' dg' v') : f_X7_takes (iq l) (iq f) (iq dg) (iq v) (iq c) = some (iq 1, iq l', iq f', iq dg', iq v') := by
  unfold f_X7_takes
  rcases h with ⟨h0, h1, rfl, rfl, rfl, rfl⟩ | ⟨h0, h1, h2, h3, h4, h5, rfl, rfl, rfl, rfl⟩ | ⟨h0, h1, h2, rfl, h4, rfl, rfl, rfl, rfl⟩ | ⟨h0, h1, h2, h3, rfl, rfl, rfl, rfl⟩
  · subst h0
    rcases h1 with rfl | rfl | rfl | rfl | rfl | rfl <;> rfl
  · have e : ((c : Int) - 48) = ((c - 48 : Nat) : Int) := by omega
    have e2 : (10 * (v : Int) + ((c - 48 : Nat) : Int)) = ((10 * v + (c - 48) : Nat) : Int) := by omega
    simp (disch := omega) only [iq_l0, iq_l48, iq_l57, iq_eq, iq_lt, if_neg, iq_sub, f_X7_takesDigit]
    rw [e]
    by_cases c1 : dg = 0
    · simp (disch := omega) only [iq_l0, iq_le, if_pos, bd1_s, iq_l97, iq_eq, if_neg, if_true, iq_l10, iq_mul, iq_add]
      rw [e2, x_cbn_yes (by omega) (by omega) (by omega) h5, bd1_s]
      simp (disch := omega) only [iq_eq, if_neg, if_false, iq_l1, iq_add, bd3_s, gd_z1]
      rfl
    · simp (disch := omega) only [iq_l0, iq_le, if_neg, bd1_s, iq_l97, iq_eq, if_true, iq_l10, iq_mul, iq_add]
      rw [e2, x_cbn_yes (by omega) (by omega) (by omega) h5, bd1_s]
      simp (disch := omega) only [iq_eq, if_neg, if_false, iq_l1, iq_add, bd3_s, gd_z1]
      rfl
  · rw [x_stands_yes (by omega) (by omega) (by omega) (by omega) h2, x_wants_no (by omega) (by omega) h4]
    simp (disch := omega) only [iq_l0, iq_l48, iq_l57, iq_l59, iq_eq, iq_lt, if_neg, if_pos, if_true, if_false, bd1_s, f_X7_start, f_X7_startNumber, bd3_s, bd4_s, iq_l1]
    rfl
  · rw [x_stands_yes (by omega) (by omega) (by omega) (by omega) h2]
    rcases h3 with ⟨rfl, rfl⟩ | ⟨rfl, h3⟩
    · rw [x_wants_no (by omega) (by omega) (fun z => absurd z.1 (by decide))]
      simp (disch := omega) only [iq_l0, iq_l48, iq_l57, iq_l59, iq_l44, iq_l112, iq_eq, iq_lt, if_neg, if_pos, if_true, if_false, bd1_s, f_X7_startNumber, bd3_s, iq_l1, iq_add]
      rfl
    · rw [x_wants_yes h3]
      simp (disch := omega) only [iq_l0, iq_l48, iq_l57, iq_l58, iq_l59, iq_l44, iq_eq, iq_lt, if_neg, if_pos, if_true, if_false, bd1_s, f_X7_startNumber, bd3_s, iq_l1, iq_add]
      rfl
theorem x_takes_no {l f dg v c : Nat} (hl : l < 1000) (hf : f < 900) (hd : dg < 900) (hv : v < 10000) (hc : c < 1000) (h : No l f dg v c) : ∃ a1 a2 a3 a4 : Int32, f_X7_takes (iq l) (iq f) (iq dg) (iq v) (iq c) = some (iq 0, a1, a2, a3, a4) := by
  refine ⟨iq l, iq f, iq dg, iq v, ?_⟩
  unfold f_X7_takes
  rcases h with ⟨h0, h1⟩ | ⟨h0, h1, h2, h3⟩ | ⟨h0, h1, h2⟩
  · unfold isL at h1
    subst h0
    have n1 : ¬ iq c = 97 := by rw [iq_l97, iq_eq (by omega) (by omega) (by omega) (by omega)]; omega
    have n2 : ¬ iq c = 108 := by rw [iq_l108, iq_eq (by omega) (by omega) (by omega) (by omega)]; omega
    have n3 : ¬ iq c = 109 := by rw [iq_l109, iq_eq (by omega) (by omega) (by omega) (by omega)]; omega
    have n4 : ¬ iq c = 112 := by rw [iq_l112, iq_eq (by omega) (by omega) (by omega) (by omega)]; omega
    have n5 : ¬ iq c = 119 := by rw [iq_l119, iq_eq (by omega) (by omega) (by omega) (by omega)]; omega
    have n6 : ¬ iq c = 120 := by rw [iq_l120, iq_eq (by omega) (by omega) (by omega) (by omega)]; omega
    rw [if_pos (show iq ((0 : Nat) : Int) = 0 from rfl)]
    unfold f_X7_takesLetter
    rw [if_neg n1, if_neg n2, if_neg n3, if_neg n4, if_neg n5, if_neg n6, bd5_s]
    exact gd_of and_z0
  · have e : ((c : Int) - 48) = ((c - 48 : Nat) : Int) := by omega
    have e2 : (10 * (v : Int) + ((c - 48 : Nat) : Int)) = ((10 * v + (c - 48) : Nat) : Int) := by omega
    simp (disch := omega) only [iq_l0, iq_l48, iq_l57, iq_eq, iq_lt, if_neg, iq_sub, f_X7_takesDigit]
    rw [e]
    by_cases c2 : 0 < dg ∧ v = 0
    · by_cases c3 : l = 97
      · simp (disch := omega) only [iq_l0, iq_le, if_neg, if_pos, bd1_s, iq_l97, iq_eq, bd3_s, iq_l1, gd_z0]
        exact gd_of and_z0
      · simp (disch := omega) only [iq_l0, iq_le, if_neg, if_pos, bd1_s, iq_l97, iq_eq, if_false, bd3_s, iq_l1, gd_z0]
        exact gd_of and_z0
    · have e3 : (if iq dg ≤ iq 0 then (some (iq 0) : Option Int32) else if (v : Int) = 0 then some (iq 1) else some (iq 0)) = some (iq 0) := by
        by_cases c1 : dg = 0
        · simp (disch := omega) only [iq_le, if_pos]
        · simp (disch := omega) only [iq_le, if_neg]
      simp (disch := omega) only [iq_l0, iq_l1]
      rw [e3, bd1_s]
      by_cases c3 : l = 97
      · simp (disch := omega) only [iq_l97, iq_eq, if_pos, bd3_s, gd_z0]
        exact gd_of and_z0
      · have h5 : ¬ cbn l f (10 * v + (c - 48)) := by
          rcases h3 with h3 | h3 | h3
          · exact absurd h3 c3
          · exact absurd h3 c2
          · exact h3
        simp (disch := omega) only [iq_l97, iq_eq, if_neg, if_true, iq_l10, iq_mul, iq_add]
        rw [e2, x_cbn_no (by omega) (by omega) (by omega) h5, bd1_s]
        simp (disch := omega) only [if_true, bd3_s, gd_z0]
        exact gd_of and_z0
  · by_cases c1 : stn l f dg v
    · have h2 : ¬ (c = 59 ∧ ¬ wlo l f) ∧ ¬ (c = 44 ∧ l = 112) ∧ ¬ (c = 58 ∧ wlo l f) := by
        rcases h2 with h2 | h2
        · exact absurd c1 h2
        · exact h2
      rw [x_stands_yes (by omega) (by omega) (by omega) (by omega) c1]
      obtain ⟨g1, g2, g3⟩ := h2
      by_cases c2 : wlo l f
      · have g4 : c ≠ 58 := fun z => g3 ⟨z, c2⟩
        have g5 : l ≠ 112 := fun z => absurd (c2.1.symm.trans z) (by decide)
        rw [x_wants_yes c2]
        by_cases c3 : c = 59
        · simp (disch := omega) only [iq_l0, iq_l48, iq_l57, iq_l58, iq_l59, iq_l44, iq_l112, iq_eq, iq_lt, if_neg, if_pos, if_true, if_false, bd1_s, iq_l1]
        · by_cases c5 : c = 44
          · simp (disch := omega) only [iq_l0, iq_l48, iq_l57, iq_l58, iq_l59, iq_l44, iq_l112, iq_eq, iq_lt, if_neg, if_pos, if_true, if_false, bd1_s, iq_l1]
          · by_cases c4 : c < 48 <;> simp (disch := omega) only [iq_l0, iq_l48, iq_l57, iq_l58, iq_l59, iq_l44, iq_l112, iq_eq, iq_lt, if_neg, if_pos, if_true, if_false, bd1_s, iq_l1]
      · have g4 : c ≠ 59 := fun z => g1 ⟨z, c2⟩
        rw [x_wants_no (by omega) (by omega) c2]
        by_cases c5 : c = 44
        · simp (disch := omega) only [iq_l0, iq_l48, iq_l57, iq_l58, iq_l59, iq_l44, iq_l112, iq_eq, iq_lt, if_neg, if_pos, if_true, if_false, bd1_s, iq_l1]
        · by_cases c6 : c = 58
          · simp (disch := omega) only [iq_l0, iq_l48, iq_l57, iq_l58, iq_l59, iq_l44, iq_l112, iq_eq, iq_lt, if_neg, if_pos, if_true, if_false, bd1_s, iq_l1]
          · by_cases c4 : c < 48 <;> simp (disch := omega) only [iq_l0, iq_l48, iq_l57, iq_l58, iq_l59, iq_l44, iq_l112, iq_eq, iq_lt, if_neg, if_pos, if_true, if_false, bd1_s, iq_l1]
    · rw [x_stands_no (by omega) (by omega) (by omega) (by omega) c1]
      by_cases c4 : c < 48 <;> simp (disch := omega) only [iq_l0, iq_l48, iq_l57, iq_eq, iq_lt, if_neg, if_pos, if_true, bd1_s]
theorem tk_or (l f dg v c : Nat) : (∃ l' f' dg' v', Tk l f dg v c l' f' dg' v') ∨ No l f dg v c := by
  by_cases c0 : l = 0
  · by_cases c1 : isL c
    · exact Or.inl ⟨c, 0, 0, 0, Or.inl ⟨c0, c1, rfl, rfl, rfl, rfl⟩⟩
    · exact Or.inr (Or.inl ⟨c0, c1⟩)
  · by_cases c1 : 48 ≤ c ∧ c ≤ 57
    · by_cases c2 : l = 97 ∨ (0 < dg ∧ v = 0) ∨ ¬ cbn l f (10 * v + (c - 48))
      · exact Or.inr (Or.inr (Or.inl ⟨c0, c1.1, c1.2, c2⟩))
      · refine Or.inl ⟨l, f, dg + 1, 10 * v + (c - 48), Or.inr (Or.inl ⟨c0, c1.1, c1.2, fun z => c2 (Or.inl z), fun z => c2 (Or.inr (Or.inl z)), ?_, rfl, rfl, rfl, rfl⟩)⟩
        exact Classical.byContradiction fun z => c2 (Or.inr (Or.inr z))
    · by_cases c2 : stn l f dg v
      · by_cases c3 : c = 59 ∧ ¬ wlo l f
        · exact Or.inl ⟨0, 0, 0, 0, Or.inr (Or.inr (Or.inl ⟨c0, c1, c2, c3.1, c3.2, rfl, rfl, rfl, rfl⟩))⟩
        · by_cases c4 : (c = 44 ∧ l = 112) ∨ (c = 58 ∧ wlo l f)
          · exact Or.inl ⟨l, f + 1, 0, 0, Or.inr (Or.inr (Or.inr ⟨c0, c1, c2, c4, rfl, rfl, rfl, rfl⟩))⟩
          · exact Or.inr (Or.inr (Or.inr ⟨c0, c1, Or.inr ⟨c3, fun z => c4 (Or.inl z), fun z => c4 (Or.inr z)⟩⟩))
      · exact Or.inr (Or.inr (Or.inr ⟨c0, c1, Or.inl c2⟩))
theorem tk_bd {l f dg v c l' f' dg' v' : Nat} (hl : l < 1000) (hv : v < 10000) (hc : c < 1000) (h : Tk l f dg v c l' f' dg' v') : l' < 1000 ∧ f' ≤ f + 1 ∧ dg' ≤ dg + 1 ∧ v' < 10000 := by
  have h2 := mos_le l f
  rcases h with ⟨h0, h1, rfl, rfl, rfl, rfl⟩ | ⟨h0, h1, h2, h3, h4, h5, rfl, rfl, rfl, rfl⟩ | ⟨h0, h1, h2, rfl, h4, rfl, rfl, rfl, rfl⟩ | ⟨h0, h1, h2, h3, rfl, rfl, rfl, rfl⟩
  · omega
  · rcases h5 with ⟨h5, -⟩ | ⟨-, h5⟩ <;> omega
  · omega
  · omega
/-- the reader has come to i, in this state -/
def At (T : Nat → Nat) : Nat → Nat → Nat → Nat → Nat → Prop
  | 0, l, f, dg, v => l = 0 ∧ f = 0 ∧ dg = 0 ∧ v = 0
  | i + 1, l, f, dg, v => ∃ l0 f0 d0 v0, At T i l0 f0 d0 v0 ∧ Tk l0 f0 d0 v0 (T i) l f dg v
theorem at_bd {T : Nat → Nat} (hT : ∀ i, T i < 1000) : ∀ {i l f dg v : Nat}, At T i l f dg v → l < 1000 ∧ f ≤ i ∧ dg ≤ i ∧ v < 10000 := by
  intro i
  induction i with
  | zero => intro l f dg v h; obtain ⟨h1, h2, h3, h4⟩ := h; omega
  | succ i ih =>
    intro l f dg v h
    obtain ⟨l0, f0, d0, v0, h1, h2⟩ := h
    have g := ih h1
    have g2 := tk_bd g.1 g.2.2.2 (hT i) h2
    omega
theorem x_codeAt {codes : Nat → Int32} {i : Nat} (hi : i < 60) : f_X8_codeAt codes (iq i) = some (codes i) := by
  simp (disch := omega) only [f_X8_codeAt, iq_l0, iq_l60, iq_lt, iq_le, iq_nat, if_neg, gd_of, Int.toNat_natCast]
theorem x_refused_loop {T : Nat → Nat} (hT : ∀ i, T i < 1000) {codes : Nat → Int32} {n : Nat} (hn : n ≤ 60) (hc : ∀ i, i < n → codes i = iq (T i)) : ∀ (m fu i l f dg v : Nat), i + m = n → m < fu → At T i l f dg v →
    (∃ l2 f2 d2 v2 : Nat, At T n l2 f2 d2 v2 ∧ l_X8_firstRefused_9 (iq n) codes fu (iq i) (iq l) (iq f) (iq dg) (iq v) = some (iq n, iq l2, iq f2, iq d2, iq v2)) ∨
    (∃ k l2 f2 d2 v2 : Nat, k < n ∧ At T k l2 f2 d2 v2 ∧ No l2 f2 d2 v2 (T k) ∧ ∃ a1 a2 a3 a4 : Int32, l_X8_firstRefused_9 (iq n) codes fu (iq i) (iq l) (iq f) (iq dg) (iq v) = some (iq k, a1, a2, a3, a4)) := by
  intro m
  induction m with
  | zero =>
    intro fu i l f dg v hi hf h
    obtain ⟨fu, rfl⟩ : ∃ g, fu = g + 1 := ⟨fu - 1, by omega⟩
    obtain rfl : i = n := by omega
    refine Or.inl ⟨l, f, dg, v, h, ?_⟩
    rw [l_X8_firstRefused_9]
    simp (disch := omega) only [iq_le, if_pos]
  | succ m ih =>
    intro fu i l f dg v hi hf h
    obtain ⟨fu, rfl⟩ : ∃ g, fu = g + 1 := ⟨fu - 1, by omega⟩
    have g := at_bd hT h
    rw [l_X8_firstRefused_9, x_codeAt (by omega), bd1_s, hc i (by omega)]
    have e0 : ¬ iq n ≤ iq i := by rw [iq_le (by omega) (by omega) (by omega) (by omega)]; omega
    rw [if_neg e0]
    rcases tk_or l f dg v (T i) with ⟨l', f', dg', v', h2⟩ | h2
    · have h3 : At T (i + 1) l' f' dg' v' := ⟨l, f, dg, v, h, h2⟩
      rw [x_takes_yes g.1 (by omega) (by omega) g.2.2.2 (hT i) h2, bd5_s]
      simp (disch := omega) only [iq_l0, iq_eq, if_neg, if_false, iq_l1, iq_add]
      rw [show ((i : Int) + 1) = ((i + 1 : Nat) : Int) from rfl]
      exact ih fu (i + 1) l' f' dg' v' (by omega) (by omega) h3
    · obtain ⟨a1, a2, a3, a4, h3⟩ := x_takes_no g.1 (by omega) (by omega) g.2.2.2 (hT i) h2
      refine Or.inr ⟨i, l, f, dg, v, by omega, h, h2, a1, a2, a3, a4, ?_⟩
      rw [h3, bd5_s]
      simp (disch := omega) only [iq_l0, if_true]
theorem x_refused {T : Nat → Nat} (hT : ∀ i, T i < 1000) {codes : Nat → Int32} {n : Nat} (hn : n ≤ 60) (hc : ∀ i, i < n → codes i = iq (T i)) (z1 z2 z3 z4 : Int32) :
    (∃ l2 f2 d2 v2 : Nat, At T n l2 f2 d2 v2 ∧ f_X8_firstRefused (iq n) codes z1 z2 z3 z4 = some (iq n, iq l2, iq f2, iq d2, iq v2)) ∨
    (∃ k l2 f2 d2 v2 : Nat, k < n ∧ At T k l2 f2 d2 v2 ∧ No l2 f2 d2 v2 (T k) ∧ ∃ a1 a2 a3 a4 : Int32, f_X8_firstRefused (iq n) codes z1 z2 z3 z4 = some (iq k, a1, a2, a3, a4)) := by
  have h := x_refused_loop hT hn hc n 1000 0 0 0 0 0 (by omega) (by omega) ⟨rfl, rfl, rfl, rfl⟩
  have e : f_X8_firstRefused (iq n) codes z1 z2 z3 z4 = l_X8_firstRefused_9 (iq n) codes 1000 (iq ((0 : Nat) : Int)) (iq ((0 : Nat) : Int)) (iq ((0 : Nat) : Int)) (iq ((0 : Nat) : Int)) (iq ((0 : Nat) : Int)) := rfl
  rw [e]
  exact h
def fin (l f dg v : Nat) : Prop := l ≠ 0 ∧ stn l f dg v ∧ ¬ wlo l f
theorem x_mayEnd_yes {l f dg v : Nat} (hl : l < 1000) (hf : f < 1000) (hd : dg < 1000) (hv : v < 1000000) (h : fin l f dg v) : f_X7_mayEnd (iq l) (iq f) (iq dg) (iq v) = some (iq 1) := by
  obtain ⟨h1, h2, h3⟩ := h
  unfold f_X7_mayEnd
  rw [x_stands_yes hl hf hd hv h2, bd1_s, x_wants_no hl hf h3, bd1_s]
  simp (disch := omega) only [iq_l0, iq_eq, if_neg, if_false, if_true, iq_l1]
theorem x_mayEnd_no {l f dg v : Nat} (hl : l < 1000) (hf : f < 1000) (hd : dg < 1000) (hv : v < 1000000) (h : ¬ fin l f dg v) : f_X7_mayEnd (iq l) (iq f) (iq dg) (iq v) = some (iq 0) := by
  unfold f_X7_mayEnd
  by_cases c : l = 0
  · simp (disch := omega) only [iq_l0, iq_eq, if_pos]
  · by_cases c1 : stn l f dg v
    · have c2 : wlo l f := Classical.byContradiction fun z => h ⟨c, c1, z⟩
      rw [x_stands_yes hl hf hd hv c1, bd1_s, x_wants_yes c2, bd1_s]
      simp (disch := omega) only [iq_l0, iq_eq, if_neg, if_false]
    · rw [x_stands_no hl hf hd hv c1, bd1_s]
      simp (disch := omega) only [iq_l0, iq_eq, if_neg, if_true]
theorem tk_no {l f dg v c l' f' dg' v' : Nat} (h : Tk l f dg v c l' f' dg' v') (h2 : No l f dg v c) : False := by
  rcases h with ⟨a, b, -⟩ | ⟨a, b, c1, d, e, g, -⟩ | ⟨a, b, c1, d, e, -⟩ | ⟨a, b, c1, d, -⟩ <;> rcases h2 with ⟨x, y⟩ | ⟨x, y, z, w⟩ | ⟨x, y, z⟩
  · exact y b
  · exact x a
  · exact x a
  · exact a x
  · rcases w with w | w | w
    · exact d w
    · exact e w
    · exact w g
  · exact y ⟨b, c1⟩
  · exact a x
  · exact b ⟨y, z⟩
  · rcases z with z | z
    · exact z c1
    · exact z.1 ⟨d, e⟩
  · exact a x
  · exact b ⟨y, z⟩
  · rcases z with z | z
    · exact z c1
    · rcases d with d | d
      · exact z.2.1 d
      · exact z.2.2 d
theorem tk_one {l f dg v c l1 f1 d1 v1 l2 f2 d2 v2 : Nat} (h : Tk l f dg v c l1 f1 d1 v1) (h2 : Tk l f dg v c l2 f2 d2 v2) : l1 = l2 ∧ f1 = f2 ∧ d1 = d2 ∧ v1 = v2 := by
  rcases h with ⟨a, b, h⟩ | ⟨a, b, c1, d, e, g, h⟩ | ⟨a, b, c1, d, e, h⟩ | ⟨a, b, c1, d, h⟩ <;> rcases h2 with ⟨a', b', k⟩ | ⟨a', b', c1', d', e', g', k⟩ | ⟨a', b', c1', d', e', k⟩ | ⟨a', b', c1', d', k⟩ <;> omega
theorem at_one {T : Nat → Nat} : ∀ {i l f dg v l2 f2 d2 v2 : Nat}, At T i l f dg v → At T i l2 f2 d2 v2 → l = l2 ∧ f = f2 ∧ dg = d2 ∧ v = v2 := by
  intro i
  induction i with
  | zero => intro l f dg v l2 f2 d2 v2 h h2; obtain ⟨a, b, c, d⟩ := h; obtain ⟨a2, b2, c2, e2⟩ := h2; omega
  | succ i ih =>
    intro l f dg v l2 f2 d2 v2 h h2
    obtain ⟨a, b, c, d, h3, h4⟩ := h
    obtain ⟨a2, b2, c2, e2, h5, h6⟩ := h2
    obtain ⟨rfl, rfl, rfl, rfl⟩ := ih h3 h5
    exact tk_one h4 h6
theorem at_back {T : Nat → Nat} : ∀ {j i : Nat}, i ≤ j → (∃ l f dg v, At T j l f dg v) → ∃ l f dg v, At T i l f dg v := by
  intro j
  induction j with
  | zero =>
    intro i hi h
    obtain rfl : i = 0 := by omega
    exact h
  | succ j ih =>
    intro i hi h
    by_cases c : i = j + 1
    · subst c; exact h
    · obtain ⟨l, f, dg, v, a, b, c2, d, h2, -⟩ := h
      exact ih (by omega) ⟨a, b, c2, d, h2⟩
/-- the reader comes to j, and no further; at the end of the text the works are not complete -/
def Dead (T : Nat → Nat) (n j : Nat) : Prop := ∃ l f dg v, At T j l f dg v ∧ ((j < n ∧ No l f dg v (T j)) ∨ (j = n ∧ ¬ fin l f dg v))
theorem dead_no {T : Nat → Nat} {j k l f dg v : Nat} (h : At T j l f dg v) (h2 : No l f dg v (T j)) (hk : j < k) (h3 : ∃ l f dg v, At T k l f dg v) : False := by
  obtain ⟨l1, f1, d1, v1, a, b, c, d, h4, h5⟩ := at_back (i := j + 1) hk h3
  obtain ⟨rfl, rfl, rfl, rfl⟩ := at_one h h4
  exact tk_no h5 h2
theorem x_refused_dead {T : Nat → Nat} (hT : ∀ i, T i < 1000) {codes : Nat → Int32} {n j : Nat} (hn : n ≤ 60) (hc : ∀ i, i < n → codes i = iq (T i)) (hj : Dead T n j) (z1 z2 z3 z4 : Int32) : ∃ a1 a2 a3 a4 : Int32, f_X8_firstRefused (iq n) codes z1 z2 z3 z4 = some (iq j, a1, a2, a3, a4) := by
  obtain ⟨l, f, dg, v, h1, h2⟩ := hj
  rcases x_refused hT hn hc z1 z2 z3 z4 with ⟨l2, f2, d2, v2, g1, g2⟩ | ⟨k, l2, f2, d2, v2, g1, g2, g3, a1, a2, a3, a4, g4⟩
  · rcases h2 with ⟨h2, h3⟩ | ⟨rfl, h3⟩
    · exact (dead_no h1 h3 h2 ⟨_, _, _, _, g1⟩).elim
    · exact ⟨_, _, _, _, g2⟩
  · have e : j = k := by
      rcases Nat.lt_trichotomy j k with q | q | q
      · rcases h2 with ⟨h2, h3⟩ | ⟨h2, h3⟩
        · exact (dead_no h1 h3 q ⟨_, _, _, _, g2⟩).elim
        · omega
      · exact q
      · exact (dead_no g2 g3 q ⟨_, _, _, _, h1⟩).elim
    rw [e]
    exact ⟨_, _, _, _, g4⟩
theorem x_whole_dead {T : Nat → Nat} (hT : ∀ i, T i < 1000) {codes : Nat → Int32} {n j : Nat} (hn : n ≤ 60) (hc : ∀ i, i < n → codes i = iq (T i)) (hj : Dead T n j) (z1 z2 z3 z4 : Int32) : ∃ a1 a2 a3 a4 : Int32, f_X8_isWhole (iq n) codes z1 z2 z3 z4 = some (iq 0, a1, a2, a3, a4) := by
  obtain ⟨l, f, dg, v, h1, h2⟩ := id hj
  unfold f_X8_isWhole
  rcases h2 with ⟨h2, h3⟩ | ⟨rfl, h3⟩
  · obtain ⟨a1, a2, a3, a4, g⟩ := x_refused_dead hT hn hc hj z1 z2 z3 z4
    refine ⟨a1, a2, a3, a4, ?_⟩
    rw [g, bd5_s]
    simp (disch := omega) only [iq_eq, if_neg, iq_l0]
  · rcases x_refused hT hn hc z1 z2 z3 z4 with ⟨l2, f2, d2, v2, g1, g2⟩ | ⟨k, l2, f2, d2, v2, g1, g2, g3, a1, a2, a3, a4, g4⟩
    · obtain ⟨y1, y2, y3, y4⟩ := at_one h1 g1
      rw [y1, y2, y3, y4] at h3
      have g := at_bd hT g1
      refine ⟨iq l2, iq f2, iq d2, iq v2, ?_⟩
      rw [g2, bd5_s, if_pos rfl, x_mayEnd_no g.1 (by omega) (by omega) (by omega) h3, bd1_s]
      simp only [iq_l0, if_true]
    · exact (dead_no g2 g3 g1 ⟨_, _, _, _, h1⟩).elim
/-- the text is complete works -/
theorem x_whole_fin {T : Nat → Nat} (hT : ∀ i, T i < 1000) {codes : Nat → Int32} {n l f dg v : Nat} (hn : n ≤ 60) (hc : ∀ i, i < n → codes i = iq (T i)) (h : At T n l f dg v) (h2 : fin l f dg v) (z1 z2 z3 z4 : Int32) : ∃ a1 a2 a3 a4 : Int32, f_X8_isWhole (iq n) codes z1 z2 z3 z4 = some (iq 1, a1, a2, a3, a4) ∧ f_X8_firstRefused (iq n) codes z1 z2 z3 z4 = some (iq n, a1, a2, a3, a4) := by
  unfold f_X8_isWhole
  rcases x_refused hT hn hc z1 z2 z3 z4 with ⟨l2, f2, d2, v2, g1, g2⟩ | ⟨k, l2, f2, d2, v2, g1, g2, g3, a1, a2, a3, a4, g4⟩
  · obtain ⟨rfl, rfl, rfl, rfl⟩ := at_one h g1
    have g := at_bd hT g1
    refine ⟨_, _, _, _, ?_, g2⟩
    rw [g2, bd5_s, if_pos rfl, x_mayEnd_yes g.1 (by omega) (by omega) (by omega) h2, bd1_s]
    simp (disch := omega) only [iq_l0, iq_eq, if_false, iq_l1]
    rfl
  · exact (dead_no g2 g3 g1 ⟨_, _, _, _, h⟩).elim
