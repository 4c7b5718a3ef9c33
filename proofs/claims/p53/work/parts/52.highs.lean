/-! highs by looking and by a row of candidates; falls, rises -/
def gm (P : Nat → Int) (a : Nat) : Nat → Int
  | 0 => 0
  | k + 1 => if gm P a k < P (a + k) then P (a + k) else gm P a k
theorem gm_ge {P : Nat → Int} {a : Nat} : ∀ {k : Nat}, 0 ≤ gm P a k ∧ ∀ j, j < k → P (a + j) ≤ gm P a k := by
  intro k
  induction k with
  | zero => exact ⟨Int.le_refl _, fun j hj => by omega⟩
  | succ k ih =>
    unfold gm
    by_cases c : gm P a k < P (a + k)
    · rw [if_pos c]
      refine ⟨by omega, fun j hj => ?_⟩
      by_cases e : j = k
      · subst e; omega
      · have := ih.2 j (by omega); omega
    · rw [if_neg c]
      refine ⟨ih.1, fun j hj => ?_⟩
      by_cases e : j = k
      · subst e; omega
      · exact ih.2 j (by omega)
theorem gm_ex {P : Nat → Int} {a : Nat} : ∀ {k : Nat}, gm P a k = 0 ∨ ∃ j, j < k ∧ gm P a k = P (a + j) := by
  intro k
  induction k with
  | zero => exact Or.inl rfl
  | succ k ih =>
    unfold gm
    by_cases c : gm P a k < P (a + k)
    · rw [if_pos c]; exact Or.inr ⟨k, by omega, rfl⟩
    · rw [if_neg c]
      rcases ih with h | ⟨j, hj, h⟩
      · exact Or.inl h
      · exact Or.inr ⟨j, by omega, h⟩
theorem gm_le {n : Nat} {P : Nat → Int} (h : PB n P) {a k : Nat} (hk : a + k ≤ n) : 0 ≤ gm P a k ∧ gm P a k ≤ 9999 := by
  refine ⟨gm_ge.1, ?_⟩
  rcases gm_ex (P := P) (a := a) (k := k) with g | ⟨j, hj, g⟩
  · omega
  · have := h (a + j) (by omega); omega
theorem gm_is {n : Nat} {P : Nat → Int} (h : PB n P) {a k c : Nat} (hk : a + k ≤ n) (hc : a ≤ c) (hc2 : c < a + k) (hm : ∀ x, a ≤ x → x < a + k → P x ≤ P c) : gm P a k = P c := by
  have h1 := (gm_ge (P := P) (a := a) (k := k)).2 (c - a) (by omega)
  rw [show a + (c - a) = c by omega] at h1
  have h2 := h c (by omega)
  rcases gm_ex (P := P) (a := a) (k := k) with g | ⟨j, hj, g⟩
  · omega
  · have := hm (a + j) (by omega) (by omega); omega
theorem x_byLooking {row : Nat → Int32} {n : Nat} {P : Nat → Int} (h : CR row n P) {d w : Nat} (hd : d < n) (hw : 1 ≤ w) (hw2 : w ≤ 60) : f_X2_byLooking (iq w) row (iq d) = some (iq (gm P (fw d w) (nw d w))) := by
  have h1 := h.1
  have hn2 := nw_le d w
  have hn3 := fw_nw d w
  have e : l_X2_byLooking_11 row (iq d) 1000 (iq 0) (iq (fw d w : Nat)) = some (iq (gm P (fw d w) (nw d w))) := by
    refine loop_run (fun f k => l_X2_byLooking_11 row (iq d) f (iq (gm P (fw d w) k)) (iq ((fw d w + k : Nat) : Int))) (nw d w) _ ?_ ?_ 1000 0 (Nat.zero_le _) (by omega)
    · intro f k hk
      show l_X2_byLooking_11 row (iq d) (f + 1) _ _ = l_X2_byLooking_11 row (iq d) f (iq (if gm P (fw d w) k < P (fw d w + k) then P (fw d w + k) else gm P (fw d w) k)) (iq (((fw d w + k : Nat) : Int) + 1))
      rw [l_X2_byLooking_11]
      have hP := h.2.1 (fw d w + k) (by omega)
      have hg := gm_le h.2.1 (a := fw d w) (k := k) (by omega)
      by_cases c : gm P (fw d w) k < P (fw d w + k) <;> simp (disch := omega) only [iq_lt, if_neg, if_pos, at_cr h, bd1_s, iq_l1, iq_add]
    · intro f
      show l_X2_byLooking_11 row (iq d) (f + 1) _ _ = _
      rw [l_X2_byLooking_11]
      simp (disch := omega) only [iq_lt, if_pos]
  unfold f_X2_byLooking
  rw [x_firstOf (by omega) (by omega), bd1_s, iq_l0, e, bd1_s]
/-- the row of candidates -/
theorem x_cand {cand : Nat → Int32} {j : Nat} (hj : j < 60) : f_X2_candidate cand (iq j) = some (cand j) := by
  simp (disch := omega) only [f_X2_candidate, iq_l0, iq_l60, iq_lt, iq_le, iq_nat, if_neg, gd_of, Int.toNat_natCast]
/-- behind k days the places from f to e hold days in order, their prices falling, and each day of the window is below one of them -/
def RJ (P : Nat → Int) (w k f e : Nat) (cand : Nat → Int32) (c : Nat → Nat) : Prop :=
  f ≤ e ∧ e ≤ k ∧ (0 < k → f < e) ∧ (∀ j, f ≤ j → j < e → cand j = iq (c j) ∧ c j < k ∧ fw (k - 1) w ≤ c j) ∧ (∀ i j, f ≤ i → i < j → j < e → c i < c j ∧ P (c j) < P (c i)) ∧ (∀ x, fw (k - 1) w ≤ x → x < k → ∃ j, f ≤ j ∧ j < e ∧ x ≤ c j ∧ P x ≤ P (c j))
theorem x_enter_loop {row : Nat → Int32} {n : Nat} {P : Nat → Int} (h : CR row n P) {cand : Nat → Int32} {c : Nat → Nat} {k f0 e : Nat} (hk : k < n) (he : e ≤ k) (hc : ∀ j, f0 ≤ j → j < e → cand j = iq (c j) ∧ c j < k) : ∀ (m fu e1 : Nat), f0 + m = e1 → e1 ≤ e → m < fu → (∀ j, e1 ≤ j → j < e → P (c j) ≤ P k) → ∃ e2, l_X2_enter_0 (iq f0) cand row (iq k) fu (iq e1) = some (iq ((e2 : Nat) : Int)) ∧ f0 ≤ e2 ∧ e2 ≤ e ∧ (∀ j, e2 ≤ j → j < e → P (c j) ≤ P k) ∧ (e2 = f0 ∨ P k < P (c (e2 - 1))) := by
  have h1 := h.1
  intro m
  induction m with
  | zero =>
    intro fu e1 hm h2 h3 h4
    obtain ⟨fu, rfl⟩ : ∃ g, fu = g + 1 := ⟨fu - 1, by omega⟩
    refine ⟨e1, ?_, by omega, h2, h4, Or.inl (by omega)⟩
    rw [l_X2_enter_0]
    simp (disch := omega) only [iq_le, if_pos]
  | succ m ih =>
    intro fu e1 hm h2 h3 h4
    obtain ⟨fu, rfl⟩ : ∃ g, fu = g + 1 := ⟨fu - 1, by omega⟩
    obtain ⟨hq, hq2⟩ := hc (e1 - 1) (by omega) (by omega)
    have hP := h.2.1 k hk
    have hQ := h.2.1 (c (e1 - 1)) (by omega)
    have e3 : ((e1 : Int) - 1) = ((e1 - 1 : Nat) : Int) := by omega
    by_cases c1 : P k < P (c (e1 - 1))
    · refine ⟨e1, ?_, by omega, h2, h4, Or.inr c1⟩
      rw [l_X2_enter_0]
      simp (disch := omega) only [iq_le, if_neg, iq_l1, iq_sub]
      rw [e3, x_cand (by omega), bd1_s, hq, at_cr h (by omega), bd1_s, at_cr h hk, bd1_s]
      simp (disch := omega) only [iq_lt, if_pos]
    · obtain ⟨e2, g1, g2⟩ := ih fu (e1 - 1) (by omega) (by omega) (by omega) (fun j hj hj2 => by
        by_cases e4 : j = e1 - 1
        · subst e4; omega
        · exact h4 j (by omega) hj2)
      refine ⟨e2, ?_, g2⟩
      rw [l_X2_enter_0]
      simp (disch := omega) only [iq_le, if_neg, iq_l1, iq_sub]
      rw [e3, x_cand (by omega), bd1_s, hq, at_cr h (by omega), bd1_s, at_cr h hk, bd1_s]
      simp (disch := omega) only [iq_lt, if_neg]
      exact g1
theorem x_row_step {row : Nat → Int32} {n : Nat} {P : Nat → Int} (h : CR row n P) {w : Nat} (hw : 1 ≤ w) {cand : Nat → Int32} {c : Nat → Nat} {k f e : Nat} (hk : k < n) (hJ : RJ P w k f e cand c) : ∃ (e2 f2 : Nat) (cand2 : Nat → Int32) (c2 : Nat → Nat), f_X2_enter (iq f) (iq e) cand row (iq k) = some (iq ((e2 : Nat) : Int), cand2) ∧ f_X2_leave (iq f) (iq ((e2 : Nat) : Int)) cand2 (iq ((fw k w : Nat) : Int)) = some (iq ((f2 : Nat) : Int)) ∧ RJ P w (k + 1) f2 e2 cand2 c2 := by
  have h1 := h.1
  obtain ⟨a1, a2, a3, a4, a5, a6⟩ := hJ
  obtain ⟨e1, g1, g2, g3, g4, g5⟩ := x_enter_loop h (cand := cand) (c := c) (f0 := f) (e := e) hk a2 (fun j hj hj2 => ⟨(a4 j hj hj2).1, (a4 j hj hj2).2.1⟩) (e - f) 1000 e (by omega) (by omega) (by omega) (fun j hj hj2 => by omega)
  have hE : f_X2_enter (iq f) (iq e) cand row (iq k) = some (iq ((e1 + 1 : Nat) : Int), upd cand e1 (iq k)) := by
    unfold f_X2_enter
    rw [g1, bd1_s]
    simp (disch := omega) only [iq_l0, iq_l60, iq_lt, iq_le, iq_nat, if_neg, gd_of, Int.toNat_natCast, iq_l1, iq_add]
    rfl
  have u1 : ∀ j, upd cand e1 (iq k) j = if j = e1 then iq k else cand j := fun j => rfl
  -- the row with the new day at its end
  have b4 : ∀ j, f ≤ j → j < e1 + 1 → upd cand e1 (iq k) j = iq ((if j = e1 then k else c j : Nat) : Int) ∧ (if j = e1 then k else c j) < k + 1 ∧ fw (k - 1) w ≤ (if j = e1 then k else c j) := fun j hj hj2 => by
    rw [u1]
    by_cases q : j = e1
    · simp only [if_pos q]; refine ⟨trivial, by omega, by unfold fw; omega⟩
    · simp only [if_neg q]
      obtain ⟨z1, z2, z3⟩ := a4 j hj (by omega)
      exact ⟨z1, by omega, z3⟩
  have b5 : ∀ i j, f ≤ i → i < j → j < e1 + 1 → (if i = e1 then k else c i) < (if j = e1 then k else c j) ∧ P (if j = e1 then k else c j) < P (if i = e1 then k else c i) := fun i j hi hij hj => by
    rw [if_neg (show ¬ i = e1 by omega)]
    by_cases q : j = e1
    · rw [if_pos q]
      have z := a4 i hi (by omega)
      refine ⟨z.2.1, ?_⟩
      rcases g5 with g5 | g5
      · omega
      · by_cases q2 : i = e1 - 1
        · rw [q2]; exact g5
        · have := (a5 i (e1 - 1) hi (by omega) (by omega)).2
          omega
    · rw [if_neg q]; exact a5 i j hi hij (by omega)
  have b6 : ∀ x, fw (k - 1) w ≤ x → x < k + 1 → ∃ j, f ≤ j ∧ j < e1 + 1 ∧ x ≤ (if j = e1 then k else c j) ∧ P x ≤ P (if j = e1 then k else c j) := fun x hx hx2 => by
    by_cases q : x = k
    · exact ⟨e1, by omega, by omega, by rw [if_pos rfl]; omega, by rw [if_pos rfl, q]; exact Int.le_refl _⟩
    · obtain ⟨j, z1, z2, z3, z4⟩ := a6 x hx (by omega)
      by_cases q2 : j < e1
      · exact ⟨j, z1, by omega, by rw [if_neg (by omega)]; exact z3, by rw [if_neg (by omega)]; exact z4⟩
      · have := g4 j (by omega) z2
        exact ⟨e1, by omega, by omega, by rw [if_pos rfl]; omega, by rw [if_pos rfl]; omega⟩
  have hfk : fw k w ≤ k ∧ fw (k - 1) w ≤ fw k w ∧ fw k w ≤ fw (k - 1) w + 1 := by unfold fw; omega
  obtain ⟨y1, y2, y3⟩ := b4 f (by omega) (by omega)
  by_cases q : fw k w ≤ (if f = e1 then k else c f)
  · refine ⟨e1 + 1, f, upd cand e1 (iq k), fun j => if j = e1 then k else c j, hE, ?_, by omega, by omega, fun _ => by omega, ?_, ?_, ?_⟩
    · unfold f_X2_leave
      simp (disch := omega) only [iq_le, if_neg]
      rw [x_cand (by omega), bd1_s, y1]
      simp (disch := omega) only [iq_le, if_pos]
    · intro j hj hj2
      obtain ⟨z1, z2, z3⟩ := b4 j hj hj2
      refine ⟨z1, z2, ?_⟩
      show fw k w ≤ (if j = e1 then k else c j)
      by_cases q3 : j = f
      · rw [q3]; exact q
      · have := (b5 f j (by omega) (by omega) hj2).1
        omega
    · intro i j hi hij hj
      exact b5 i j hi hij hj
    · intro x hx hx2
      exact b6 x (by have hx : fw k w ≤ x := hx; omega) hx2
  · have q4 : f < e1 := by
      by_cases q5 : f = e1
      · rw [if_pos q5] at q; omega
      · omega
    have q6 : (if f = e1 then k else c f) = c f := if_neg (by omega)
    rw [q6] at q y1 y2 y3
    refine ⟨e1 + 1, f + 1, upd cand e1 (iq k), fun j => if j = e1 then k else c j, hE, ?_, by omega, by omega, fun _ => by omega, ?_, ?_, ?_⟩
    · unfold f_X2_leave
      simp (disch := omega) only [iq_le, if_neg]
      rw [x_cand (by omega), bd1_s, y1]
      simp (disch := omega) only [iq_le, if_neg, iq_l1, iq_add]
      rfl
    · intro j hj hj2
      obtain ⟨z1, z2, z3⟩ := b4 j (by omega) hj2
      refine ⟨z1, z2, ?_⟩
      have := (b5 f j (by omega) (by omega) hj2).1
      rw [q6] at this
      show fw k w ≤ (if j = e1 then k else c j)
      omega
    · intro i j hi hij hj
      exact b5 i j (by omega) hij hj
    · intro x hx hx2
      have hx : fw k w ≤ x := hx
      obtain ⟨j, z1, z2, z3, z4⟩ := b6 x (by omega) hx2
      refine ⟨j, ?_, z2, z3, z4⟩
      by_cases q7 : j = f
      · rw [q7, q6] at z3; omega
      · omega
theorem x_row_loop {row : Nat → Int32} {n : Nat} {P : Nat → Int} (h : CR row n P) {d w : Nat} (hd : d < n) (hw : 1 ≤ w) (hw2 : w ≤ 60) : ∀ (m fu k f e : Nat) (cand : Nat → Int32) (c : Nat → Nat), k + m = d + 1 → m < fu → RJ P w k f e cand c → ∃ (f2 e2 : Nat) (cand2 : Nat → Int32) (c2 : Nat → Nat), l_X2_byRow_12 (iq w) row (iq d) fu (iq k) (iq f) (iq e) cand = some (iq ((f2 : Nat) : Int), iq ((e2 : Nat) : Int), cand2) ∧ RJ P w (d + 1) f2 e2 cand2 c2 := by
  have h1 := h.1
  intro m
  induction m with
  | zero =>
    intro fu k f e cand c hk hf hJ
    obtain ⟨fu, rfl⟩ : ∃ g, fu = g + 1 := ⟨fu - 1, by omega⟩
    obtain rfl : k = d + 1 := by omega
    refine ⟨f, e, cand, c, ?_, hJ⟩
    rw [l_X2_byRow_12]
    simp (disch := omega) only [iq_lt, if_pos]
  | succ m ih =>
    intro fu k f e cand c hk hf hJ
    obtain ⟨fu, rfl⟩ : ∃ g, fu = g + 1 := ⟨fu - 1, by omega⟩
    obtain ⟨e2, f2, cand2, c2, g1, g2, g3⟩ := x_row_step h hw (k := k) (by omega) hJ
    obtain ⟨f3, e3, cand3, c3, g4, g5⟩ := ih fu (k + 1) f2 e2 cand2 c2 (by omega) (by omega) g3
    refine ⟨f3, e3, cand3, c3, ?_, g5⟩
    rw [l_X2_byRow_12]
    simp (disch := omega) only [iq_lt, if_neg]
    rw [g1, bd2_s, x_firstOf (by omega) (by omega), bd1_s, g2, bd1_s, iq_l1, iq_add]
    exact g4
theorem x_byRow {row : Nat → Int32} {n : Nat} {P : Nat → Int} (h : CR row n P) {d w : Nat} (hd : d < n) (hw : 1 ≤ w) (hw2 : w ≤ 60) (fr en : Int32) (cand : Nat → Int32) : ∃ (fr2 en2 : Int32) (cand2 : Nat → Int32), f_X2_byRow fr en cand (iq w) row (iq d) = some (iq (gm P (fw d w) (nw d w)), fr2, en2, cand2) := by
  have h1 := h.1
  have hn3 := fw_nw d w
  obtain ⟨f2, e2, cand2, c2, g1, b1, b2, b3, b4, b5, b6⟩ := x_row_loop h hd hw hw2 (d + 1) 1000 0 0 0 cand (fun _ => 0) (by omega) (by omega) ⟨by omega, by omega, fun q => by omega, fun j _ q => by omega, fun i j _ _ q => by omega, fun x _ q => by omega⟩
  refine ⟨iq ((f2 : Nat) : Int), iq ((e2 : Nat) : Int), cand2, ?_⟩
  unfold f_X2_byRow
  have g1 : l_X2_byRow_12 (iq w) row (iq d) 1000 (iq 0) (iq 0) (iq 0) cand = _ := g1
  have hfe := b3 (by omega)
  obtain ⟨z1, z2, z3⟩ := b4 f2 (by omega) hfe
  have z3 : fw d w ≤ c2 f2 := z3
  rw [iq_l0, g1, bd3_s, x_cand (by omega), bd1_s, z1, at_cr h (by omega), bd1_s]
  have e : gm P (fw d w) (nw d w) = P (c2 f2) := gm_is h.2.1 (by omega) z3 (by omega) (fun x hx hx2 => by
    obtain ⟨j, y1, y2, y3, y4⟩ := b6 x hx (by omega)
    by_cases q : j = f2
    · rw [q] at y4; exact y4
    · have := (b5 f2 j (by omega) (by omega) y2).2
      omega)
  rw [e]
/-- the greatest fall -/
def fl (P : Nat → Int) : Nat → Int
  | 0 => 0
  | k + 1 => if fl P k < gm P 0 (k + 1) - P k then gm P 0 (k + 1) - P k else fl P k
theorem gm_0 (P : Nat → Int) (k : Nat) : gm P 0 (k + 1) = if gm P 0 k < P k then P k else gm P 0 k := by
  show (if gm P 0 k < P (0 + k) then P (0 + k) else gm P 0 k) = _
  rw [Nat.zero_add]
theorem fl_bd {n : Nat} {P : Nat → Int} (h : PB n P) : ∀ {k : Nat}, k ≤ n → 0 ≤ fl P k ∧ fl P k ≤ 9999 := by
  intro k
  induction k with
  | zero => intro _; unfold fl; omega
  | succ k ih =>
    intro hk
    have h1 := ih (by omega)
    have h2 := gm_le h (a := 0) (k := k + 1) (by omega)
    have h3 := h k (by omega)
    unfold fl
    split <;> omega
theorem fl_ub {P : Nat → Int} : ∀ {k : Nat}, 0 ≤ fl P k ∧ ∀ i j, i < j → j < k → P i - P j ≤ fl P k := by
  intro k
  induction k with
  | zero => exact ⟨Int.le_refl _, fun i j _ q => by omega⟩
  | succ k ih =>
    unfold fl
    have key : ∀ i, i < k + 1 → P i ≤ gm P 0 (k + 1) := fun i hi => by
      have := (gm_ge (P := P) (a := 0) (k := k + 1)).2 i hi
      rw [Nat.zero_add] at this; exact this
    by_cases c : fl P k < gm P 0 (k + 1) - P k
    · rw [if_pos c]
      refine ⟨by omega, fun i j hi hj => ?_⟩
      by_cases e : j = k
      · subst e; have := key i (by omega); omega
      · have := ih.2 i j hi (by omega); omega
    · rw [if_neg c]
      refine ⟨ih.1, fun i j hi hj => ?_⟩
      by_cases e : j = k
      · subst e; have := key i (by omega); omega
      · exact ih.2 i j hi (by omega)
theorem fl_ex {n : Nat} {P : Nat → Int} (h : PB n P) : ∀ {k : Nat}, k ≤ n → fl P k = 0 ∨ ∃ i j, i < j ∧ j < k ∧ fl P k = P i - P j := by
  intro k
  induction k with
  | zero => intro _; exact Or.inl rfl
  | succ k ih =>
    intro hk
    unfold fl
    by_cases c : fl P k < gm P 0 (k + 1) - P k
    · rw [if_pos c]
      have h0 := (fl_ub (P := P) (k := k)).1
      have h3 := h k (by omega)
      rcases gm_ex (P := P) (a := 0) (k := k + 1) with g | ⟨j, hj, g⟩
      · omega
      · rw [Nat.zero_add] at g
        refine Or.inr ⟨j, k, ?_, by omega, by rw [g]⟩
        by_cases e : j = k
        · subst e; omega
        · omega
    · rw [if_neg c]
      rcases ih (by omega) with g | ⟨i, j, h1, h2, h3⟩
      · exact Or.inl g
      · exact Or.inr ⟨i, j, h1, by omega, h3⟩
theorem x_fallGo {row : Nat → Int32} {n : Nat} {P : Nat → Int} (h : CR row n P) : f_X2_fallInOneGo (iq n) row = some (iq (fl P n)) := by
  have h1 := h.1
  have e : l_X2_fallInOneGo_6 (iq n) row 1000 (iq 0) (iq 0) (iq 0) = some (iq (fl P n)) := by
    refine loop_run (fun f k => l_X2_fallInOneGo_6 (iq n) row f (iq (gm P 0 k)) (iq (fl P k)) (iq ((k : Nat) : Int))) n _ ?_ ?_ 1000 0 (Nat.zero_le _) (by omega)
    · intro f k hk
      show l_X2_fallInOneGo_6 (iq n) row (f + 1) _ _ _ = l_X2_fallInOneGo_6 (iq n) row f (iq (gm P 0 (k + 1))) (iq (if fl P k < gm P 0 (k + 1) - P k then gm P 0 (k + 1) - P k else fl P k)) (iq ((k : Int) + 1))
      rw [l_X2_fallInOneGo_6, gm_0]
      have hP := h.2.1 k hk
      have hg := gm_le h.2.1 (a := 0) (k := k) (by omega)
      have hf := fl_bd h.2.1 (k := k) (by omega)
      by_cases c : gm P 0 k < P k
      · simp (disch := omega) only [iq_lt, iq_le, if_neg, if_pos, at_cr h, bd1_s, iq_l1, iq_add, iq_sub]
      · by_cases c2 : fl P k < gm P 0 k - P k <;> simp (disch := omega) only [iq_lt, iq_le, if_neg, if_pos, at_cr h, bd1_s, iq_l1, iq_add, iq_sub]
    · intro f
      show l_X2_fallInOneGo_6 (iq n) row (f + 1) _ _ _ = _
      rw [l_X2_fallInOneGo_6]
      simp (disch := omega) only [iq_le, if_pos]
  unfold f_X2_fallInOneGo
  rw [iq_l0, e, bd1_s]
/-- the same by all pairs -/
def pin (P : Nat → Int) (i : Nat) (v : Int) : Nat → Int
  | 0 => v
  | k + 1 => if pin P i v k < P i - P (i + 1 + k) then P i - P (i + 1 + k) else pin P i v k
def po (P : Nat → Int) (n : Nat) : Nat → Int
  | 0 => 0
  | k + 1 => pin P k (po P n k) (n - (k + 1))
theorem pin_ge {P : Nat → Int} {i : Nat} {v : Int} : ∀ {k : Nat}, v ≤ pin P i v k ∧ (∀ j, j < k → P i - P (i + 1 + j) ≤ pin P i v k) ∧ (pin P i v k = v ∨ ∃ j, j < k ∧ pin P i v k = P i - P (i + 1 + j)) := by
  intro k
  induction k with
  | zero => exact ⟨Int.le_refl _, fun j q => by omega, Or.inl rfl⟩
  | succ k ih =>
    obtain ⟨h1, h2, h3⟩ := ih
    unfold pin
    by_cases c : pin P i v k < P i - P (i + 1 + k)
    · rw [if_pos c]
      refine ⟨by omega, fun j hj => ?_, Or.inr ⟨k, by omega, rfl⟩⟩
      by_cases e : j = k
      · subst e; omega
      · have := h2 j (by omega); omega
    · rw [if_neg c]
      refine ⟨h1, fun j hj => ?_, ?_⟩
      · by_cases e : j = k
        · subst e; omega
        · exact h2 j (by omega)
      · rcases h3 with h3 | ⟨j, h3, h4⟩
        · exact Or.inl h3
        · exact Or.inr ⟨j, by omega, h4⟩
theorem po_ge {P : Nat → Int} {n : Nat} : ∀ {k : Nat}, k ≤ n → 0 ≤ po P n k ∧ (∀ i j, i < k → i < j → j < n → P i - P j ≤ po P n k) ∧ (po P n k = 0 ∨ ∃ i j, i < j ∧ j < n ∧ po P n k = P i - P j) := by
  intro k
  induction k with
  | zero => intro _; exact ⟨Int.le_refl _, fun i j q => by omega, Or.inl rfl⟩
  | succ k ih =>
    intro hk
    obtain ⟨h1, h2, h3⟩ := ih (by omega)
    obtain ⟨g1, g2, g3⟩ := pin_ge (P := P) (i := k) (v := po P n k) (k := n - (k + 1))
    show 0 ≤ pin P k (po P n k) (n - (k + 1)) ∧ _
    refine ⟨by omega, fun i j hi hij hj => ?_, ?_⟩
    · show P i - P j ≤ pin P k (po P n k) (n - (k + 1))
      by_cases e : i = k
      · subst e
        have := g2 (j - (i + 1)) (by omega)
        rw [show i + 1 + (j - (i + 1)) = j by omega] at this
        exact this
      · have := h2 i j (by omega) hij hj; omega
    · show pin P k (po P n k) (n - (k + 1)) = 0 ∨ ∃ i j, i < j ∧ j < n ∧ pin P k (po P n k) (n - (k + 1)) = P i - P j
      rcases g3 with g3 | ⟨j, g3, g4⟩
      · rw [g3]; exact h3
      · exact Or.inr ⟨k, k + 1 + j, by omega, by omega, g4⟩
theorem po_fl {n : Nat} {P : Nat → Int} (h : PB n P) : po P n n = fl P n := by
  obtain ⟨h1, h2, h3⟩ := po_ge (P := P) (n := n) (k := n) (Nat.le_refl _)
  obtain ⟨g1, g2⟩ := fl_ub (P := P) (k := n)
  have g3 := fl_ex h (k := n) (Nat.le_refl _)
  have a : fl P n ≤ po P n n := by
    rcases g3 with g3 | ⟨i, j, q1, q2, q3⟩
    · omega
    · have := h2 i j (by omega) q1 q2; omega
  have b : po P n n ≤ fl P n := by
    rcases h3 with h3 | ⟨i, j, q1, q2, q3⟩
    · omega
    · have := g2 i j q1 q2; omega
  omega
theorem pin_bd {n : Nat} {P : Nat → Int} (h : PB n P) {i k : Nat} {v : Int} (hi : i < n) (hk : i + 1 + k ≤ n) (h0 : 0 ≤ v) (h9 : v ≤ 9999) : 0 ≤ pin P i v k ∧ pin P i v k ≤ 9999 := by
  obtain ⟨h1, h2, h3⟩ := pin_ge (P := P) (i := i) (v := v) (k := k)
  have h5 := h i hi
  rcases h3 with h3 | ⟨j, h3, h4⟩
  · omega
  · have := h (i + 1 + j) (by omega); omega
theorem po_bd {n : Nat} {P : Nat → Int} (h : PB n P) : ∀ {k : Nat}, k ≤ n → 0 ≤ po P n k ∧ po P n k ≤ 9999 := by
  intro k hk
  obtain ⟨h1, h2, h3⟩ := po_ge (P := P) (n := n) hk
  rcases h3 with h3 | ⟨i, j, q1, q2, q3⟩
  · omega
  · have := h i (by omega); have := h j (by omega); omega
theorem x_pairs_in {row : Nat → Int32} {n : Nat} {P : Nat → Int} (h : CR row n P) {i : Nat} {v : Int} (hi : i < n) (h0 : 0 ≤ v) (h9 : v ≤ 9999) : l_X2_fallByPairs_16 (iq n) row (iq i) 1000 (iq v) (iq ((i + 1 : Nat) : Int)) = some (iq (pin P i v (n - (i + 1)))) := by
  have h1 := h.1
  refine loop_run (fun f k => l_X2_fallByPairs_16 (iq n) row (iq i) f (iq (pin P i v k)) (iq ((i + 1 + k : Nat) : Int))) (n - (i + 1)) _ ?_ ?_ 1000 0 (Nat.zero_le _) (by omega)
  · intro f k hk
    show l_X2_fallByPairs_16 (iq n) row (iq i) (f + 1) _ _ = l_X2_fallByPairs_16 (iq n) row (iq i) f (iq (if pin P i v k < P i - P (i + 1 + k) then P i - P (i + 1 + k) else pin P i v k)) (iq (((i + 1 + k : Nat) : Int) + 1))
    rw [l_X2_fallByPairs_16]
    have hP := h.2.1 i hi
    have hQ := h.2.1 (i + 1 + k) (by omega)
    have hb := pin_bd h.2.1 hi (k := k) (by omega) h0 h9
    by_cases c : pin P i v k < P i - P (i + 1 + k) <;> simp (disch := omega) only [iq_lt, iq_le, if_neg, if_pos, at_cr h, bd1_s, iq_l1, iq_add, iq_sub]
  · intro f
    show l_X2_fallByPairs_16 (iq n) row (iq i) (f + 1) _ _ = _
    rw [l_X2_fallByPairs_16]
    simp (disch := omega) only [iq_le, if_pos]
theorem x_fallPairs {row : Nat → Int32} {n : Nat} {P : Nat → Int} (h : CR row n P) : f_X2_fallByPairs (iq n) row = some (iq (fl P n)) := by
  have h1 := h.1
  have e : l_X2_fallByPairs_4 (iq n) row 1000 (iq 0) (iq 0) = some (iq (po P n n)) := by
    refine loop_run (fun f k => l_X2_fallByPairs_4 (iq n) row f (iq (po P n k)) (iq ((k : Nat) : Int))) n _ ?_ ?_ 1000 0 (Nat.zero_le _) (by omega)
    · intro f k hk
      show l_X2_fallByPairs_4 (iq n) row (f + 1) _ _ = l_X2_fallByPairs_4 (iq n) row f (iq (pin P k (po P n k) (n - (k + 1)))) (iq ((k + 1 : Nat) : Int))
      rw [l_X2_fallByPairs_4]
      have hb := po_bd h.2.1 (k := k) (by omega)
      simp (disch := omega) only [iq_le, if_neg, iq_l1, iq_add]
      rw [show ((k : Int) + 1) = ((k + 1 : Nat) : Int) from rfl, x_pairs_in h hk hb.1 hb.2, bd1_s]
    · intro f
      show l_X2_fallByPairs_4 (iq n) row (f + 1) _ _ = _
      rw [l_X2_fallByPairs_4]
      simp (disch := omega) only [iq_le, if_pos]
  unfold f_X2_fallByPairs
  rw [iq_l0, e, bd1_s, po_fl h.2.1]
/-- rises in a row -/
def ri (P : Nat → Int) : Nat → Int
  | 0 => 0
  | k + 1 => if P (k + 1) ≤ P k then 0 else ri P k + 1
def rl (P : Nat → Int) : Nat → Int
  | 0 => 0
  | k + 1 => if rl P k < ri P (k + 1) then ri P (k + 1) else rl P k
theorem ri_bd (P : Nat → Int) : ∀ k : Nat, 0 ≤ ri P k ∧ ri P k ≤ k := by
  intro k
  induction k with
  | zero => unfold ri; omega
  | succ k ih => unfold ri; split <;> omega
theorem rl_bd (P : Nat → Int) : ∀ k : Nat, 0 ≤ rl P k ∧ rl P k ≤ k := by
  intro k
  induction k with
  | zero => unfold rl; omega
  | succ k ih => have := ri_bd P (k + 1); unfold rl; split <;> omega
theorem x_rise {row : Nat → Int32} {n : Nat} {P : Nat → Int} (h : CR row n P) : f_X2_riseInARow (iq n) row = some (iq (rl P (n - 1))) := by
  have h1 := h.1
  have e : l_X2_riseInARow_6 (iq n) row 1000 (iq 0) (iq 0) (iq 1) = some (iq (rl P (n - 1))) := by
    refine loop_run (fun f k => l_X2_riseInARow_6 (iq n) row f (iq (rl P k)) (iq (ri P k)) (iq ((k + 1 : Nat) : Int))) (n - 1) _ ?_ ?_ 1000 0 (Nat.zero_le _) (by omega)
    · intro f k hk
      show l_X2_riseInARow_6 (iq n) row (f + 1) _ _ _ = l_X2_riseInARow_6 (iq n) row f (iq (if rl P k < (if P (k + 1) ≤ P k then 0 else ri P k + 1) then (if P (k + 1) ≤ P k then 0 else ri P k + 1) else rl P k)) (iq (if P (k + 1) ≤ P k then 0 else ri P k + 1)) (iq (((k + 1 : Nat) : Int) + 1))
      rw [l_X2_riseInARow_6]
      have hP := h.2.1 k (by omega)
      have hQ := h.2.1 (k + 1) (by omega)
      have hb := ri_bd P k
      have hc := rl_bd P k
      simp (disch := omega) only [iq_le, if_neg, iq_l1, iq_sub]
      rw [show (((k + 1 : Nat) : Int) - 1) = (k : Int) by omega]
      by_cases c : P (k + 1) ≤ P k
      · simp (disch := omega) only [iq_le, iq_lt, iq_l0, if_neg, if_pos, at_cr h, bd1_s, iq_add]
      · by_cases c2 : rl P k < ri P k + 1 <;> simp (disch := omega) only [iq_le, iq_lt, iq_l0, if_neg, if_pos, at_cr h, bd1_s, iq_add]
    · intro f
      show l_X2_riseInARow_6 (iq n) row (f + 1) _ _ _ = _
      rw [l_X2_riseInARow_6]
      simp (disch := omega) only [iq_le, if_pos]
  unfold f_X2_riseInARow
  rw [iq_l0, iq_l1, e, bd1_s]