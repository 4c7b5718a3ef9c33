/-! medians, creases -/
theorem sa_zero {g : Nat → Int} {a : Nat} : ∀ {k : Nat}, (∀ j, j < k → g (a + j) = 0) → sa g a k = 0 := by
  intro k
  induction k with
  | zero => intro _; rfl
  | succ k ih =>
    intro h
    show sa g a k + g (a + k) = 0
    rw [ih (fun j hj => h j (by omega)), h k (by omega)]; rfl
theorem sa_sum {f g h : Nat → Int} {a : Nat} : ∀ {k : Nat}, (∀ j, j < k → f (a + j) + g (a + j) = h (a + j)) → sa f a k + sa g a k = sa h a k := by
  intro k
  induction k with
  | zero => intro _; rfl
  | succ k ih =>
    intro hh
    have h1 := ih (fun j hj => hh j (by omega))
    have h2 := hh k (by omega)
    show (sa f a k + f (a + k)) + (sa g a k + g (a + k)) = sa h a k + h (a + k)
    omega
theorem sa_mono {f g : Nat → Int} {a : Nat} : ∀ {k : Nat}, (∀ j, j < k → f (a + j) ≤ g (a + j)) → sa f a k ≤ sa g a k := by
  intro k
  induction k with
  | zero => intro _; exact Int.le_refl _
  | succ k ih =>
    intro h
    have h1 := ih (fun j hj => h j (by omega))
    have h2 := h k (by omega)
    show sa f a k + f (a + k) ≤ sa g a k + g (a + k)
    omega
theorem sa_lt {f g : Nat → Int} {a i : Nat} : ∀ {k : Nat}, i < k → f (a + i) < g (a + i) → (∀ j, j < k → f (a + j) ≤ g (a + j)) → sa f a k < sa g a k := by
  intro k
  induction k with
  | zero => intro h; omega
  | succ k ih =>
    intro hi hs h
    show sa f a k + f (a + k) < sa g a k + g (a + k)
    have h2 := h k (by omega)
    by_cases e : i = k
    · subst e
      have h1 := sa_mono (f := f) (g := g) (a := a) (k := i) (fun j hj => h j (by omega))
      omega
    · have h1 := ih (by omega) hs (fun j hj => h j (by omega))
      omega
def ltf (P : Nat → Int) (v : Int) : Nat → Int := fun e => if P e < v then 1 else 0
def lef (P : Nat → Int) (v : Int) : Nat → Int := fun e => if P e ≤ v then 1 else 0
def eqf (P : Nat → Int) (v : Int) : Nat → Int := fun e => if P e = v then 1 else 0
def rkf (P : Nat → Int) (i : Nat) : Nat → Int := fun e => if P e < P i ∨ (P e = P i ∧ e < i) then 1 else 0
theorem ltf_le (P : Nat → Int) (v : Int) (e : Nat) : 0 ≤ ltf P v e ∧ ltf P v e ≤ 1 := by unfold ltf; split <;> omega
theorem lef_le (P : Nat → Int) (v : Int) (e : Nat) : 0 ≤ lef P v e ∧ lef P v e ≤ 1 := by unfold lef; split <;> omega
/-- a value that stands in the middle -/
theorem mid_val {n : Nat} {P : Nat → Int} (h : PB n P) {a N : Nat} (hN : a + N ≤ n) {pl : Int} (h0 : 0 ≤ pl) (h1 : pl < N) : ∃ v : Int, sa (ltf P v) a N ≤ pl ∧ pl < sa (lef P v) a N := by
  have e0 : sa (lef P ((0 : Nat) : Int)) a N = 0 := sa_zero (fun j hj => by
    have := h (a + j) (by omega)
    unfold lef; rw [if_neg (by omega)])
  have e1 : (N : Int) ≤ sa (lef P ((9999 : Nat) : Int)) a N := by
    have := sa_bd (g := lef P ((9999 : Nat) : Int)) (a := a) (lo := 1) (hi := 1) (k := N) (fun j hj => by
      have := h (a + j) (by omega)
      unfold lef; rw [if_pos (by omega)]; omega)
    omega
  obtain ⟨x, -, h2, h3⟩ := ivt (F := fun x : Nat => sa (lef P (x : Int)) a N) (c := pl) (N := 9999) (by show sa (lef P ((0 : Nat) : Int)) a N ≤ pl; omega) (by show pl < sa (lef P ((9999 : Nat) : Int)) a N; omega)
  refine ⟨((x + 1 : Nat) : Int), ?_, h3⟩
  have e : sa (ltf P ((x + 1 : Nat) : Int)) a N = sa (lef P (x : Int)) a N := sa_cong (fun j hj => by
    unfold ltf lef
    by_cases c : P (a + j) ≤ (x : Int)
    · rw [if_pos (by omega), if_pos c]
    · rw [if_neg (by omega), if_neg c])
  rw [e]; exact h2
theorem mid_one {P : Nat → Int} {a N : Nat} {pl v w : Int} (h1 : sa (ltf P v) a N ≤ pl) (h2 : pl < sa (lef P v) a N) (h3 : sa (ltf P w) a N ≤ pl) (h4 : pl < sa (lef P w) a N) : v = w := by
  have key : ∀ {x y : Int}, x < y → sa (lef P x) a N ≤ sa (ltf P y) a N := fun {x y} hxy => sa_mono (fun j _ => by
    unfold ltf lef
    by_cases c : P (a + j) ≤ x
    · rw [if_pos c, if_pos (by omega)]; omega
    · rw [if_neg c]; split <;> omega)
  rcases Int.lt_trichotomy v w with c | c | c
  · have := key c; omega
  · exact c
  · have := key c; omega
/-- a day that has the rank -/
theorem rank_ex {P : Nat → Int} {a N : Nat} {pl v : Int} (h1 : sa (ltf P v) a N ≤ pl) (h2 : pl < sa (lef P v) a N) : ∃ j, j < N ∧ P (a + j) = v ∧ sa (rkf P (a + j)) a N = pl := by
  have e1 : sa (ltf P v) a N + sa (eqf P v) a N = sa (lef P v) a N := sa_sum (fun j _ => by
    unfold ltf eqf lef
    rcases Int.lt_trichotomy (P (a + j)) v with c | c | c
    · rw [if_pos c, if_neg (by omega), if_pos (by omega)]; rfl
    · rw [if_neg (by omega), if_pos c, if_pos (by omega)]; rfl
    · rw [if_neg (by omega), if_neg (by omega), if_neg (by omega)]; rfl)
  obtain ⟨j, hj, g1, g2⟩ := ivt (F := fun j : Nat => sa (ltf P v) a N + sa (eqf P v) a j) (c := pl) (N := N) (by show sa (ltf P v) a N + 0 ≤ pl; omega) (by show pl < sa (ltf P v) a N + sa (eqf P v) a N; omega)
  have g1 : sa (ltf P v) a N + sa (eqf P v) a j ≤ pl := g1
  have g2 : pl < sa (ltf P v) a N + (sa (eqf P v) a j + eqf P v (a + j)) := g2
  have hv : P (a + j) = v := by
    by_cases c : P (a + j) = v
    · exact c
    · unfold eqf at g2
      rw [if_neg c] at g2
      unfold eqf at g1
      omega
  have e2 : eqf P v (a + j) = 1 := by unfold eqf; rw [if_pos hv]
  refine ⟨j, hj, hv, ?_⟩
  have e3 : sa (fun e => if P e = v ∧ e < a + j then (1 : Int) else 0) a N = sa (eqf P v) a j := by
    obtain ⟨m, hm⟩ : ∃ m, N = j + m := ⟨N - j, by omega⟩
    rw [hm, sa_append, sa_zero (g := fun e => if P e = v ∧ e < a + j then (1 : Int) else 0) (a := a + j) (k := m) (fun i _ => by show (if _ ∧ _ then (1 : Int) else 0) = 0; rw [if_neg (by omega)]), Int.add_zero]
    exact sa_cong (fun i hi => by
      show (if _ ∧ _ then (1 : Int) else 0) = _
      unfold eqf
      by_cases c : P (a + i) = v
      · rw [if_pos ⟨c, by omega⟩, if_pos c]
      · rw [if_neg (fun q => c q.1), if_neg c])
  have e4 : sa (ltf P v) a N + sa (fun e => if P e = v ∧ e < a + j then (1 : Int) else 0) a N = sa (rkf P (a + j)) a N := sa_sum (fun i _ => by
    show ltf P v (a + i) + (if _ ∧ _ then (1 : Int) else 0) = rkf P (a + j) (a + i)
    unfold ltf rkf
    rw [hv]
    by_cases c : P (a + i) < v
    · rw [if_pos c, if_neg (by omega), if_pos (Or.inl c)]; rfl
    · by_cases c2 : P (a + i) = v ∧ a + i < a + j
      · rw [if_neg c, if_pos c2, if_pos (Or.inr c2)]; rfl
      · rw [if_neg c, if_neg c2, if_neg (by intro q; rcases q with q | q; exact c q; exact c2 q)]; rfl)
  rw [← e4, e3]
  omega
theorem rank_mid {P : Nat → Int} {a N j : Nat} {pl : Int} (hj : j < N) (h : sa (rkf P (a + j)) a N = pl) : sa (ltf P (P (a + j))) a N ≤ pl ∧ pl < sa (lef P (P (a + j))) a N := by
  constructor
  · rw [← h]
    exact sa_mono (fun i _ => by
      unfold ltf rkf
      by_cases c : P (a + i) < P (a + j)
      · rw [if_pos c, if_pos (Or.inl c)]; omega
      · rw [if_neg c]; split <;> omega)
  · rw [← h]
    refine sa_lt (i := j) hj ?_ (fun i _ => ?_)
    · unfold rkf lef
      rw [if_neg (by omega), if_pos (Int.le_refl _)]; omega
    · unfold rkf lef
      by_cases c : P (a + i) ≤ P (a + j)
      · rw [if_pos c]; split <;> omega
      · rw [if_neg c, if_neg (by omega)]; omega
/-- the last hit of a row -/
def lh (C : Nat → Prop) [DecidablePred C] (g : Nat → Int) (v0 : Int) : Nat → Int
  | 0 => v0
  | k + 1 => if C k then g k else lh C g v0 k
theorem lh_all {C : Nat → Prop} [DecidablePred C] {g : Nat → Int} {v0 v : Int} : ∀ {N : Nat}, (∀ j, j < N → C j → g j = v) → (∃ j, j < N ∧ C j) → lh C g v0 N = v := by
  intro N
  induction N with
  | zero => intro _ ⟨j, hj, _⟩; omega
  | succ N ih =>
    intro h ⟨j, hj, hc⟩
    show (if C N then g N else lh C g v0 N) = v
    by_cases c : C N
    · rw [if_pos c]; exact h N (by omega) c
    · rw [if_neg c]
      refine ih (fun i hi => h i (by omega)) ⟨j, ?_, hc⟩
      by_cases e : j = N
      · subst e; exact absurd hc c
      · omega
/-- the median -/
def md (P : Nat → Int) (d w : Nat) : Int := lh (fun j => sa (rkf P (fw d w + j)) (fw d w) (nw d w) = ((nw d w : Int) - 1) / 2) (fun j => P (fw d w + j)) 0 (nw d w)
theorem md_spec {n : Nat} {P : Nat → Int} (h : PB n P) {d w : Nat} (hd : d < n) (hw : 1 ≤ w) : ∃ v j : Int, sa (ltf P v) (fw d w) (nw d w) ≤ ((nw d w : Int) - 1) / 2 ∧ ((nw d w : Int) - 1) / 2 < sa (lef P v) (fw d w) (nw d w) ∧ md P d w = v ∧ (∃ j, j < nw d w ∧ P (fw d w + j) = v) := by
  have hn := nw_pos (d := d) hw
  have hn3 := fw_nw d w
  obtain ⟨v, h1, h2⟩ := mid_val h (a := fw d w) (N := nw d w) (by omega) (pl := ((nw d w : Int) - 1) / 2) (by omega) (by omega)
  obtain ⟨j, hj, hv, hr⟩ := rank_ex h1 h2
  refine ⟨v, 0, h1, h2, ?_, j, hj, hv⟩
  exact lh_all (fun i hi hc => by
    obtain ⟨g1, g2⟩ := rank_mid hi hc
    exact mid_one g1 g2 h1 h2) ⟨j, hj, hr⟩
theorem md_bd {n : Nat} {P : Nat → Int} (h : PB n P) {d w : Nat} (hd : d < n) (hw : 1 ≤ w) : 1 ≤ md P d w ∧ md P d w ≤ 9999 := by
  obtain ⟨v, -, -, -, e, j, hj, hv⟩ := md_spec h hd hw
  have hn3 := fw_nw d w
  rw [e, ← hv]
  exact h _ (by omega)
theorem x_mid_in {row : Nat → Int32} {n : Nat} {P : Nat → Int} (h : CR row n P) {d a N : Nat} (hd : d < n) (hN : a + N = d + 1) {v : Int} (hv : 1 ≤ v ∧ v ≤ 9999) : l_X0_middle_48 row (iq d) (iq v) 1000 (iq 0) (iq 0) (iq a) = some (iq (sa (ltf P v) a N), iq (sa (lef P v) a N)) := by
  have h1 := h.1
  refine loop_run (fun f k => l_X0_middle_48 row (iq d) (iq v) f (iq (sa (ltf P v) a k)) (iq (sa (lef P v) a k)) (iq ((a + k : Nat) : Int))) N _ ?_ ?_ 1000 0 (Nat.zero_le _) (by omega)
  · intro f k hk
    show l_X0_middle_48 row (iq d) (iq v) (f + 1) _ _ _ = l_X0_middle_48 row (iq d) (iq v) f (iq (sa (ltf P v) a k + (if P (a + k) < v then 1 else 0))) (iq (sa (lef P v) a k + (if P (a + k) ≤ v then 1 else 0))) (iq (((a + k : Nat) : Int) + 1))
    rw [l_X0_middle_48]
    have hP := h.2.1 (a + k) (by omega)
    rcases Int.lt_trichotomy (P (a + k)) v with c | c | c <;> simp (disch := omega) only [iq_lt, iq_le, if_neg, if_pos, at_cr h, bd1_s, iq_l0, iq_l1, iq_add, Int.add_zero]
  · intro f
    show l_X0_middle_48 row (iq d) (iq v) (f + 1) _ _ _ = _
    rw [l_X0_middle_48]
    simp (disch := omega) only [iq_lt, if_pos]
theorem x_middle {row : Nat → Int32} {n : Nat} {P : Nat → Int} (h : CR row n P) {d w : Nat} (hd : d < n) (hw : 1 ≤ w) (hw2 : w ≤ 60) : f_X0_middle (iq w) row (iq d) = some (iq (md P d w)) := by
  have h1 := h.1
  have hn := nw_pos (d := d) hw
  have hn2 := nw_le d w
  have hn3 := fw_nw d w
  obtain ⟨v, -, g1, g2, e, j, hj, hv⟩ := md_spec h.2.1 hd hw
  have e2 : l_X0_middle_25 row (iq d) (iq (fw d w : Nat)) 1000 (iq (P d)) (iq (fw d w : Nat)) = some (iq (lh (fun j => sa (ltf P (P (fw d w + j))) (fw d w) (nw d w) ≤ ((nw d w : Int) - 1) / 2 ∧ ((nw d w : Int) - 1) / 2 < sa (lef P (P (fw d w + j))) (fw d w) (nw d w)) (fun j => P (fw d w + j)) (P d) (nw d w))) := by
    refine loop_run (fun f k => l_X0_middle_25 row (iq d) (iq (fw d w : Nat)) f (iq (lh (fun j => sa (ltf P (P (fw d w + j))) (fw d w) (nw d w) ≤ ((nw d w : Int) - 1) / 2 ∧ ((nw d w : Int) - 1) / 2 < sa (lef P (P (fw d w + j))) (fw d w) (nw d w)) (fun j => P (fw d w + j)) (P d) k)) (iq ((fw d w + k : Nat) : Int))) (nw d w) _ ?_ ?_ 1000 0 (Nat.zero_le _) (by omega)
    · intro f k hk
      show l_X0_middle_25 row (iq d) (iq (fw d w : Nat)) (f + 1) _ _ = l_X0_middle_25 row (iq d) (iq (fw d w : Nat)) f (iq (if sa (ltf P (P (fw d w + k))) (fw d w) (nw d w) ≤ ((nw d w : Int) - 1) / 2 ∧ ((nw d w : Int) - 1) / 2 < sa (lef P (P (fw d w + k))) (fw d w) (nw d w) then P (fw d w + k) else lh (fun j => sa (ltf P (P (fw d w + j))) (fw d w) (nw d w) ≤ ((nw d w : Int) - 1) / 2 ∧ ((nw d w : Int) - 1) / 2 < sa (lef P (P (fw d w + j))) (fw d w) (nw d w)) (fun j => P (fw d w + j)) (P d) k)) (iq (((fw d w + k : Nat) : Int) + 1))
      rw [l_X0_middle_25]
      have hP := h.2.1 (fw d w + k) (by omega)
      have hb1 := sa_bd (g := ltf P (P (fw d w + k))) (a := fw d w) (lo := 0) (hi := 1) (k := nw d w) (fun j _ => ltf_le _ _ _)
      have hb2 := sa_bd (g := lef P (P (fw d w + k))) (a := fw d w) (lo := 0) (hi := 1) (k := nw d w) (fun j _ => lef_le _ _ _)
      simp (disch := omega) only [iq_lt, if_neg, at_cr h, bd1_s, iq_l0, iq_l1, iq_l2, iq_sub, iq_add]
      rw [x_mid_in h hd hn3 hP, bd2_s, show ((d : Int) - ((fw d w : Nat) : Int) : Int) = (nw d w : Int) - 1 by omega]
      by_cases c : sa (ltf P (P (fw d w + k))) (fw d w) (nw d w) ≤ ((nw d w : Int) - 1) / 2
      · by_cases c2 : ((nw d w : Int) - 1) / 2 < sa (lef P (P (fw d w + k))) (fw d w) (nw d w)
        · simp (disch := omega) only [iq_div, iq_lt, iq_le, if_neg, if_pos]
        · simp (disch := omega) only [iq_div, iq_lt, iq_le, if_neg, if_pos]
      · simp (disch := omega) only [iq_div, iq_lt, if_neg, if_pos]
    · intro f
      show l_X0_middle_25 row (iq d) (iq (fw d w : Nat)) (f + 1) _ _ = _
      rw [l_X0_middle_25]
      simp (disch := omega) only [iq_lt, if_pos]
  unfold f_X0_middle
  rw [x_firstOf (by omega) (by omega), bd1_s, at_cr h hd, bd1_s, e2, bd1_s, e]
  congr 2
  exact lh_all (fun i hi hc => mid_one hc.1 hc.2 g1 g2) ⟨j, hj, by rw [hv]; exact ⟨g1, g2⟩⟩
/-- whether a day is a crease -/
def cr (P : Nat → Int) (d w : Nat) (lim : Int) : Int := if lim < P d - md P d w ∨ lim < md P d w - P d then 1 else 0
theorem cr_le (P : Nat → Int) (d w : Nat) (lim : Int) : 0 ≤ cr P d w lim ∧ cr P d w lim ≤ 1 := by unfold cr; split <;> omega
theorem x_standsOut {row : Nat → Int32} {n : Nat} {P : Nat → Int} (h : CR row n P) {d w : Nat} {lim : Int} (hd : d < n) (hw : 1 ≤ w) (hw2 : w ≤ 60) (hl : 0 ≤ lim) (hl2 : lim ≤ 9999) : f_X0_standsOut (iq w) (iq lim) row (iq d) = some (iq (cr P d w lim)) := by
  have hP := h.2.1 d hd
  have hm := md_bd h.2.1 hd hw
  unfold f_X0_standsOut
  rw [at_cr h hd, bd1_s, x_middle h hd hw hw2, bd1_s]
  unfold cr
  by_cases c : 0 ≤ P d - md P d w
  · by_cases c2 : P d - md P d w ≤ lim
    · rw [if_neg (by omega : ¬ (lim < P d - md P d w ∨ lim < md P d w - P d))]
      simp (disch := omega) only [iq_sub, iq_l0, iq_le, if_pos]
    · rw [if_pos (by omega : (lim < P d - md P d w ∨ lim < md P d w - P d))]
      simp (disch := omega) only [iq_sub, iq_l0, iq_le, if_pos, if_neg]
      rfl
  · by_cases c2 : 0 - (P d - md P d w) ≤ lim
    · rw [if_neg (by omega : ¬ (lim < P d - md P d w ∨ lim < md P d w - P d))]
      simp (disch := omega) only [iq_sub, iq_l0, iq_le, if_pos, if_neg]
    · rw [if_pos (by omega : (lim < P d - md P d w ∨ lim < md P d w - P d))]
      simp (disch := omega) only [iq_sub, iq_l0, iq_le, if_neg]
      rfl
/-- how many creases there are -/
def cs_ (P : Nat → Int) (w : Nat) (lim : Int) (n : Nat) : Int := sa (fun d => cr P d w lim) 0 n
theorem cs_bd (P : Nat → Int) (w : Nat) (lim : Int) (n : Nat) : 0 ≤ cs_ P w lim n ∧ cs_ P w lim n ≤ n := by
  have := sa_bd (g := fun d => cr P d w lim) (a := 0) (lo := 0) (hi := 1) (k := n) (fun j _ => cr_le _ _ _ _)
  unfold cs_; omega
theorem cs_succ (P : Nat → Int) (w : Nat) (lim : Int) (k : Nat) : cs_ P w lim (k + 1) = cs_ P w lim k + cr P k w lim := by
  show sa (fun d => cr P d w lim) 0 k + cr P (0 + k) w lim = _
  rw [Nat.zero_add]; rfl
theorem x_number {row : Nat → Int32} {n : Nat} {P : Nat → Int} (h : CR row n P) {w : Nat} {lim : Int} (hw : 1 ≤ w) (hw2 : w ≤ 60) (hl : 0 ≤ lim) (hl2 : lim ≤ 9999) : f_X0_number (iq n) (iq w) (iq lim) row = some (iq (cs_ P w lim n)) := by
  have h1 := h.1
  have e : l_X0_number_4 (iq n) (iq w) (iq lim) row 1000 (iq 0) (iq 0) = some (iq (cs_ P w lim n)) := by
    refine loop_run (fun f k => l_X0_number_4 (iq n) (iq w) (iq lim) row f (iq (cs_ P w lim k)) (iq ((k : Nat) : Int))) n _ ?_ ?_ 1000 0 (Nat.zero_le _) (by omega)
    · intro f k hk
      show l_X0_number_4 (iq n) (iq w) (iq lim) row (f + 1) _ _ = l_X0_number_4 (iq n) (iq w) (iq lim) row f (iq (cs_ P w lim (k + 1))) (iq ((k : Int) + 1))
      rw [l_X0_number_4, x_standsOut h hk hw hw2 hl hl2, bd1_s, cs_succ]
      have hc := cr_le P k w lim
      rcases (show cr P k w lim = 0 ∨ cr P k w lim = 1 by omega) with c | c <;> rw [c] <;> simp (disch := omega) only [iq_le, if_neg, if_pos, if_true, if_false, iq_l0, iq_l1, iq_eq, iq_add, Int.add_zero]
    · intro f
      show l_X0_number_4 (iq n) (iq w) (iq lim) row (f + 1) _ _ = _
      rw [l_X0_number_4]
      simp (disch := omega) only [iq_le, if_pos]
  unfold f_X0_number
  rw [iq_l0, e, bd1_s]
/-- day 0 is no crease -/
theorem cr_0 {n : Nat} {P : Nat → Int} (h : PB n P) {w : Nat} {lim : Int} (hn : 0 < n) (hw : 1 ≤ w) (hl : 0 ≤ lim) : cr P 0 w lim = 0 := by
  obtain ⟨v, -, -, -, e, j, hj, hv⟩ := md_spec h hn hw
  have h2 := nw_le 0 w
  have h3 := fw_nw 0 w
  have e2 : md P 0 w = P 0 := by rw [e, ← hv, show fw 0 w + j = 0 by omega]
  unfold cr
  rw [e2, if_neg (by omega)]
/-- a day is pressed; all are -/
def st_ (P : Nat → Int) (k : Nat) (v : Int) : Nat → Int := fun j => if j = k then v else P j
theorem PB_st {n : Nat} {P : Nat → Int} (h : PB n P) {k : Nat} {v : Int} (hv : 1 ≤ v ∧ v ≤ 9999) : PB n (st_ P k v) := fun d hd => by
  unfold st_
  by_cases c : d = k
  · rw [if_pos c]; exact hv
  · rw [if_neg c]; exact h d hd
theorem CR_put {row : Nat → Int32} {n : Nat} {P : Nat → Int} (h : CR row n P) {k : Nat} {v : Int} (hv : 1 ≤ v ∧ v ≤ 9999) : CR (upd row k (iq v)) n (st_ P k v) := ⟨h.1, PB_st h.2.1 hv, fun d hd => by
  unfold upd st_
  by_cases c : d = k
  · rw [if_pos c, if_pos c]
  · rw [if_neg c, if_neg c]; exact h.2.2 d hd⟩
theorem MR_put {s : Nat → Int32} {n : Nat} {P : Nat → Int} (h : MR s n P) {k : Nat} {v : Int} (hv : 1 ≤ v ∧ v ≤ 9999) : MR (upd s (8 + k) (iq v)) n (st_ P k v) := ⟨h.1, PB_st h.2.1 hv, fun d hd => by
  unfold upd st_
  by_cases c : d = k
  · rw [if_pos (by omega), if_pos c]
  · rw [if_neg (by omega), if_neg c]; exact h.2.2 d hd⟩
theorem x_put {row : Nat → Int32} {k : Nat} {v : Int32} (hk : k < 60) : f_X6_put row (iq k) v = some (upd row k v) := by
  simp (disch := omega) only [f_X6_put, iq_l0, iq_l60, iq_lt, iq_le, iq_nat, if_neg, gd_of, Int.toNat_natCast]
theorem x_flatten {row : Nat → Int32} {n : Nat} {P : Nat → Int} (h : CR row n P) {d w : Nat} (hd : d < n) (hw : 1 ≤ w) (hw2 : w ≤ 60) : f_X0_flatten (iq w) row (iq d) = some (upd row d (iq (md P d w))) := by
  have h1 := h.1
  unfold f_X0_flatten
  rw [x_middle h hd hw hw2, bd1_s, x_put (by omega), bd1_s]
def fa_ (P : Nat → Int) (w : Nat) (lim : Int) : Nat → Int × (Nat → Int)
  | 0 => (0, P)
  | k + 1 => if cr (fa_ P w lim k).2 k w lim = 1 then ((fa_ P w lim k).1 + 1, st_ (fa_ P w lim k).2 k (md (fa_ P w lim k).2 k w)) else fa_ P w lim k
theorem fa_bd (P : Nat → Int) (w : Nat) (lim : Int) : ∀ k : Nat, 0 ≤ (fa_ P w lim k).1 ∧ (fa_ P w lim k).1 ≤ k := by
  intro k
  induction k with
  | zero => exact ⟨Int.le_refl _, Int.le_refl _⟩
  | succ k ih =>
    unfold fa_
    split
    · show 0 ≤ (fa_ P w lim k).1 + 1 ∧ (fa_ P w lim k).1 + 1 ≤ _; omega
    · omega
theorem x_flattenAll_loop {n w : Nat} {P : Nat → Int} {lim : Int} (hw : 1 ≤ w) (hw2 : w ≤ 60) (hl : 0 ≤ lim) (hl2 : lim ≤ 9999) : ∀ (m f k : Nat) (row : Nat → Int32), k + m = n → m < f → CR row n (fa_ P w lim k).2 → ∃ row', l_X0_flattenAll_4 (iq n) (iq w) (iq lim) f (iq (fa_ P w lim k).1) (iq k) row = some (iq (fa_ P w lim n).1, row') ∧ CR row' n (fa_ P w lim n).2 := by
  intro m
  induction m with
  | zero =>
    intro f k row hk hf h
    obtain ⟨f, rfl⟩ : ∃ g, f = g + 1 := ⟨f - 1, by omega⟩
    have h1 := h.1
    obtain rfl : k = n := by omega
    refine ⟨row, ?_, h⟩
    rw [l_X0_flattenAll_4]
    simp (disch := omega) only [iq_le, if_pos]
  | succ m ih =>
    intro f k row hk hf h
    obtain ⟨f, rfl⟩ : ∃ g, f = g + 1 := ⟨f - 1, by omega⟩
    have h1 := h.1
    have hm := md_bd h.2.1 (d := k) (by omega) hw
    have hc := cr_le (fa_ P w lim k).2 k w lim
    rw [l_X0_flattenAll_4, x_standsOut h (by omega) hw hw2 hl hl2, bd1_s]
    by_cases c : cr (fa_ P w lim k).2 k w lim = 1
    · have e : fa_ P w lim (k + 1) = ((fa_ P w lim k).1 + 1, st_ (fa_ P w lim k).2 k (md (fa_ P w lim k).2 k w)) := by show (if _ then _ else _) = _; rw [if_pos c]
      have g := ih f (k + 1) (upd row k (iq (md (fa_ P w lim k).2 k w))) (by omega) (by omega) (by rw [e]; exact CR_put h hm)
      obtain ⟨row', g1, g2⟩ := g
      rw [e] at g1
      refine ⟨row', ?_, g2⟩
      rw [x_flatten h (by omega) hw hw2, c]
      simp (disch := omega) only [iq_le, if_neg, if_false, iq_l0, iq_eq, bd1_s, iq_l1, iq_add]
      exact g1
    · have e : fa_ P w lim (k + 1) = fa_ P w lim k := by show (if _ then _ else _) = _; rw [if_neg c]
      have g := ih f (k + 1) row (by omega) (by omega) (by rw [e]; exact h)
      obtain ⟨row', g1, g2⟩ := g
      rw [e] at g1
      refine ⟨row', ?_, g2⟩
      rw [show cr (fa_ P w lim k).2 k w lim = 0 by omega]
      simp (disch := omega) only [iq_le, if_neg, if_pos, if_true, iq_l0, iq_eq, iq_l1, iq_add]
      exact g1
theorem x_flattenAll {row : Nat → Int32} {n : Nat} {P : Nat → Int} (h : CR row n P) {w : Nat} {lim : Int} (hw : 1 ≤ w) (hw2 : w ≤ 60) (hl : 0 ≤ lim) (hl2 : lim ≤ 9999) : ∃ row', f_X0_flattenAll (iq n) (iq w) (iq lim) row = some (iq (fa_ P w lim n).1, row') ∧ CR row' n (fa_ P w lim n).2 := by
  have h1 := h.1
  obtain ⟨row', g1, g2⟩ := x_flattenAll_loop (P := P) hw hw2 hl hl2 n 1000 0 row (by omega) (by omega) h
  refine ⟨row', ?_, g2⟩
  unfold f_X0_flattenAll
  have g1 : l_X0_flattenAll_4 (iq n) (iq w) (iq lim) 1000 (iq 0) (iq 0) row = _ := g1
  rw [iq_l0, g1, bd2_s]