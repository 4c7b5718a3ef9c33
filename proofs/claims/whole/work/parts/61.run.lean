/-! the works are run, by both -/
theorem run_loop {T : Nat → Nat} (hT : ∀ i, T i < 1000) {codes : Nat → Int32} {n Q pm : Nat} {be : Nat → Nat} {rd pr : Nat → Int32} {se : Nat} (hn : n ≤ 60) (hQ : Q ≤ 31) (hpm : pm ≤ 30) (hPS : PS T codes n Q pm be rd pr) (hbQ : be Q = n + 1) (hbk : ∀ k, k < Q → be k < n) : ∀ (m fu fu2 q : Nat) (z1 z2 : Int32) (nums0 row s : Nat → Int32) (N a b : Nat) (me li : Int) (P : Nat → Int), q + m = Q → m < fu → m < fu2 → 1 < fu → 1 < fu2 → NV row s N a b se me li P →
    ∃ (D : Nat) (why : Int) (y1 y2 : Int32) (nums2 : Nat → Int32) (N2 a2 b2 : Nat) (me2 li2 : Int) (P2 : Nat → Int) (row2 s2 : Nat → Int32), D ≤ 60 ∧ 0 ≤ why ∧ why ≤ 4 ∧
      l_X10_run_11 (iq n) codes fu (iq q) (iq 0) (iq (be q)) (iq q) z1 z2 nums0 (iq N) (iq a) (iq b) (iq me) (iq li) row = some (iq D, iq why, y1, y2, nums2, iq N2, iq a2, iq b2, iq me2, iq li2, row2) ∧
      l_X12_work_31 (iq Q) rd pr fu2 (iq q) (iq 0) s = some (iq D, iq why, s2) ∧ NV row2 s2 N2 a2 b2 se me2 li2 P2 := by
  intro m
  induction m with
  | zero =>
    intro fu fu2 q z1 z2 nums0 row s N a b me li P hq hf hf2 hf3 hf4 hV
    obtain ⟨fu, rfl⟩ : ∃ g, fu = g + 1 := ⟨fu - 1, by omega⟩
    obtain ⟨fu2, rfl⟩ : ∃ g, fu2 = g + 1 := ⟨fu2 - 1, by omega⟩
    obtain rfl : q = Q := by omega
    refine ⟨q, 0, z1, z2, nums0, N, a, b, me, li, P, row, s, by omega, by omega, by omega, ?_, ?_, hV⟩
    · rw [l_X10_run_11, hbQ]
      simp (disch := omega) only [iq_l60, iq_le, if_neg, if_pos]
    · rw [l_X12_work_31]
      simp (disch := omega) only [iq_le, if_pos]
  | succ m ih =>
    intro fu fu2 q z1 z2 nums0 row s N a b me li P hq hf hf2 hf3 hf4 hV
    obtain ⟨fu, rfl⟩ : ∃ g, fu = g + 1 := ⟨fu - 1, by omega⟩
    obtain ⟨fu2, rfl⟩ : ∃ g, fu2 = g + 1 := ⟨fu2 - 1, by omega⟩
    have hb := hbk q (by omega)
    obtain ⟨⟨p1, p2, cnt, vals, p3, p4⟩, p5⟩ := hPS.2 q (by omega)
    obtain ⟨nums, r1, r2⟩ := p3 z1 z2 nums0
    rw [show be (q + 1) - 1 + 1 = be (q + 1) by omega] at r2
    obtain ⟨why, n2, a2, b2, me2, li2, P2, row2, s2, d1, d2, d3, d4, d5⟩ := do_part hV (by omega : q ≤ 30) hpm p4 r1
    have hTb := hT (be q)
    by_cases cw : why = 0
    · subst cw
      by_cases cl : q + 1 = Q
      · -- the last part is done
        obtain ⟨fu, rfl⟩ : ∃ g, fu = g + 1 := ⟨fu - 1, by omega⟩
        obtain ⟨fu2, rfl⟩ : ∃ g, fu2 = g + 1 := ⟨fu2 - 1, by omega⟩
        refine ⟨q + 1, 0, iq (T (be q)), iq cnt, nums, n2, a2, b2, me2, li2, P2, row2, s2, by omega, by omega, by omega, ?_, ?_, d5⟩
        · rw [l_X10_run_11]
          simp (disch := omega) only [iq_l60, iq_le, if_neg, iq_l0, if_true, r2, bd4_s, d3, bd7_s]
          rw [l_X10_run_11, cl, hbQ]
          simp (disch := omega) only [iq_l60, iq_l1, iq_add, iq_le, if_neg, if_pos]
          rw [← cl]
          rfl
        · rw [l_X12_work_31]
          simp (disch := omega) only [iq_le, if_neg, iq_l0, if_true, iq_l5, iq_mul, d4, bd2_s]
          rw [l_X12_work_31]
          simp (disch := omega) only [iq_l1, iq_add, iq_le, if_pos]
          rfl
      · obtain ⟨D, why, y1, y2, nums2, N3, a3, b3, me3, li3, P3, row3, s3, k1, k2, k3, k4, k5, k6⟩ := ih fu fu2 (q + 1) (iq (T (be q))) (iq cnt) nums row2 s2 n2 a2 b2 me2 li2 P2 (by omega) (by omega) (by omega) (by omega) (by omega) d5
        refine ⟨D, why, y1, y2, nums2, N3, a3, b3, me3, li3, P3, row3, s3, k1, k2, k3, ?_, ?_, k6⟩
        · rw [l_X10_run_11]
          simp (disch := omega) only [iq_l60, iq_le, if_neg, iq_l0, if_true, r2, bd4_s, d3, bd7_s, iq_l1, iq_add]
          exact k4
        · rw [l_X12_work_31]
          simp (disch := omega) only [iq_le, if_neg, iq_l0, if_true, iq_l5, iq_mul, d4, bd2_s, iq_l1, iq_add]
          exact k5
    · obtain ⟨fu, rfl⟩ : ∃ g, fu = g + 1 := ⟨fu - 1, by omega⟩
      obtain ⟨fu2, rfl⟩ : ∃ g, fu2 = g + 1 := ⟨fu2 - 1, by omega⟩
      have hbn : be (q + 1) ≤ n + 1 := by omega
      refine ⟨q, why, iq (T (be q)), iq cnt, nums, n2, a2, b2, me2, li2, P2, row2, s2, by omega, d1, d2, ?_, ?_, d5⟩
      · rw [l_X10_run_11]
        simp (disch := omega) only [iq_l60, iq_le, if_neg, iq_l0, if_true, r2, bd4_s, d3, bd7_s, iq_eq]
        rw [l_X10_run_11]
        by_cases c9 : n ≤ be (q + 1)
        · simp (disch := omega) only [iq_l60, iq_l1, iq_add, iq_le, if_neg, if_pos]
        · simp (disch := omega) only [iq_l60, iq_l1, iq_l0, iq_add, iq_le, iq_eq, if_neg]
      · rw [l_X12_work_31]
        simp (disch := omega) only [iq_le, if_neg, iq_l0, if_true, iq_l5, iq_mul, d4, bd2_s, iq_eq, iq_add, Int.add_zero]
        rw [l_X12_work_31]
        simp (disch := omega) only [iq_le, if_neg, iq_l0, iq_eq]
/-- the class's run, with what it leaves of the stop -/
theorem x_run {T : Nat → Nat} (hT : ∀ i, T i < 1000) {codes : Nat → Int32} {n q2 pm : Nat} {be : Nat → Nat} {rd pr : Nat → Int32} {se : Nat} (hn : n ≤ 60) (hq2 : q2 ≤ 30) (hpm : pm ≤ 30) (hPS : PS T codes n (q2 + 1) pm be rd pr) (hbQ : be (q2 + 1) = n + 1) (hbk : ∀ k, k ≤ q2 → be k < n) {row s : Nat → Int32} {N a b : Nat} {me li : Int} {P : Nat → Int} (hV : NV row s N a b se me li P) (z1 z2 z3 z4 z5 : Int32) (nums0 : Nat → Int32) :
    ∃ (D : Nat) (why : Int) (y1 y2 : Int32) (nums2 : Nat → Int32) (N2 a2 b2 : Nat) (me2 li2 : Int) (P2 : Nat → Int) (row2 s2 : Nat → Int32), D ≤ 60 ∧ 0 ≤ why ∧ why ≤ 4 ∧
      f_X10_run z1 z2 nums0 (iq N) (iq a) (iq b) (iq me) (iq li) z3 z4 z5 row (iq n) codes = some (iq D, y1, y2, nums2, iq N2, iq a2, iq b2, iq me2, iq li2, iq (if why = 0 then 0 else 1), iq (if why = 0 then 0 else (D : Int)), iq why, row2) ∧
      l_X12_work_31 (iq ((q2 + 1 : Nat) : Int)) rd pr 1000 (iq 0) (iq 0) s = some (iq D, iq why, s2) ∧ NV row2 s2 N2 a2 b2 se me2 li2 P2 := by
  obtain ⟨D, why, y1, y2, nums2, N2, a2, b2, me2, li2, P2, row2, s2, k1, k2, k3, k4, k5, k6⟩ := run_loop hT hn (by omega : q2 + 1 ≤ 31) hpm hPS hbQ (fun k hk => hbk k (by omega)) (q2 + 1) 1000 1000 0 z1 z2 nums0 row s N a b me li P (by omega) (by omega) (by omega) (by omega) (by omega) hV
  have k4 : l_X10_run_11 (iq n) codes 1000 (iq 0) (iq 0) (iq (be 0)) (iq 0) z1 z2 nums0 (iq N) (iq a) (iq b) (iq me) (iq li) row = _ := k4
  rw [hPS.1] at k4
  have k4 : l_X10_run_11 (iq n) codes 1000 (iq 0) (iq 0) (iq 0) (iq 0) z1 z2 nums0 (iq N) (iq a) (iq b) (iq me) (iq li) row = _ := k4
  refine ⟨D, why, y1, y2, nums2, N2, a2, b2, me2, li2, P2, row2, s2, k1, k2, k3, ?_, k5, k6⟩
  unfold f_X10_run
  rw [iq_l0, k4]
  unfold bd11
  show bd1 (if iq why = iq 0 then some (iq 0) else some 1) _ = _
  by_cases c : why = 0
  · rw [if_pos (show iq why = iq 0 by rw [c]), bd1_s, gd_of and_0, if_pos rfl, bd1_s, if_pos c, if_pos c]
  · rw [if_neg (show ¬ iq why = iq 0 by rw [iq_eq (by omega) (by omega) (by omega) (by omega)]; exact c), bd1_s, iq_l1, gd_of and_z1, if_neg (show ¬ iq 1 = iq 0 by decide), bd1_s, if_neg c, if_neg c]
