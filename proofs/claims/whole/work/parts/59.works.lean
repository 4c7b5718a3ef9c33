/-! the works: all parts are read; what the class does with them, what the reference does -/
/-- parts 0 .. q-1 are read: they begin at be 0 = 0, be 1 .. -/
def PS (T : Nat → Nat) (codes : Nat → Int32) (n q pm : Nat) (be : Nat → Nat) (rd pr : Nat → Int32) : Prop := be 0 = 0 ∧ ∀ k, k < q → PD T codes n k (be k) (be (k + 1) - 1) pm rd pr ∧ 1 ≤ be (k + 1)
theorem m_works_loop {T : Nat → Nat} (hT : ∀ i, T i < 1000) {n : Nat} {text codes : Nat → Int32} (hn : n ≤ 60) (ht : ∀ i, i < n → text i = iq (T i)) (hc : ∀ i, i < n → codes i = iq (T i)) : ∀ (m fu q b i pm : Nat) (rd pr : Nat → Int32) (be : Nat → Nat), n - i ≤ m → m < fu → i ≤ n → b < i → 2 * q ≤ b → 2 * pm ≤ i → be 0 = 0 → be q = b → PS T codes n q pm be rd pr → PE T n i → (∃ (cnt inn : Nat) (vals : Nat → Int), Rd codes n b i inn cnt vals ∧ BD (T b) q cnt vals pm rd pr) →
    (∃ (j : Nat) (a1 a2 : Int32) (rd2 pr2 : Nat → Int32), l_X12_readsWorks_19 (iq n) text fu (iq i) (iq 1) (iq ((q + 1 : Nat) : Int)) (iq pm) rd pr = some (iq j, iq 0, a1, a2, rd2, pr2) ∧ Dead T n j) ∨
    (∃ (q2 pm2 : Nat) (rd2 pr2 : Nat → Int32) (be2 : Nat → Nat), l_X12_readsWorks_19 (iq n) text fu (iq i) (iq 1) (iq ((q + 1 : Nat) : Int)) (iq pm) rd pr = some (iq n, iq 1, iq ((q2 + 1 : Nat) : Int), iq pm2, rd2, pr2) ∧ q2 ≤ 30 ∧ pm2 ≤ 30 ∧ PE T n n ∧ PS T codes n (q2 + 1) pm2 be2 rd2 pr2 ∧ be2 (q2 + 1) = n + 1 ∧ ∀ k, k ≤ q2 → be2 k < n) := by
  intro m
  induction m with
  | zero =>
    intro fu q b i pm rd pr be hm hf hi hb hq hpm hb0 hbq hPS hPE hR
    obtain ⟨fu, rfl⟩ : ∃ g, fu = g + 1 := ⟨fu - 1, by omega⟩
    obtain rfl : i = n := by omega
    obtain ⟨cnt, inn, vals, h1, h2⟩ := hR
    have h3 := rd_end hn hT hc h1 (by omega) (Nat.le_refl _) (Or.inl rfl)
    refine Or.inr ⟨q, pm, rd, pr, fun k => if k = q + 1 then i + 1 else be k, ?_, by omega, by omega, hPE, ⟨?_, fun k hk => ?_⟩, if_pos rfl, fun k hk => ?_⟩
    · rw [l_X12_readsWorks_19]
      simp (disch := omega) only [iq_l0, iq_eq, iq_le, if_neg, if_false, if_pos]
    · show (if 0 = q + 1 then i + 1 else be 0) = 0
      rw [if_neg (by omega)]; exact hb0
    · by_cases c : k = q
      · subst c
        simp only [if_true]
        rw [if_neg (by omega), hbq]
        exact ⟨⟨by omega, by omega, cnt, vals, h3, h2⟩, by omega⟩
      · dsimp only
        rw [if_neg (show ¬ k = q + 1 by omega), if_neg (show ¬ k + 1 = q + 1 by omega)]
        exact hPS.2 k (by omega)
    · show (if k = q + 1 then i + 1 else be k) < i
      rw [if_neg (by omega)]
      by_cases c : k = q
      · rw [c, hbq]; exact hb
      · have := (hPS.2 k (by omega)).1
        have h7 := this.1; have h8 := this.2.1
        omega
  | succ m ih =>
    intro fu q b i pm rd pr be hm hf hi hb hq hpm hb0 hbq hPS hPE hR
    obtain ⟨fu, rfl⟩ : ∃ g, fu = g + 1 := ⟨fu - 1, by omega⟩
    by_cases cn : i = n
    · subst cn
      obtain ⟨cnt, inn, vals, h1, h2⟩ := hR
      have h3 := rd_end hn hT hc h1 (by omega) (Nat.le_refl _) (Or.inl rfl)
      refine Or.inr ⟨q, pm, rd, pr, fun k => if k = q + 1 then i + 1 else be k, ?_, by omega, by omega, hPE, ⟨?_, fun k hk => ?_⟩, if_pos rfl, fun k hk => ?_⟩
      · rw [l_X12_readsWorks_19]
        simp (disch := omega) only [iq_l0, iq_eq, iq_le, if_neg, if_false, if_pos]
      · show (if 0 = q + 1 then i + 1 else be 0) = 0
        rw [if_neg (by omega)]; exact hb0
      · by_cases c : k = q
        · subst c
          simp only [if_true]
          rw [if_neg (by omega), hbq]
          exact ⟨⟨by omega, by omega, cnt, vals, h3, h2⟩, by omega⟩
        · dsimp only
          rw [if_neg (show ¬ k = q + 1 by omega), if_neg (show ¬ k + 1 = q + 1 by omega)]
          exact hPS.2 k (by omega)
      · show (if k = q + 1 then i + 1 else be k) < i
        rw [if_neg (by omega)]
        by_cases c : k = q
        · rw [c, hbq]; exact hb
        · have := (hPS.2 k (by omega)).1
          have h7 := this.1; have h8 := this.2.1
          omega
    · have hin : i < n := by omega
      have hs := sg_in (T := T) hin
      obtain ⟨l, f, dg, v, a1, a2, a3, a4⟩ := hPE
      have hsb := hT i
      by_cases c59 : T i = 59
      · have t1 : f_X12_takes (iq n) (iq i) (iq 1) text (iq 59) (iq 59) = some (iq ((sg T n i : Int) - 48), iq ((i + 1 : Nat) : Int), iq 1) := m_takes_yes hT (lo := 59) (hi := 59) hn ht (by omega) (by omega) (by omega) (by omega)
        have h1 : At T (i + 1) 0 0 0 0 := ⟨l, f, dg, v, a1, Or.inr (Or.inr (Or.inl ⟨a4, by omega, a2.2.1, c59, a2.2.2, rfl, rfl, rfl, rfl⟩))⟩
        obtain ⟨cnt, inn, vals, r1, r2⟩ := hR
        have r3 := rd_end hn hT hc r1 (by omega) hi (Or.inr c59)
        rcases m_readsPart hT (q := q + 1) (pm := pm) hn ht hc (by omega) (by omega) (by omega) (iq 1) rd pr h1 with ⟨j, pm2, rd2, pr2, g1, g2⟩ | ⟨j, pm2, rd2, pr2, g1, g2, g3, g4, g5, g6, g7, g8, g9⟩
        · refine Or.inl ⟨j, iq ((q + 1 : Nat) : Int), pm2, rd2, pr2, ?_, g2⟩
          obtain ⟨fu, rfl⟩ : ∃ g, fu = g + 1 := ⟨fu - 1, by omega⟩
          rw [l_X12_readsWorks_19]
          simp (disch := omega) only [iq_l0, iq_l59, iq_eq, iq_le, if_neg, if_false, t1, bd3_s, g1, bd6_s]
          rw [l_X12_readsWorks_19]
          simp only [iq_l0, if_true]
        · have hPS2 : PS T codes n (q + 1) pm2 (fun k => if k = q + 1 then i + 1 else be k) rd2 pr2 := by
            refine ⟨?_, fun k hk => ?_⟩
            · show (if 0 = q + 1 then i + 1 else be 0) = 0
              rw [if_neg (by omega)]; exact hb0
            · by_cases c : k = q
              · subst c
                simp only [if_true]
                rw [if_neg (by omega), hbq]
                exact ⟨PD_keep ⟨by omega, by omega, cnt, vals, r3, r2⟩ g8 g9 g6, by omega⟩
              · dsimp only
                rw [if_neg (show ¬ k = q + 1 by omega), if_neg (show ¬ k + 1 = q + 1 by omega)]
                obtain ⟨y1, y2⟩ := hPS.2 k (by omega)
                exact ⟨PD_keep y1 (fun x hx => g8 x (by omega)) g9 g6, y2⟩
          have key := ih fu (q + 1) (i + 1) j pm2 rd2 pr2 (fun k => if k = q + 1 then i + 1 else be k) (by omega) (by omega) g3 g2 (by omega) g7 (by show (if 0 = q + 1 then i + 1 else be 0) = 0; rw [if_neg (by omega)]; exact hb0) (if_pos rfl) hPS2 g4 g5
          have e5 : l_X12_readsWorks_19 (iq n) text (fu + 1) (iq i) (iq 1) (iq ((q + 1 : Nat) : Int)) (iq pm) rd pr = l_X12_readsWorks_19 (iq n) text fu (iq j) (iq 1) (iq ((q + 1 + 1 : Nat) : Int)) (iq pm2) rd2 pr2 := by
            rw [l_X12_readsWorks_19]
            simp (disch := omega) only [iq_l0, iq_l59, iq_eq, iq_le, if_neg, if_false, t1, bd3_s, g1, bd6_s]
          rw [e5]
          exact key
      · have t1 : f_X12_takes (iq n) (iq i) (iq 1) text (iq 59) (iq 59) = some (iq ((sg T n i : Int) - 48), iq i, iq 0) := m_takes_no hT (lo := 59) (hi := 59) hn ht (by omega) (by omega) (by omega) (by omega)
        refine Or.inl ⟨i, iq ((q + 1 : Nat) : Int), iq pm, rd, pr, ?_, l, f, dg, v, a1, Or.inl ⟨hin, a3 hin c59⟩⟩
        obtain ⟨fu, rfl⟩ : ∃ g, fu = g + 1 := ⟨fu - 1, by omega⟩
        rw [l_X12_readsWorks_19]
        simp (disch := omega) only [iq_l0, iq_l59, iq_eq, iq_le, if_neg, if_false, if_true, t1, bd3_s]
        rw [l_X12_readsWorks_19]
        simp only [iq_l0, if_true]
/-- the reference's reading: dead at j, or all parts -/
theorem m_readsWorks {T : Nat → Nat} (hT : ∀ i, T i < 1000) {n : Nat} {text codes : Nat → Int32} (hn : n ≤ 60) (ht : ∀ i, i < n → text i = iq (T i)) (hc : ∀ i, i < n → codes i = iq (T i)) (y1 y2 y3 y4 : Int32) (rd pr : Nat → Int32) :
    (∃ (j : Nat) (a1 a2 : Int32) (rd2 pr2 : Nat → Int32), f_X12_readsWorks (iq n) y1 y2 y3 y4 text rd pr = some (iq 0, iq j, iq 0, a1, a2, rd2, pr2) ∧ Dead T n j) ∨
    (∃ (q2 pm2 : Nat) (rd2 pr2 : Nat → Int32) (be2 : Nat → Nat), f_X12_readsWorks (iq n) y1 y2 y3 y4 text rd pr = some (iq 1, iq n, iq 1, iq ((q2 + 1 : Nat) : Int), iq pm2, rd2, pr2) ∧ q2 ≤ 30 ∧ pm2 ≤ 30 ∧ PE T n n ∧ PS T codes n (q2 + 1) pm2 be2 rd2 pr2 ∧ be2 (q2 + 1) = n + 1 ∧ ∀ k, k ≤ q2 → be2 k < n) := by
  have z : iq 0 = iq ((0 : Nat) : Int) := rfl
  unfold f_X12_readsWorks
  rw [iq_l0]
  rcases m_readsPart hT (q := 0) (pm := 0) (i := 0) hn ht hc (by omega) (by omega) (by omega) y2 rd pr ⟨rfl, rfl, rfl, rfl⟩ with ⟨j, pm2, rd2, pr2, g1, g2⟩ | ⟨j, pm2, rd2, pr2, g1, g2, g3, g4, g5, g6, g7, g8, g9⟩
  · have g1 : f_X12_readsPart (iq n) (iq 0) y2 (iq 0) (iq 0) text rd pr = some (iq j, iq 0, iq 0, pm2, rd2, pr2) := g1
    refine Or.inl ⟨j, iq 0, pm2, rd2, pr2, ?_, g2⟩
    rw [g1, bd6_s, l_X12_readsWorks_19, if_pos zero_is, bd6_s]
    exact gd_of and_0
  · have g1 : f_X12_readsPart (iq n) (iq 0) y2 (iq 0) (iq 0) text rd pr = some (iq j, iq 1, iq ((0 + 1 : Nat) : Int), iq pm2, rd2, pr2) := g1
    rw [g1, bd6_s]
    rcases m_works_loop hT hn ht hc 60 1000 0 0 j pm2 rd2 pr2 (fun _ => 0) (by omega) (by omega) g3 g2 (by omega) g7 rfl rfl ⟨rfl, fun k hk => absurd hk (Nat.not_lt_zero _)⟩ g4 g5 with ⟨j2, a1, a2, rd3, pr3, k1, k2⟩ | ⟨q2, pm3, rd3, pr3, be2, k1, k2⟩
    · refine Or.inl ⟨j2, a1, a2, rd3, pr3, ?_, k2⟩
      rw [k1, bd6_s]
      exact gd_of and_0
    · refine Or.inr ⟨q2, pm3, rd3, pr3, be2, ?_, k2⟩
      rw [k1, bd6_s]
      exact gd_of and_1
