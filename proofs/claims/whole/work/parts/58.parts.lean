/-! the reference reads prices, a part, the works -/
theorem m_prices_loop {T : Nat → Nat} (hT : ∀ i, T i < 1000) {n b k5 st : Nat} {text codes : Nat → Int32} (hn : n ≤ 60) (ht : ∀ i, i < n → text i = iq (T i)) (hc : ∀ i, i < n → codes i = iq (T i)) (hk5 : k5 + 4 < 160) : ∀ (m fu i c : Nat) (rd pr : Nat → Int32) (vals : Nat → Int), i ≤ n → n - i ≤ m → m + 1 < fu → At T i 112 c 0 0 → Rd codes n b i 0 c vals → 2 * (st + c) + 1 ≤ i → rd (k5 + 4) = iq c → (∀ k, k < c → pr (st + k) = iq (vals k) ∧ 1 ≤ vals k ∧ vals k ≤ 9999) →
    (∃ (j : Nat) (pm : Int32) (rd2 pr2 : Nat → Int32), l_X12_readsPrices_2 (iq n) text (iq k5) fu (iq 1) (iq i) (iq 1) (iq ((st + c : Nat) : Int)) rd pr = some (iq j, iq 0, pm, rd2, pr2) ∧ Dead T n j) ∨
    (∃ (j c2 v dg : Nat) (rd2 pr2 : Nat → Int32) (vals2 : Nat → Int), l_X12_readsPrices_2 (iq n) text (iq k5) fu (iq 1) (iq i) (iq 1) (iq ((st + c : Nat) : Int)) rd pr = some (iq j, iq 1, iq ((st + (c2 + 1) : Nat) : Int), rd2, pr2) ∧ i < j ∧ j ≤ n ∧ At T j 112 c2 dg v ∧ 0 < dg ∧ 1 ≤ v ∧ (j < n → T j ≠ 44) ∧ (j < n → dig (T j) → No 112 c2 dg v (T j)) ∧ Rd codes n b j 1 (c2 + 1) vals2 ∧ 2 * (st + (c2 + 1)) ≤ j ∧ rd2 (k5 + 4) = iq ((c2 + 1 : Nat) : Int) ∧ (∀ x, x ≠ k5 + 4 → rd2 x = rd x) ∧ (∀ x, x < st → pr2 x = pr x) ∧ (∀ k, k < c2 + 1 → pr2 (st + k) = iq (vals2 k) ∧ 1 ≤ vals2 k ∧ vals2 k ≤ 9999)) := by
  have e9 : (9999 : Int32) = iq ((9999 : Nat) : Int) := rfl
  have e1 : (1 : Int32) = iq ((1 : Nat) : Int) := rfl
  have e4 : ((k5 : Int) + 4).toNat = k5 + 4 := by omega
  intro m
  induction m with
  | zero =>
    intro fu i c rd pr vals hin hi hf h1 h2 h3 h4 h5
    obtain ⟨fu, rfl⟩ : ∃ g, fu = g + 2 := ⟨fu - 2, by omega⟩
    obtain rfl : i = n := by omega
    refine Or.inl ⟨i, iq ((st + c : Nat) : Int), rd, pr, ?_, dead_0 (by omega) (by omega) (by omega) h1 (fun q => by omega)⟩
    rcases m_number hT (L := 112) (F := c) (b := b) (cnt := c) (lo := 1) (hi := 9999) hn ht hc (by omega) (by omega) (by omega) rfl rfl (by omega) (by omega) h1 h2 with ⟨r, g1, -⟩ | ⟨j, v, dg, -, g2, g3, -⟩
    · rw [show fu + 2 = (fu + 1) + 1 from rfl, l_X12_readsPrices_2, e9, e1, g1, bd3_s]
      simp (disch := omega) only [iq_l0, iq_eq, if_neg, if_false, if_true, iq_add, Int.add_zero]
      rw [l_X12_readsPrices_2]
      simp only [iq_l0, if_true]
    · omega
  | succ m ih =>
    intro fu i c rd pr vals hin hi hf h1 h2 h3 h4 h5
    obtain ⟨fu, rfl⟩ : ∃ g, fu = g + 2 := ⟨fu - 2, by omega⟩
    rcases m_number hT (L := 112) (F := c) (b := b) (cnt := c) (lo := 1) (hi := 9999) hn ht hc (by omega) (by omega) (by omega) rfl rfl (by omega) hin h1 h2 with ⟨r, g1, g2⟩ | ⟨j, v, dg, g1, g2, g3, g4, g5, g6, g7, g8, g9⟩
    · refine Or.inl ⟨i, iq ((st + c : Nat) : Int), rd, pr, ?_, g2⟩
      rw [show fu + 2 = (fu + 1) + 1 from rfl, l_X12_readsPrices_2, e9, e1, g1, bd3_s]
      simp (disch := omega) only [iq_l0, iq_eq, if_neg, if_false, if_true, iq_add, Int.add_zero]
      rw [l_X12_readsPrices_2]
      simp only [iq_l0, if_true]
    · have hr2 : upd rd (k5 + 4) (rd (k5 + 4) + iq 1) (k5 + 4) = iq ((c + 1 : Nat) : Int) := by rw [upd_self, h4, iq_add]; rfl
      have hp2 : ∀ k, k < c + 1 → upd pr (st + c) (iq v) (st + k) = iq (st_ vals c v k) ∧ 1 ≤ st_ vals c v k ∧ st_ vals c v k ≤ 9999 := fun k hk => by
        unfold st_
        by_cases q : k = c
        · rw [q, upd_self, if_pos rfl]; refine ⟨rfl, by omega, by omega⟩
        · rw [upd_ne (by omega), if_neg q]; exact h5 k (by omega)
      by_cases cc : sg T n j = 44
      · have hjn : j < n := Classical.byContradiction fun z => by rw [sg_out z] at cc; omega
        have hTj : T j = 44 := by rw [← sg_in (T := T) hjn]; exact cc
        have h6 : At T (j + 1) 112 (c + 1) 0 0 := ⟨112, c, dg, v, g4, Or.inr (Or.inr (Or.inr ⟨by omega, by omega, Or.inr ⟨g5, g6⟩, Or.inl ⟨hTj, rfl⟩, rfl, rfl, rfl, rfl⟩))⟩
        have h7 := rd_other hn hT hc g9 hjn (by omega) (by omega)
        have key := ih (fu + 1) (j + 1) (c + 1) (upd rd (k5 + 4) (rd (k5 + 4) + iq 1)) (upd pr (st + c) (iq v)) (st_ vals c v) (by omega) (by omega) (by omega) h6 h7 (by omega) hr2 hp2
        have e5 : l_X12_readsPrices_2 (iq n) text (iq k5) (fu + 2) (iq 1) (iq i) (iq 1) (iq ((st + c : Nat) : Int)) rd pr = l_X12_readsPrices_2 (iq n) text (iq k5) (fu + 1) (iq 1) (iq ((j + 1 : Nat) : Int)) (iq 1) (iq ((st + (c + 1) : Nat) : Int)) (upd rd (k5 + 4) (rd (k5 + 4) + iq 1)) (upd pr (st + c) (iq v)) := by
          rw [show fu + 2 = (fu + 1) + 1 from rfl, l_X12_readsPrices_2, e9, e1, g1, bd3_s, m_sign hn ht (by omega), cc]
          simp (disch := omega) only [iq_l0, iq_l4, iq_l44, iq_eq, if_neg, if_pos, if_false, if_true, iq_add, iq_lt, iq_nat, gd_of, bd1_s, Int.toNat_natCast, e4]
          rfl
        rw [e5]
        rcases key with ⟨j2, pm, rd2, pr2, k1, k2⟩ | ⟨j2, c2, v2, dg2, rd2, pr2, vals2, k1, k2, k3, k4, k5', k6, k7, k8, k9, k10, k11, k12, k13, k14⟩
        · exact Or.inl ⟨j2, pm, rd2, pr2, k1, k2⟩
        · refine Or.inr ⟨j2, c2, v2, dg2, rd2, pr2, vals2, k1, by omega, k3, k4, k5', k6, k7, k8, k9, k10, k11, fun x hx => ?_, fun x hx => ?_, k14⟩
          · rw [k12 x hx, upd_ne hx]
          · rw [k13 x hx, upd_ne (by omega)]
      · refine Or.inr ⟨j, c, v, dg, upd rd (k5 + 4) (rd (k5 + 4) + iq 1), upd pr (st + c) (iq v), st_ vals c v, ?_, g2, g3, g4, g5, g6, fun q => ?_, g8, g9, by omega, hr2, fun x hx => upd_ne hx, fun x hx => upd_ne (by omega), hp2⟩
        · have hsb := sg_bd hT n j
          rw [show fu + 2 = (fu + 1) + 1 from rfl, l_X12_readsPrices_2, e9, e1, g1, bd3_s, m_sign hn ht (by omega)]
          simp (disch := omega) only [iq_l0, iq_l4, iq_l44, iq_eq, if_neg, if_false, if_true, iq_add, iq_lt, iq_nat, gd_of, bd1_s, Int.toNat_natCast, e4, Int.add_zero]
          rw [l_X12_readsPrices_2]
          simp only [iq_l0, if_true]
          rfl
        · rw [sg_in q] at cc; exact cc
/-- the end of a part: the works may end here; only a new part goes on -/
def PE (T : Nat → Nat) (n j : Nat) : Prop := ∃ l f dg v, At T j l f dg v ∧ fin l f dg v ∧ (j < n → T j ≠ 59 → No l f dg v (T j)) ∧ l ≠ 0
/-- what the reference keeps of a part -/
def BD (c q cnt : Nat) (vals : Nat → Int) (pm : Nat) (rd pr : Nat → Int32) : Prop := rd (5 * q) = iq c ∧
    ((c = 112 ∧ ∃ st, rd (5 * q + 3) = iq ((st : Nat) : Int) ∧ rd (5 * q + 4) = iq cnt ∧ 1 ≤ cnt ∧ st + cnt ≤ pm ∧ ∀ k, k < cnt → pr (st + k) = iq (vals k) ∧ 1 ≤ vals k ∧ vals k ≤ 9999) ∨
     (c = 119 ∧ cnt = 2 ∧ rd (5 * q + 1) = iq (vals 0) ∧ rd (5 * q + 2) = iq (vals 1) ∧ 1 ≤ vals 0 ∧ vals 0 ≤ 10 ∧ 2 ≤ vals 1 ∧ vals 1 ≤ 20) ∨
     (c = 109 ∧ cnt = 1 ∧ rd (5 * q + 1) = iq (vals 0) ∧ 0 ≤ vals 0 ∧ vals 0 ≤ 9) ∨
     (c = 108 ∧ cnt = 1 ∧ rd (5 * q + 1) = iq (vals 0) ∧ 0 ≤ vals 0 ∧ vals 0 ≤ 9999) ∨
     (c = 120 ∧ cnt = 1 ∧ rd (5 * q + 1) = iq (vals 0) ∧ 0 ≤ vals 0 ∧ vals 0 ≤ 59) ∨
     c = 97)
theorem BD_keep {c q cnt pm pm2 : Nat} {vals : Nat → Int} {rd pr rd2 pr2 : Nat → Int32} (h : BD c q cnt vals pm rd pr) (h1 : ∀ x, x < 5 * (q + 1) → rd2 x = rd x) (h2 : ∀ x, x < pm → pr2 x = pr x) (h3 : pm ≤ pm2) : BD c q cnt vals pm2 rd2 pr2 := by
  obtain ⟨g4, g5⟩ := h
  refine ⟨by rw [h1 _ (by omega)]; exact g4, ?_⟩
  rw [h1 (5 * q + 1) (by omega), h1 (5 * q + 2) (by omega), h1 (5 * q + 3) (by omega), h1 (5 * q + 4) (by omega)]
  rcases g5 with ⟨k0, st, k1, k2, k3, k4, k5⟩ | g5 | g5
  · exact Or.inl ⟨k0, st, k1, k2, k3, by omega, fun k hk => by rw [h2 _ (by omega)]; exact k5 k hk⟩
  · exact Or.inr (Or.inl g5)
  · exact Or.inr (Or.inr g5)
/-- .. and what the class's second reading tells of it -/
def PD (T : Nat → Nat) (codes : Nat → Int32) (n q b e pm : Nat) (rd pr : Nat → Int32) : Prop :=
  b < e ∧ e ≤ n ∧ ∃ (cnt : Nat) (vals : Nat → Int), RE codes n b e cnt (iq (T b)) vals ∧ BD (T b) q cnt vals pm rd pr
theorem PD_keep {T : Nat → Nat} {codes : Nat → Int32} {n q b e pm pm2 : Nat} {rd pr rd2 pr2 : Nat → Int32} (h : PD T codes n q b e pm rd pr) (h1 : ∀ x, x < 5 * (q + 1) → rd2 x = rd x) (h2 : ∀ x, x < pm → pr2 x = pr x) (h3 : pm ≤ pm2) : PD T codes n q b e pm2 rd2 pr2 := by
  obtain ⟨g1, g2, cnt, vals, g3, g4⟩ := h
  exact ⟨g1, g2, cnt, vals, g3, BD_keep g4 h1 h2 h3⟩
theorem end_of {T : Nat → Nat} {n j l f dg v : Nat} (h : At T j l f dg v) (hl : l ≠ 0) (hs : stn l f dg v) (hw : ¬ wlo l f) (h44 : l = 112 → j < n → T j ≠ 44) (hd : j < n → dig (T j) → No l f dg v (T j)) : PE T n j := by
  refine ⟨l, f, dg, v, h, ⟨hl, hs, hw⟩, fun hj h59 => ?_, hl⟩
  by_cases c : dig (T j)
  · exact hd hj c
  · exact Or.inr (Or.inr ⟨hl, c, Or.inr ⟨fun z => h59 z.1, fun z => h44 z.2 hj z.1, fun z => hw z.2⟩⟩)
theorem let_yes {c : Nat} (h : isL c) : (if iq c = 112 then (some 1 : Option Int32) else (if iq c = 119 then some 1 else (if iq c = 109 then some 1 else (if iq c = 108 then some 1 else (if iq c = 120 then some 1 else (if iq c = 97 then some 1 else some 0)))))) = some (iq 1) := by
  rcases h with rfl | rfl | rfl | rfl | rfl | rfl <;> rfl
theorem let_no {c : Nat} (h : ¬ isL c) (hc : c < 1000) : (if iq c = 112 then (some 1 : Option Int32) else (if iq c = 119 then some 1 else (if iq c = 109 then some 1 else (if iq c = 108 then some 1 else (if iq c = 120 then some 1 else (if iq c = 97 then some 1 else some 0)))))) = some (iq 0) := by
  unfold isL at h
  simp (disch := omega) only [iq_l97, iq_l108, iq_l109, iq_l112, iq_l119, iq_l120, iq_eq, if_neg, iq_l0]
theorem one_ne : ¬ iq 1 = 0 := by decide
theorem zero_is : iq 0 = 0 := rfl
theorem and_1 : iq 1 &&& 1 = iq 1 := by decide
theorem and_0 : iq 0 &&& 1 = iq 0 := by decide
set_option maxHeartbeats 4000000 in
theorem m_readsPart {T : Nat → Nat} (hT : ∀ i, T i < 1000) {n q i pm : Nat} {text codes : Nat → Int32} (hn : n ≤ 60) (ht : ∀ i, i < n → text i = iq (T i)) (hc : ∀ i, i < n → codes i = iq (T i)) (hi : i ≤ n) (hq : q ≤ 30) (hpm : 2 * pm ≤ i) (w : Int32) (rd pr : Nat → Int32) (h : At T i 0 0 0 0) :
    (∃ (j : Nat) (pm2 : Int32) (rd2 pr2 : Nat → Int32), f_X12_readsPart (iq n) (iq i) w (iq q) (iq pm) text rd pr = some (iq j, iq 0, iq q, pm2, rd2, pr2) ∧ Dead T n j) ∨
    (∃ (j pm2 : Nat) (rd2 pr2 : Nat → Int32), f_X12_readsPart (iq n) (iq i) w (iq q) (iq pm) text rd pr = some (iq j, iq 1, iq ((q + 1 : Nat) : Int), iq pm2, rd2, pr2) ∧ i < j ∧ j ≤ n ∧ PE T n j ∧ (∃ (cnt inn : Nat) (vals : Nat → Int), Rd codes n i j inn cnt vals ∧ BD (T i) q cnt vals pm2 rd2 pr2) ∧ pm ≤ pm2 ∧ 2 * pm2 ≤ j ∧ (∀ x, x < 5 * q → rd2 x = rd x) ∧ (∀ x, x < pm → pr2 x = pr x)) := by
  have hsb := sg_bd hT n i
  have k5 : (5 * (q : Int)).toNat = 5 * q := by omega
  have k53 : (5 * (q : Int) + 3).toNat = 5 * q + 3 := by omega
  have k54 : (5 * (q : Int) + 4).toNat = 5 * q + 4 := by omega
  have k51 : (5 * (q : Int) + 1).toNat = 5 * q + 1 := by omega
  have k52 : (5 * (q : Int) + 2).toNat = 5 * q + 2 := by omega
  generalize hX : f_X12_readsPart (iq n) (iq i) w (iq q) (iq pm) text rd pr = X
  unfold f_X12_readsPart at hX
  rw [m_sign hn ht (by omega), bd1_s] at hX
  by_cases cL : isL (sg T n i)
  · have hin : i < n := Classical.byContradiction fun z => by rw [sg_out z] at cL; unfold isL at cL; omega
    have hs := sg_in (T := T) hin
    rw [let_yes cL, bd1_s, gd_of and_1, if_neg one_ne, bd1_s, hs] at hX
    rw [hs] at cL
    have h1 : At T (i + 1) (T i) 0 0 0 := ⟨0, 0, 0, 0, h, Or.inl ⟨rfl, cL, rfl, rfl, rfl, rfl⟩⟩
    have hr0 := rd_start codes n i (fun _ => 0)
    simp (disch := omega) only [iq_l0, iq_l3, iq_l4, iq_l5, iq_l1, iq_mul, iq_add, iq_lt, iq_nat, gd_of, k5, k53, k54] at hX
    have r3 : ∀ x, x < 5 * q → upd (upd (upd rd (5 * q) (iq (T i))) (5 * q + 3) (iq pm)) (5 * q + 4) (iq 0) x = rd x := fun x hx => by rw [upd_ne (by omega), upd_ne (by omega), upd_ne (by omega)]
    have r0 : upd (upd (upd rd (5 * q) (iq (T i))) (5 * q + 3) (iq pm)) (5 * q + 4) (iq 0) (5 * q) = iq (T i) := by rw [upd_ne (by omega), upd_ne (by omega), upd_self]
    rcases cL with c | c | c | c | c | c
    · -- a
      refine Or.inr ⟨i + 1, pm, upd (upd (upd rd (5 * q) (iq (T i))) (5 * q + 3) (iq pm)) (5 * q + 4) (iq 0), pr, ?_, by omega, by omega, end_of h1 (by omega) (Or.inl c) (fun z => by unfold wlo at z; omega) (fun z => by omega) (fun hj hd => Or.inr (Or.inl ⟨by omega, hd.1, hd.2, Or.inl c⟩)), ⟨0, 0, fun _ => 0, hr0, r0, Or.inr (Or.inr (Or.inr (Or.inr (Or.inr c))))⟩, Nat.le_refl _, by omega, r3, fun _ _ => rfl⟩
      rw [← hX]
      simp (disch := omega) only [iq_l112, iq_l119, iq_l109, iq_l108, iq_l120, iq_eq, if_neg, if_false, bd5_s, bd1_s, iq_add]
      rfl
    · -- l
      rcases m_number hT (L := 108) (F := 0) (b := i) (cnt := 0) (lo := 0) (hi := 9999) hn ht hc (by omega) (by omega) (by omega) rfl rfl (by omega) (by omega) (c ▸ h1) hr0 with ⟨r, g1, g2⟩ | ⟨j, v, dg, g1, g2, g3, g4, g5, g6, g7, g8, g9⟩
      · have g1 : f_X12_number (iq n) (iq ((i : Int) + 1)) (iq 1) text (iq 0) (iq 9999) = some (r, iq ((i + 1 : Nat) : Int), iq 0) := g1
        refine Or.inl ⟨i + 1, iq pm, upd (upd (upd (upd rd (5 * q) (iq (T i))) (5 * q + 3) (iq pm)) (5 * q + 4) (iq 0)) (5 * q + 1) r, pr, ?_, g2⟩
        rw [← hX]
        simp (disch := omega) only [iq_l112, iq_l119, iq_l109, iq_l108, iq_eq, if_neg, if_pos, iq_l9999, g1, bd3_s, iq_lt, iq_nat, gd_of, bd5_s, if_true, bd1_s, iq_add, Int.add_zero, k51]
      · have g1 : f_X12_number (iq n) (iq ((i : Int) + 1)) (iq 1) text (iq 0) (iq 9999) = some (iq v, iq j, iq 1) := g1
        refine Or.inr ⟨j, pm, upd (upd (upd (upd rd (5 * q) (iq (T i))) (5 * q + 3) (iq pm)) (5 * q + 4) (iq 0)) (5 * q + 1) (iq v), pr, ?_, by omega, g3, end_of g4 (by omega) (Or.inr ⟨g5, g6⟩) (fun z => by unfold wlo at z; omega) (fun z => by omega) g8, ⟨1, 1, _, g9, by rw [upd_ne (by omega)]; exact r0, Or.inr (Or.inr (Or.inr (Or.inl ⟨c, rfl, upd_self _ _ _, ?_, ?_⟩)))⟩, Nat.le_refl _, by omega, fun x hx => by rw [upd_ne (by omega)]; exact r3 x hx, fun _ _ => rfl⟩
        · rw [← hX]
          simp (disch := omega) only [iq_l112, iq_l119, iq_l109, iq_l108, iq_eq, if_neg, if_pos, iq_l9999, g1, bd3_s, iq_lt, iq_nat, gd_of, bd5_s, if_false, bd1_s, iq_add, k51]
          rfl
        · show 0 ≤ st_ (fun _ => 0) 0 (v : Int) 0; unfold st_; rw [if_pos rfl]; omega
        · show st_ (fun _ => 0) 0 (v : Int) 0 ≤ 9999; unfold st_; rw [if_pos rfl]; omega
    · -- m
      rcases m_digit hT (b := i) (cnt := 0) hn ht hc (by omega) (by omega) (c ▸ h1) hr0 with ⟨r, g1, g2⟩ | ⟨j, v, dg, g1, g2, g3, g4, g5, g6, g7, g8, g9⟩
      · have g1 : f_X12_takes (iq n) (iq ((i : Int) + 1)) (iq 1) text (iq 48) (iq 57) = some (r, iq ((i + 1 : Nat) : Int), iq 0) := g1
        refine Or.inl ⟨i + 1, iq pm, upd (upd (upd (upd rd (5 * q) (iq (T i))) (5 * q + 3) (iq pm)) (5 * q + 4) (iq 0)) (5 * q + 1) r, pr, ?_, g2⟩
        rw [← hX]
        simp (disch := omega) only [iq_l112, iq_l119, iq_l109, iq_eq, if_neg, if_pos, iq_l48, iq_l57, g1, bd3_s, iq_lt, iq_nat, gd_of, bd5_s, if_true, bd1_s, iq_add, Int.add_zero, k51]
      · have g1 : f_X12_takes (iq n) (iq ((i : Int) + 1)) (iq 1) text (iq 48) (iq 57) = some (iq v, iq j, iq 1) := g1
        refine Or.inr ⟨j, pm, upd (upd (upd (upd rd (5 * q) (iq (T i))) (5 * q + 3) (iq pm)) (5 * q + 4) (iq 0)) (5 * q + 1) (iq v), pr, ?_, by omega, g3, end_of g4 (by omega) (Or.inr ⟨g5, g6⟩) (fun z => by unfold wlo at z; omega) (fun z => by omega) g8, ⟨1, 1, _, g9, by rw [upd_ne (by omega)]; exact r0, Or.inr (Or.inr (Or.inl ⟨c, rfl, upd_self _ _ _, ?_, ?_⟩))⟩, Nat.le_refl _, by omega, fun x hx => by rw [upd_ne (by omega)]; exact r3 x hx, fun _ _ => rfl⟩
        · rw [← hX]
          simp (disch := omega) only [iq_l112, iq_l119, iq_l109, iq_eq, if_neg, if_pos, iq_l48, iq_l57, g1, bd3_s, iq_lt, iq_nat, gd_of, bd5_s, if_false, bd1_s, iq_add, k51]
          rfl
        · show 0 ≤ st_ (fun _ => 0) 0 (v : Int) 0; unfold st_; rw [if_pos rfl]; omega
        · show st_ (fun _ => 0) 0 (v : Int) 0 ≤ 9; unfold st_; rw [if_pos rfl]; omega
    · -- p
      rcases m_prices_loop hT (b := i) (k5 := 5 * q) (st := pm) hn ht hc (by omega) 60 1000 (i + 1) 0 (upd (upd (upd rd (5 * q) (iq (T i))) (5 * q + 3) (iq pm)) (5 * q + 4) (iq 0)) pr (fun _ => 0) (by omega) (by omega) (by omega) (c ▸ h1) hr0 (by omega) (upd_self _ _ _) (fun k hk => absurd hk (Nat.not_lt_zero _)) with ⟨j, pm2, rd2, pr2, g1, g2⟩ | ⟨j, c2, v, dg, rd2, pr2, vals2, g1, g2, g3, g4, g5, g6, g7, g8, g9, g10, g11, g12, g13, g14⟩
      · have g1 : l_X12_readsPrices_2 (iq n) text (iq (5 * (q : Int))) 1000 (iq 1) (iq ((i : Int) + 1)) (iq 1) (iq pm) (upd (upd (upd rd (5 * q) (iq (T i))) (5 * q + 3) (iq pm)) (5 * q + 4) (iq 0)) pr = some (iq j, iq 0, pm2, rd2, pr2) := g1
        refine Or.inl ⟨j, pm2, rd2, pr2, ?_, g2⟩
        rw [← hX]
        simp (disch := omega) only [iq_l112, iq_eq, if_pos, f_X12_readsPrices, iq_l1, g1, bd5_s, if_true, bd1_s, iq_add, Int.add_zero]
      · have g1 : l_X12_readsPrices_2 (iq n) text (iq (5 * (q : Int))) 1000 (iq 1) (iq ((i : Int) + 1)) (iq 1) (iq pm) (upd (upd (upd rd (5 * q) (iq (T i))) (5 * q + 3) (iq pm)) (5 * q + 4) (iq 0)) pr = some (iq j, iq 1, iq ((pm + (c2 + 1) : Nat) : Int), rd2, pr2) := g1
        refine Or.inr ⟨j, pm + (c2 + 1), rd2, pr2, ?_, by omega, g3, end_of g4 (by omega) (Or.inr ⟨g5, g6⟩) (fun z => by unfold wlo at z; omega) (fun _ => g7) g8, ⟨c2 + 1, 1, vals2, g9, by rw [g12 _ (by omega)]; exact r0, Or.inl ⟨c, pm, by rw [g12 _ (by omega), upd_ne (by omega), upd_self], g11, by omega, Nat.le_refl _, g14⟩⟩, by omega, g10, fun x hx => by rw [g12 _ (by omega)]; exact r3 x hx, g13⟩
        rw [← hX]
        simp (disch := omega) only [iq_l112, iq_eq, if_pos, if_neg, if_false, f_X12_readsPrices, iq_l1, g1, bd5_s, bd1_s, iq_add]
        rfl
    · -- w
      rcases m_number hT (L := 119) (F := 0) (b := i) (cnt := 0) (lo := 1) (hi := 10) hn ht hc (by omega) (by omega) (by omega) rfl rfl (by omega) (by omega) (c ▸ h1) hr0 with ⟨r, g1, g2⟩ | ⟨j, v, dg, g1, g2, g3, g4, g5, g6, g7, g8, g9⟩
      · have g1 : f_X12_number (iq n) (iq ((i : Int) + 1)) (iq 1) text (iq 1) (iq 10) = some (r, iq ((i + 1 : Nat) : Int), iq 0) := g1
        have g3 := m_takes_0 (T := T) (n := n) (i := i + 1) hn ht (by omega) (iq 58) (iq 58)
        obtain ⟨r2, g4⟩ := m_long_0 (T := T) (n := n) (i := i + 1) hn ht (by omega)
        refine Or.inl ⟨i + 1, iq pm, upd (upd (upd (upd (upd rd (5 * q) (iq (T i))) (5 * q + 3) (iq pm)) (5 * q + 4) (iq 0)) (5 * q + 1) r) (5 * q + 2) r2, pr, ?_, g2⟩
        rw [← hX]
        simp (disch := omega) only [iq_l112, iq_l119, iq_eq, if_neg, if_pos, iq_l1, iq_l2, iq_l10, iq_l58, g1, g3, g4, bd3_s, iq_lt, iq_nat, gd_of, bd5_s, if_true, bd1_s, iq_add, Int.add_zero, k51, k52]
      · have g1 : f_X12_number (iq n) (iq ((i : Int) + 1)) (iq 1) text (iq 1) (iq 10) = some (iq v, iq j, iq 1) := g1
        by_cases cc : sg T n j = 58
        · have hjn : j < n := Classical.byContradiction fun z => by rw [sg_out z] at cc; omega
          have hTj : T j = 58 := by rw [← sg_in (T := T) hjn]; exact cc
          have t1 : f_X12_takes (iq n) (iq j) (iq 1) text (iq 58) (iq 58) = some (iq ((sg T n j : Int) - 48), iq ((j + 1 : Nat) : Int), iq 1) := m_takes_yes hT (lo := 58) (hi := 58) hn ht (by omega) (by omega) (by omega) (by omega)
          have h6 : At T (j + 1) 119 1 0 0 := ⟨119, 0, dg, v, g4, Or.inr (Or.inr (Or.inr ⟨by omega, by omega, Or.inr ⟨g5, g6⟩, Or.inr ⟨hTj, rfl, rfl⟩, rfl, rfl, rfl, rfl⟩))⟩
          have h7 := rd_other hn hT hc g9 hjn (by omega) (by omega)
          rcases m_long hT (b := i) (cnt := 1) hn ht hc (by omega) (by omega) h6 h7 with ⟨r2, j2, y1, y2⟩ | ⟨j2, v2, dg2, y1, y2, y3, y4, y5, y6, y7, y8, y9⟩
          · refine Or.inl ⟨j2, iq pm, upd (upd (upd (upd (upd rd (5 * q) (iq (T i))) (5 * q + 3) (iq pm)) (5 * q + 4) (iq 0)) (5 * q + 1) (iq v)) (5 * q + 2) r2, pr, ?_, y2⟩
            rw [← hX]
            simp (disch := omega) only [iq_l112, iq_l119, iq_eq, if_neg, if_pos, iq_l1, iq_l2, iq_l10, iq_l58, g1, t1, y1, bd3_s, iq_lt, iq_nat, gd_of, bd5_s, if_true, bd1_s, iq_add, Int.add_zero, k51, k52]
          · refine Or.inr ⟨j2, pm, upd (upd (upd (upd (upd rd (5 * q) (iq (T i))) (5 * q + 3) (iq pm)) (5 * q + 4) (iq 0)) (5 * q + 1) (iq v)) (5 * q + 2) (iq v2), pr, ?_, by omega, y3, end_of y4 (by omega) (Or.inr ⟨y5, y6⟩) (fun z => by unfold wlo at z; omega) (fun z => by omega) y8, ⟨2, 1, _, y9, by rw [upd_ne (by omega), upd_ne (by omega)]; exact r0, Or.inr (Or.inl ⟨c, rfl, ?_, upd_self _ _ _, ?_, ?_, ?_, ?_⟩)⟩, Nat.le_refl _, by omega, fun x hx => by rw [upd_ne (by omega), upd_ne (by omega)]; exact r3 x hx, fun _ _ => rfl⟩
            · rw [← hX]
              simp (disch := omega) only [iq_l112, iq_l119, iq_eq, if_neg, if_pos, iq_l1, iq_l2, iq_l10, iq_l58, g1, t1, y1, bd3_s, iq_lt, iq_nat, gd_of, bd5_s, if_false, bd1_s, iq_add, k51, k52]
              rfl
            · rw [upd_ne (by omega), upd_self]; rfl
            · show 1 ≤ (v : Int); omega
            · show (v : Int) ≤ 10; omega
            · show 2 ≤ (v2 : Int); omega
            · show (v2 : Int) ≤ 20; omega
        · have hsj := sg_bd hT n j
          have t1 : f_X12_takes (iq n) (iq j) (iq 1) text (iq 58) (iq 58) = some (iq ((sg T n j : Int) - 48), iq j, iq 0) := m_takes_no hT (lo := 58) (hi := 58) hn ht (by omega) (by omega) (by omega) (by omega)
          obtain ⟨r2, y1⟩ := m_long_0 (T := T) (n := n) (i := j) hn ht (by omega)
          refine Or.inl ⟨j, iq pm, upd (upd (upd (upd (upd rd (5 * q) (iq (T i))) (5 * q + 3) (iq pm)) (5 * q + 4) (iq 0)) (5 * q + 1) (iq v)) (5 * q + 2) r2, pr, ?_, 119, 0, dg, v, g4, ?_⟩
          · rw [← hX]
            simp (disch := omega) only [iq_l112, iq_l119, iq_eq, if_neg, if_pos, iq_l1, iq_l2, iq_l10, iq_l58, g1, t1, y1, bd3_s, iq_lt, iq_nat, gd_of, bd5_s, if_true, bd1_s, iq_add, Int.add_zero, k51, k52]
          · by_cases c9 : j = n
            · exact Or.inr ⟨c9, fun z => z.2.2 ⟨rfl, rfl⟩⟩
            · refine Or.inl ⟨by omega, ?_⟩
              by_cases cd : dig (T j)
              · exact g8 (by omega) cd
              · rw [sg_in (by omega)] at cc
                exact Or.inr (Or.inr ⟨by omega, cd, Or.inr ⟨fun z => z.2 ⟨rfl, rfl⟩, fun z => by omega, fun z => cc z.1⟩⟩)
    · -- x
      rcases m_number hT (L := 120) (F := 0) (b := i) (cnt := 0) (lo := 0) (hi := 59) hn ht hc (by omega) (by omega) (by omega) rfl rfl (by omega) (by omega) (c ▸ h1) hr0 with ⟨r, g1, g2⟩ | ⟨j, v, dg, g1, g2, g3, g4, g5, g6, g7, g8, g9⟩
      · have g1 : f_X12_number (iq n) (iq ((i : Int) + 1)) (iq 1) text (iq 0) (iq 59) = some (r, iq ((i + 1 : Nat) : Int), iq 0) := g1
        refine Or.inl ⟨i + 1, iq pm, upd (upd (upd (upd rd (5 * q) (iq (T i))) (5 * q + 3) (iq pm)) (5 * q + 4) (iq 0)) (5 * q + 1) r, pr, ?_, g2⟩
        rw [← hX]
        simp (disch := omega) only [iq_l112, iq_l119, iq_l109, iq_l108, iq_l120, iq_eq, if_neg, if_pos, iq_l59, g1, bd3_s, iq_lt, iq_nat, gd_of, bd5_s, if_true, bd1_s, iq_add, Int.add_zero, k51]
      · have g1 : f_X12_number (iq n) (iq ((i : Int) + 1)) (iq 1) text (iq 0) (iq 59) = some (iq v, iq j, iq 1) := g1
        refine Or.inr ⟨j, pm, upd (upd (upd (upd rd (5 * q) (iq (T i))) (5 * q + 3) (iq pm)) (5 * q + 4) (iq 0)) (5 * q + 1) (iq v), pr, ?_, by omega, g3, end_of g4 (by omega) (Or.inr ⟨g5, g6⟩) (fun z => by unfold wlo at z; omega) (fun z => by omega) g8, ⟨1, 1, _, g9, by rw [upd_ne (by omega)]; exact r0, Or.inr (Or.inr (Or.inr (Or.inr (Or.inl ⟨c, rfl, upd_self _ _ _, ?_, ?_⟩))))⟩, Nat.le_refl _, by omega, fun x hx => by rw [upd_ne (by omega)]; exact r3 x hx, fun _ _ => rfl⟩
        · rw [← hX]
          simp (disch := omega) only [iq_l112, iq_l119, iq_l109, iq_l108, iq_l120, iq_eq, if_neg, if_pos, iq_l59, g1, bd3_s, iq_lt, iq_nat, gd_of, bd5_s, if_false, bd1_s, iq_add, k51]
          rfl
        · show 0 ≤ st_ (fun _ => 0) 0 (v : Int) 0; unfold st_; rw [if_pos rfl]; omega
        · show st_ (fun _ => 0) 0 (v : Int) 0 ≤ 59; unfold st_; rw [if_pos rfl]; omega
  · rw [let_no cL hsb, bd1_s, gd_of and_0, if_pos zero_is, bd1_s] at hX
    simp (disch := omega) only [iq_l0, iq_l3, iq_l4, iq_l5, iq_mul, iq_add, iq_lt, iq_nat, gd_of, k5, k53, k54] at hX
    refine Or.inl ⟨i, iq pm, upd (upd (upd rd (5 * q) (iq (sg T n i))) (5 * q + 3) (iq pm)) (5 * q + 4) (iq 0), pr, ?_, 0, 0, 0, 0, h, ?_⟩
    · rw [← hX]
      unfold isL at cL
      simp (disch := omega) only [iq_l112, iq_l119, iq_l109, iq_l108, iq_l120, iq_eq, if_neg, bd5_s, if_true, bd1_s, iq_add, Int.add_zero]
    · by_cases c9 : i = n
      · exact Or.inr ⟨c9, fun z => z.1 rfl⟩
      · rw [sg_in (by omega)] at cL
        exact Or.inl ⟨by omega, Or.inl ⟨rfl, cL⟩⟩
