/-! the share of smooth days; the digest -/
def shv (k n : Nat) : UInt64 := FP.ddiv (FP.i2d (iq k)) (FP.i2d (iq n))
/-- the value of the share -/
def shr (P : Nat → Int) (w : Nat) (lim : Int) (n : Nat) : UInt64 := if n = 0 then FP.dconst1 else shv (n - (cs_ P w lim n).toNat) n
theorem cs_first {n : Nat} {P : Nat → Int} (h : PB n P) {w : Nat} {lim : Int} (hn : 0 < n) (hw : 1 ≤ w) (hl : 0 ≤ lim) : ∀ {m : Nat}, 1 ≤ m → m ≤ n → cs_ P w lim m ≤ m - 1 := by
  intro m
  induction m with
  | zero => intro h1; omega
  | succ m ih =>
    intro h1 h2
    rw [cs_succ]
    have hc := cr_le P m w lim
    by_cases c : m = 0
    · subst c
      rw [cr_0 h hn hw hl]
      unfold cs_ sa
      omega
    · have := ih (by omega) (by omega)
      omega
/-! the parts of the digest -/
def w6 (z : Int) : Int64 := Int32.toInt64 (iq z)
def dhv (P : Nat → Int) (n a b se : Nat) (me li : Int) (d : Nat) (h : Int64) : Int64 :=
  31 * (31 * (31 * (31 * (31 * (31 * (31 * (31 * (31 * (31 * (31 * (31 * (31 * (31 * (31 * h + w6 (P d)) + w6 (mn P d a)) + w6 (mn P d a)) + w6 (mn P d b)) + w6 (wm P d b)) + w6 (sp me P d)) + w6 (sp me P d)) + w6 (md P d a)) + w6 (cr P d a li)) + w6 (gm P (fw d b) (nw d b))) + w6 (gm P (fw d b) (nw d b))) + w6 (co P a b d)) + w6 (tr P a b (d + 1)).2) + lq (wv P a b d)) + lq (br P se d n)
def hdl (P : Nat → Int) (n a b se : Nat) (me li : Int) : Nat → Nat → Int64 → Int64
  | 0, _, h => h
  | m + 1, d, h => hdl P n a b se me li m (d + 1) (dhv P n a b se me li d h)
theorem w6_0 : w6 0 = 0 := by decide
theorem w6_1 : w6 1 = 1 := by decide
/-- the season's part -/
def shl_ (P : Nat → Int) (se n : Nat) : Nat → Nat → Int64 → Int64
  | 0, _, h => h
  | m + 1, p, h => if p < n then shl_ P se n m (p + 1) (31 * h + w6 (ix P se p n)) else shl_ P se n m (p + 1) h
theorem shl_past {P : Nat → Int} {se n : Nat} : ∀ (m p : Nat) (h : Int64), n ≤ p → shl_ P se n m p h = h := by
  intro m
  induction m with
  | zero => intro p h _; rfl
  | succ m ih =>
    intro p h hp
    show (if p < n then _ else shl_ P se n m (p + 1) h) = h
    rw [if_neg (by omega), ih (p + 1) h (by omega)]
/-- four methods -/
def ith (g : Nat → Int) : Nat → Nat → Int64 → Int64
  | 0, _, h => h
  | m + 1, q, h => ith g m (q + 1) (31 * h + w6 (g q))
def fch (me : Int) (P : Nat → Int) (a b se n : Nat) (x : Int64) : Int64 := if n < 1 then x else ith (fun q => td me P a b se q n) 4 0 x
def erh (me : Int) (P : Nat → Int) (a b se n : Nat) (x : Int64) : Int64 := if n < 2 then x else 31 * ith (fun q => er me P a b se q n) 4 0 x + w6 (bt me P a b se n 3 : Nat)
/-- the text's part -/
def txh (T : Nat → Nat) : Nat → Nat → Int64 → Int64
  | 0, _, h => h
  | m + 1, i, h => txh T m (i + 1) (31 * h + w6 (T i : Nat))