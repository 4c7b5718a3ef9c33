theorem upd_self (f : Nat → Int32) (k : Nat) (x : Int32) : upd f k x k = x := if_pos rfl
theorem upd_ne {f : Nat → Int32} {k j : Nat} {x : Int32} (h : j ≠ k) : upd f k x j = f j := if_neg h
theorem cpy_row (f g : Nat → Int32) : ∀ j, j < 60 → va_cpy f g 0 0 60 j = f j := fun j hj => by
  unfold va_cpy
  rw [if_pos (by omega), show 0 + (j - 0) = j by omega]
theorem x_newest {o c : Nat} (ho : o < 6) (hc : c ≤ 6) : f_X3_newest (iq o) (iq c) = some (iq (((o + c + 5) % 6 : Nat) : Int)) := by
  have e : ((o : Int) + c + 6 - 1 - ((o : Int) + c + 6 - 1) / 6 * 6) = (((o + c + 5) % 6 : Nat) : Int) := by omega
  have e2 : (o + c + 5) % 6 < 6 := by omega
  unfold f_X3_newest
  simp (disch := omega) only [iq_l6, iq_l1, iq_add, iq_sub, iq_div, iq_mul]
  rw [e]
  simp (disch := omega) only [iq_l0, iq_lt, iq_le, iq_nat, if_neg, gd_of, Int.toNat_natCast]
def shv (k n : Nat) : UInt64 := FP.ddiv (FP.i2d (iq k)) (FP.i2d (iq n))
/-- the value of the share -/
def shr (P : Nat → Int) (w : Nat) (lim : Int) (n : Nat) : UInt64 := if n = 0 then FP.dconst1 else shv (n - (cs_ P w lim n).toNat) n
theorem cs_first {n : Nat} {P : Nat → Int} (h : PB n P) {w : Nat} {lim : Int} (hn : 0 < n) (hw : 1 ≤ w) (hl : 0 ≤ lim) : ∀ {m : Nat}, 1 ≤ m → m ≤ n → cs_ P w lim m ≤ m - 1 := by
  intro m
  induction m with
  | zero => intro h1; omega
  | succ m ih =>
    intro h1 h2
    rw [cs_succ]
    have hc := cr_le P m w lim
    by_cases c : m = 0
    · subst c
      rw [cr_0 h hn hw hl]
      unfold cs_ sa
      omega
    · have := ih (by omega) (by omega)
      omega
