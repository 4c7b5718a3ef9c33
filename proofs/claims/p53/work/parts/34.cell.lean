/-- the script's k-th cell, as the law reads it -/
def cellv (xs : Nat → Int32) (L : Nat) (k : Int32) : Int32 := if Int32.ofNat L ≤ k then 7919 * (k + 3) * (k + 11) else xs k.toNatClampNeg
def ceP (b L : Nat) (xs : Nat → Int32) (k : Int32) : Array Value → State → Prop := va_Pc [.ref b, .int k] (fun U => va_X b L xs U U.heap ∧ b < U.heap.size)
theorem ceP_blind {b L : Nat} {xs : Nat → Int32} {k : Int32} : FrameBlind (ceP b L xs k) := fun a U g mk q => ⟨q.1, va_X.moved (u := U) (U := U.calling g mk a) (Vm.Alike.refl U.vm) q.2.1, q.2.2⟩
theorem cellv_in {L : Nat} {k : Int32} (hL : L ≤ 260) (hk : ¬ k < 0) (c0 : ¬ Int32.ofNat L ≤ k) : vp_in k L := by
  have e1 : (Int32.ofNat L).toInt = L := by
    rw [← Int32.ofInt_eq_ofNat]
    exact Int32.toInt_ofInt_of_le (by omega) (by omega)
  have h1 : ¬ (L : Int) ≤ k.toInt := fun h => c0 (Int32.le_iff_toInt_le.mpr (by rw [e1]; exact h))
  have h0 : 0 ≤ k.toInt := by
    have h3 : ¬ k.toInt < (0 : Int32).toInt := fun h => hk (Int32.lt_iff_toInt_lt.mpr h)
    rw [show (0 : Int32).toInt = 0 from rfl] at h3
    omega
  have h2 : k.toNatClampNeg < L := by
    show k.toInt.toNat < L
    omega
  rintro (h | h)
  · exact hk h
  · omega
theorem c_L_cell (l : Launch) (b L : Nat) (xs : Nat → Int32) (k : Int32) (hL : L ≤ 260) (hk : ¬ k < 0) : Met l yL_cell (wsm yL_cell cL_cell 2 (some .int)) { frames := 0, cells := 0, slots := 0, locals := 0 } (ceP b L xs k) (rdQ (some (.int (cellv xs L k)))) 0 0 (fun _ => False) := by
  refine Met.ofW (cc := cL_cell) (maxL := 2) (ret := some .int) (by decide) rfl ?_
  intro p e s m args below meth c s₁ B hml hv
  obtain ⟨rfl, hX, hbl⟩ := hv
  have hl := lv_entry [.ref b, .int k] (n := 2) (Nat.le_of_ble_eq_true rfl)
  rw [lg_entry_eq]
  generalize (lg_sl ([.ref b, .int k]) ++ List.replicate (2 - (lg_sl ([.ref b, .int k])).length) Slot.unset).toArray = ls at hl ⊢
  have hl : lv_has ls 2 [(0, .ref b), (1, .int k)] := hl
  have hx := B.exec
  have hb := B.bytes
  have hr := B.returns
  have hbA : ¬ (fun q : Nat => s.heap.size ≤ q) b := Nat.not_le.mpr hbl
  have hS : va_S (fun q : Nat => s.heap.size ≤ q) s.heap s.heap [] := va_S.rf
  have K : ∀ (w v : Int32) (ls : Array Slot), lv_has ls 2 [(0, .ref b), (1, .int k)] → v = cellv xs L k → W p l e { frames := 0, cells := 0, slots := 0, locals := 0 } s m [Value.ref b, Value.int k].toArray below meth c s.heap [] 0 0 (MQ below (rdQ (some (.int (cellv xs L k)))) [Value.ref b, Value.int k].toArray s 0 0 (fun _ => False)) (F0 m 24 ls [.int v]) := by
    intro w v ls hl e
    subst e
    exact W.iret hx hb hr (fun t ht hW => ⟨rfl, ht⟩) (fun q hq => by cases hq) dL_cell_24
  refine lv_iload_n hx hb dL_cell_0 rfl (lv_at hl 1 rfl) ?_
  refine lv_aload_n hx hb dL_cell_1 rfl (lv_at hl 0 rfl) ?_
  refine va_slen hx hb hX hbl hbA hS dL_cell_2 ?_
  refine lv_icmp_ge (tgt := 12) hx hb dL_cell_3 (by decide) (fun c0 => ?_) (fun c0 => ?_)
  · refine lv_sipush (v := 7919) hx hb dL_cell_12 (by decide) ?_
    refine lv_iload_n hx hb dL_cell_15 rfl (lv_at hl 1 rfl) ?_
    refine lv_iconst (v := 3) hx hb dL_cell_16 (by decide) ?_
    refine lv_iadd hx hb dL_cell_17 ?_
    refine lv_imul hx hb dL_cell_18 ?_
    refine lv_iload_n hx hb dL_cell_19 rfl (lv_at hl 1 rfl) ?_
    refine lv_bipush (v := 11) hx hb dL_cell_20 (by decide) ?_
    refine lv_iadd hx hb dL_cell_22 ?_
    refine lv_imul hx hb dL_cell_23 ?_
    exact K 0 _ ls hl (by unfold cellv; rw [if_pos c0])
  · refine lv_aload_n hx hb dL_cell_6 rfl (lv_at hl 0 rfl) ?_
    refine lv_iload_n hx hb dL_cell_7 rfl (lv_at hl 1 rfl) ?_
    refine va_sld hx hb hX hbl hbA hS (cellv_in hL hk c0) dL_cell_8 ?_
    refine lv_goto (tgt := 24) hx hb dL_cell_9 (by decide) ?_
    exact K 0 _ ls hl (by unfold cellv; rw [if_neg c0])
section CELL
variable {p : Program} {l : Launch} {e : Env} {R : Room} {s : State} {m : MethodId} {args : Array Value} {below : List Frame} {meth : Method} {c : Code} {H : Heap} {locs : List Loc} {cells slots : Nat} {Q : State → Prop}
variable {pc : Nat} {ls : Array Slot} {rest : List Value} {cc : ByteArray} {nL index : Nat} {own : String} {w0 : Cond} {A : Nat → Prop} {b L : Nat} {xs : Nat → Int32} {k : Int32}
theorem k_L_cell : KS yL_cell cL_cell 2 (some .int) 2 := ⟨qc_yL_cell, q0, ⟨by decide +kernel, by decide +kernel, by decide +kernel⟩, qt_yL_cell⟩
theorem cellS (hF : CallFix p m c cc nL s args (w0 :: AW) own) (hX : va_X b L xs s s.heap) (hbl : b < s.heap.size) (hbA : ¬ A b) (hL : L ≤ 260) (hS : va_S A s.heap H locs) (hsz : ls.size = nL) (hk : ¬ k < 0) (hn : Cond.methodLink own index yL_cell ∈ AW)
    (hcat : (rest.map fun v => v.category).sum ≤ 8) (hR : 0 + 1 ≤ R.frames ∧ 8 + (2 + 11) + 0 ≤ R.locals) (hf : cells ≤ R.cells ∧ slots ≤ R.slots) (hdg : decode cc pc = .ok (.invokestatic index, 3))
    (kk : W p l e R s m args below meth c H locs cells slots Q (F0 m (pc + 3) ls (.int (cellv xs L k) :: rest))) : W p l e R s m args below meth c H locs cells slots Q (F0 m pc ls (.int k :: .ref b :: rest)) :=
  crd (va_runS hF (c_L_cell l b L xs k hL hk) ⟨cwo hF k_L_cell.1 k_L_cell.2.1 k_L_cell.2.2.1 hn hR, hF.2.2.2.2 _ (List.mem_cons_of_mem _ k_L_cell.2.2.2)⟩
    ⟨ceP_blind, fun U hU hW => ⟨rfl, by rw [hU]; exact va_X.kept (va_X.moved hW.alike hX) (hS.2.1 b hbl hbA), by rw [hU]; exact Nat.lt_of_lt_of_le hbl hS.1⟩⟩ (As := [.ref b, .int k]) rfl rfl hsz rfl (lv_room hcat) hdg hf) kk
end CELL
