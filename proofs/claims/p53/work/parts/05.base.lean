/-! the ground that all methods share: the words, the world's kinds, contracts of methods that read, write, throw -/
abbrev GP : Type := va_G × ClassId × ClassId × ClassId
abbrev GT (G : GP) : List (ClassId × FieldType) := [(G.2.1, .int), (G.2.1, .int), (G.2.2.2, .object "PriceIrons$State")]
def GC (G : GP) (U : State) : Prop := va_K G.1 vwCl (GT G) U ∧ (∀ w ∈ NWL, va_Nw w U) ∧ True
theorem nest_warm {w : Cond} (hw : isNest w = true) {s U : State} (hW : s.WarmedH U.vm) (h : va_Nw w s) : va_Nw w U := by
  cases w <;> first | exact va_Nw.warmF hW h | exact va_Nw.warmM hW h | exact va_Nw.warmC hW h | exact va_Nw.warmD hW h | exact absurd hw Bool.false_ne_true
theorem GC.warm {G : GP} {s U : State} (hW : s.WarmedH U.vm) (h : GC G s) : GC G U :=
  ⟨va_K.moved hW.alike h.1, fun w hw => nest_warm (List.mem_filter.mp hw).2 hW (h.2.1 w hw), trivial⟩
theorem GC.calling {G : GP} {U : State} {g : JFrame} {mk : MethodId} {a : Array Value} (h : GC G U) : GC G (U.calling g mk a) := GC.warm (U := U.calling g mk a) (State.WarmedH.refl U) h
abbrev wsm (y : MethodName) (cc : ByteArray) (maxL : Nat) (ret : Option FieldType) : List Cond := Cond.code y cc maxL ret :: AW
theorem gin {w0 : Cond} {y : MethodName} {bytes : ByteArray} {maxL : Nat} {ret : Option FieldType} (h : Cond.code y bytes maxL ret ∈ AW) : GoodIn (w0 :: AW) (wsm y bytes maxL ret) := by
  intro w hw
  rcases List.mem_cons.mp hw with e | hw
  · subst e; exact ⟨List.mem_cons_of_mem _ h, good_of_word (AW_good h)⟩
  · exact ⟨List.mem_cons_of_mem _ hw, good_of_word (AW_good hw)⟩
/-- what the tables say of a method that is called -/
abbrev KQ (y : MethodName) (n : Nat) : Prop := y.cls ≠ "java/lang/invoke/MethodHandle" ∧ y.cls ≠ "java/lang/invoke/VarHandle" ∧ (parseMethodDescriptor y.desc).map (fun d => d.parameters.length) = some n
def KV (y : MethodName) (bytes : ByteArray) (maxL : Nat) (ret : Option FieldType) (n : Nat) : Prop := Cond.code y bytes maxL ret ∈ AW ∧ Cond.initialized y.cls ∈ AW ∧ KQ y n ∧ Cond.instanceMethod y ∈ AW ∧ Cond.selects y.cls y y ∈ AW
def KS (y : MethodName) (bytes : ByteArray) (maxL : Nat) (ret : Option FieldType) (n : Nat) : Prop := Cond.code y bytes maxL ret ∈ AW ∧ Cond.initialized y.cls ∈ AW ∧ KQ y n ∧ Cond.static y ∈ AW
/-- a method that only reads -/
def rdQ (v : Option Value) : Array Value → State → Outcome → State → Prop := fun _ st oc t => oc = .returned v ∧ t.heap = st.heap
def rdP (G : GP) (av : List Value) (ws : va_W) : Array Value → State → Prop := va_Pc av (fun U => va_P G.1 vwCl ws U.heap ∧ GC G U)
theorem rdP_blind {G : GP} {av : List Value} {ws : va_W} : FrameBlind (rdP G av ws) := fun _ _ _ _ q => ⟨q.1, q.2.1, q.2.2.calling⟩
def RM (l : Launch) (y : MethodName) (cc : ByteArray) (maxL : Nat) (ret : Option FieldType) (fr lo : Nat) (G : GP) (av : List Value) (ws : va_W) (v : Option Value) : Prop :=
  Met l y (wsm y cc maxL ret) { frames := fr, cells := 0, slots := 0, locals := lo } (rdP G av ws) (rdQ v) 0 0 (fun _ => False)
theorem RM.ofW {l : Launch} {y : MethodName} {cc : ByteArray} {maxL : Nat} {ret : Option FieldType} {fr lo : Nat} {G : GP} {av : List Value} {ws : va_W} {v : Option Value} {C : String} (hy : plainName y.cls = true) (hC : y.cls = C) (hn : (lg_sl av).length ≤ maxL)
    (body : ∀ (p : Program) (e : Env) (s : State) (m : MethodId) (below : List Frame) (meth : Method) (c : Code), CallFix p m c cc maxL s av.toArray (wsm y cc maxL ret) C → meth.sig.returnType = ret → meth.locks = false → GC G s → va_P G.1 vwCl ws s.heap → ∀ ls : Array Slot, lv_has ls maxL (lv_args 0 av) →
      W p l e { frames := fr, cells := 0, slots := 0, locals := lo } s m av.toArray below meth c s.heap [] 0 0 (MQ below (rdQ v) av.toArray s 0 0 (fun _ => False)) (F0 m 0 ls [])) : RM l y cc maxL ret fr lo G av ws v := by
  refine Met.ofW (cc := cc) (maxL := maxL) (ret := ret) hy rfl ?_
  intro p e s m args below meth c s₁ B hml hv
  obtain ⟨rfl, hP, hG⟩ := hv
  have hl := lv_entry av (n := maxL) hn
  rw [lg_entry_eq]
  exact body p e s m below meth c ⟨B.exec, B.bytes, hml, by rw [← hC]; exact findClass_of_methodNamed B.named, atoms_spec (ws := wsm y cc maxL ret) B.pre⟩ B.returns B.notSynchronized hG hP _ hl
section BASE
variable {p : Program} {l : Launch} {e : Env} {R : Room} {s : State} {m : MethodId} {args : Array Value} {below : List Frame} {meth : Method} {c : Code} {H : Heap} {locs : List Loc} {cells slots : Nat} {Q : State → Prop}
variable {pc : Nat} {ls : Array Slot} {rest st0 : List Value} {a : Array Value} {cc bytes : ByteArray} {nL maxL n index : Nat} {ret : Option FieldType} {own : String} {y : MethodName} {w0 : Cond} {G : GP} {fr lo : Nat} {As : List Value} {b : Addr} {wc ws wr w1 wn : va_W} {v : Option Value}
theorem crd (hr : va_Run p l e R s m args below meth c H locs cells slots 0 0 (F0 m pc ls st0) rest (rdQ v a) (fun _ => False))
    (kk : W p l e R s m args below meth c H locs cells slots Q (F0 m (pc + 3) ls (v.toList ++ rest))) : W p l e R s m args below meth c H locs cells slots Q (F0 m pc ls st0) := by
  intro T hT X
  obtain ⟨v9, st₀, t, T', L, h0, X', hL, e1, e2, ⟨hv, hh⟩, st⟩ := hr T hT X
  cases hv
  obtain ⟨t2, a1, b1⟩ := kk T' (by rw [e1, hh, h0]) (Stand.forget X' (fun q h => (hL q h).elim))
  exact ⟨t2, st t2 a1, b1⟩
theorem cwn (hF : CallFix p m c cc nL s args (w0 :: AW) own) (k1 : Cond.code y bytes maxL ret ∈ AW) (k2 : Cond.initialized y.cls ∈ AW) (k3 : KQ y n) (hn : Cond.methodLinkNest own index y "PriceIrons" ∈ NWL) (hG : GC G s) {rm : Room} (hR : rm.frames + 1 ≤ R.frames ∧ 8 + (maxL + 11) + rm.locals ≤ R.locals) : va_CN R s args own index y "PriceIrons" bytes maxL ret (wsm y bytes maxL ret) rm rm.cells rm.slots n :=
  va_cnB n hF.2.2.2.2 (gin k1) rfl rfl rfl (hG.2.1 _ hn) (hF.2.2.2.2 _ (List.mem_cons_of_mem _ k2)) k3 hR
theorem cwo (hF : CallFix p m c cc nL s args (w0 :: AW) own) (k1 : Cond.code y bytes maxL ret ∈ AW) (k2 : Cond.initialized y.cls ∈ AW) (k3 : KQ y n) (hn : Cond.methodLink own index y ∈ AW) {rm : Room} (hR : rm.frames + 1 ≤ R.frames ∧ 8 + (maxL + 11) + rm.locals ≤ R.locals) : CallB R s args own index y bytes maxL ret (wsm y bytes maxL ret) rm rm.cells rm.slots n :=
  callB_of n hF.2.2.2.2 (gin k1) rfl rfl rfl (hF.2.2.2.2 _ (List.mem_cons_of_mem _ k2)) (hF.2.2.2.2 _ (List.mem_cons_of_mem _ hn)) k3 hR
theorem rcv (hG : GC G s) (hP : va_P G.1 vwCl ws H) (h : ∃ (q0 ci : Nat) (q : vw_C) (fs : List Value), vwCl[ci]? = some q ∧ q.1 = y.cls ∧ ws[q0]? = some (b, .inr (ci, fs))) : ∃ cell : Cell, H[b]? = some cell ∧ cell.vm.isStatics = false ∧ s.vm.findClass y.cls = some cell.cls := by
  obtain ⟨q0, ci, q, fs, h1, h2, h3⟩ := h
  obtain ⟨cell, g1, g2, g3⟩ := va_recv hG.1 hP h1 h3
  exact ⟨cell, g1, g2, by rw [← h2]; exact g3⟩
/-- calls of methods that read: of a nest mate's instance method, of an own one, of a nest mate's static one, of a static one -/
theorem rdVN (hF : CallFix p m c cc nL s args (w0 :: AW) own) (hG : GC G s) (hP : va_P G.1 vwCl ws H) (hsz : ls.size = nL) (hM : RM l y bytes maxL ret fr lo G (.ref b :: As) wc v) (k : KV y bytes maxL ret n) (hn : Cond.methodLinkNest own index y "PriceIrons" ∈ NWL)
    (is : List Nat) (hs : is.filterMap (fun i => ws[i]?) = wc) (hb : ∃ (q0 ci : Nat) (q : vw_C) (fs : List Value), vwCl[ci]? = some q ∧ q.1 = y.cls ∧ ws[q0]? = some (b, .inr (ci, fs))) (hst : st0 = As.reverse ++ .ref b :: rest) (hlen : As.length = n) (hcat : (rest.map fun v => v.category).sum ≤ 8)
    (hR : fr + 1 ≤ R.frames ∧ 8 + (maxL + 11) + lo ≤ R.locals) (hf : cells ≤ R.cells ∧ slots ≤ R.slots) (hdg : decode cc pc = .ok (.invokevirtual index, 3))
    (kk : W p l e R s m args below meth c H locs cells slots Q (F0 m (pc + 3) ls (v.toList ++ rest))) : W p l e R s m args below meth c H locs cells slots Q (F0 m pc ls st0) :=
  crd (va_runVN (C := y.cls) (host := "PriceIrons") hF hM ⟨cwn hF k.1 k.2.1 k.2.2.1 hn hG hR, hF.2.2.2.2 _ (List.mem_cons_of_mem _ k.2.2.2.1), hF.2.2.2.2 _ (List.mem_cons_of_mem _ k.2.2.2.2)⟩
    ⟨rdP_blind, rcv hG hP hb, fun U hU hW => ⟨rfl, by rw [hU]; exact hP.sub is hs, hG.warm hW⟩⟩ rfl hlen hsz hst (lv_room hcat) hdg hf) kk
theorem rdV (hF : CallFix p m c cc nL s args (w0 :: AW) own) (hG : GC G s) (hP : va_P G.1 vwCl ws H) (hsz : ls.size = nL) (hM : RM l y bytes maxL ret fr lo G (.ref b :: As) wc v) (k : KV y bytes maxL ret n) (hn : Cond.methodLink own index y ∈ AW)
    (is : List Nat) (hs : is.filterMap (fun i => ws[i]?) = wc) (hb : ∃ (q0 ci : Nat) (q : vw_C) (fs : List Value), vwCl[ci]? = some q ∧ q.1 = y.cls ∧ ws[q0]? = some (b, .inr (ci, fs))) (hst : st0 = As.reverse ++ .ref b :: rest) (hlen : As.length = n) (hcat : (rest.map fun v => v.category).sum ≤ 8)
    (hR : fr + 1 ≤ R.frames ∧ 8 + (maxL + 11) + lo ≤ R.locals) (hf : cells ≤ R.cells ∧ slots ≤ R.slots) (hdg : decode cc pc = .ok (.invokevirtual index, 3))
    (kk : W p l e R s m args below meth c H locs cells slots Q (F0 m (pc + 3) ls (v.toList ++ rest))) : W p l e R s m args below meth c H locs cells slots Q (F0 m pc ls st0) :=
  crd (va_runV (C := y.cls) hF hM ⟨cwo hF k.1 k.2.1 k.2.2.1 hn hR, hF.2.2.2.2 _ (List.mem_cons_of_mem _ k.2.2.2.1), hF.2.2.2.2 _ (List.mem_cons_of_mem _ k.2.2.2.2)⟩
    ⟨rdP_blind, rcv hG hP hb, fun U hU hW => ⟨rfl, by rw [hU]; exact hP.sub is hs, hG.warm hW⟩⟩ rfl hlen hsz hst (lv_room hcat) hdg hf) kk
theorem rdSN (hF : CallFix p m c cc nL s args (w0 :: AW) own) (hG : GC G s) (hP : va_P G.1 vwCl ws H) (hsz : ls.size = nL) (hM : RM l y bytes maxL ret fr lo G As wc v) (k : KS y bytes maxL ret n) (hn : Cond.methodLinkNest own index y "PriceIrons" ∈ NWL)
    (is : List Nat) (hs : is.filterMap (fun i => ws[i]?) = wc) (hst : st0 = As.reverse ++ rest) (hlen : As.length = n) (hcat : (rest.map fun v => v.category).sum ≤ 8)
    (hR : fr + 1 ≤ R.frames ∧ 8 + (maxL + 11) + lo ≤ R.locals) (hf : cells ≤ R.cells ∧ slots ≤ R.slots) (hdg : decode cc pc = .ok (.invokestatic index, 3))
    (kk : W p l e R s m args below meth c H locs cells slots Q (F0 m (pc + 3) ls (v.toList ++ rest))) : W p l e R s m args below meth c H locs cells slots Q (F0 m pc ls st0) :=
  crd (va_runSN (host := "PriceIrons") hF hM ⟨cwn hF k.1 k.2.1 k.2.2.1 hn hG hR, hF.2.2.2.2 _ (List.mem_cons_of_mem _ k.2.2.2), trivial⟩
    ⟨rdP_blind, fun U hU hW => ⟨rfl, by rw [hU]; exact hP.sub is hs, hG.warm hW⟩⟩ rfl hlen hsz hst (lv_room hcat) hdg hf) kk
theorem rdS (hF : CallFix p m c cc nL s args (w0 :: AW) own) (hG : GC G s) (hP : va_P G.1 vwCl ws H) (hsz : ls.size = nL) (hM : RM l y bytes maxL ret fr lo G As wc v) (k : KS y bytes maxL ret n) (hn : Cond.methodLink own index y ∈ AW)
    (is : List Nat) (hs : is.filterMap (fun i => ws[i]?) = wc) (hst : st0 = As.reverse ++ rest) (hlen : As.length = n) (hcat : (rest.map fun v => v.category).sum ≤ 8)
    (hR : fr + 1 ≤ R.frames ∧ 8 + (maxL + 11) + lo ≤ R.locals) (hf : cells ≤ R.cells ∧ slots ≤ R.slots) (hdg : decode cc pc = .ok (.invokestatic index, 3))
    (kk : W p l e R s m args below meth c H locs cells slots Q (F0 m (pc + 3) ls (v.toList ++ rest))) : W p l e R s m args below meth c H locs cells slots Q (F0 m pc ls st0) :=
  crd (va_runS hF hM ⟨cwo hF k.1 k.2.1 k.2.2.1 hn hR, hF.2.2.2.2 _ (List.mem_cons_of_mem _ k.2.2.2)⟩
    ⟨rdP_blind, fun U hU hW => ⟨rfl, by rw [hU]; exact hP.sub is hs, hG.warm hW⟩⟩ rfl hlen hsz hst (lv_room hcat) hdg hf) kk
/-- ends of methods that read -/
theorem re_i {r : Int32} (hF : CallFix p m c cc nL s args (w0 :: AW) own) (hr : meth.sig.returnType = some .int) (hlk : meth.locks = false) (hdg : decode cc pc = .ok (.ireturn, 1)) (hv : some (.int r) = v) : W p l e R s m args below meth c s.heap [] 0 0 (MQ below (rdQ v) args s 0 0 (fun _ => False)) (F0 m pc ls [.int r]) := by
  subst hv
  exact W.iret hF.1 hF.2.1 hr (fun t ht hW => ⟨rfl, ht⟩) (fun q hq => by cases hq) hdg
theorem re_z {r : Int32} (hF : CallFix p m c cc nL s args (w0 :: AW) own) (hr : meth.sig.returnType = some .boolean) (hlk : meth.locks = false) (hdg : decode cc pc = .ok (.ireturn, 1)) (hn : r &&& 1 = r) (hv : some (.int r) = v) : W p l e R s m args below meth c s.heap [] 0 0 (MQ below (rdQ v) args s 0 0 (fun _ => False)) (F0 m pc ls [.int r]) := by
  subst hv
  exact W.zret (ty := .boolean) hF.1 hF.2.1 hr (by simp only [narrow, hn]) (fun t ht hW => ⟨rfl, ht⟩) (fun q hq => by cases hq) hdg
theorem re_l {r : Int64} (hF : CallFix p m c cc nL s args (w0 :: AW) own) (hr : meth.sig.returnType = some .long) (hlk : meth.locks = false) (hdg : decode cc pc = .ok (.lreturn, 1)) (hv : some (.long r) = v) : W p l e R s m args below meth c s.heap [] 0 0 (MQ below (rdQ v) args s 0 0 (fun _ => False)) (F0 m pc ls [.long r]) := by
  subst hv
  exact W.lret hF.1 hF.2.1 hr (fun t ht hW => ⟨rfl, ht⟩) (fun q hq => by cases hq) hdg
theorem re_d {r : UInt64} (hF : CallFix p m c cc nL s args (w0 :: AW) own) (hr : meth.sig.returnType = some .double) (hlk : meth.locks = false) (hdg : decode cc pc = .ok (.dreturn, 1)) (hv : some (.double r) = v) : W p l e R s m args below meth c s.heap [] 0 0 (MQ below (rdQ v) args s 0 0 (fun _ => False)) (F0 m pc ls [.double r]) := by
  subst hv
  exact W.dret hF.1 hF.2.1 hr (fun t ht hW => ⟨rfl, ht⟩) (fun q hq => by cases hq) hdg
theorem re_v (hF : CallFix p m c cc nL s args (w0 :: AW) own) (hr : meth.sig.returnType = none) (hlk : meth.locks = false) (hdg : decode cc pc = .ok (.return_, 1)) (hv : none = v) : W p l e R s m args below meth c s.heap [] 0 0 (MQ below (rdQ v) args s 0 0 (fun _ => False)) (F0 m pc ls []) := by
  subst hv
  exact W.vret hF.1 hF.2.1 hr (fun t ht hW => ⟨rfl, ht⟩) (fun q hq => by cases hq) hdg
end BASE
/-- a machine step that wants a condition: none where it doesn't hold -/
def gd {α : Type} (c : Prop) [Decidable c] (x : Option α) : Option α := if c then x else none
theorem gd_some {α : Type} {c : Prop} [Decidable c] {x : Option α} {r : α} (h : gd c x = some r) : c ∧ x = some r := by
  unfold gd at h
  by_cases hc : c
  · rw [if_pos hc] at h; exact ⟨hc, h⟩
  · rw [if_neg hc] at h; cases h
theorem bd_some {α β : Type} {x : Option α} {f : α → Option β} {r : β} (h : x.bind f = some r) : ∃ q, x = some q ∧ f q = some r := by
  cases x with
  | none => cases h
  | some q => exact ⟨q, rfl, h⟩
