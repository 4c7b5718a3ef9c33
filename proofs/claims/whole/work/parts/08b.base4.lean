/-- a method that may throw: an exception that is new, the world as it then is -/
def ZZ (A : Nat → Prop) (U : State) (H : Heap) : Prop := vx_Zq Bundle.tN "UNASSIGNED_STACK" Bundle.steD A U H ∧ vx_Zq Bundle.tN "SUPPRESSED_SENTINEL" Bundle.listD A U H
theorem ZZ.moved {A : Nat → Prop} {u U : State} {H : Heap} (hvm : u.vm.Alike U.vm) (h : ZZ A u H) : ZZ A U H := ⟨vx_Zq.moved hvm h.1, vx_Zq.moved hvm h.2⟩
theorem ZZ.kept {A : Nat → Prop} {U : State} {H H1 : Heap} (h : ZZ A U H) (hq : ∀ a : Nat, a < H.size → ¬ A a → H1[a]? = H[a]?) : ZZ A U H1 := ⟨h.1.kept hq, h.2.kept hq⟩
theorem ZZ.narrow {A B : Nat → Prop} {U : State} {H : Heap} (h : ZZ A U H) (hAB : ∀ q, B q → A q) : ZZ B U H := ⟨h.1.narrow hAB, h.2.narrow hAB⟩
def xwP (G : GP) (av : List Value) (sz : Nat) (ws : va_W) : Array Value → State → Prop := va_Pc av (fun U => U.heap.size = sz ∧ va_P G.1 vwCl ws U.heap ∧ GC G U ∧ va_D (fun _ => True) ws ∧ ZZ (va_A ws sz) U U.heap)
theorem xwP_blind {G : GP} {av : List Value} {sz : Nat} {ws : va_W} : FrameBlind (xwP G av sz ws) := fun a U g mk q => ⟨q.1, q.2.1, q.2.2.1, q.2.2.2.1.calling, q.2.2.2.2.1, ZZ.moved (u := U) (U := U.calling g mk a) (Vm.Alike.refl U.vm) q.2.2.2.2.2⟩
def xwQ (E0 : String) (v : Option Value) (G : GP) (ws' : va_W) (A : Nat → Prop) : Array Value → State → Outcome → State → Prop := fun a st oc t => E0 = "" ∧ wrQ v G ws' A a st oc t
def xwX (E0 : String) (G : GP) (ws' : va_W) (A : Nat → Prop) : String → State → State → Prop := fun E st t => E = E0 ∧ E0 ≠ "" ∧ va_P G.1 vwCl ws' t.heap ∧ va_D A ws' ∧ va_F A st t
def XM (l : Launch) (y : MethodName) (cc : ByteArray) (maxL : Nat) (ret : Option FieldType) (fr lo mc ms : Nat) (G : GP) (av : List Value) (ws : va_W) (E : String) (v : Option Value) (ws' : va_W) : Prop :=
  ∀ sz : Nat, vx_Met l y (wsm y cc maxL ret) { frames := fr, cells := mc, slots := ms, locals := lo } (xwP G av sz ws) (xwQ E v G ws' (va_A ws sz)) (xwX E G ws' (va_A ws sz)) mc ms (va_A ws sz)
theorem XM.ofW {l : Launch} {y : MethodName} {cc : ByteArray} {maxL : Nat} {ret : Option FieldType} {fr lo mc ms : Nat} {G : GP} {av : List Value} {ws ws' : va_W} {E : String} {v : Option Value} {C : String} (hy : plainName y.cls = true) (hC : y.cls = C) (hn : (lg_sl av).length ≤ maxL)
    (body : ∀ (p : Program) (e : Env) (s : State) (m : MethodId) (below : List Frame) (meth : Method) (c : Code) (A : Nat → Prop), CallFix p m c cc maxL s av.toArray (wsm y cc maxL ret) C → meth.sig.returnType = ret → meth.locks = false → GC G s → (∀ q : Nat, s.heap.size ≤ q → A q) → va_P G.1 vwCl ws s.heap → va_D A ws → ZZ A s s.heap → (∀ x ∈ c.exceptionTable.toList, False) → ∀ ls : Array Slot, lv_has ls maxL (lv_args 0 av) →
      W p l e { frames := fr, cells := mc, slots := ms, locals := lo } s m av.toArray below meth c s.heap [] 0 0 (vx_MQ below (xwQ E v G ws' A) (xwX E G ws' A) av.toArray s mc ms A) (F0 m 0 ls [])) : XM l y cc maxL ret fr lo mc ms G av ws E v ws' := by
  intro sz
  refine vx_ofW (cc := cc) (maxL := maxL) (ret := ret) hy rfl ?_
  intro p e s m args below meth c s₁ B hml hout hv
  obtain ⟨rfl, rfl, hP, hG, hD, hZ⟩ := hv
  have hl := lv_entry av (n := maxL) hn
  rw [lg_entry_eq]
  exact body p e s m below meth c (va_A ws s.heap.size) ⟨B.exec, B.bytes, hml, by rw [← hC]; exact findClass_of_methodNamed B.named, atoms_spec (ws := wsm y cc maxL ret) B.pre⟩ B.returns B.notSynchronized hG (fun q h => Or.inr h) hP hD.self hZ hout _ hl
section BASE4
variable {p : Program} {l : Launch} {e : Env} {R : Room} {s : State} {m : MethodId} {args : Array Value} {below : List Frame} {meth : Method} {c : Code} {H H0 : Heap} {locs : List Loc} {cells slots : Nat} {Q : State → Prop}
variable {pc : Nat} {ls : Array Slot} {rest st0 : List Value} {aa : Array Value} {cc bytes : ByteArray} {nL maxL n index mc ms mc1 ms1 : Nat} {ret : Option FieldType} {own : String} {y : MethodName} {w0 : Cond} {G : GP} {fr lo : Nat} {As : List Value} {b a : Addr} {wc ws wr w1 wn : va_W} {v : Option Value} {A : Nat → Prop} {E : String} {XC : String → State → State → Prop}
theorem xe_i {r : Int32} (hF : CallFix p m c cc nL s args (w0 :: AW) own) (hr : meth.sig.returnType = some .int) (hlk : meth.locks = false) (hP : va_P G.1 vwCl ws H) (hD : va_D A ws) (hS : va_S A s.heap H locs) (h1 : cells ≤ mc) (h2 : slots ≤ ms) (hdg : decode cc pc = .ok (.ireturn, 1)) (hv : some (.int r) = v) : W p l e R s m args below meth c H locs cells slots (vx_MQ below (xwQ "" v G ws A) XC args s mc ms A) (F0 m pc ls [.int r]) := by
  subst hv
  exact W.widen h1 h2 (vx_ret (W.iret hF.1 hF.2.1 hr (fun t ht hW => ⟨rfl, rfl, by rw [ht]; exact hP, hD, hS.F ht⟩) hS.2.2 hdg))
theorem xe_z {r : Int32} (hF : CallFix p m c cc nL s args (w0 :: AW) own) (hr : meth.sig.returnType = some .boolean) (hlk : meth.locks = false) (hP : va_P G.1 vwCl ws H) (hD : va_D A ws) (hS : va_S A s.heap H locs) (h1 : cells ≤ mc) (h2 : slots ≤ ms) (hdg : decode cc pc = .ok (.ireturn, 1)) (hn : r &&& 1 = r) (hv : some (.int r) = v) : W p l e R s m args below meth c H locs cells slots (vx_MQ below (xwQ "" v G ws A) XC args s mc ms A) (F0 m pc ls [.int r]) := by
  subst hv
  exact W.widen h1 h2 (vx_ret (W.zret (ty := .boolean) hF.1 hF.2.1 hr (nar_z hn) (fun t ht hW => ⟨rfl, rfl, by rw [ht]; exact hP, hD, hS.F ht⟩) hS.2.2 hdg))
theorem xe_l {r : Int64} (hF : CallFix p m c cc nL s args (w0 :: AW) own) (hr : meth.sig.returnType = some .long) (hlk : meth.locks = false) (hP : va_P G.1 vwCl ws H) (hD : va_D A ws) (hS : va_S A s.heap H locs) (h1 : cells ≤ mc) (h2 : slots ≤ ms) (hdg : decode cc pc = .ok (.lreturn, 1)) (hv : some (.long r) = v) : W p l e R s m args below meth c H locs cells slots (vx_MQ below (xwQ "" v G ws A) XC args s mc ms A) (F0 m pc ls [.long r]) := by
  subst hv
  exact W.widen h1 h2 (vx_ret (W.lret hF.1 hF.2.1 hr (fun t ht hW => ⟨rfl, rfl, by rw [ht]; exact hP, hD, hS.F ht⟩) hS.2.2 hdg))
theorem xe_v (hF : CallFix p m c cc nL s args (w0 :: AW) own) (hr : meth.sig.returnType = none) (hlk : meth.locks = false) (hP : va_P G.1 vwCl ws H) (hD : va_D A ws) (hS : va_S A s.heap H locs) (h1 : cells ≤ mc) (h2 : slots ≤ ms) (hdg : decode cc pc = .ok (.return_, 1)) (hv : none = v) : W p l e R s m args below meth c H locs cells slots (vx_MQ below (xwQ "" v G ws A) XC args s mc ms A) (F0 m pc ls []) := by
  subst hv
  exact W.widen h1 h2 (vx_ret (W.vret hF.1 hF.2.1 hr (fun t ht hW => ⟨rfl, rfl, by rw [ht]; exact hP, hD, hS.F ht⟩) hS.2.2 hdg))
/-- not caught: it goes on -/
theorem xo {ce : Cell} {q9 : Addr} {Qc : Array Value → State → Outcome → State → Prop} (hout : ∀ x ∈ c.exceptionTable.toList, False) (hlk : meth.locks = false) (hE : E ≠ "") (hP : va_P G.1 vwCl ws H) (hD : va_D A ws) (hS : va_S A s.heap H locs) (hce : H[q9]? = some ce) (hcv : ce.vm = .none) (hcl : s.vm.findClass E = some ce.cls) (h1 : cells ≤ mc) (h2 : slots ≤ ms) :
    vx_W p l e R s m args below meth c H locs cells slots (vx_MQ below Qc (xwX E G ws A) args s mc ms A) (F0 m pc ls rest) q9 :=
  vx_out (fun x hx => (hout x hx).elim) hlk hce hcv hcl (fun t ht hA => ⟨rfl, hE, by rw [ht]; exact hP, hD, hS.F ht⟩) hS.2.2 h1 h2
theorem cxw {A0 : Nat → Prop} (hr : vx_Run p l e R s m args below meth c H locs cells slots mc ms (F0 m pc ls st0) rest (xwQ E v G w1 (va_A wc H.size) aa) (xwX E G w1 (va_A wc H.size)) (va_A wc H.size)) (hP : va_P G.1 vwCl ws H) (hD : va_D A0 ws) (hS : va_S A0 H0 H locs) (hA : ∀ q, H0.size ≤ q → A0 q)
    (isC isR isN : List Nat) (hC : isC.map (fun i => ws[i]?) = wc.map some) (hR : isR.map (fun i => ws[i]?) = wr.map some) (hN : isN.map (fun i => (wr ++ w1)[i]?) = wn.map some) (hn : va_nd isR = true) (hdis : ∀ i ∈ isR, i ∉ isC) (hn2 : va_nd isN = true)
    (kx : E ≠ "" → ∀ (ce : Cell) (q9 : Addr) (H1 : Heap) (locs1 : List Loc), va_P G.1 vwCl wn H1 → va_D A0 wn → va_S A0 H0 H1 locs1 → H1[q9]? = some ce → ce.vm = .none → s.vm.findClass E = some ce.cls → vx_W p l e R s m args below meth c H1 locs1 (cells + mc) (slots + ms) Q (F0 m pc ls rest) q9)
    (kk : E = "" → ∀ (H1 : Heap) (locs1 : List Loc), va_P G.1 vwCl wn H1 → va_D A0 wn → va_S A0 H0 H1 locs1 → W p l e R s m args below meth c H1 locs1 (cells + mc) (slots + ms) Q (F0 m (pc + 3) ls (v.toList ++ rest))) : W p l e R s m args below meth c H locs cells slots Q (F0 m pc ls st0) := by
  have hFc := va_free hD hS hA isC hC
  have hsub : isN.filterMap (fun i => (wr ++ w1)[i]?) = wn := by
    have h2 : (isN.map (fun i => (wr ++ w1)[i]?)).filterMap id = (wn.map some).filterMap id := by rw [hN]
    simpa [List.filterMap_map] using h2
  intro T hT X
  rcases hr T hT X with ⟨v9, st₀, t, T', L, h0, X', hL, e1, e2, ⟨hE, hv, hp, hd, hF⟩, st⟩ | ⟨q9, st₀, t, T', L, E9, ce, h0, X', hL, e1, e2, ⟨hE9, hE, hp, hd, hF⟩, hce, hcv, hcl, st⟩
  · cases hv
    obtain ⟨k1, k2, k3⟩ := vx_keep h0 e1 hS (fun q _ h => hFc q h) hFc hL hF
    rw [← e1] at hp
    obtain ⟨hP1, hD1⟩ := va_join hP hD isC isR hC hR hn hdis k2 hFc hp hd
    obtain ⟨t2, a1, b1⟩ := kk hE T'.heap (locs ++ L) (hP1.sub isN hsub) (hD1.sub isN hn2 hN) k3 T' rfl X'
    exact ⟨t2, st t2 a1, b1⟩
  · subst hE9
    obtain ⟨k1, k2, k3⟩ := vx_keep h0 e1 hS (fun q _ h => hFc q h) hFc hL hF
    rw [← e1] at hp
    obtain ⟨hP1, hD1⟩ := va_join hP hD isC isR hC hR hn hdis k2 hFc hp hd
    obtain ⟨t2, a1, b1⟩ := kx hE ce q9 T'.heap (locs ++ L) (hP1.sub isN hsub) (hD1.sub isN hn2 hN) k3 (by rw [e1]; exact hce) hcv hcl T' rfl X'
    exact ⟨t2, st.trans a1, b1⟩
theorem xwP_pre {A0 : Nat → Prop} (hG : GC G s) (hP : va_P G.1 vwCl ws H) (hD : va_D A0 ws) (hS : va_S A0 s.heap H locs) (hA : ∀ q, s.heap.size ≤ q → A0 q) (hZ : ZZ A0 s s.heap) (isC : List Nat) (hC : isC.map (fun i => ws[i]?) = wc.map some) (hnC : va_nd isC = true) : ∀ U : State, U.heap = H → s.WarmedH U.vm → xwP G As H.size wc As.toArray U := by
  intro U hU hW
  obtain ⟨h1, h2, h3, h4, h5⟩ := wrP_pre (As := As) hG hP hD isC hC hnC U hU hW
  refine ⟨h1, h2, h3, h4, h5, ?_⟩
  rw [hU]
  exact ZZ.moved hW.alike ((hZ.kept hS.2.1).narrow (va_free hD hS hA isC hC))
theorem xwV {A0 : Nat → Prop} (hF : CallFix p m c cc nL s args (w0 :: AW) own) (hG : GC G s) (hP : va_P G.1 vwCl ws H) (hD : va_D A0 ws) (hS : va_S A0 s.heap H locs) (hA : ∀ q, s.heap.size ≤ q → A0 q) (hZ : ZZ A0 s s.heap) (hsz : ls.size = nL) (hM : XM l y bytes maxL ret fr lo mc ms G (.ref b :: As) wc E v w1) (k : KV y bytes maxL ret n) (hn : Cond.methodLink own index y ∈ AW)
    (isC isR isN : List Nat) (hC : isC.map (fun i => ws[i]?) = wc.map some) (hR : isR.map (fun i => ws[i]?) = (isR.filterMap (fun i => ws[i]?)).map some) (hN : isN.map (fun i => (isR.filterMap (fun i => ws[i]?) ++ w1)[i]?) = wn.map some) (hnC : va_nd isC = true) (hnn : va_nd isR = true ∧ va_nd isN = true) (hdis : ∀ i ∈ isR, i ∉ isC) (hb : ∃ (q0 ci : Nat) (q : vw_C) (fs : List Value), vwCl[ci]? = some q ∧ q.1 = y.cls ∧ ws[q0]? = some (b, .inr (ci, fs)))
    (hst : st0 = As.reverse ++ .ref b :: rest) (hlen : As.length = n) (hcat : (rest.map fun v => v.category).sum ≤ 8) (hRm : fr + 1 ≤ R.frames ∧ 8 + (maxL + 11) + lo ≤ R.locals) (hf : cells + mc ≤ R.cells ∧ slots + ms ≤ R.slots) (hdg : decode cc pc = .ok (.invokevirtual index, 3))
    (kx : E ≠ "" → ∀ (ce : Cell) (q9 : Addr) (H1 : Heap) (locs1 : List Loc), va_P G.1 vwCl wn H1 → va_D A0 wn → va_S A0 s.heap H1 locs1 → H1[q9]? = some ce → ce.vm = .none → s.vm.findClass E = some ce.cls → vx_W p l e R s m args below meth c H1 locs1 (cells + mc) (slots + ms) Q (F0 m pc ls rest) q9)
    (kk : E = "" → ∀ (H1 : Heap) (locs1 : List Loc), va_P G.1 vwCl wn H1 → va_D A0 wn → va_S A0 s.heap H1 locs1 → W p l e R s m args below meth c H1 locs1 (cells + mc) (slots + ms) Q (F0 m (pc + 3) ls (v.toList ++ rest))) : W p l e R s m args below meth c H locs cells slots Q (F0 m pc ls st0) :=
  cxw (vx_runV (C := y.cls) hF (hM H.size) ⟨cwo hF k.1 k.2.1 k.2.2.1 hn hRm, hF.2.2.2.2 _ (List.mem_cons_of_mem _ k.2.2.2.1), hF.2.2.2.2 _ (List.mem_cons_of_mem _ k.2.2.2.2)⟩
    ⟨xwP_blind, rcv hG hP hb, xwP_pre hG hP hD hS hA hZ isC hC hnC⟩ rfl hlen hsz hst (lv_room hcat) hdg hf) hP hD hS hA isC isR isN hC hR hN hnn.1 hdis hnn.2 kx kk
theorem xwS {A0 : Nat → Prop} (hF : CallFix p m c cc nL s args (w0 :: AW) own) (hG : GC G s) (hP : va_P G.1 vwCl ws H) (hD : va_D A0 ws) (hS : va_S A0 s.heap H locs) (hA : ∀ q, s.heap.size ≤ q → A0 q) (hZ : ZZ A0 s s.heap) (hsz : ls.size = nL) (hM : XM l y bytes maxL ret fr lo mc ms G As wc E v w1) (k : KS y bytes maxL ret n) (hn : Cond.methodLink own index y ∈ AW)
    (isC isR isN : List Nat) (hC : isC.map (fun i => ws[i]?) = wc.map some) (hR : isR.map (fun i => ws[i]?) = (isR.filterMap (fun i => ws[i]?)).map some) (hN : isN.map (fun i => (isR.filterMap (fun i => ws[i]?) ++ w1)[i]?) = wn.map some) (hnC : va_nd isC = true) (hnn : va_nd isR = true ∧ va_nd isN = true) (hdis : ∀ i ∈ isR, i ∉ isC)
    (hst : st0 = As.reverse ++ rest) (hlen : As.length = n) (hcat : (rest.map fun v => v.category).sum ≤ 8) (hRm : fr + 1 ≤ R.frames ∧ 8 + (maxL + 11) + lo ≤ R.locals) (hf : cells + mc ≤ R.cells ∧ slots + ms ≤ R.slots) (hdg : decode cc pc = .ok (.invokestatic index, 3))
    (kx : E ≠ "" → ∀ (ce : Cell) (q9 : Addr) (H1 : Heap) (locs1 : List Loc), va_P G.1 vwCl wn H1 → va_D A0 wn → va_S A0 s.heap H1 locs1 → H1[q9]? = some ce → ce.vm = .none → s.vm.findClass E = some ce.cls → vx_W p l e R s m args below meth c H1 locs1 (cells + mc) (slots + ms) Q (F0 m pc ls rest) q9)
    (kk : E = "" → ∀ (H1 : Heap) (locs1 : List Loc), va_P G.1 vwCl wn H1 → va_D A0 wn → va_S A0 s.heap H1 locs1 → W p l e R s m args below meth c H1 locs1 (cells + mc) (slots + ms) Q (F0 m (pc + 3) ls (v.toList ++ rest))) : W p l e R s m args below meth c H locs cells slots Q (F0 m pc ls st0) :=
  cxw (vx_runS hF (hM H.size) ⟨cwo hF k.1 k.2.1 k.2.2.1 hn hRm, hF.2.2.2.2 _ (List.mem_cons_of_mem _ k.2.2.2)⟩
    ⟨xwP_blind, xwP_pre hG hP hD hS hA hZ isC hC hnC⟩ rfl hlen hsz hst (lv_room hcat) hdg hf) hP hD hS hA isC isR isN hC hR hN hnn.1 hdis hnn.2 kx kk
/-- System.arraycopy of sixty ints, from the beginning to the beginning -/
theorem acp60 {f g : Nat → Int32} {a0 a1 : Addr} (hF : CallFix p m c cc nL s args (w0 :: AW) own) (hG : GC G s) (hP : va_P G.1 vwCl ws H) (hD : va_D A ws) (hS : va_S A H0 H locs) (hsz : ls.size = nL) (q1 : Cond.methodLink own index (⟨"java/lang/System", "arraycopy", "(Ljava/lang/Object;ILjava/lang/Object;II)V"⟩ : MethodName) ∈ AW) (q2 : Cond.native (⟨"java/lang/System", "arraycopy", "(Ljava/lang/Object;ILjava/lang/Object;II)V"⟩ : MethodName) ∈ AW) (q3 : Cond.static (⟨"java/lang/System", "arraycopy", "(Ljava/lang/Object;ILjava/lang/Object;II)V"⟩ : MethodName) ∈ AW) (q4 : Cond.initialized "java/lang/System" ∈ AW)
    (i0 i1 : Nat) (h0 : ws[i0]? = some (a0, .inl (G.2.1, 60, .inl f))) (h1 : ws[i1]? = some (a1, .inl (G.2.1, 60, .inl g))) (hfr : 1 ≤ R.frames) (hlo : (rest.map fun v => v.category).sum + 18 ≤ R.locals) (hdg : decode cc pc = .ok (.invokestatic index, 3))
    (kk : ∀ (H1 : Heap) (locs1 : List Loc), va_P G.1 vwCl (ws.set i1 (a1, .inl (G.2.1, 60, .inl (va_cpy f g 0 0 60)))) H1 → va_D A (ws.set i1 (a1, .inl (G.2.1, 60, .inl (va_cpy f g 0 0 60)))) → va_S A H0 H1 locs1 → W p l e R s m args below meth c H1 locs1 cells slots Q (F0 m (pc + 3) ls rest)) : W p l e R s m args below meth c H locs cells slots Q (F0 m pc ls (.int 60 :: .int 0 :: .ref a1 :: .int 0 :: .ref a0 :: rest)) :=
  va_copyi hF.1 hF.2.1 (hF.2.2.1.trans hsz.symm) hF.2.2.2.1 (hF.2.2.2.2 _ (List.mem_cons_of_mem _ q1)) (hF.2.2.2.2 _ (List.mem_cons_of_mem _ q2)) (hF.2.2.2.2 _ (List.mem_cons_of_mem _ q3)) (hF.2.2.2.2 _ (List.mem_cons_of_mem _ q4)) hG.1 hP hD hS i0 i1 0 0 h0 h1 rfl rfl rfl (by decide) (by decide) (by decide) (by decide) (by decide) (fun i _ => rfl) hfr hlo hdg kk
theorem nest_tables {w : Cond} (h : isNest w = true) : w.onTables = true := by cases w <;> first | rfl | exact absurd h Bool.false_ne_true
theorem atS (hF : CallFix p m c cc nL s args (w0 :: AW) RX11) (hG : GC G s) : ∀ w ∈ (vx_atS RX11 73 "java/lang/IllegalStateException" ["java/lang/RuntimeException", "java/lang/Exception"]), w.before args s = true :=
  vx_hat (B := NWL) (fun w hw => hF.2.2.2.2 _ (List.mem_cons_of_mem _ (List.mem_filter.mpr ⟨(by decide +kernel : ∀ w ∈ (vx_atS RX11 73 "java/lang/IllegalStateException" ["java/lang/RuntimeException", "java/lang/Exception"]).filter goodWord, w ∈ lw_tbl) w hw, (List.mem_filter.mp hw).2⟩)))
    (fun w hw => List.mem_filter.mpr ⟨(by decide +kernel : ∀ w ∈ (vx_atS RX11 73 "java/lang/IllegalStateException" ["java/lang/RuntimeException", "java/lang/Exception"]).filter (fun w => !goodWord w), w ∈ lw_tbl) w hw, (by decide +kernel : ∀ w ∈ (vx_atS RX11 73 "java/lang/IllegalStateException" ["java/lang/RuntimeException", "java/lang/Exception"]).filter (fun w => !goodWord w), isNest w = true) w hw⟩)
    (fun w hw => va_Nw.use (nest_tables (List.mem_filter.mp hw).2) (hG.2.1 w hw))
theorem goS : ∀ w ∈ Cond.classLink RX11 69 "java/lang/IllegalStateException" :: Cond.initialized "java/lang/IllegalStateException" :: (vx_atS RX11 73 "java/lang/IllegalStateException" ["java/lang/RuntimeException", "java/lang/Exception"]), vx_ot w = true := by decide +kernel
theorem atA (hF : CallFix p m c cc nL s args (w0 :: AW) RX11) (hG : GC G s) : ∀ w ∈ (vx_atS RX11 120 "java/lang/IllegalArgumentException" ["java/lang/RuntimeException", "java/lang/Exception"]), w.before args s = true :=
  vx_hat (B := NWL) (fun w hw => hF.2.2.2.2 _ (List.mem_cons_of_mem _ (List.mem_filter.mpr ⟨(by decide +kernel : ∀ w ∈ (vx_atS RX11 120 "java/lang/IllegalArgumentException" ["java/lang/RuntimeException", "java/lang/Exception"]).filter goodWord, w ∈ lw_tbl) w hw, (List.mem_filter.mp hw).2⟩)))
    (fun w hw => List.mem_filter.mpr ⟨(by decide +kernel : ∀ w ∈ (vx_atS RX11 120 "java/lang/IllegalArgumentException" ["java/lang/RuntimeException", "java/lang/Exception"]).filter (fun w => !goodWord w), w ∈ lw_tbl) w hw, (by decide +kernel : ∀ w ∈ (vx_atS RX11 120 "java/lang/IllegalArgumentException" ["java/lang/RuntimeException", "java/lang/Exception"]).filter (fun w => !goodWord w), isNest w = true) w hw⟩)
    (fun w hw => va_Nw.use (nest_tables (List.mem_filter.mp hw).2) (hG.2.1 w hw))
theorem goA : ∀ w ∈ Cond.classLink RX11 116 "java/lang/IllegalArgumentException" :: Cond.initialized "java/lang/IllegalArgumentException" :: (vx_atS RX11 120 "java/lang/IllegalArgumentException" ["java/lang/RuntimeException", "java/lang/Exception"]), vx_ot w = true := by decide +kernel
theorem atI (hF : CallFix p m c cc nL s args (w0 :: AW) RX11) (hG : GC G s) : ∀ w ∈ (vx_atS RX11 242 "java/lang/IndexOutOfBoundsException" ["java/lang/RuntimeException", "java/lang/Exception"]), w.before args s = true :=
  vx_hat (B := NWL) (fun w hw => hF.2.2.2.2 _ (List.mem_cons_of_mem _ (List.mem_filter.mpr ⟨(by decide +kernel : ∀ w ∈ (vx_atS RX11 242 "java/lang/IndexOutOfBoundsException" ["java/lang/RuntimeException", "java/lang/Exception"]).filter goodWord, w ∈ lw_tbl) w hw, (List.mem_filter.mp hw).2⟩)))
    (fun w hw => List.mem_filter.mpr ⟨(by decide +kernel : ∀ w ∈ (vx_atS RX11 242 "java/lang/IndexOutOfBoundsException" ["java/lang/RuntimeException", "java/lang/Exception"]).filter (fun w => !goodWord w), w ∈ lw_tbl) w hw, (by decide +kernel : ∀ w ∈ (vx_atS RX11 242 "java/lang/IndexOutOfBoundsException" ["java/lang/RuntimeException", "java/lang/Exception"]).filter (fun w => !goodWord w), isNest w = true) w hw⟩)
    (fun w hw => va_Nw.use (nest_tables (List.mem_filter.mp hw).2) (hG.2.1 w hw))
theorem goI : ∀ w ∈ Cond.classLink RX11 238 "java/lang/IndexOutOfBoundsException" :: Cond.initialized "java/lang/IndexOutOfBoundsException" :: (vx_atS RX11 242 "java/lang/IndexOutOfBoundsException" ["java/lang/RuntimeException", "java/lang/Exception"]), vx_ot w = true := by decide +kernel
theorem thS {is : Nat} {Qc : Array Value → State → Outcome → State → Prop} (hF : CallFix p m c cc nL s args (w0 :: AW) RX11) (hG : GC G s) (hst : l.stackTraces = false) (hstr : (STRS.map Prod.fst).contains is = true) (hP : va_P G.1 vwCl ws H) (hD : va_D A ws) (hS : va_S A s.heap H locs) (hA : ∀ q, s.heap.size ≤ q → A q) (hZ : ZZ A s s.heap) (hsz : ls.size = nL) (hout : ∀ x ∈ c.exceptionTable.toList, False) (hlk : meth.locks = false)
    (d0 : decode cc pc = .ok (.new 69, 3)) (d3 : decode cc (pc + 3) = .ok (.dup, 1)) (d4 : decode cc (pc + 4) = .ok (.ldc is, 2)) (d6 : decode cc (pc + 6) = .ok (.invokespecial 73, 3)) (d9 : decode cc (pc + 9) = .ok (.athrow, 1))
    (h1 : 5 < R.frames) (h2 : (rest.map fun v => v.category).sum + 82 ≤ R.locals) (h3 : cells + 1 ≤ R.cells) (h4 : slots + 6 ≤ R.slots) (h5 : cells + 1 ≤ mc) (h6 : slots + 6 ≤ ms) : W p l e R s m args below meth c H locs cells slots (vx_MQ below Qc (xwX "java/lang/IllegalStateException" G ws A) args s mc ms A) (F0 m pc ls rest) := by
  obtain ⟨q, hq, rfl⟩ : ∃ q ∈ STRS, q.1 = is := by
    obtain ⟨q, hq, e⟩ := List.mem_map.mp (List.contains_iff_mem.mp hstr)
    exact ⟨q, hq, e⟩
  obtain ⟨sa, hsa⟩ := hG.2.2 q hq
  exact vx_throwS hF.1 hF.2.1 hst (own := RX11) (cls := "java/lang/IllegalStateException") (names := ["java/lang/RuntimeException", "java/lang/Exception"]) hF.2.2.2.1 (by decide +kernel) (by decide +kernel) (hF.2.2.2.2 _ (List.mem_cons_of_mem _ q652)) (hF.2.2.2.2 _ (List.mem_cons_of_mem _ q14)) hsa (atS hF hG) goS hZ.1 hZ.2 hS (hsz.trans hF.2.2.1.symm) d0 d3 d4 d6 d9 (fun x hx => (hout x hx).elim) h1 h2 h3 h4 hlk
    (fun t hvm hle hk => ⟨rfl, by decide, hP.kept (fun k q hq => hk q.1 (hP k q hq).lt), hD, Nat.le_trans hS.1 hle, fun q h1 h2 => (hk q (Nat.lt_of_lt_of_le h1 hS.1)).trans (hS.2.1 q h1 h2)⟩) hS.2.2 h5 h6
theorem thSW {is : Nat} {Qc : Array Value → State → Outcome → State → Prop} (hF : CallFix p m c cc nL s args (w0 :: AW) RX11) (hG : GC G s) (hst : l.stackTraces = false) (hstr : (STRS.map Prod.fst).contains is = true) (hP : va_P G.1 vwCl ws H) (hD : va_D A ws) (hS : va_S A s.heap H locs) (hA : ∀ q, s.heap.size ≤ q → A q) (hZ : ZZ A s s.heap) (hsz : ls.size = nL) (hout : ∀ x ∈ c.exceptionTable.toList, False) (hlk : meth.locks = false)
    (d0 : decode cc pc = .ok (.new 69, 3)) (d3 : decode cc (pc + 3) = .ok (.dup, 1)) (d4 : decode cc (pc + 4) = .ok (.ldc_w is, 3)) (d6 : decode cc (pc + 7) = .ok (.invokespecial 73, 3)) (d9 : decode cc (pc + 10) = .ok (.athrow, 1))
    (h1 : 5 < R.frames) (h2 : (rest.map fun v => v.category).sum + 82 ≤ R.locals) (h3 : cells + 1 ≤ R.cells) (h4 : slots + 6 ≤ R.slots) (h5 : cells + 1 ≤ mc) (h6 : slots + 6 ≤ ms) : W p l e R s m args below meth c H locs cells slots (vx_MQ below Qc (xwX "java/lang/IllegalStateException" G ws A) args s mc ms A) (F0 m pc ls rest) := by
  obtain ⟨q, hq, rfl⟩ : ∃ q ∈ STRS, q.1 = is := by
    obtain ⟨q, hq, e⟩ := List.mem_map.mp (List.contains_iff_mem.mp hstr)
    exact ⟨q, hq, e⟩
  obtain ⟨sa, hsa⟩ := hG.2.2 q hq
  exact vx_throwSW hF.1 hF.2.1 hst (own := RX11) (cls := "java/lang/IllegalStateException") (names := ["java/lang/RuntimeException", "java/lang/Exception"]) hF.2.2.2.1 (by decide +kernel) (by decide +kernel) (hF.2.2.2.2 _ (List.mem_cons_of_mem _ q652)) (hF.2.2.2.2 _ (List.mem_cons_of_mem _ q14)) hsa (atS hF hG) goS hZ.1 hZ.2 hS (hsz.trans hF.2.2.1.symm) d0 d3 d4 d6 d9 (fun x hx => (hout x hx).elim) h1 h2 h3 h4 hlk
    (fun t hvm hle hk => ⟨rfl, by decide, hP.kept (fun k q hq => hk q.1 (hP k q hq).lt), hD, Nat.le_trans hS.1 hle, fun q h1 h2 => (hk q (Nat.lt_of_lt_of_le h1 hS.1)).trans (hS.2.1 q h1 h2)⟩) hS.2.2 h5 h6
theorem thA {is : Nat} {Qc : Array Value → State → Outcome → State → Prop} (hF : CallFix p m c cc nL s args (w0 :: AW) RX11) (hG : GC G s) (hst : l.stackTraces = false) (hstr : (STRS.map Prod.fst).contains is = true) (hP : va_P G.1 vwCl ws H) (hD : va_D A ws) (hS : va_S A s.heap H locs) (hA : ∀ q, s.heap.size ≤ q → A q) (hZ : ZZ A s s.heap) (hsz : ls.size = nL) (hout : ∀ x ∈ c.exceptionTable.toList, False) (hlk : meth.locks = false)
    (d0 : decode cc pc = .ok (.new 116, 3)) (d3 : decode cc (pc + 3) = .ok (.dup, 1)) (d4 : decode cc (pc + 4) = .ok (.ldc is, 2)) (d6 : decode cc (pc + 6) = .ok (.invokespecial 120, 3)) (d9 : decode cc (pc + 9) = .ok (.athrow, 1))
    (h1 : 5 < R.frames) (h2 : (rest.map fun v => v.category).sum + 82 ≤ R.locals) (h3 : cells + 1 ≤ R.cells) (h4 : slots + 6 ≤ R.slots) (h5 : cells + 1 ≤ mc) (h6 : slots + 6 ≤ ms) : W p l e R s m args below meth c H locs cells slots (vx_MQ below Qc (xwX "java/lang/IllegalArgumentException" G ws A) args s mc ms A) (F0 m pc ls rest) := by
  obtain ⟨q, hq, rfl⟩ : ∃ q ∈ STRS, q.1 = is := by
    obtain ⟨q, hq, e⟩ := List.mem_map.mp (List.contains_iff_mem.mp hstr)
    exact ⟨q, hq, e⟩
  obtain ⟨sa, hsa⟩ := hG.2.2 q hq
  exact vx_throwS hF.1 hF.2.1 hst (own := RX11) (cls := "java/lang/IllegalArgumentException") (names := ["java/lang/RuntimeException", "java/lang/Exception"]) hF.2.2.2.1 (by decide +kernel) (by decide +kernel) (hF.2.2.2.2 _ (List.mem_cons_of_mem _ q584)) (hF.2.2.2.2 _ (List.mem_cons_of_mem _ q13)) hsa (atA hF hG) goA hZ.1 hZ.2 hS (hsz.trans hF.2.2.1.symm) d0 d3 d4 d6 d9 (fun x hx => (hout x hx).elim) h1 h2 h3 h4 hlk
    (fun t hvm hle hk => ⟨rfl, by decide, hP.kept (fun k q hq => hk q.1 (hP k q hq).lt), hD, Nat.le_trans hS.1 hle, fun q h1 h2 => (hk q (Nat.lt_of_lt_of_le h1 hS.1)).trans (hS.2.1 q h1 h2)⟩) hS.2.2 h5 h6
theorem thAW {is : Nat} {Qc : Array Value → State → Outcome → State → Prop} (hF : CallFix p m c cc nL s args (w0 :: AW) RX11) (hG : GC G s) (hst : l.stackTraces = false) (hstr : (STRS.map Prod.fst).contains is = true) (hP : va_P G.1 vwCl ws H) (hD : va_D A ws) (hS : va_S A s.heap H locs) (hA : ∀ q, s.heap.size ≤ q → A q) (hZ : ZZ A s s.heap) (hsz : ls.size = nL) (hout : ∀ x ∈ c.exceptionTable.toList, False) (hlk : meth.locks = false)
    (d0 : decode cc pc = .ok (.new 116, 3)) (d3 : decode cc (pc + 3) = .ok (.dup, 1)) (d4 : decode cc (pc + 4) = .ok (.ldc_w is, 3)) (d6 : decode cc (pc + 7) = .ok (.invokespecial 120, 3)) (d9 : decode cc (pc + 10) = .ok (.athrow, 1))
    (h1 : 5 < R.frames) (h2 : (rest.map fun v => v.category).sum + 82 ≤ R.locals) (h3 : cells + 1 ≤ R.cells) (h4 : slots + 6 ≤ R.slots) (h5 : cells + 1 ≤ mc) (h6 : slots + 6 ≤ ms) : W p l e R s m args below meth c H locs cells slots (vx_MQ below Qc (xwX "java/lang/IllegalArgumentException" G ws A) args s mc ms A) (F0 m pc ls rest) := by
  obtain ⟨q, hq, rfl⟩ : ∃ q ∈ STRS, q.1 = is := by
    obtain ⟨q, hq, e⟩ := List.mem_map.mp (List.contains_iff_mem.mp hstr)
    exact ⟨q, hq, e⟩
  obtain ⟨sa, hsa⟩ := hG.2.2 q hq
  exact vx_throwSW hF.1 hF.2.1 hst (own := RX11) (cls := "java/lang/IllegalArgumentException") (names := ["java/lang/RuntimeException", "java/lang/Exception"]) hF.2.2.2.1 (by decide +kernel) (by decide +kernel) (hF.2.2.2.2 _ (List.mem_cons_of_mem _ q584)) (hF.2.2.2.2 _ (List.mem_cons_of_mem _ q13)) hsa (atA hF hG) goA hZ.1 hZ.2 hS (hsz.trans hF.2.2.1.symm) d0 d3 d4 d6 d9 (fun x hx => (hout x hx).elim) h1 h2 h3 h4 hlk
    (fun t hvm hle hk => ⟨rfl, by decide, hP.kept (fun k q hq => hk q.1 (hP k q hq).lt), hD, Nat.le_trans hS.1 hle, fun q h1 h2 => (hk q (Nat.lt_of_lt_of_le h1 hS.1)).trans (hS.2.1 q h1 h2)⟩) hS.2.2 h5 h6
theorem thI {is : Nat} {Qc : Array Value → State → Outcome → State → Prop} (hF : CallFix p m c cc nL s args (w0 :: AW) RX11) (hG : GC G s) (hst : l.stackTraces = false) (hstr : (STRS.map Prod.fst).contains is = true) (hP : va_P G.1 vwCl ws H) (hD : va_D A ws) (hS : va_S A s.heap H locs) (hA : ∀ q, s.heap.size ≤ q → A q) (hZ : ZZ A s s.heap) (hsz : ls.size = nL) (hout : ∀ x ∈ c.exceptionTable.toList, False) (hlk : meth.locks = false)
    (d0 : decode cc pc = .ok (.new 238, 3)) (d3 : decode cc (pc + 3) = .ok (.dup, 1)) (d4 : decode cc (pc + 4) = .ok (.ldc is, 2)) (d6 : decode cc (pc + 6) = .ok (.invokespecial 242, 3)) (d9 : decode cc (pc + 9) = .ok (.athrow, 1))
    (h1 : 5 < R.frames) (h2 : (rest.map fun v => v.category).sum + 82 ≤ R.locals) (h3 : cells + 1 ≤ R.cells) (h4 : slots + 6 ≤ R.slots) (h5 : cells + 1 ≤ mc) (h6 : slots + 6 ≤ ms) : W p l e R s m args below meth c H locs cells slots (vx_MQ below Qc (xwX "java/lang/IndexOutOfBoundsException" G ws A) args s mc ms A) (F0 m pc ls rest) := by
  obtain ⟨q, hq, rfl⟩ : ∃ q ∈ STRS, q.1 = is := by
    obtain ⟨q, hq, e⟩ := List.mem_map.mp (List.contains_iff_mem.mp hstr)
    exact ⟨q, hq, e⟩
  obtain ⟨sa, hsa⟩ := hG.2.2 q hq
  exact vx_throwS hF.1 hF.2.1 hst (own := RX11) (cls := "java/lang/IndexOutOfBoundsException") (names := ["java/lang/RuntimeException", "java/lang/Exception"]) hF.2.2.2.1 (by decide +kernel) (by decide +kernel) (hF.2.2.2.2 _ (List.mem_cons_of_mem _ q688)) (hF.2.2.2.2 _ (List.mem_cons_of_mem _ q16)) hsa (atI hF hG) goI hZ.1 hZ.2 hS (hsz.trans hF.2.2.1.symm) d0 d3 d4 d6 d9 (fun x hx => (hout x hx).elim) h1 h2 h3 h4 hlk
    (fun t hvm hle hk => ⟨rfl, by decide, hP.kept (fun k q hq => hk q.1 (hP k q hq).lt), hD, Nat.le_trans hS.1 hle, fun q h1 h2 => (hk q (Nat.lt_of_lt_of_le h1 hS.1)).trans (hS.2.1 q h1 h2)⟩) hS.2.2 h5 h6
theorem thIW {is : Nat} {Qc : Array Value → State → Outcome → State → Prop} (hF : CallFix p m c cc nL s args (w0 :: AW) RX11) (hG : GC G s) (hst : l.stackTraces = false) (hstr : (STRS.map Prod.fst).contains is = true) (hP : va_P G.1 vwCl ws H) (hD : va_D A ws) (hS : va_S A s.heap H locs) (hA : ∀ q, s.heap.size ≤ q → A q) (hZ : ZZ A s s.heap) (hsz : ls.size = nL) (hout : ∀ x ∈ c.exceptionTable.toList, False) (hlk : meth.locks = false)
    (d0 : decode cc pc = .ok (.new 238, 3)) (d3 : decode cc (pc + 3) = .ok (.dup, 1)) (d4 : decode cc (pc + 4) = .ok (.ldc_w is, 3)) (d6 : decode cc (pc + 7) = .ok (.invokespecial 242, 3)) (d9 : decode cc (pc + 10) = .ok (.athrow, 1))
    (h1 : 5 < R.frames) (h2 : (rest.map fun v => v.category).sum + 82 ≤ R.locals) (h3 : cells + 1 ≤ R.cells) (h4 : slots + 6 ≤ R.slots) (h5 : cells + 1 ≤ mc) (h6 : slots + 6 ≤ ms) : W p l e R s m args below meth c H locs cells slots (vx_MQ below Qc (xwX "java/lang/IndexOutOfBoundsException" G ws A) args s mc ms A) (F0 m pc ls rest) := by
  obtain ⟨q, hq, rfl⟩ : ∃ q ∈ STRS, q.1 = is := by
    obtain ⟨q, hq, e⟩ := List.mem_map.mp (List.contains_iff_mem.mp hstr)
    exact ⟨q, hq, e⟩
  obtain ⟨sa, hsa⟩ := hG.2.2 q hq
  exact vx_throwSW hF.1 hF.2.1 hst (own := RX11) (cls := "java/lang/IndexOutOfBoundsException") (names := ["java/lang/RuntimeException", "java/lang/Exception"]) hF.2.2.2.1 (by decide +kernel) (by decide +kernel) (hF.2.2.2.2 _ (List.mem_cons_of_mem _ q688)) (hF.2.2.2.2 _ (List.mem_cons_of_mem _ q16)) hsa (atI hF hG) goI hZ.1 hZ.2 hS (hsz.trans hF.2.2.1.symm) d0 d3 d4 d6 d9 (fun x hx => (hout x hx).elim) h1 h2 h3 h4 hlk
    (fun t hvm hle hk => ⟨rfl, by decide, hP.kept (fun k q hq => hk q.1 (hP k q hq).lt), hD, Nat.le_trans hS.1 hle, fun q h1 h2 => (hk q (Nat.lt_of_lt_of_le h1 hS.1)).trans (hS.2.1 q h1 h2)⟩) hS.2.2 h5 h6
end BASE4
