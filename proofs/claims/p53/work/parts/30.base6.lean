/-- a constructor: no exception; what it makes lies at the addresses ad -/
def inQ (G : GP) (W' : (Nat → Nat) → va_W) (A : Nat → Prop) : Array Value → State → Outcome → State → Prop := fun _ st oc t => oc = .returned none ∧ (∃ ad : Nat → Nat, va_P G.1 vwCl (W' ad) t.heap ∧ va_D A (W' ad)) ∧ va_F A st t
def inP (G : GP) (av : List Value) (sz : Nat) (ws : va_W) : Array Value → State → Prop := va_Pc av (fun U => U.heap.size = sz ∧ va_P G.1 vwCl ws U.heap ∧ GC G U ∧ va_D (fun _ => True) ws ∧ va_AO "PriceIrons$State" U)
theorem inP_blind {G : GP} {av : List Value} {sz : Nat} {ws : va_W} : FrameBlind (inP G av sz ws) := fun a U g mk q => ⟨q.1, q.2.1, q.2.2.1, q.2.2.2.1.calling, q.2.2.2.2.1, va_AO.moved (u := U) (U := U.calling g mk a) (Vm.Alike.refl U.vm) q.2.2.2.2.2⟩
def IM (l : Launch) (y : MethodName) (cc : ByteArray) (maxL : Nat) (fr lo mc ms : Nat) (G : GP) (av : List Value) (ws : va_W) (W' : (Nat → Nat) → va_W) : Prop :=
  ∀ sz : Nat, Met l y (wsm y cc maxL none) { frames := fr, cells := mc, slots := ms, locals := lo } (inP G av sz ws) (inQ G W' (va_A ws sz)) mc ms (va_A ws sz)
theorem IM.ofW {l : Launch} {y : MethodName} {cc : ByteArray} {maxL : Nat} {fr lo mc ms : Nat} {G : GP} {av : List Value} {ws : va_W} {W' : (Nat → Nat) → va_W} {C : String} (hy : plainName y.cls = true) (hC : y.cls = C) (hyn : y.name = "<init>") (hn : (lg_sl av).length ≤ maxL)
    (body : ∀ (p : Program) (e : Env) (s : State) (m : MethodId) (below : List Frame) (meth : Method) (c : Code) (A : Nat → Prop), CallFix p m c cc maxL s av.toArray (wsm y cc maxL none) C → meth.sig.returnType = none → meth.locks = false → meth.name = "<init>" → GC G s → va_AO "PriceIrons$State" s → (∀ q : Nat, s.heap.size ≤ q → A q) → va_P G.1 vwCl ws s.heap → va_D A ws → ∀ ls : Array Slot, lv_has ls maxL (lv_args 0 av) →
      W p l e { frames := fr, cells := mc, slots := ms, locals := lo } s m av.toArray below meth c s.heap [] 0 0 (MQ below (inQ G W' A) av.toArray s mc ms A) (F0 m 0 ls [])) : IM l y cc maxL fr lo mc ms G av ws W' := by
  intro sz
  refine Met.ofW (cc := cc) (maxL := maxL) (ret := none) hy rfl ?_
  intro p e s m args below meth c s₁ B hml hv
  obtain ⟨rfl, rfl, hP, hG, hD, hO⟩ := hv
  have hl := lv_entry av (n := maxL) hn
  rw [lg_entry_eq]
  exact body p e s m below meth c (va_A ws s.heap.size) ⟨B.exec, B.bytes, hml, by rw [← hC]; exact findClass_of_methodNamed B.named, atoms_spec (ws := wsm y cc maxL none) B.pre⟩ B.returns B.notSynchronized (by rw [← hyn]; exact (name_of_methodNamed B.named B.method).1) hG hO (fun q h => Or.inr h) hP hD.self _ hl
section BASE6
variable {p : Program} {l : Launch} {e : Env} {R : Room} {s : State} {m : MethodId} {args : Array Value} {below : List Frame} {meth : Method} {c : Code} {H H0 : Heap} {locs : List Loc} {cells slots : Nat} {Q : State → Prop}
variable {pc : Nat} {ls : Array Slot} {rest st0 : List Value} {aa : Array Value} {cc bytes : ByteArray} {nL maxL n index mc ms : Nat} {own : String} {y : MethodName} {w0 : Cond} {G : GP} {fr lo : Nat} {As : List Value} {b a : Addr} {wc ws wn : va_W} {A : Nat → Prop} {W' : (Nat → Nat) → va_W}
/-- the end of a constructor -/
theorem ie (ad : Nat → Nat) (hF : CallFix p m c cc nL s args (w0 :: AW) own) (hr : meth.sig.returnType = none) (hlk : meth.locks = false) (hP : va_P G.1 vwCl ws H) (hD : va_D A ws) (hS : va_S A s.heap H locs) (is : List Nat) (hN : is.map (fun i => ws[i]?) = (W' ad).map some) (hn : va_nd is = true) (hdg : decode cc pc = .ok (.return_, 1)) : W p l e R s m args below meth c H locs cells slots (MQ below (inQ G W' A) args s cells slots A) (F0 m pc ls []) := by
  have hsub : is.filterMap (fun i => ws[i]?) = W' ad := by
    have h2 : (is.map (fun i => ws[i]?)).filterMap id = ((W' ad).map some).filterMap id := by rw [hN]
    simpa [List.filterMap_map] using h2
  exact W.vret hF.1 hF.2.1 hr (fun t ht hW => ⟨rfl, ⟨ad, by rw [ht]; exact hP.sub is hsub, hD.sub is hn hN⟩, hS.F ht⟩) hS.2.2 hdg
theorem oin (hF : CallFix p m c cc nL s args (w0 :: AW) own) (hsz : ls.size = nL) (q1 : Cond.methodLink own index (⟨"java/lang/Object", "<init>", "()V"⟩ : MethodName) ∈ AW) (q2 : Cond.instanceMethod (⟨"java/lang/Object", "<init>", "()V"⟩ : MethodName) ∈ AW) (q3 : Cond.code (⟨"java/lang/Object", "<init>", "()V"⟩ : MethodName) object_method_1_code 1 none ∈ AW) (hdg : decode cc pc = .ok (.invokespecial index, 3)) (h1 : 1 ≤ R.frames) (h2 : (rest.map fun v => v.category).sum + 12 ≤ R.locals)
    (kk : W p l e R s m args below meth c H locs cells slots Q (F0 m (pc + 3) ls rest)) : W p l e R s m args below meth c H locs cells slots Q (F0 m pc ls (.ref a :: rest)) :=
  W.objInit hF.1 hF.2.1 hF.2.2.2.1 (hF.2.2.2.2 _ (List.mem_cons_of_mem _ q1)) (hF.2.2.2.2 _ (List.mem_cons_of_mem _ q2)) (hF.2.2.2.2 _ (List.mem_cons_of_mem _ q3)) rfl (hsz.trans hF.2.2.1.symm) rfl hdg h1 (by show 2 * 0 + _ + 12 ≤ _; omega) kk
theorem tys_one {cA : ClassId} {ty : FieldType} {k : Nat} {c0 : ClassId} {D : va_G} {cl : List vw_C} {tys : List (ClassId × FieldType)} (hK : va_K D cl (tys ++ [(cA, ty)]) s) (hk : (tys ++ [(cA, ty)])[k]? = some (c0, ty)) (hl : (tys ++ [(cA, ty)])[tys.length]? = some (cA, ty)) : cA = c0 := by
  have h1 := (hK.2 k _ hk).2
  have h2 := (hK.2 _ _ hl).2
  cases ty with
  | object C =>
    obtain ⟨_, _, _, _, _, g1⟩ := h1
    obtain ⟨_, _, _, _, _, g2⟩ := h2
    exact Option.some.inj (g2.symm.trans g1)
  | _ => exact Option.some.inj ((show s.vm.findClass _ = some cA from h2).symm.trans h1)
/-- new rows -/
theorem newI {n : Int32} {N : Nat} (hF : CallFix p m c cc nL s args (w0 :: AW) own) (hG : GC G s) (hP : va_P G.1 vwCl ws H) (hD : va_D A ws) (hS : va_S A H0 H locs) (hA : ∀ q, H0.size ≤ q → A q) (hn : ¬ n < 0) (hN : n.toNatClampNeg = N) (hby : N * 4 ≤ 536870912) (hc : cells + 1 ≤ R.cells) (hs : slots + N ≤ R.slots) (hq : Cond.arrayClass FieldType.int ∈ AW) (hdg : decode cc pc = .ok (.newarray .int, 2))
    (kk : ∀ (q : Nat) (H1 : Heap), va_P G.1 vwCl (ws ++ [(q, .inl (G.2.1, N, .inl (fun _ => 0)))]) H1 → va_D A (ws ++ [(q, .inl (G.2.1, N, .inl (fun _ => 0)))]) → va_S A H0 H1 locs → W p l e R s m args below meth c H1 locs (cells + 1) (slots + N) Q (F0 m (pc + 2) ls (.ref q :: rest))) : W p l e R s m args below meth c H locs cells slots Q (F0 m pc ls (.int n :: rest)) := by
  refine va_newa (atype := .int) (ty := .int) (a0 := (N, .inl (fun _ => 0))) hF.1 hF.2.1 (hF.2.2.2.2 _ (List.mem_cons_of_mem _ hq)) rfl hG.1 hP hD hS hA (fun _ => rfl) hn hN hby hc hs hdg (fun q cA H1 hK1 hP1 hD1 hS1 => ?_)
  have e1 := tys_one (k := 0) (c0 := G.2.1) hK1 rfl rfl
  subst e1
  exact kk q H1 hP1 hD1 hS1
theorem newR {n : Int32} {N : Nat} (hF : CallFix p m c cc nL s args (w0 :: AW) own) (hG : GC G s) (hO : va_AO "PriceIrons$State" s) (hP : va_P G.1 vwCl ws H) (hD : va_D A ws) (hS : va_S A H0 H locs) (hA : ∀ q, H0.size ≤ q → A q) (hn : ¬ n < 0) (hN : n.toNatClampNeg = N) (hby : N * 4 ≤ 536870912) (hc : cells + 1 ≤ R.cells) (hs : slots + N ≤ R.slots) (hq : Cond.classLink own index "PriceIrons$State" ∈ AW) (hdg : decode cc pc = .ok (.anewarray index, 3))
    (kk : ∀ (q : Nat) (H1 : Heap), va_P G.1 vwCl (ws ++ [(q, .inl (G.2.2.2, N, .inr (.inr (.inr (.inr (fun _ => none))))))]) H1 → va_D A (ws ++ [(q, .inl (G.2.2.2, N, .inr (.inr (.inr (.inr (fun _ => none))))))]) → va_S A H0 H1 locs → W p l e R s m args below meth c H1 locs (cells + 1) (slots + N) Q (F0 m (pc + 3) ls (.ref q :: rest))) : W p l e R s m args below meth c H locs cells slots Q (F0 m pc ls (.int n :: rest)) := by
  refine va_newq (C := "PriceIrons$State") hF.1 hF.2.1 hF.2.2.2.1 (hF.2.2.2.2 _ (List.mem_cons_of_mem _ hq)) hO hG.1 hP hD hS hA hn hN hby hc hs hdg (fun q cA H1 hK1 hP1 hD1 hS1 => ?_)
  have e1 := tys_one (k := 2) (c0 := G.2.2.2) hK1 rfl rfl
  subst e1
  exact kk q H1 hP1 hD1 hS1
/-- a final field in a constructor -/
theorem pfF {C : String} {T : u_T} {N ci : Nat} (hF : CallFix p m c cc nL s args (w0 :: AW) own) (hG : GC G s) (hin2 : meth.name = "<init>") (hP : va_P G.1 vwCl ws H) (hD : va_D A ws) (hS : va_S A H0 H locs) (hin : ∀ w ∈ u_ws C T N, w ∈ AW) (ty0 : Nat → FieldType) (hty : ∀ k, k < N → parseFieldDescriptor (T k).2.2.1 = some (ty0 k)) (hnm : ∀ a, a < N → ∀ b, b < N → a ≠ b → (T a).2.1 ≠ (T b).2.1)
    (q0 : Nat) {fs : List Value} (he : ws[q0]? = some (a, .inr (ci, fs))) (hc : vwCl[ci]? = some (C, T, N)) (k : Nat) (hk : k < N) (hq : Cond.fieldLink own index C (T k).2.1 (T k).2.2.1 ∈ AW) (hsame : (T k).1 = C) (hown2 : (T k).1 = own) (hfin : (T k).2.2.2 = true) {ty : FieldType} {v : Value} (hd : parseFieldDescriptor (T k).2.2.1 = some ty) (hn : narrow ty v = v) (hfit : fits ty v = true) (hl : k < fs.length) (hdg : decode cc pc = .ok (.putfield index, 3))
    (kk : ∀ (H1 : Heap) (locs1 : List Loc), va_P G.1 vwCl (ws.set q0 (a, .inr (ci, fs.set k v))) H1 → va_D A (ws.set q0 (a, .inr (ci, fs.set k v))) → va_S A H0 H1 locs1 → W p l e R s m args below meth c H1 locs1 cells slots Q (F0 m (pc + 3) ls rest)) : W p l e R s m args below meth c H locs cells slots Q (F0 m pc ls (v :: .ref a :: rest)) :=
  va_putF hF.1 hF.2.1 hF.2.2.2.2 (fun w h => List.mem_cons_of_mem _ (hin w h)) ty0 hty hnm hF.2.2.2.1 hG.1 hP hD hS q0 he hc k hk (hF.2.2.2.2 _ (List.mem_cons_of_mem _ hq)) (fun x h => by rw [hsame] at h; exact h) hfin hin2 hown2 hd hn hfit hl hdg kk
/-- a new object -/
theorem newO {C : String} {T : u_T} {N ci : Nat} (hF : CallFix p m c cc nL s args (w0 :: AW) own) (hG : GC G s) (hP : va_P G.1 vwCl ws H) (hD : va_D A ws) (hS : va_S A H0 H locs) (hA : ∀ q, H0.size ≤ q → A q) (hin : ∀ w ∈ u_ws C T N, w ∈ AW) (ty : Nat → FieldType) (hty : ∀ k, k < N → parseFieldDescriptor (T k).2.2.1 = some (ty k)) (hq1 : Cond.classLink own index C ∈ AW) (hq2 : Cond.instantiable C N ∈ AW) (hq3 : Cond.initialized C ∈ AW) (hc : vwCl[ci]? = some (C, T, N)) {fs : List Value} (hfs : ∀ j, j < N → defaultValue (ty j) = vp_V fs j) (h1 : cells + 1 ≤ R.cells) (h2 : slots + N ≤ R.slots) (hdg : decode cc pc = .ok (.new index, 3))
    (kk : ∀ (q : Nat) (H1 : Heap), va_P G.1 vwCl (ws ++ [(q, .inr (ci, fs))]) H1 → va_D A (ws ++ [(q, .inr (ci, fs))]) → va_S A H0 H1 locs → W p l e R s m args below meth c H1 locs (cells + 1) (slots + N) Q (F0 m (pc + 3) ls (.ref q :: rest))) : W p l e R s m args below meth c H locs cells slots Q (F0 m pc ls rest) :=
  va_new hF.1 hF.2.1 hF.2.2.2.2 (fun w h => List.mem_cons_of_mem _ (hin w h)) ty hty hF.2.2.2.1 (hF.2.2.2.2 _ (List.mem_cons_of_mem _ hq1)) (hF.2.2.2.2 _ (List.mem_cons_of_mem _ hq2)) (hF.2.2.2.2 _ (List.mem_cons_of_mem _ hq3)) hG.1 hP hD hS hA hc hfs h1 h2 hdg kk
/-- behind a call of a constructor -/
theorem cin {A0 : Nat → Prop} (hr : va_Run p l e R s m args below meth c H locs cells slots mc ms (F0 m pc ls st0) rest (inQ G W' (va_A wc H.size) aa) (va_A wc H.size)) (hP : va_P G.1 vwCl ws H) (hD : va_D A0 ws) (hS : va_S A0 H0 H locs) (hA : ∀ q, H0.size ≤ q → A0 q)
    (isC isR : List Nat) (hC : isC.map (fun i => ws[i]?) = wc.map some) (hR : isR.map (fun i => ws[i]?) = (isR.filterMap (fun i => ws[i]?)).map some) (hn : va_nd isR = true) (hdis : ∀ i ∈ isR, i ∉ isC)
    (kk : ∀ (ad : Nat → Nat) (H1 : Heap) (locs1 : List Loc), va_P G.1 vwCl (isR.filterMap (fun i => ws[i]?) ++ W' ad) H1 → va_D A0 (isR.filterMap (fun i => ws[i]?) ++ W' ad) → va_S A0 H0 H1 locs1 → W p l e R s m args below meth c H1 locs1 (cells + mc) (slots + ms) Q (F0 m (pc + 3) ls rest)) : W p l e R s m args below meth c H locs cells slots Q (F0 m pc ls st0) := by
  have hFc := va_free hD hS hA isC hC
  intro T hT X
  obtain ⟨v9, st₀, t, T', L, h0, X', hL, e1, e2, ⟨hv, ⟨ad, hp, hd⟩, hz, hk⟩, st⟩ := hr T hT X
  cases hv
  rw [h0] at hz hk
  obtain ⟨hP1, hD1⟩ := va_join hP hD isC isR hC hR hn hdis hk hFc hp hd
  have hS1 : va_S A0 H0 T'.heap (locs ++ L) := ⟨Nat.le_trans hS.1 (by rw [e1]; exact hz), fun q h1 h2 => by rw [e1, hk q (Nat.lt_of_lt_of_le h1 hS.1) (fun z => h2 (hFc q z))]; exact hS.2.1 q h1 h2, fun q hq => by
      rcases List.mem_append.mp hq with h | h
      · exact hS.2.2 q h
      · exact hFc _ (hL q h)⟩
  obtain ⟨t2, a1, b1⟩ := kk ad T'.heap (locs ++ L) (by rw [e1]; exact hP1) hD1 hS1 T' rfl X'
  exact ⟨t2, st t2 a1, b1⟩
theorem inP_pre {A0 : Nat → Prop} (hG : GC G s) (hO : va_AO "PriceIrons$State" s) (hP : va_P G.1 vwCl ws H) (hD : va_D A0 ws) (isC : List Nat) (hC : isC.map (fun i => ws[i]?) = wc.map some) (hnC : va_nd isC = true) : ∀ U : State, U.heap = H → s.WarmedH U.vm → inP G As H.size wc As.toArray U := by
  intro U hU hW
  obtain ⟨h1, h2, h3, h4, h5⟩ := wrP_pre (As := As) hG hP hD isC hC hnC U hU hW
  exact ⟨h1, h2, h3, h4, h5, va_AO.moved hW.alike hO⟩
/-- a constructor of a nest mate is called -/
theorem inN {A0 : Nat → Prop} (hF : CallFix p m c cc nL s args (w0 :: AW) own) (hG : GC G s) (hO : va_AO "PriceIrons$State" s) (hP : va_P G.1 vwCl ws H) (hD : va_D A0 ws) (hS : va_S A0 H0 H locs) (hA : ∀ q, H0.size ≤ q → A0 q) (hsz : ls.size = nL) (hM : IM l y bytes maxL fr lo mc ms G [.ref b] wc W') (k1 : Cond.code y bytes maxL none ∈ AW) (k2 : Cond.initialized y.cls ∈ AW) (k3 : KQ y 0) (k4 : Cond.instanceMethod y ∈ AW) (k5 : y.name = "<init>") (hn : Cond.methodLinkNest own index y "PriceIrons" ∈ NWL)
    (isC isR : List Nat) (hC : isC.map (fun i => ws[i]?) = wc.map some) (hR : isR.map (fun i => ws[i]?) = (isR.filterMap (fun i => ws[i]?)).map some) (hnC : va_nd isC = true) (hnR : va_nd isR = true) (hdis : ∀ i ∈ isR, i ∉ isC) (hcat : (rest.map fun v => v.category).sum ≤ 8) (hRm : fr + 1 ≤ R.frames ∧ 8 + (maxL + 11) + lo ≤ R.locals) (hf : cells + mc ≤ R.cells ∧ slots + ms ≤ R.slots) (hdg : decode cc pc = .ok (.invokespecial index, 3))
    (kk : ∀ (ad : Nat → Nat) (H1 : Heap) (locs1 : List Loc), va_P G.1 vwCl (isR.filterMap (fun i => ws[i]?) ++ W' ad) H1 → va_D A0 (isR.filterMap (fun i => ws[i]?) ++ W' ad) → va_S A0 H0 H1 locs1 → W p l e R s m args below meth c H1 locs1 (cells + mc) (slots + ms) Q (F0 m (pc + 3) ls rest)) : W p l e R s m args below meth c H locs cells slots Q (F0 m pc ls (.ref b :: rest)) :=
  cin (va_runIN (host := "PriceIrons") (As := []) (b := b) hF (hM H.size) ⟨cwn hF k1 k2 k3 hn hG hRm, k5, hF.2.2.2.2 _ (List.mem_cons_of_mem _ k4)⟩
    ⟨inP_blind, inP_pre (As := [.ref b]) hG hO hP hD isC hC hnC⟩ rfl rfl hsz rfl (lv_room hcat) hdg hf) hP hD hS hA isC isR hC hR hnR hdis kk
theorem inO {A0 : Nat → Prop} (hF : CallFix p m c cc nL s args (w0 :: AW) own) (hG : GC G s) (hO : va_AO "PriceIrons$State" s) (hP : va_P G.1 vwCl ws H) (hD : va_D A0 ws) (hS : va_S A0 H0 H locs) (hA : ∀ q, H0.size ≤ q → A0 q) (hsz : ls.size = nL) (hM : IM l y bytes maxL fr lo mc ms G [.ref b] wc W') (k1 : Cond.code y bytes maxL none ∈ AW) (k2 : Cond.initialized y.cls ∈ AW) (k3 : KQ y 0) (k4 : Cond.instanceMethod y ∈ AW) (k5 : y.name = "<init>") (hn : Cond.methodLink own index y ∈ AW)
    (isC isR : List Nat) (hC : isC.map (fun i => ws[i]?) = wc.map some) (hR : isR.map (fun i => ws[i]?) = (isR.filterMap (fun i => ws[i]?)).map some) (hnC : va_nd isC = true) (hnR : va_nd isR = true) (hdis : ∀ i ∈ isR, i ∉ isC) (hcat : (rest.map fun v => v.category).sum ≤ 8) (hRm : fr + 1 ≤ R.frames ∧ 8 + (maxL + 11) + lo ≤ R.locals) (hf : cells + mc ≤ R.cells ∧ slots + ms ≤ R.slots) (hdg : decode cc pc = .ok (.invokespecial index, 3))
    (kk : ∀ (ad : Nat → Nat) (H1 : Heap) (locs1 : List Loc), va_P G.1 vwCl (isR.filterMap (fun i => ws[i]?) ++ W' ad) H1 → va_D A0 (isR.filterMap (fun i => ws[i]?) ++ W' ad) → va_S A0 H0 H1 locs1 → W p l e R s m args below meth c H1 locs1 (cells + mc) (slots + ms) Q (F0 m (pc + 3) ls rest)) : W p l e R s m args below meth c H locs cells slots Q (F0 m pc ls (.ref b :: rest)) :=
  cin (va_runI (As := []) (b := b) hF (hM H.size) ⟨cwo hF k1 k2 k3 hn hRm, k5, hF.2.2.2.2 _ (List.mem_cons_of_mem _ k4)⟩
    ⟨inP_blind, inP_pre (As := [.ref b]) hG hO hP hD isC hC hnC⟩ rfl rfl hsz rfl (lv_room hcat) hdg hf) hP hD hS hA isC isR hC hR hnR hdis kk
/-- a reference is put into a row of references -/
theorem ast_q {i : Int32} {k N qk ci : Nat} {v : Addr} {vs : List Value} {f : Nat → Option Nat} (hF : CallFix p m c cc nL s args (w0 :: AW) own) (hG : GC G s) (hP : va_P G.1 vwCl ws H) (hD : va_D A ws) (hS : va_S A H0 H locs) (q0 : Nat) (ha : ws[q0]? = some (a, .inl (G.2.2.2, N, .inr (.inr (.inr (.inr f)))))) (hv : ws[qk]? = some (v, .inr (2, vs))) (hk : i.toNatClampNeg = k) (hin : ¬ (i < 0 ∨ N ≤ i.toNatClampNeg)) (hdg : decode cc pc = .ok (.aastore, 1))
    (kk : ∀ (H1 : Heap) (locs1 : List Loc), va_P G.1 vwCl (ws.set q0 (a, .inl (G.2.2.2, N, .inr (.inr (.inr (.inr (va_up f k (some v)))))))) H1 → va_D A (ws.set q0 (a, .inl (G.2.2.2, N, .inr (.inr (.inr (.inr (va_up f k (some v)))))))) → va_S A H0 H1 locs1 → W p l e R s m args below meth c H1 locs1 cells slots Q (F0 m (pc + 1) ls rest)) : W p l e R s m args below meth c H locs cells slots Q (F0 m pc ls (.ref v :: .int i :: .ref a :: rest)) := by
  subst hk
  exact va_astq (r := (RX6, TX6, 10)) hF.1 hF.2.1 hG.1 hP hD hS q0 2 qk 2 ha rfl hv rfl hin hdg kk
end BASE6
/-- two rows that hold the same within their length are one cell -/
theorem arr_same {c : ClassId} {n : Nat} {f g : Nat → Option Nat} (h : ∀ j, j < n → f j = g j) : vp_cell c (n, .inr (.inr (.inr (.inr f)))) = vp_cell c (n, .inr (.inr (.inr (.inr g)))) := by
  rw [vp_cell_q, vp_cell_q]
  unfold arrV
  congr 1
  apply Array.ext
  · simp
  · intro i h1 h2
    simp at h1
    simp [h i h1]
theorem ring_same {D : va_G} {cl : List vw_C} {H : Heap} {a : Nat} {c : ClassId} {n : Nat} {f g : Nat → Option Nat} (q0 : Nat) {ws : va_W} (hP : va_P D cl ws H) (he : ws[q0]? = some (a, .inl (c, n, .inr (.inr (.inr (.inr f)))))) (h : ∀ j, j < n → f j = g j) : va_P D cl (ws.set q0 (a, .inl (c, n, .inr (.inr (.inr (.inr g)))))) H := by
  intro k q hq
  by_cases hk : k = q0
  · subst hk
    have hl : k < ws.length := (List.getElem?_eq_some_iff.mp he).1
    rw [List.getElem?_set_self hl] at hq
    cases hq
    have h1 := hP k _ he
    show H[a]? = some (vp_cell c (n, .inr (.inr (.inr (.inr g)))))
    rw [← arr_same h]
    exact h1
  · rw [List.getElem?_set_ne (Ne.symm hk)] at hq
    exact hP k q hq
