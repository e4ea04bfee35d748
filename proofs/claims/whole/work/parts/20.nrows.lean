/-! ===== constructors: new cells ===== -/
def nB (args : Array Value) (s : State) (A : Nat → Prop) : Prop := (Cond.arrayClass .int).before args s = true ∧ (Cond.arrayClass .boolean).before args s = true ∧ va_AO "ReachTrees$Net" s ∧ va_AO "ReachTrees$Chain" s ∧ ∀ q : Nat, s.heap.size ≤ q → A q
def nPre (D : va_G) (tys : List (ClassId × FieldType)) (av : List Value) (ws : va_W) (sz : Nat) : Array Value → State → Prop := fun v U => v = av.toArray ∧ U.heap.size = sz ∧ va_P D vwCl ws U.heap ∧ xK D tys U ∧ va_D (fun _ => True) ws ∧ xCst (va_A ws sz) U U.heap ∧ va_AO "ReachTrees$Net" U ∧ va_AO "ReachTrees$Chain" U
def nQ (D : va_G) (ws : va_W) (sz : Nat) (P : va_W → Prop) : Array Value → State → Outcome → State → Prop := fun _ st o t => o = .returned none ∧ (∃ w, P w ∧ va_P D vwCl w t.heap ∧ va_D (va_A ws sz) w) ∧ va_F (va_A ws sz) st t
abbrev nRm (fr lo mc ms : Nat) : Room := { frames := fr, cells := mc, slots := ms, locals := lo }
abbrev nWd (y : MethodName) (cc : ByteArray) (maxL : Nat) : List Cond := [Cond.code y cc maxL none, Cond.arrayClass .int, Cond.arrayClass .boolean]
/-- a constructor's contract -/
def nMet (l : Launch) (D : va_G) (tys : List (ClassId × FieldType)) (y : MethodName) (cc : ByteArray) (maxL fr lo mc ms : Nat) (av : List Value) (ws : va_W) (sz : Nat) (P : va_W → Prop) : Prop :=
  Met l y (nWd y cc maxL) (nRm fr lo mc ms) (nPre D tys av ws sz) (nQ D ws sz P) mc ms (va_A ws sz)
theorem n_enter {l : Launch} {D : va_G} {tys : List (ClassId × FieldType)} {y : MethodName} {cc : ByteArray} {maxL fr lo mc ms : Nat} {av : List Value} {ws : va_W} {sz : Nat} {P : va_W → Prop}
    (hy : plainName y.cls = true) (hyn : y.name = "<init>") (hlen : (lg_sl av).length ≤ maxL)
    (body : ∀ (p : Program) (e : Env) (s : State) (m : MethodId) (args : Array Value) (below : List Frame) (meth : Method) (c : Code) (A : Nat → Prop), A = va_A ws s.heap.size → xE p s m args meth c cc maxL none y.cls D tys A → nB args s A → meth.name = "<init>" → ∀ ls : Array Slot, lv_has ls maxL (lv_args 0 av) → xw D A s.heap ws s.heap [] → W p l e (nRm fr lo mc ms) s m args below meth c s.heap [] 0 0 (MQ below (nQ D ws s.heap.size P) args s mc ms A) (F0 m 0 ls [])) :
    nMet l D tys y cc maxL fr lo mc ms av ws sz P := by
  refine Met.ofW (cc := cc) (maxL := maxL) (ret := none) hy rfl ?_
  intro p e s m args below meth c s₁ B hml hv
  obtain ⟨rfl, hsz, hP, hK, hD0, hC0, hO1, hO2⟩ := hv
  subst hsz
  have hts := atoms_spec (ws := nWd y cc maxL) B.pre
  have hown : s.vm.findClass y.cls = some m.cls := findClass_of_methodNamed B.named
  have hl := lv_entry av (n := maxL) hlen
  rw [lg_entry_eq]
  exact body p e s m av.toArray below meth c _ rfl ⟨B.exec, B.bytes, hml, B.returns, hown, hK, B.notSynchronized, hC0⟩ ⟨hts _ (List.mem_of_getElem? (i := 1) rfl), hts _ (List.mem_of_getElem? (i := 2) rfl), hO1, hO2, fun q h => Or.inr h⟩ ((name_of_methodNamed B.named B.method).1.trans hyn) _ hl ⟨hP, hD0.self, va_S.rf⟩
section XN
variable {p : Program} {l : Launch} {e : Env} {R : Room} {s : State} {m : MethodId} {args : Array Value} {below : List Frame} {meth : Method} {c : Code} {H : Heap} {locs : List Loc} {cells slots : Nat} {Q : State → Prop}
variable {cc : ByteArray} {nL : Nat} {ret : Option FieldType} {own : String} {D : va_G} {cI cZ cN cC : ClassId} {A : Nat → Prop} {ws ws' wc : va_W} {pc : Nat} {ls : Array Slot} {rest st0 : List Value} {a : Nat}
theorem n_ra {x y : ClassId} {ty : FieldType} (h1 : va_RA s x ty) (h2 : va_RA s y ty) : x = y := by
  cases ty with
  | object C =>
    obtain ⟨_, _, _, _, _, e1⟩ := h1
    obtain ⟨_, _, _, _, _, e2⟩ := h2
    exact Option.some.inj (e1.symm.trans e2)
  | _ => exact Option.some.inj (Eq.trans (Eq.symm (show s.vm.findClass _ = some x from h1)) (show s.vm.findClass _ = some y from h2))
theorem n_newi (E : xE p s m args meth c cc nL ret own D (xtys cI cZ cN cC) A) (F : nB args s A) (hw : xw D A s.heap ws H locs) {n : Int32} {N' : Nat} (hn : ¬ n < 0) (hN : n.toNatClampNeg = N') (hbytes : N' * componentBytes .int ≤ 536870912) (hcells : cells + 1 ≤ R.cells) (hslots : slots + N' ≤ R.slots) (hdg : decode cc pc = .ok (.newarray .int, 2))
    (kk : ∀ (q : Nat) (H : Heap), xw D A s.heap (ws ++ [(q, .inl (cI, N', .inl (fun _ => 0)))]) H locs → W p l e R s m args below meth c H locs (cells + 1) (slots + N') Q (F0 m (pc + 2) ls (.ref q :: rest))) : W p l e R s m args below meth c H locs cells slots Q (F0 m pc ls (.int n :: rest)) := by
  obtain ⟨hx, hb, hml, hr, hown, hK, hlocks, hcst⟩ := E
  refine va_newa (atype := .int) (ty := .int) hx hb F.1 rfl hK.1 hw.1 hw.2.1 hw.2.2 F.2.2.2.2 (a0 := (N', .inl (fun _ => 0))) (fun _ => rfl) hn hN hbytes hcells hslots hdg (fun q cA H1 hK1 hP1 hD1 hS1 => ?_)
  have he : cA = cI := n_ra (ty := .int) (hK1.2 4 (cA, .int) rfl).2 (hK.1.2 0 (cI, .int) rfl).2
  subst he
  exact kk q H1 ⟨hP1, hD1, hS1⟩
theorem n_newz (E : xE p s m args meth c cc nL ret own D (xtys cI cZ cN cC) A) (F : nB args s A) (hw : xw D A s.heap ws H locs) {n : Int32} {N' : Nat} (hn : ¬ n < 0) (hN : n.toNatClampNeg = N') (hbytes : N' * componentBytes .boolean ≤ 536870912) (hcells : cells + 1 ≤ R.cells) (hslots : slots + N' ≤ R.slots) (hdg : decode cc pc = .ok (.newarray .boolean, 2))
    (kk : ∀ (q : Nat) (H : Heap), xw D A s.heap (ws ++ [(q, .inl (cZ, N', .inl (fun _ => 0)))]) H locs → W p l e R s m args below meth c H locs (cells + 1) (slots + N') Q (F0 m (pc + 2) ls (.ref q :: rest))) : W p l e R s m args below meth c H locs cells slots Q (F0 m pc ls (.int n :: rest)) := by
  obtain ⟨hx, hb, hml, hr, hown, hK, hlocks, hcst⟩ := E
  refine va_newa (atype := .boolean) (ty := .boolean) hx hb F.2.1 rfl hK.1 hw.1 hw.2.1 hw.2.2 F.2.2.2.2 (a0 := (N', .inl (fun _ => 0))) (fun _ => rfl) hn hN hbytes hcells hslots hdg (fun q cA H1 hK1 hP1 hD1 hS1 => ?_)
  have he : cA = cZ := n_ra (ty := .boolean) (hK1.2 4 (cA, .boolean) rfl).2 (hK.1.2 1 (cZ, .boolean) rfl).2
  subst he
  exact kk q H1 ⟨hP1, hD1, hS1⟩
theorem n_newN {index : Nat} (E : xE p s m args meth c cc nL ret own D (xtys cI cZ cN cC) A) (F : nB args s A) (hw : xw D A s.heap ws H locs) (hcl : Cond.classLink own index "ReachTrees$Net" ∈ xT) {n : Int32} {N' : Nat} (hn : ¬ n < 0) (hN : n.toNatClampNeg = N') (hbytes : N' * 4 ≤ 536870912) (hcells : cells + 1 ≤ R.cells) (hslots : slots + N' ≤ R.slots) (hdg : decode cc pc = .ok (.anewarray index, 3))
    (kk : ∀ (q : Nat) (H : Heap), xw D A s.heap (ws ++ [(q, .inl (cN, N', .inr (.inr (.inr (.inr (fun _ => none))))))]) H locs → W p l e R s m args below meth c H locs (cells + 1) (slots + N') Q (F0 m (pc + 3) ls (.ref q :: rest))) : W p l e R s m args below meth c H locs cells slots Q (F0 m pc ls (.int n :: rest)) := by
  obtain ⟨hx, hb, hml, hr, hown, hK, hlocks, hcst⟩ := E
  refine va_newq hx hb hown (hK.2.use hcl) F.2.2.1 hK.1 hw.1 hw.2.1 hw.2.2 F.2.2.2.2 hn hN hbytes hcells hslots hdg (fun q cA H1 hK1 hP1 hD1 hS1 => ?_)
  have he : cA = cN := n_ra (ty := .object "ReachTrees$Net") (hK1.2 4 (cA, .object "ReachTrees$Net") rfl).2 (hK.1.2 2 (cN, .object "ReachTrees$Net") rfl).2
  subst he
  exact kk q H1 ⟨hP1, hD1, hS1⟩
theorem n_newC {index : Nat} (E : xE p s m args meth c cc nL ret own D (xtys cI cZ cN cC) A) (F : nB args s A) (hw : xw D A s.heap ws H locs) (hcl : Cond.classLink own index "ReachTrees$Chain" ∈ xT) {n : Int32} {N' : Nat} (hn : ¬ n < 0) (hN : n.toNatClampNeg = N') (hbytes : N' * 4 ≤ 536870912) (hcells : cells + 1 ≤ R.cells) (hslots : slots + N' ≤ R.slots) (hdg : decode cc pc = .ok (.anewarray index, 3))
    (kk : ∀ (q : Nat) (H : Heap), xw D A s.heap (ws ++ [(q, .inl (cC, N', .inr (.inr (.inr (.inr (fun _ => none))))))]) H locs → W p l e R s m args below meth c H locs (cells + 1) (slots + N') Q (F0 m (pc + 3) ls (.ref q :: rest))) : W p l e R s m args below meth c H locs cells slots Q (F0 m pc ls (.int n :: rest)) := by
  obtain ⟨hx, hb, hml, hr, hown, hK, hlocks, hcst⟩ := E
  refine va_newq hx hb hown (hK.2.use hcl) F.2.2.2.1 hK.1 hw.1 hw.2.1 hw.2.2 F.2.2.2.2 hn hN hbytes hcells hslots hdg (fun q cA H1 hK1 hP1 hD1 hS1 => ?_)
  have he : cA = cC := n_ra (ty := .object "ReachTrees$Chain") (hK1.2 4 (cA, .object "ReachTrees$Chain") rfl).2 (hK.1.2 3 (cC, .object "ReachTrees$Chain") rfl).2
  subst he
  exact kk q H1 ⟨hP1, hD1, hS1⟩
theorem n_new {C : String} {T : u_T} {N ci index : Nat} {tys : List (ClassId × FieldType)} (E : xE p s m args meth c cc nL ret own D tys A) (F : nB args s A) (hw : xw D A s.heap ws H locs) (hin : ∀ w ∈ u_ws C T N, w ∈ xT) (ty : Nat → FieldType) (hty : ∀ k, k < N → parseFieldDescriptor (T k).2.2.1 = some (ty k)) (hcl : Cond.classLink own index C ∈ xT) (hinst : Cond.instantiable C N ∈ xT) (hini : Cond.initialized C ∈ xT) (hc : vwCl[ci]? = some (C, T, N)) {fs : List Value} (hfs : ∀ j, j < N → defaultValue (ty j) = vp_V fs j) (hcells : cells + 1 ≤ R.cells) (hslots : slots + N ≤ R.slots) (hdg : decode cc pc = .ok (.new index, 3))
    (kk : ∀ (q : Nat) (H : Heap), xw D A s.heap (ws ++ [(q, .inr (ci, fs))]) H locs → W p l e R s m args below meth c H locs (cells + 1) (slots + N) Q (F0 m (pc + 3) ls (.ref q :: rest))) : W p l e R s m args below meth c H locs cells slots Q (F0 m pc ls rest) := by
  obtain ⟨hx, hb, hml, hr, hown, hK, hlocks, hcst⟩ := E
  exact va_new (Ts := xT) hx hb (fun w h => hK.2.use h) hin ty hty hown (hK.2.use hcl) (hK.2.use hinst) (hK.2.use hini) hK.1 hw.1 hw.2.1 hw.2.2 F.2.2.2.2 hc hfs hcells hslots hdg (fun q H1 hP1 hD1 hS1 => kk q H1 ⟨hP1, hD1, hS1⟩)
theorem n_putF {C : String} {T : u_T} {N ci index : Nat} {tys : List (ClassId × FieldType)} {H0 : Heap} (E : xE p s m args meth c cc nL ret own D tys A) (hin2 : meth.name = "<init>") (hw : xw D A H0 ws H locs) (hin : ∀ w ∈ u_ws C T N, w ∈ xT) (ty0 : Nat → FieldType) (hty : ∀ k, k < N → parseFieldDescriptor (T k).2.2.1 = some (ty0 k)) (hnm : ∀ a, a < N → ∀ b, b < N → a ≠ b → (T a).2.1 ≠ (T b).2.1) (q0 : Nat) {fs : List Value} (he : ws[q0]? = some (a, .inr (ci, fs))) (hc : vwCl[ci]? = some (C, T, N)) (k : Nat) (hk : k < N) (hlink : Cond.fieldLink own index (T k).1 (T k).2.1 (T k).2.2.1 ∈ xT) (hfin : (T k).2.2.2 = true) (hdecl : (T k).1 = own) {v : Value} (hn : narrow (ty0 k) v = v) (hfit : fits (ty0 k) v = true) (hl : k < fs.length) (hs : ws.set q0 (a, .inr (ci, fs.set k v)) = ws')
    (hdg : decode cc pc = .ok (.putfield index, 3)) (kk : ∀ (H : Heap) (locs : List Loc), xw D A H0 ws' H locs → W p l e R s m args below meth c H locs cells slots Q (F0 m (pc + 3) ls rest)) : W p l e R s m args below meth c H locs cells slots Q (F0 m pc ls (v :: .ref a :: rest)) := by
  obtain ⟨hx, hb, hml, hr, hown, hK, hlocks, hcst⟩ := E
  subst hs
  exact va_putF (D := D) (Ts := xT) hx hb (fun w h => hK.2.use h) hin ty0 hty hnm hown hK.1 hw.1 hw.2.1 hw.2.2 q0 he hc k hk (hK.2.use hlink) (fun _ h => h) hfin hin2 hdecl (hty k hk) hn hfit hl hdg (fun H1 l1 h1 h2 h3 => kk H1 l1 ⟨h1, h2, h3⟩)
theorem n_ast {tys : List (ClassId × FieldType)} {H0 : Heap} (E : xE p s m args meth c cc nL ret own D tys A) (hw : xw D A H0 ws H locs) (q0 t0 qk ci : Nat) {cA : ClassId} {r : vw_C} {n v : Nat} {vs : List Value} {f : Nat → Option Nat} (ha : ws[q0]? = some (a, .inl (cA, n, .inr (.inr (.inr (.inr f)))))) (ht : tys[t0]? = some (cA, .object r.1)) (hv : ws[qk]? = some (v, .inr (ci, vs))) (hc : vwCl[ci]? = some r) {i : Int32} (hin : vp_in i n) (hs : ws.set q0 (a, .inl (cA, n, .inr (.inr (.inr (.inr (va_up f i.toNatClampNeg (some v))))))) = ws') (hdg : decode cc pc = .ok (.aastore, 1))
    (kk : ∀ (H : Heap) (locs : List Loc), xw D A H0 ws' H locs → W p l e R s m args below meth c H locs cells slots Q (F0 m (pc + 1) ls rest)) : W p l e R s m args below meth c H locs cells slots Q (F0 m pc ls (.ref v :: .int i :: .ref a :: rest)) := by
  obtain ⟨hx, hb, hml, hr, hown, hK, hlocks, hcst⟩ := E
  subst hs
  exact va_astq hx hb hK.1 hw.1 hw.2.1 hw.2.2 q0 t0 qk ci ha ht hv hc hin hdg (fun H1 l1 h1 h2 h3 => kk H1 l1 ⟨h1, h2, h3⟩)
theorem n_vret {fr lo mc ms : Nat} {P : va_W → Prop} {tys : List (ClassId × FieldType)} {ws0 w : va_W} (E : xE p s m args meth c cc nL none own D tys A) (hA : A = va_A ws0 s.heap.size) (hw : xw D A s.heap w H locs) (hP : P w) (hdg : decode cc pc = .ok (.return_, 1)) : W p l e (nRm fr lo mc ms) s m args below meth c H locs mc ms (MQ below (nQ D ws0 s.heap.size P) args s mc ms A) (F0 m pc ls []) := by
  obtain ⟨hx, hb, hml, hr, hown, hK, hlocks, hcst⟩ := E
  subst hA
  exact W.vret hx hb hr (fun t ht hW => ⟨rfl, ⟨w, hP, by rw [ht]; exact hw.1, hw.2.1⟩, hw.2.2.F ht⟩) hw.2.2.2.2 hdg hlocks
/-- the words of a constructor's call -/
def xI (own : String) (idx : Nat) (y : MethodName) (bytes : ByteArray) (maxL : Nat) (n : Nat) : Prop :=
  ((Cond.methodLink own idx y ∈ xT ∨ ∃ host, Cond.methodLinkNest own idx y host ∈ xT) ∧ Cond.instanceMethod y ∈ xT ∧ Cond.initialized y.cls ∈ xT ∧ Cond.code y bytes maxL none ∈ xT) ∧ y.name = "<init>" ∧ y.cls ≠ "java/lang/invoke/MethodHandle" ∧ y.cls ≠ "java/lang/invoke/VarHandle" ∧ (parseMethodDescriptor y.desc).map (fun d => d.parameters.length) = some n
theorem nPre_blind {tys : List (ClassId × FieldType)} {av : List Value} {sz : Nat} : FrameBlind (nPre D tys av wc sz) := fun a U g mk q => by
  obtain ⟨q0, qz, qP, qK, qD, qC, qO1, qO2⟩ := q
  exact ⟨q0, qz, qP, xK.same qK rfl, qD, xCst.same qC rfl rfl, va_AO.moved (Vm.Alike.refl U.vm) qO1, va_AO.moved (Vm.Alike.refl U.vm) qO2⟩
theorem n_after {a : Array Value} {wf : va_W} {mc ms : Nat} {P : va_W → Prop} (hr : va_Run p l e R s m args below meth c H locs cells slots mc ms (F0 m pc ls st0) rest (nQ D wc H.size P a) (va_A wc H.size)) (hw : xw D A s.heap ws H locs) (hs : ws = wf ++ wc) (hA : ∀ q : Nat, s.heap.size ≤ q → A q)
    (kk : ∀ (w : va_W) (H : Heap) (locs : List Loc), P w → xw D A s.heap (wf ++ w) H locs → W p l e R s m args below meth c H locs (cells + mc) (slots + ms) Q (F0 m (pc + 3) ls rest)) : W p l e R s m args below meth c H locs cells slots Q (F0 m pc ls st0) := by
  intro T hT X
  obtain ⟨v, st₀, t, T', L, h0, X', hL, e1, e2, ⟨hv, ⟨w, hPw, hP1, hD1⟩, hz, hk⟩, st⟩ := hr T hT X
  cases hv
  rw [h0] at hz hk
  obtain ⟨hP, hD, hS⟩ := hw
  have hAA : ∀ q, va_A wc H.size q → A q := fun q hq => by
    rcases hq with ⟨j, z, hj⟩ | hq
    · exact hD.2 _ _ (x_suf hs hj)
    · exact hA q (Nat.le_trans hS.1 hq)
  have hwf : ∀ (k : Nat) (q : Nat × va_E), wf[k]? = some q → ws[k]? = some q ∧ ¬ va_A wc H.size q.1 := fun k q hq => by
    have hlt : k < wf.length := (List.getElem?_eq_some_iff.mp hq).1
    have h2 : ws[k]? = some q := by rw [hs, List.getElem?_append_left hlt]; exact hq
    refine ⟨h2, fun hin => ?_⟩
    rcases hin with ⟨j, z, hj⟩ | hin
    · have hij := hD.1 _ k _ q (x_suf hs hj) h2 rfl
      omega
    · have := (hP k q h2).lt
      omega
  have hP' : va_P D vwCl (wf ++ w) T'.heap := by
    rw [e1]
    exact va_P.app (fun k q hq => (hP k q (hwf k q hq).1).kept (hk q.1 (hP k q (hwf k q hq).1).lt (hwf k q hq).2)) hP1
  have hD' : va_D A (wf ++ w) := va_D.app ⟨fun i j a b ha hb hab => hD.1 i j a b (hwf i a ha).1 (hwf j b hb).1 hab, fun k q hq => hD.2 k q (hwf k q hq).1⟩ (hD1.weaken (fun k q _ h => hAA q.1 h)) (fun i j x y hx hy hxy => (hwf i x hx).2 (by rw [hxy]; exact hD1.2 j y hy))
  have hS' : va_S A s.heap T'.heap (locs ++ L) := ⟨Nat.le_trans hS.1 (by rw [e1]; exact hz), fun q h1 h2 => by rw [e1, hk q (Nat.lt_of_lt_of_le h1 hS.1) (fun z => h2 (hAA q z))]; exact hS.2.1 q h1 h2, fun q hq => by
    rcases List.mem_append.mp hq with h | h
    · exact hS.2.2 q h
    · exact hAA _ (hL q h)⟩
  obtain ⟨t2, a1, b1⟩ := kk w T'.heap (locs ++ L) hPw ⟨hP', hD', hS'⟩ T' rfl X'
  exact ⟨t2, st t2 a1, b1⟩
theorem n_call {y : MethodName} {bytes : ByteArray} {maxL n idx fr' lo' mc ms : Nat} {b : Nat} {As : List Value} {wf : va_W} {P : va_W → Prop} {tys : List (ClassId × FieldType)} (E : xE p s m args meth c cc nL ret own D tys A) (F : nB args s A) (hw : xw D A s.heap ws H locs) (hV : xI own idx y bytes maxL n) (hM : nMet l D tys y bytes maxL fr' lo' mc ms (.ref b :: As) wc H.size P) (hs : ws = wf ++ wc) (hAs : As.length = n) (hrm : fr' + 1 ≤ R.frames ∧ 8 + (maxL + 11) + lo' ≤ R.locals) (hcl : cells + mc ≤ R.cells ∧ slots + ms ≤ R.slots) (hls : ls.size = nL) (hst : st0 = As.reverse ++ .ref b :: rest) (hrest : (rest.map fun v => v.category).sum ≤ 8) (hdg : decode cc pc = .ok (.invokespecial idx, 3))
    (kk : ∀ (w : va_W) (H : Heap) (locs : List Loc), P w → xw D A s.heap (wf ++ w) H locs → W p l e R s m args below meth c H locs (cells + mc) (slots + ms) Q (F0 m (pc + 3) ls rest)) : W p l e R s m args below meth c H locs cells slots Q (F0 m pc ls st0) := by
  obtain ⟨hx, hb, hml, hr, hown, hK, hlocks, hcst⟩ := id E
  obtain ⟨⟨w1, w2, w4, w5⟩, d0, d1, d2, d3⟩ := hV
  have hts0 : ∀ w ∈ xT, w.before args s = true := fun w h => hK.2.use h
  have hts : ∀ w ∈ xT ++ [Cond.arrayClass .int, Cond.arrayClass .boolean], w.before args s = true := fun w h => by
    rcases List.mem_append.mp h with h | h
    · exact hts0 w h
    · rcases List.mem_cons.mp h with rfl | h
      · exact F.1
      · rcases List.mem_cons.mp h with rfl | h
        · exact F.2.1
        · cases h
  have hG : GoodIn (xT ++ [Cond.arrayClass .int, Cond.arrayClass .boolean]) (nWd y bytes maxL) := fun w h => by
    rcases List.mem_cons.mp h with rfl | h
    · exact ⟨List.mem_append_left _ w5, Or.inl rfl⟩
    · rcases List.mem_cons.mp h with rfl | h
      · exact ⟨List.mem_append_right _ (List.mem_of_getElem? (i := 0) rfl), Or.inr ⟨_, rfl⟩⟩
      · rcases List.mem_cons.mp h with rfl | h
        · exact ⟨List.mem_append_right _ (List.mem_of_getElem? (i := 1) rfl), Or.inr ⟨_, rfl⟩⟩
        · cases h
  have hpre : PreS s H (nPre D tys (.ref b :: As) wc H.size) (.ref b :: As) := ⟨nPre_blind, fun U hU hW => ⟨rfl, by rw [hU], by rw [hU]; exact fun j q h => hw.1 _ q (x_suf hs h), hK.warm hW, (x_sufD hs hw.2.1).weaken (fun _ _ _ _ => trivial), by
    rw [hU]
    refine hcst.step hw.2.2 hW (fun q hq => ?_)
    rcases hq with ⟨j, z, hj⟩ | hq
    · exact hw.2.1.2 _ _ (x_suf hs hj)
    · exact F.2.2.2.2 q (Nat.le_trans hw.2.2.1 hq), va_AO.moved hW.alike F.2.2.1, va_AO.moved hW.alike F.2.2.2.1⟩⟩
  rcases w1 with w1 | ⟨host, w1⟩
  · exact n_after (va_runI (As := As) (rest := rest) ⟨hx, hb, hml, hown, hts⟩ hM ⟨callB_of n hts hG rfl rfl rfl (hts0 _ w4) (hts0 _ w1) ⟨d1, d2, d3⟩ hrm, d0, hts0 _ w2⟩ hpre rfl hAs hls hst (lv_room hrest) hdg hcl) hw hs F.2.2.2.2 kk
  · exact n_after (va_runIN (As := As) (rest := rest) ⟨hx, hb, hml, hown, hts⟩ hM ⟨va_cnB n hts hG rfl rfl rfl (hK.2 _ w1) (hts0 _ w4) ⟨d1, d2, d3⟩ hrm, d0, hts0 _ w2⟩ hpre rfl hAs hls hst (lv_room hrest) hdg hcl) hw hs F.2.2.2.2 kk
theorem n_obj {tys : List (ClassId × FieldType)} {idx : Nat} (E : xE p s m args meth c cc nL ret own D tys A) (hlink : Cond.methodLink own idx objectInit ∈ xT) (hinst : Cond.instanceMethod objectInit ∈ xT) (hcode : Cond.code objectInit ⟨#[0xb1]⟩ 1 none ∈ xT) (hls : ls.size = nL) (hframes : 1 ≤ R.frames) (hlocals : (rest.map fun v => v.category).sum + 12 ≤ R.locals) (hdg : decode cc pc = .ok (.invokespecial idx, 3))
    (kk : W p l e R s m args below meth c H locs cells slots Q (F0 m (pc + 3) ls rest)) : W p l e R s m args below meth c H locs cells slots Q (F0 m pc ls (.ref a :: rest)) := by
  obtain ⟨hx, hb, hml, hr, hown, hK, hlocks, hcst⟩ := id E
  exact W.objInit hx hb hown (hK.2.use hlink) (hK.2.use hinst) (hK.2.use hcode) rfl (by rw [hml]; exact hls) rfl hdg hframes (by show 2 * 0 + _ + 12 ≤ _; omega) kk
end XN
theorem x_refs2 (a b : Nat) : va_up (va_up (fun _ => none) 0 (some a)) 1 (some b) = (fun j => [a, b][j]?) := by
  funext j
  match j with
  | 0 => rfl
  | 1 => rfl
  | j + 2 => simp [va_up]
theorem x_refs3 (a b c : Nat) : va_up (va_up (va_up (fun _ => none) 0 (some a)) 1 (some b)) 2 (some c) = (fun j => [a, b, c][j]?) := by
  funext j
  match j with
  | 0 => rfl
  | 1 => rfl
  | 2 => rfl
  | j + 3 => simp [va_up]
theorem x_refs8 (a b c d e f g h : Nat) : va_up (va_up (va_up (va_up (va_up (va_up (va_up (va_up (fun _ => none) 0 (some a)) 1 (some b)) 2 (some c)) 3 (some d)) 4 (some e)) 5 (some f)) 6 (some g)) 7 (some h) = (fun j => [a, b, c, d, e, f, g, h][j]?) := by
  funext j
  match j with
  | 0 => rfl
  | 1 => rfl
  | 2 => rfl
  | 3 => rfl
  | 4 => rfl
  | 5 => rfl
  | 6 => rfl
  | 7 => rfl
  | j + 8 => simp [va_up]

theorem kL_L_7 : Cond.classLink RL 7 RX6 ∈ xT := x_mem (i := 79) (by decide +kernel) (by decide +kernel)
theorem kT_X6 : Cond.instantiable RX6 8 ∈ xT := x_mem (i := 80) (by decide +kernel) (by decide +kernel)
theorem kO_X6 : Cond.methodLink RX6 1 objectInit ∈ xT := x_mem (i := 84) (by decide +kernel) (by decide +kernel)
theorem kIo : Cond.instanceMethod objectInit ∈ xT := x_mem (i := 85) (by decide +kernel) (by decide +kernel)
theorem kCo : Cond.code objectInit ⟨#[0xb1]⟩ 1 none ∈ xT := x_mem (i := 86) (by decide +kernel) (by decide +kernel)
theorem kL_X6_7 : Cond.classLink RX6 7 RX2 ∈ xT := x_mem (i := 87) (by decide +kernel) (by decide +kernel)
theorem kT_X2 : Cond.instantiable RX2 2 ∈ xT := x_mem (i := 88) (by decide +kernel) (by decide +kernel)
theorem kO_X2 : Cond.methodLink RX2 3 objectInit ∈ xT := x_mem (i := 92) (by decide +kernel) (by decide +kernel)
theorem kL_X6_16 : Cond.classLink RX6 16 RX5 ∈ xT := x_mem (i := 104) (by decide +kernel) (by decide +kernel)
theorem kT_X5 : Cond.instantiable RX5 7 ∈ xT := x_mem (i := 105) (by decide +kernel) (by decide +kernel)
theorem kO_X5 : Cond.methodLink RX5 3 objectInit ∈ xT := x_mem (i := 109) (by decide +kernel) (by decide +kernel)
theorem kL_X6_25 : Cond.classLink RX6 25 RX3 ∈ xT := x_mem (i := 134) (by decide +kernel) (by decide +kernel)
theorem kT_X3 : Cond.instantiable RX3 5 ∈ xT := x_mem (i := 135) (by decide +kernel) (by decide +kernel)
theorem kO_X3 : Cond.methodLink RX3 3 objectInit ∈ xT := x_mem (i := 139) (by decide +kernel) (by decide +kernel)
theorem kL_X6_32 : Cond.classLink RX6 32 RX4 ∈ xT := x_mem (i := 168) (by decide +kernel) (by decide +kernel)
theorem kT_X4 : Cond.instantiable RX4 3 ∈ xT := x_mem (i := 169) (by decide +kernel) (by decide +kernel)
theorem kO_X4 : Cond.methodLink RX4 3 objectInit ∈ xT := x_mem (i := 173) (by decide +kernel) (by decide +kernel)
theorem kL_X4_9 : Cond.classLink RX4 9 RX3 ∈ xT := x_mem (i := 174) (by decide +kernel) (by decide +kernel)
theorem kL_X6_47 : Cond.classLink RX6 47 RX1 ∈ xT := x_mem (i := 188) (by decide +kernel) (by decide +kernel)
theorem kT_X1 : Cond.instantiable RX1 3 ∈ xT := x_mem (i := 189) (by decide +kernel) (by decide +kernel)
theorem kO_X1 : Cond.methodLink RX1 3 objectInit ∈ xT := x_mem (i := 193) (by decide +kernel) (by decide +kernel)
theorem kL_X6_54 : Cond.classLink RX6 54 RX0 ∈ xT := x_mem (i := 204) (by decide +kernel) (by decide +kernel)
theorem kT_X0 : Cond.instantiable RX0 4 ∈ xT := x_mem (i := 206) (by decide +kernel) (by decide +kernel)
theorem kO_X0 : Cond.methodLink RX0 3 objectInit ∈ xT := x_mem (i := 210) (by decide +kernel) (by decide +kernel)
theorem kL_L_10 : Cond.classLink RL 10 RX7 ∈ xT := x_mem (i := 706) (by decide +kernel) (by decide +kernel)
theorem kT_X7 : Cond.instantiable RX7 25 ∈ xT := x_mem (i := 707) (by decide +kernel) (by decide +kernel)
theorem kO_X7 : Cond.methodLink RX7 1 objectInit ∈ xT := x_mem (i := 711) (by decide +kernel) (by decide +kernel)
theorem xi_X6_9 : xI RX6 9 yX2_init cX2_init 1 0 := ⟨⟨Or.inr ⟨_, kM_X6_9⟩, kI_X2_init, kN_X2, kC_X2_init⟩, rfl, by decide +kernel, by decide +kernel, by decide +kernel⟩
theorem xi_X6_18 : xI RX6 18 yX5_init cX5_init 2 1 := ⟨⟨Or.inl kM_X6_18, kI_X5_init, kN_X5, kC_X5_init⟩, rfl, by decide +kernel, by decide +kernel, by decide +kernel⟩
theorem xi_X6_27 : xI RX6 27 yX3_init cX3_init 1 0 := ⟨⟨Or.inl kM_X6_27, kI_X3_init, kN_X3, kC_X3_init⟩, rfl, by decide +kernel, by decide +kernel, by decide +kernel⟩
theorem xi_X6_34 : xI RX6 34 yX4_init cX4_init 2 0 := ⟨⟨Or.inl kM_X6_34, kI_X4_init, kN_X4, kC_X4_init⟩, rfl, by decide +kernel, by decide +kernel, by decide +kernel⟩
theorem xi_X6_49 : xI RX6 49 yX1_init cX1_init 1 0 := ⟨⟨Or.inr ⟨_, kM_X6_49⟩, kI_X1_init, kN_X1, kC_X1_init⟩, rfl, by decide +kernel, by decide +kernel, by decide +kernel⟩
theorem xi_X6_60 : xI RX6 60 yX0_init cX0_init 1 0 := ⟨⟨Or.inr ⟨_, kM_X6_60⟩, kI_X0_init, kN_X0, kC_X0_init⟩, rfl, by decide +kernel, by decide +kernel, by decide +kernel⟩
theorem xi_X4_17 : xI RX4 17 yX3_init cX3_init 1 0 := ⟨⟨Or.inl kM_X4_17, kI_X3_init, kN_X3, kC_X3_init⟩, rfl, by decide +kernel, by decide +kernel, by decide +kernel⟩
theorem xi_L_9 : xI RL 9 yX6_init cX6_init 2 0 := ⟨⟨Or.inl kM_L_9, kI_X6_init, kN_X6, kC_X6_init⟩, rfl, by decide +kernel, by decide +kernel, by decide +kernel⟩
theorem xi_L_12 : xI RL 12 yX7_init cX7_init 1 0 := ⟨⟨Or.inl kM_L_12, kI_X7_init, kN_X7, kC_X7_init⟩, rfl, by decide +kernel, by decide +kernel, by decide +kernel⟩
