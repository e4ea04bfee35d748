theorem kM_X3_38 : Cond.methodLink RX3 38 arraycopyName ∈ xT := x_mem (i := 449) (by decide +kernel) (by decide +kernel)
theorem kS_copy : Cond.static arraycopyName ∈ xT := x_mem (i := 450) (by decide +kernel) (by decide +kernel)
theorem kA_copy : Cond.native arraycopyName ∈ xT := x_mem (i := 451) (by decide +kernel) (by decide +kernel)
theorem xm_or {w : Cond} (h : xm w = true) : (w.onTables && w.keeps) = true ∨ ∃ a i x b, w = .methodLinkNest a i x b := by
  cases w <;> first | exact Or.inr ⟨_, _, _, _, rfl⟩ | exact Or.inl h
theorem xm_tab {w : Cond} (h : xm w = true) : w.onTables = true := by
  rcases xm_or h with h | ⟨a, i, x, b, rfl⟩
  · simp only [Bool.and_eq_true] at h; exact h.1
  · rfl
def xH (U : State) : Prop := ∀ w ∈ xT, va_Nw w U
theorem xH.use {U : State} (h : xH U) {w : Cond} (hw : w ∈ xT) {a : Array Value} : w.before a U = true := va_Nw.use (xm_tab (List.mem_filter.mp hw).2) (h w hw)
theorem xH.same {u U : State} (h : xH u) (e : u.vm = U.vm) : xH U := fun w hw => va_Nw.same (xm_tab (List.mem_filter.mp hw).2) e (h w hw)
theorem xH.warm {s U : State} (h : xH s) (hW : s.WarmedH U.vm) : xH U := fun w hw => by
  rcases xm_or (List.mem_filter.mp hw).2 with g | ⟨a, i, x, b, rfl⟩
  · exact word_at hW (Or.inl g) (h w hw)
  · exact va_Nw.warmM hW (h _ hw)
abbrev xtys (cI cZ cN cC : ClassId) : List (ClassId × FieldType) := [(cI, .int), (cZ, .boolean), (cN, .object "ReachTrees$Net"), (cC, .object "ReachTrees$Chain")]
/-- the tables as they must be: classes, array classes, words -/
def xK (D : va_G) (tys : List (ClassId × FieldType)) (U : State) : Prop := va_K D vwCl tys U ∧ xH U
theorem xK.same {D : va_G} {tys : List (ClassId × FieldType)} {u U : State} (h : xK D tys u) (e : u.vm = U.vm) : xK D tys U := ⟨va_K.moved (by rw [e]; exact Vm.Alike.refl _) h.1, h.2.same e⟩
theorem xK.warm {D : va_G} {tys : List (ClassId × FieldType)} {s U : State} (h : xK D tys s) (hW : s.WarmedH U.vm) : xK D tys U := ⟨va_K.moved hW.alike h.1, h.2.warm hW⟩
/-- the addresses of a world -/
def xA (ws : va_W) : Nat → Prop := fun q => q ∈ ws.map (·.1)
theorem xA_of {ws : va_W} {q : Nat} (h : xA ws q) : ∃ (k : Nat) (e : va_E), ws[k]? = some (q, e) := by
  obtain ⟨c, hc, rfl⟩ := List.mem_map.mp h
  obtain ⟨k, hk⟩ := List.mem_iff_getElem?.mp hc
  exact ⟨k, c.2, hk⟩
theorem xA_in {ws : va_W} {k : Nat} {c : Nat × va_E} (h : ws[k]? = some c) : xA ws c.1 := List.mem_map.mpr ⟨c, List.mem_of_getElem? h, rfl⟩
theorem xD_map {A : Nat → Prop} {ws ws' : va_W} (h : ws'.map (·.1) = ws.map (·.1)) (hD : va_D A ws) : va_D A ws' := by
  have key : ∀ (i : Nat) (c : Nat × va_E), ws'[i]? = some c → ∃ c2, ws[i]? = some c2 ∧ c2.1 = c.1 := by
    intro i c hc
    have h1 : (ws'.map (·.1))[i]? = some c.1 := by rw [List.getElem?_map, hc]; rfl
    rw [h, List.getElem?_map] at h1
    cases h2 : ws[i]? with
    | none => rw [h2] at h1; cases h1
    | some c2 => rw [h2] at h1; exact ⟨c2, rfl, Option.some.inj h1⟩
  refine ⟨fun i j a b ha hb hab => ?_, fun i a ha => ?_⟩
  · obtain ⟨a2, h1, h2⟩ := key i a ha
    obtain ⟨b2, h3, h4⟩ := key j b hb
    exact hD.1 i j a2 b2 h1 h3 (by rw [h2, h4]; exact hab)
  · obtain ⟨a2, h1, h2⟩ := key i a ha
    rw [← h2]; exact hD.2 i a2 h1
/-- the constants: five Strings, two statics; none of them in B -/
def xbyt : List (List Int32) := [[110, 101, 116], [97, 114, 99], [114, 105, 110, 103], [112, 97, 116, 104], [115, 116, 97, 114]]
def xlen : List Nat := [3, 3, 4, 4, 4]
def xCs (adK adV : Nat → Nat) (B : Nat → Prop) (U : State) (H : Heap) : Prop := vk_S 5 xlen xbyt adK adV B U H ∧ (vk_R RX5 92 "net" (adK 0) U ∧ vk_R RX5 94 "arc" (adK 1) U ∧ vk_R RX5 96 "ring" (adK 2) U ∧ vk_R RX5 98 "path" (adK 3) U ∧ vk_R RX5 100 "star" (adK 4) U) ∧ va_Z "java/lang/String" "COMPACT_STRINGS" "Z" (.int 1) B U H ∧ va_Zq "jdk/internal/util/Preconditions" "SIOOBE_FORMATTER" "Ljava/util/function/BiFunction;" B U H
theorem xCs.step {adK adV : Nat → Nat} {B C : Nat → Prop} {s U : State} {H : Heap} {locs : List Loc} (h : xCs adK adV B s s.heap) (hS : va_S B s.heap H locs) (hW : s.WarmedH U.vm) (hBC : ∀ q, C q → B q) : xCs adK adV C U H := by
  obtain ⟨h1, ⟨r0, r1, r2, r3, r4⟩, h3, h4⟩ := h
  exact ⟨((h1.kept hS.2.1).moved hW.alike).narrow hBC, ⟨r0.warm hW, r1.warm hW, r2.warm hW, r3.warm hW, r4.warm hW⟩, ((h3.kept hS.2.1).moved hW.alike).narrow hBC, ((h4.kept hS.2.1).moved hW.alike).narrow hBC⟩
theorem xCs.same {adK adV : Nat → Nat} {B : Nat → Prop} {u U : State} (h : xCs adK adV B u u.heap) (e : u.vm = U.vm) (eh : u.heap = U.heap) : xCs adK adV B U U.heap := by
  obtain ⟨h1, ⟨r0, r1, r2, r3, r4⟩, h3, h4⟩ := h
  have hal : u.vm.Alike U.vm := by rw [e]; exact Vm.Alike.refl _
  rw [eh] at h1 h3 h4
  exact ⟨h1.moved hal, ⟨r0.same e.symm, r1.same e.symm, r2.same e.symm, r3.same e.symm, r4.same e.symm⟩, h3.moved hal, h4.moved hal⟩
def xCst (B : Nat → Prop) (U : State) (H : Heap) : Prop := ∃ adK adV, xCs adK adV B U H
theorem xCst.step {B C : Nat → Prop} {s U : State} {H : Heap} {locs : List Loc} (h : xCst B s s.heap) (hS : va_S B s.heap H locs) (hW : s.WarmedH U.vm) (hBC : ∀ q, C q → B q) : xCst C U H := by
  obtain ⟨adK, adV, h⟩ := h
  exact ⟨adK, adV, h.step hS hW hBC⟩
theorem xCst.same {B : Nat → Prop} {u U : State} (h : xCst B u u.heap) (e : u.vm = U.vm) (eh : u.heap = U.heap) : xCst B U U.heap := by
  obtain ⟨adK, adV, h⟩ := h
  exact ⟨adK, adV, h.same e eh⟩
/-- a world that the heap holds, apart, in A; nothing else has changed since H0 -/
def xw (D : va_G) (A : Nat → Prop) (H0 : Heap) (ws : va_W) (H : Heap) (locs : List Loc) : Prop := va_P D vwCl ws H ∧ va_D A ws ∧ va_S A H0 H locs
def xQ (D : va_G) (ws ws' : va_W) (r : Option Value) : Array Value → State → Outcome → State → Prop := fun _ st o t => o = .returned r ∧ va_P D vwCl ws' t.heap ∧ va_F (xA ws) st t
def xPre (D : va_G) (tys : List (ClassId × FieldType)) (av : List Value) (ws : va_W) : Array Value → State → Prop := fun v U => v = av.toArray ∧ va_P D vwCl ws U.heap ∧ xK D tys U ∧ va_D (fun _ => True) ws ∧ xCst (xA ws) U U.heap
abbrev xRm (fr lo : Nat) : Room := { frames := fr, cells := 0, slots := 0, locals := lo }
/-- a method's contract: from the world ws it comes to ws' and answers r; no new cells -/
def xMet (l : Launch) (D : va_G) (tys : List (ClassId × FieldType)) (y : MethodName) (cc : ByteArray) (maxL : Nat) (ret : Option FieldType) (fr lo : Nat) (av : List Value) (ws ws' : va_W) (r : Option Value) : Prop :=
  Met l y [Cond.code y cc maxL ret] (xRm fr lo) (xPre D tys av ws) (xQ D ws ws' r) 0 0 (xA ws)
/-- what stays over a method's body -/
def xE (p : Program) (s : State) (m : MethodId) (args : Array Value) (meth : Method) (c : Code) (cc : ByteArray) (nL : Nat) (ret : Option FieldType) (own : String) (D : va_G) (tys : List (ClassId × FieldType)) (B : Nat → Prop) : Prop :=
  p.tables.exec = Jvm.exec ∧ c.code = cc ∧ c.maxLocals = nL ∧ meth.sig.returnType = ret ∧ s.vm.findClass own = some m.cls ∧ xK D tys s ∧ meth.locks = false ∧ xCst B s s.heap
abbrev xG (p : Program) (l : Launch) (e : Env) (fr lo : Nat) (s : State) (m : MethodId) (args : Array Value) (below : List Frame) (meth : Method) (c : Code) (D : va_G) (ws ws' : va_W) (r : Option Value) (H : Heap) (locs : List Loc) (g : JFrame) : Prop :=
  W p l e (xRm fr lo) s m args below meth c H locs 0 0 (MQ below (xQ D ws ws' r) args s 0 0 (xA ws)) g
theorem x_enter {l : Launch} {D : va_G} {tys : List (ClassId × FieldType)} {y : MethodName} {cc : ByteArray} {maxL : Nat} {ret : Option FieldType} {fr lo : Nat} {av : List Value} {ws ws' : va_W} {r : Option Value}
    (hy : plainName y.cls = true) (hlen : (lg_sl av).length ≤ maxL)
    (body : ∀ (p : Program) (e : Env) (s : State) (m : MethodId) (args : Array Value) (below : List Frame) (meth : Method) (c : Code), xE p s m args meth c cc maxL ret y.cls D tys (xA ws) → ∀ ls : Array Slot, lv_has ls maxL (lv_args 0 av) → xw D (xA ws) s.heap ws s.heap [] → xG p l e fr lo s m args below meth c D ws ws' r s.heap [] (F0 m 0 ls [])) :
    xMet l D tys y cc maxL ret fr lo av ws ws' r := by
  refine Met.ofW (cc := cc) (maxL := maxL) (ret := ret) hy rfl ?_
  intro p e s m args below meth c s₁ B hml hv
  obtain ⟨rfl, hP, hK, hD0, hC0⟩ := hv
  have hown : s.vm.findClass y.cls = some m.cls := findClass_of_methodNamed B.named
  have hl := lv_entry av (n := maxL) hlen
  rw [lg_entry_eq]
  exact body p e s m av.toArray below meth c ⟨B.exec, B.bytes, hml, B.returns, hown, hK, B.notSynchronized, hC0⟩ _ hl ⟨hP, ⟨hD0.1, fun k q h => xA_in h⟩, va_S.rf⟩
section XR
variable {p : Program} {l : Launch} {e : Env} {R : Room} {s : State} {m : MethodId} {args : Array Value} {below : List Frame} {meth : Method} {c : Code} {H : Heap} {locs : List Loc} {cells slots : Nat} {Q : State → Prop}
variable {cc : ByteArray} {nL : Nat} {ret : Option FieldType} {own : String} {D : va_G} {tys : List (ClassId × FieldType)} {A B : Nat → Prop} {H0 : Heap} {ws ws' : va_W} {pc : Nat} {ls : Array Slot} {rest : List Value} {a : Nat}
theorem x_iret {fr lo : Nat} {v : Int32} (E : xE p s m args meth c cc nL (some .int) own D tys B) (hw : xw D (xA ws) s.heap ws' H locs) (hdg : decode cc pc = .ok (.ireturn, 1)) : xG p l e fr lo s m args below meth c D ws ws' (some (.int v)) H locs (F0 m pc ls [.int v]) := by
  obtain ⟨hx, hb, hml, hr, hown, hK, hlocks, hcst⟩ := E
  exact W.iret hx hb hr (fun t ht hW => ⟨rfl, by rw [ht]; exact hw.1, hw.2.2.F ht⟩) hw.2.2.2.2 hdg hlocks
theorem x_zret {fr lo : Nat} {v : Int32} (E : xE p s m args meth c cc nL (some .boolean) own D tys B) (hw : xw D (xA ws) s.heap ws' H locs) (hn : narrow .boolean (.int v) = .int v) (hdg : decode cc pc = .ok (.ireturn, 1)) : xG p l e fr lo s m args below meth c D ws ws' (some (.int v)) H locs (F0 m pc ls [.int v]) := by
  obtain ⟨hx, hb, hml, hr, hown, hK, hlocks, hcst⟩ := E
  exact W.zret hx hb hr hn (fun t ht hW => ⟨rfl, by rw [ht]; exact hw.1, hw.2.2.F ht⟩) hw.2.2.2.2 hdg hlocks
theorem x_vret {fr lo : Nat} (E : xE p s m args meth c cc nL none own D tys B) (hw : xw D (xA ws) s.heap ws' H locs) (hdg : decode cc pc = .ok (.return_, 1)) : xG p l e fr lo s m args below meth c D ws ws' none H locs (F0 m pc ls []) := by
  obtain ⟨hx, hb, hml, hr, hown, hK, hlocks, hcst⟩ := E
  exact W.vret hx hb hr (fun t ht hW => ⟨rfl, by rw [ht]; exact hw.1, hw.2.2.F ht⟩) hw.2.2.2.2 hdg hlocks
theorem x_get (E : xE p s m args meth c cc nL ret own D tys B) (hw : xw D A H0 ws H locs) {C : String} {T : u_T} {N ci index : Nat} (hin : ∀ w ∈ u_ws C T N, w ∈ xT) (q0 : Nat) {fs : List Value} (he : ws[q0]? = some (a, .inr (ci, fs))) (hc : vwCl[ci]? = some (C, T, N)) (k : Nat) (hk : k < N) (hlink : Cond.fieldLink own index (T k).1 (T k).2.1 (T k).2.2.1 ∈ xT) {v : Value} (hv : fs[k]? = some v) (hdg : decode cc pc = .ok (.getfield index, 3))
    (kk : W p l e R s m args below meth c H locs cells slots Q (F0 m (pc + 3) ls (v :: rest))) : W p l e R s m args below meth c H locs cells slots Q (F0 m pc ls (.ref a :: rest)) := by
  obtain ⟨hx, hb, hml, hr, hown, hK, hlocks, hcst⟩ := E
  exact va_get (D := D) (Ts := xT) hx hb (fun w h => hK.2.use h) hin hown hK.1 hw.1 q0 he hc k hk (hK.2.use hlink) (fun _ h => h) hv hdg kk
theorem x_put (E : xE p s m args meth c cc nL ret own D tys B) (hw : xw D A H0 ws H locs) {C : String} {T : u_T} {N ci index : Nat} (hin : ∀ w ∈ u_ws C T N, w ∈ xT) (ty0 : Nat → FieldType) (hty : ∀ k, k < N → parseFieldDescriptor (T k).2.2.1 = some (ty0 k)) (hnm : ∀ a, a < N → ∀ b, b < N → a ≠ b → (T a).2.1 ≠ (T b).2.1) (q0 : Nat) {fs : List Value} (he : ws[q0]? = some (a, .inr (ci, fs))) (hc : vwCl[ci]? = some (C, T, N)) (k : Nat) (hk : k < N) (hlink : Cond.fieldLink own index (T k).1 (T k).2.1 (T k).2.2.1 ∈ xT) (hfin : (T k).2.2.2 = false) {v : Value} (hn : narrow (ty0 k) v = v) (hfit : fits (ty0 k) v = true) (hl : k < fs.length) (hs : ws.set q0 (a, .inr (ci, fs.set k v)) = ws')
    (hdg : decode cc pc = .ok (.putfield index, 3)) (kk : ∀ (H : Heap) (locs : List Loc), xw D A H0 ws' H locs → W p l e R s m args below meth c H locs cells slots Q (F0 m (pc + 3) ls rest)) : W p l e R s m args below meth c H locs cells slots Q (F0 m pc ls (v :: .ref a :: rest)) := by
  obtain ⟨hx, hb, hml, hr, hown, hK, hlocks, hcst⟩ := E
  subst hs
  exact va_put (D := D) (Ts := xT) hx hb (fun w h => hK.2.use h) hin ty0 hty hnm hown hK.1 hw.1 hw.2.1 hw.2.2 q0 he hc k hk (hK.2.use hlink) (fun _ h => h) hfin (hty k hk) hn hfit hl hdg (fun H1 l1 h1 h2 h3 => kk H1 l1 ⟨h1, h2, h3⟩)
theorem x_iald (E : xE p s m args meth c cc nL ret own D tys B) (hw : xw D A H0 ws H locs) (q0 t0 : Nat) {cA : ClassId} {n : Nat} {f : Nat → Int32} (ha : ws[q0]? = some (a, .inl (cA, n, .inl f))) (ht : tys[t0]? = some (cA, .int)) {i : Int32} (hin : vp_in i n) (hdg : decode cc pc = .ok (.iaload, 1))
    (kk : W p l e R s m args below meth c H locs cells slots Q (F0 m (pc + 1) ls (.int (f i.toNatClampNeg) :: rest))) : W p l e R s m args below meth c H locs cells slots Q (F0 m pc ls (.int i :: .ref a :: rest)) :=
  va_iald E.1 E.2.1 E.2.2.2.2.2.1.1 hw.1 q0 t0 ha ht hin hdg kk
theorem x_zald (E : xE p s m args meth c cc nL ret own D tys B) (hw : xw D A H0 ws H locs) (q0 t0 : Nat) {cA : ClassId} {n : Nat} {f : Nat → Int32} (ha : ws[q0]? = some (a, .inl (cA, n, .inl f))) (ht : tys[t0]? = some (cA, .boolean)) {i : Int32} (hin : vp_in i n) (hdg : decode cc pc = .ok (.baload, 1))
    (kk : W p l e R s m args below meth c H locs cells slots Q (F0 m (pc + 1) ls (.int (f i.toNatClampNeg) :: rest))) : W p l e R s m args below meth c H locs cells slots Q (F0 m pc ls (.int i :: .ref a :: rest)) :=
  va_zald E.1 E.2.1 E.2.2.2.2.2.1.1 hw.1 q0 t0 ha ht hin hdg kk
theorem x_iast (E : xE p s m args meth c cc nL ret own D tys B) (hw : xw D A H0 ws H locs) (q0 t0 : Nat) {cA : ClassId} {n : Nat} {f : Nat → Int32} (ha : ws[q0]? = some (a, .inl (cA, n, .inl f))) (ht : tys[t0]? = some (cA, .int)) {i x : Int32} (hin : vp_in i n) (hs : ws.set q0 (a, .inl (cA, n, .inl (upd f i.toNatClampNeg x))) = ws') (hdg : decode cc pc = .ok (.iastore, 1))
    (kk : ∀ (H : Heap) (locs : List Loc), xw D A H0 ws' H locs → W p l e R s m args below meth c H locs cells slots Q (F0 m (pc + 1) ls rest)) : W p l e R s m args below meth c H locs cells slots Q (F0 m pc ls (.int x :: .int i :: .ref a :: rest)) := by
  subst hs
  exact va_iast E.1 E.2.1 E.2.2.2.2.2.1.1 hw.1 hw.2.1 hw.2.2 q0 t0 ha ht hin hdg (fun H1 l1 h1 h2 h3 => kk H1 l1 ⟨h1, h2, h3⟩)
theorem x_zast (E : xE p s m args meth c cc nL ret own D tys B) (hw : xw D A H0 ws H locs) (q0 t0 : Nat) {cA : ClassId} {n : Nat} {f : Nat → Int32} (ha : ws[q0]? = some (a, .inl (cA, n, .inl f))) (ht : tys[t0]? = some (cA, .boolean)) {i x : Int32} (hin : vp_in i n) (hs : ws.set q0 (a, .inl (cA, n, .inl (upd f i.toNatClampNeg (vp_nar .boolean x)))) = ws') (hdg : decode cc pc = .ok (.bastore, 1))
    (kk : ∀ (H : Heap) (locs : List Loc), xw D A H0 ws' H locs → W p l e R s m args below meth c H locs cells slots Q (F0 m (pc + 1) ls rest)) : W p l e R s m args below meth c H locs cells slots Q (F0 m pc ls (.int x :: .int i :: .ref a :: rest)) := by
  subst hs
  exact va_zast E.1 E.2.1 E.2.2.2.2.2.1.1 hw.1 hw.2.1 hw.2.2 q0 t0 ha ht hin hdg (fun H1 l1 h1 h2 h3 => kk H1 l1 ⟨h1, h2, h3⟩)
theorem x_alen (E : xE p s m args meth c cc nL ret own D tys B) (hw : xw D A H0 ws H locs) (q0 t0 : Nat) {cA : ClassId} {x : vp_A} (ha : ws[q0]? = some (a, .inl (cA, x))) {ty : FieldType} (ht : tys[t0]? = some (cA, ty)) {v : Int32} (hv : Int32.ofNat x.1 = v) (hdg : decode cc pc = .ok (.arraylength, 1))
    (kk : W p l e R s m args below meth c H locs cells slots Q (F0 m (pc + 1) ls (.int v :: rest))) : W p l e R s m args below meth c H locs cells slots Q (F0 m pc ls (.ref a :: rest)) :=
  va_alen E.1 E.2.1 E.2.2.2.2.2.1.1 hw.1 q0 t0 ha ht hv hdg kk
theorem x_copy {index : Nat} (E : xE p s m args meth c cc nL ret own D tys B) (hw : xw D A H0 ws H locs) (hls : ls.size = nL) (hlink : Cond.methodLink own index arraycopyName ∈ xT) (q0 q1 : Nat) {a0 : Nat} {cA : ClassId} {n0 n1 : Nat} {f g : Nat → Int32} (ha0 : ws[q0]? = some (a0, .inl (cA, n0, .inl f))) (ha1 : ws[q1]? = some (a, .inl (cA, n1, .inl g))) (ht : tys[0]? = some (cA, .int))
    {sp dp n : Int32} (h1 : ¬ sp < 0) (h2 : ¬ dp < 0) (h3 : ¬ n < 0) (h4 : sp.toNatClampNeg + n.toNatClampNeg ≤ n0) (h5 : dp.toNatClampNeg + n.toNatClampNeg ≤ n1) (hframes : 1 ≤ R.frames) (hlocals : (rest.map fun v => v.category).sum + (nativeFrameWords "java/lang/System" "arraycopy" 5 + 11) ≤ R.locals)
    (hs : ws.set q1 (a, .inl (cA, n1, .inl (va_cpy f g sp.toNatClampNeg dp.toNatClampNeg n.toNatClampNeg))) = ws') (hdg : decode cc pc = .ok (.invokestatic index, 3))
    (kk : ∀ (H : Heap) (locs : List Loc), xw D A H0 ws' H locs → W p l e R s m args below meth c H locs cells slots Q (F0 m (pc + 3) ls rest)) : W p l e R s m args below meth c H locs cells slots Q (F0 m pc ls (.int n :: .int dp :: .ref a :: .int sp :: .ref a0 :: rest)) := by
  obtain ⟨hx, hb, hml, hr, hown, hK, hlocks, hcst⟩ := E
  subst hs
  exact va_copyi hx hb (hml.trans hls.symm) hown (hK.2.use hlink) (hK.2.use kA_copy) (hK.2.use kS_copy) (hK.2.use kN_J10) hK.1 hw.1 hw.2.1 hw.2.2 q0 q1 0 0 ha0 ha1 ht ht rfl h1 h2 h3 h4 h5 (fun _ _ => rfl) hframes hlocals hdg (fun H1 l1 h1 h2 h3 => kk H1 l1 ⟨h1, h2, h3⟩)
theorem x_aald (E : xE p s m args meth c cc nL ret own D tys B) (hw : xw D A H0 ws H locs) (q0 t0 : Nat) {cA : ClassId} {C : String} {n : Nat} {f : Nat → Option Nat} (ha : ws[q0]? = some (a, .inl (cA, n, .inr (.inr (.inr (.inr f)))))) (ht : tys[t0]? = some (cA, .object C)) {i : Int32} (hin : vp_in i n) {w : Value} (hwv : va_rf (f i.toNatClampNeg) = w) (hdg : decode cc pc = .ok (.aaload, 1))
    (kk : W p l e R s m args below meth c H locs cells slots Q (F0 m (pc + 1) ls (w :: rest))) : W p l e R s m args below meth c H locs cells slots Q (F0 m pc ls (.int i :: .ref a :: rest)) := by
  subst hwv
  exact va_aldq E.1 E.2.1 E.2.2.2.2.2.1.1 hw.1 q0 t0 ha ht hin hdg kk
end XR
theorem x_in2 {i : Int32} (h : vp_in i 2) : i = 0 ∨ i = 1 := by
  obtain ⟨j, hj, rfl⟩ := vp_in_of h (by decide)
  rcases (show j = 0 ∨ j = 1 by omega) with rfl | rfl
  · exact Or.inl rfl
  · exact Or.inr rfl
theorem x_in3 {i : Int32} (h : vp_in i 3) : i = 0 ∨ i = 1 ∨ i = 2 := by
  obtain ⟨j, hj, rfl⟩ := vp_in_of h (by decide)
  rcases (show j = 0 ∨ j = 1 ∨ j = 2 by omega) with rfl | rfl | rfl
  · exact Or.inl rfl
  · exact Or.inr (Or.inl rfl)
  · exact Or.inr (Or.inr rfl)
theorem x_in8 {i : Int32} (h : vp_in i 8) : i = 0 ∨ i = 1 ∨ i = 2 ∨ i = 3 ∨ i = 4 ∨ i = 5 ∨ i = 6 ∨ i = 7 := by
  obtain ⟨j, hj, rfl⟩ := vp_in_of h (by decide)
  rcases (show j = 0 ∨ j = 1 ∨ j = 2 ∨ j = 3 ∨ j = 4 ∨ j = 5 ∨ j = 6 ∨ j = 7 by omega) with rfl | rfl | rfl | rfl | rfl | rfl | rfl | rfl <;> decide
/-- cells put at places -/
def xrep : va_W → List Nat → va_W → va_W
  | ws, i :: is, c :: cs => xrep (ws.set i c) is cs
  | ws, _, _ => ws
theorem xrep_at : ∀ (is : List Nat) (cs ws : va_W), is.length = cs.length → ∀ (k : Nat) (c : Nat × va_E), (xrep ws is cs)[k]? = some c → (∃ j : Nat, is[j]? = some k ∧ cs[j]? = some c) ∨ (k ∉ is ∧ ws[k]? = some c)
  | [], cs, ws, _, k, c, h => Or.inr ⟨List.not_mem_nil, by simpa [xrep] using h⟩
  | i :: is, [], ws, hl, k, c, h => by cases hl
  | i :: is, d :: cs, ws, hl, k, c, h => by
    have h : (xrep (ws.set i d) is cs)[k]? = some c := h
    rcases xrep_at is cs (ws.set i d) (by simpa using hl) k c h with ⟨j, h1, h2⟩ | ⟨h1, h2⟩
    · exact Or.inl ⟨j + 1, by simpa using h1, by simpa using h2⟩
    · by_cases hik : i = k
      · subst hik
        refine Or.inl ⟨0, rfl, ?_⟩
        rw [List.getElem?_set_self'] at h2
        cases h3 : ws[i]? with
        | none => rw [h3] at h2; cases h2
        | some z => rw [h3] at h2; exact h2
      · refine Or.inr ⟨fun hm => ?_, by rwa [List.getElem?_set_ne hik] at h2⟩
        rcases List.mem_cons.mp hm with e | e
        · exact hik e.symm
        · exact h1 e
theorem x_places {ws wc : va_W} {isC : List Nat} (hC : isC.map (fun i => ws[i]?) = wc.map some) {j : Nat} {c : Nat × va_E} (h : wc[j]? = some c) : ∃ i : Nat, isC[j]? = some i ∧ ws[i]? = some c := by
  have h1 : (isC.map (fun i => ws[i]?))[j]? = some (some c) := by rw [hC, List.getElem?_map, h]; rfl
  rw [List.getElem?_map] at h1
  cases hi : isC[j]? with
  | none => rw [hi] at h1; cases h1
  | some i => rw [hi] at h1; exact ⟨i, rfl, Option.some.inj h1⟩
theorem x_sub {ws wc : va_W} {isC : List Nat} (hC : isC.map (fun i => ws[i]?) = wc.map some) {D : va_G} {H : Heap} (hP : va_P D vwCl ws H) : va_P D vwCl wc H := fun j c h => by
  obtain ⟨i, -, h2⟩ := x_places hC h
  exact hP i c h2
theorem x_subD {ws wc : va_W} {isC : List Nat} (hn : va_nd isC = true) (hC : isC.map (fun i => ws[i]?) = wc.map some) {A : Nat → Prop} (hD : va_D A ws) : va_D (fun _ => True) wc := (hD.sub isC hn hC).weaken (fun _ _ _ _ => trivial)
section XC
variable {p : Program} {l : Launch} {e : Env} {R : Room} {s : State} {m : MethodId} {args : Array Value} {below : List Frame} {meth : Method} {c : Code} {H : Heap} {locs : List Loc} {cells slots : Nat} {Q : State → Prop}
variable {cc : ByteArray} {nL : Nat} {ret : Option FieldType} {own : String} {D : va_G} {tys : List (ClassId × FieldType)} {A : Nat → Prop} {H0 : Heap} {ws ws' wc wc' : va_W} {pc : Nat} {ls : Array Slot} {rest st0 st1 : List Value} {a : Array Value} {r : Option Value}
theorem x_after {isC : List Nat} (hr : va_Run p l e R s m args below meth c H locs cells slots 0 0 (F0 m pc ls st0) rest (xQ D wc wc' r a) (xA wc)) (hw : xw D A H0 ws H locs) (hC : isC.map (fun i => ws[i]?) = wc.map some) (hlen : isC.length = wc'.length) (hn : xrep ws isC wc' = ws') (hadr : ws'.map (·.1) = ws.map (·.1))
    (kk : ∀ (H : Heap) (locs : List Loc), xw D A H0 ws' H locs → W p l e R s m args below meth c H locs cells slots Q (F0 m (pc + 3) ls (r.toList ++ rest))) : W p l e R s m args below meth c H locs cells slots Q (F0 m pc ls st0) := by
  intro T hT X
  obtain ⟨v, st₀, t, T', L, h0, X', hL, e1, e2, ⟨hv, hP1, hz, hk⟩, st⟩ := hr T hT X
  cases hv
  rw [h0] at hz hk
  obtain ⟨hP, hD, hS⟩ := hw
  have hAA : ∀ q, xA wc q → A q := fun q hq => by
    obtain ⟨j, z, hj⟩ := xA_of hq
    obtain ⟨i, -, h2⟩ := x_places hC hj
    exact hD.2 i _ h2
  have hP' : va_P D vwCl ws' T'.heap := by
    intro k q hq
    rw [e1]
    rw [← hn] at hq
    rcases xrep_at isC wc' ws hlen k q hq with ⟨j, h1, h2⟩ | ⟨h1, h2⟩
    · exact hP1 j q h2
    · have hlt := (hP k q h2).lt
      refine (hP k q h2).kept (hk q.1 hlt (fun hin => ?_))
      obtain ⟨j, z, hj⟩ := xA_of hin
      obtain ⟨i, h3, h4⟩ := x_places hC hj
      have hij := hD.1 i k _ q h4 h2 rfl
      subst hij
      exact h1 (List.mem_of_getElem? h3)
  have hS' : va_S A H0 T'.heap (locs ++ L) := ⟨Nat.le_trans hS.1 (by rw [e1]; exact hz), fun q h1 h2 => by rw [e1, hk q (Nat.lt_of_lt_of_le h1 hS.1) (fun z => h2 (hAA q z))]; exact hS.2.1 q h1 h2, fun q hq => by
    rcases List.mem_append.mp hq with h | h
    · exact hS.2.2 q h
    · exact hAA _ (hL q h)⟩
  obtain ⟨t2, a1, b1⟩ := kk T'.heap (locs ++ L) ⟨hP', xD_map hadr hD, hS'⟩ T' rfl X'
  exact ⟨t2, st t2 a1, b1⟩
theorem x_afterI (hr : va_Run p l e R s m args below meth c H locs cells slots 0 0 (F0 m pc ls st0) rest (xQ D ws ws' r a) (xA ws)) (hw : xw D A H0 ws H locs) (hadr : ws'.map (·.1) = ws.map (·.1))
    (kk : ∀ (H : Heap) (locs : List Loc), xw D A H0 ws' H locs → W p l e R s m args below meth c H locs cells slots Q (F0 m (pc + 3) ls (r.toList ++ rest))) : W p l e R s m args below meth c H locs cells slots Q (F0 m pc ls st0) := by
  intro T hT X
  obtain ⟨v, st₀, t, T', L, h0, X', hL, e1, e2, ⟨hv, hP1, hz, hk⟩, st⟩ := hr T hT X
  cases hv
  rw [h0] at hz hk
  obtain ⟨hP, hD, hS⟩ := hw
  have hAA : ∀ q, xA ws q → A q := fun q hq => by
    obtain ⟨j, z, hj⟩ := xA_of hq
    exact hD.2 j _ hj
  have hS' : va_S A H0 T'.heap (locs ++ L) := ⟨Nat.le_trans hS.1 (by rw [e1]; exact hz), fun q h1 h2 => by rw [e1, hk q (Nat.lt_of_lt_of_le h1 hS.1) (fun z => h2 (hAA q z))]; exact hS.2.1 q h1 h2, fun q hq => by
    rcases List.mem_append.mp hq with h | h
    · exact hS.2.2 q h
    · exact hAA _ (hL q h)⟩
  obtain ⟨t2, a1, b1⟩ := kk T'.heap (locs ++ L) ⟨by rw [e1]; exact hP1, xD_map hadr hD, hS'⟩ T' rfl X'
  exact ⟨t2, st t2 a1, b1⟩
theorem x_suf {wf : va_W} (hs : ws = wf ++ wc) {j : Nat} {q : Nat × va_E} (h : wc[j]? = some q) : ws[wf.length + j]? = some q := by
  subst hs
  rw [List.getElem?_append_right (Nat.le_add_right _ _), Nat.add_sub_cancel_left]; exact h
theorem x_sufD {wf : va_W} (hs : ws = wf ++ wc) (hD : va_D A ws) : va_D A wc :=
  ⟨fun i j a b ha hb hab => by have := hD.1 _ _ a b (x_suf hs ha) (x_suf hs hb) hab; omega, fun k q h => hD.2 _ q (x_suf hs h)⟩
theorem x_afterP {wf : va_W} (hr : va_Run p l e R s m args below meth c H locs cells slots 0 0 (F0 m pc ls st0) rest (xQ D wc wc' r a) (xA wc)) (hw : xw D A H0 ws H locs) (hs : ws = wf ++ wc) (hs' : ws' = wf ++ wc') (hadr : wc'.map (·.1) = wc.map (·.1))
    (kk : ∀ (H : Heap) (locs : List Loc), xw D A H0 ws' H locs → W p l e R s m args below meth c H locs cells slots Q (F0 m (pc + 3) ls (r.toList ++ rest))) : W p l e R s m args below meth c H locs cells slots Q (F0 m pc ls st0) := by
  intro T hT X
  obtain ⟨v, st₀, t, T', L, h0, X', hL, e1, e2, ⟨hv, hP1, hz, hk⟩, st⟩ := hr T hT X
  cases hv
  rw [h0] at hz hk
  obtain ⟨hP, hD, hS⟩ := hw
  have hAA : ∀ q, xA wc q → A q := fun q hq => by
    obtain ⟨j, z, hj⟩ := xA_of hq
    exact hD.2 _ _ (x_suf hs hj)
  have hP' : va_P D vwCl ws' T'.heap := by
    intro k q hq
    rw [e1]
    rw [hs'] at hq
    rcases Nat.lt_or_ge k wf.length with hlt | hge
    · rw [List.getElem?_append_left hlt] at hq
      have h2 : ws[k]? = some q := by rw [hs, List.getElem?_append_left hlt]; exact hq
      refine (hP k q h2).kept (hk q.1 (hP k q h2).lt (fun hin => ?_))
      obtain ⟨j, z, hj⟩ := xA_of hin
      have hij := hD.1 _ k _ q (x_suf hs hj) h2 rfl
      omega
    · rw [List.getElem?_append_right hge] at hq
      exact hP1 _ q hq
  have hS' : va_S A H0 T'.heap (locs ++ L) := ⟨Nat.le_trans hS.1 (by rw [e1]; exact hz), fun q h1 h2 => by rw [e1, hk q (Nat.lt_of_lt_of_le h1 hS.1) (fun z => h2 (hAA q z))]; exact hS.2.1 q h1 h2, fun q hq => by
    rcases List.mem_append.mp hq with h | h
    · exact hS.2.2 q h
    · exact hAA _ (hL q h)⟩
  obtain ⟨t2, a1, b1⟩ := kk T'.heap (locs ++ L) ⟨hP', xD_map (by rw [hs, hs', List.map_append, List.map_append, hadr]) hD, hS'⟩ T' rfl X'
  exact ⟨t2, st t2 a1, b1⟩
theorem xPre_blind {av : List Value} : FrameBlind (xPre D tys av wc) := fun a U g mk q => by
  obtain ⟨q0, qP, qK, qD, qC⟩ := q
  exact ⟨q0, qP, xK.same qK rfl, qD, xCst.same qC rfl rfl⟩
theorem x_good {y : MethodName} {bytes : ByteArray} {maxL : Nat} {rt : Option FieldType} (h : Cond.code y bytes maxL rt ∈ xT) : GoodIn xT [Cond.code y bytes maxL rt] := fun w hw => by
  rcases List.mem_cons.mp hw with rfl | hw
  · exact ⟨h, Or.inl rfl⟩
  · cases hw
variable {y : MethodName} {bytes : ByteArray} {maxL n idx fr' lo' : Nat} {rt : Option FieldType} {C : String} {b : Nat} {As : List Value}
/-- invokevirtual -/
theorem x_callV {isC : List Nat} (E : xE p s m args meth c cc nL ret own D tys A) (hw : xw D A s.heap ws H locs) (hV : xV own idx C y bytes maxL rt n) (hM : xMet l D tys y bytes maxL rt fr' lo' (.ref b :: As) wc wc' r) (q0 ci : Nat) {q : vw_C} {fs : List Value} (he : ws[q0]? = some (b, .inr (ci, fs))) (hc : vwCl[ci]? = some q) (hq : q.1 = C)
    (hC : isC.map (fun i => ws[i]?) = wc.map some) (hnd : va_nd isC = true) (hlen : isC.length = wc'.length) (hn : xrep ws isC wc' = ws') (hadr : ws'.map (·.1) = ws.map (·.1)) (hAs : As.length = n) (hrm : fr' + 1 ≤ R.frames ∧ 8 + (maxL + 11) + lo' ≤ R.locals) (hcl : cells ≤ R.cells ∧ slots ≤ R.slots) (hls : ls.size = nL) (hst : st0 = As.reverse ++ .ref b :: rest) (hst1 : r.toList ++ rest = st1) (hrest : (rest.map fun v => v.category).sum ≤ 8) (hdg : decode cc pc = .ok (.invokevirtual idx, 3))
    (kk : ∀ (H : Heap) (locs : List Loc), xw D A s.heap ws' H locs → W p l e R s m args below meth c H locs cells slots Q (F0 m (pc + 3) ls st1)) : W p l e R s m args below meth c H locs cells slots Q (F0 m pc ls st0) := by
  subst hst1
  obtain ⟨hx, hb, hml, hr, hown, hK, hlocks, hcst⟩ := id E
  obtain ⟨⟨w1, w2, w3, w4, w5⟩, d1, d2, d3⟩ := hV
  subst hq
  have hts : ∀ w ∈ xT, w.before args s = true := fun w h => hK.2.use h
  have hcb : CallB R s args own idx y bytes maxL rt [Cond.code y bytes maxL rt] (xRm fr' lo') 0 0 n := callB_of n hts (x_good w5) rfl rfl rfl (hts _ w4) (hts _ w1) ⟨d1, d2, d3⟩ hrm
  exact x_after (va_runV (As := As) (rest := rest) ⟨hx, hb, hml, hown, hts⟩ hM ⟨hcb, hts _ w2, hts _ w3⟩ ⟨xPre_blind, va_recv hK.1 hw.1 hc he, fun U hU hW => ⟨rfl, by rw [hU]; exact x_sub hC hw.1, hK.warm hW, x_subD hnd hC hw.2.1, by rw [hU]; exact hcst.step hw.2.2 hW (fun q hq => by obtain ⟨j, z, hj⟩ := xA_of hq; obtain ⟨i, -, h2⟩ := x_places hC hj; exact hw.2.1.2 i _ h2)⟩⟩ rfl hAs hls hst (lv_room hrest) hdg hcl) hw hC hlen hn hadr kk
/-- invokevirtual, the world as it is -/
theorem x_callVI (E : xE p s m args meth c cc nL ret own D tys A) (hw : xw D A s.heap ws H locs) (hV : xV own idx C y bytes maxL rt n) (hM : xMet l D tys y bytes maxL rt fr' lo' (.ref b :: As) ws ws' r) (q0 ci : Nat) {q : vw_C} {fs : List Value} (he : ws[q0]? = some (b, .inr (ci, fs))) (hc : vwCl[ci]? = some q) (hq : q.1 = C)
    (hadr : ws'.map (·.1) = ws.map (·.1)) (hAs : As.length = n) (hrm : fr' + 1 ≤ R.frames ∧ 8 + (maxL + 11) + lo' ≤ R.locals) (hcl : cells ≤ R.cells ∧ slots ≤ R.slots) (hls : ls.size = nL) (hst : st0 = As.reverse ++ .ref b :: rest) (hst1 : r.toList ++ rest = st1) (hrest : (rest.map fun v => v.category).sum ≤ 8) (hdg : decode cc pc = .ok (.invokevirtual idx, 3))
    (kk : ∀ (H : Heap) (locs : List Loc), xw D A s.heap ws' H locs → W p l e R s m args below meth c H locs cells slots Q (F0 m (pc + 3) ls st1)) : W p l e R s m args below meth c H locs cells slots Q (F0 m pc ls st0) := by
  subst hst1
  obtain ⟨hx, hb, hml, hr, hown, hK, hlocks, hcst⟩ := id E
  obtain ⟨⟨w1, w2, w3, w4, w5⟩, d1, d2, d3⟩ := hV
  subst hq
  have hts : ∀ w ∈ xT, w.before args s = true := fun w h => hK.2.use h
  have hcb : CallB R s args own idx y bytes maxL rt [Cond.code y bytes maxL rt] (xRm fr' lo') 0 0 n := callB_of n hts (x_good w5) rfl rfl rfl (hts _ w4) (hts _ w1) ⟨d1, d2, d3⟩ hrm
  exact x_afterI (va_runV (As := As) (rest := rest) ⟨hx, hb, hml, hown, hts⟩ hM ⟨hcb, hts _ w2, hts _ w3⟩ ⟨xPre_blind, va_recv hK.1 hw.1 hc he, fun U hU hW => ⟨rfl, by rw [hU]; exact hw.1, hK.warm hW, hw.2.1.weaken (fun _ _ _ _ => trivial), by rw [hU]; exact hcst.step hw.2.2 hW (fun q hq => by obtain ⟨j, z, hj⟩ := xA_of hq; exact hw.2.1.2 j _ hj)⟩⟩ rfl hAs hls hst (lv_room hrest) hdg hcl) hw hadr kk
/-- invokevirtual, on the last cells of the world -/
theorem x_callVP {wf : va_W} (E : xE p s m args meth c cc nL ret own D tys A) (hw : xw D A s.heap ws H locs) (hV : xV own idx C y bytes maxL rt n) (hM : xMet l D tys y bytes maxL rt fr' lo' (.ref b :: As) wc wc' r) (q0 ci : Nat) {q : vw_C} {fs : List Value} (he : ws[q0]? = some (b, .inr (ci, fs))) (hc : vwCl[ci]? = some q) (hq : q.1 = C)
    (hs : ws = wf ++ wc) (hs' : ws' = wf ++ wc') (hadr : wc'.map (·.1) = wc.map (·.1)) (hAs : As.length = n) (hrm : fr' + 1 ≤ R.frames ∧ 8 + (maxL + 11) + lo' ≤ R.locals) (hcl : cells ≤ R.cells ∧ slots ≤ R.slots) (hls : ls.size = nL) (hst : st0 = As.reverse ++ .ref b :: rest) (hst1 : r.toList ++ rest = st1) (hrest : (rest.map fun v => v.category).sum ≤ 8) (hdg : decode cc pc = .ok (.invokevirtual idx, 3))
    (kk : ∀ (H : Heap) (locs : List Loc), xw D A s.heap ws' H locs → W p l e R s m args below meth c H locs cells slots Q (F0 m (pc + 3) ls st1)) : W p l e R s m args below meth c H locs cells slots Q (F0 m pc ls st0) := by
  subst hst1
  obtain ⟨hx, hb, hml, hr, hown, hK, hlocks, hcst⟩ := id E
  obtain ⟨⟨w1, w2, w3, w4, w5⟩, d1, d2, d3⟩ := hV
  subst hq
  have hts : ∀ w ∈ xT, w.before args s = true := fun w h => hK.2.use h
  have hcb : CallB R s args own idx y bytes maxL rt [Cond.code y bytes maxL rt] (xRm fr' lo') 0 0 n := callB_of n hts (x_good w5) rfl rfl rfl (hts _ w4) (hts _ w1) ⟨d1, d2, d3⟩ hrm
  exact x_afterP (va_runV (As := As) (rest := rest) ⟨hx, hb, hml, hown, hts⟩ hM ⟨hcb, hts _ w2, hts _ w3⟩ ⟨xPre_blind, va_recv hK.1 hw.1 hc he, fun U hU hW => ⟨rfl, by rw [hU]; exact fun j q h => hw.1 _ q (x_suf hs h), hK.warm hW, (x_sufD hs hw.2.1).weaken (fun _ _ _ _ => trivial), by rw [hU]; exact hcst.step hw.2.2 hW (fun q hq => by obtain ⟨j, z, hj⟩ := xA_of hq; exact hw.2.1.2 _ _ (x_suf hs hj))⟩⟩ rfl hAs hls hst (lv_room hrest) hdg hcl) hw hs hs' hadr kk
/-- invokestatic -/
theorem x_callS {isC : List Nat} (E : xE p s m args meth c cc nL ret own D tys A) (hw : xw D A s.heap ws H locs) (hV : xS own idx y bytes maxL rt n) (hM : xMet l D tys y bytes maxL rt fr' lo' As wc wc' r)
    (hC : isC.map (fun i => ws[i]?) = wc.map some) (hnd : va_nd isC = true) (hlen : isC.length = wc'.length) (hn : xrep ws isC wc' = ws') (hadr : ws'.map (·.1) = ws.map (·.1)) (hAs : As.length = n) (hrm : fr' + 1 ≤ R.frames ∧ 8 + (maxL + 11) + lo' ≤ R.locals) (hcl : cells ≤ R.cells ∧ slots ≤ R.slots) (hls : ls.size = nL) (hst : st0 = As.reverse ++ rest) (hst1 : r.toList ++ rest = st1) (hrest : (rest.map fun v => v.category).sum ≤ 8) (hdg : decode cc pc = .ok (.invokestatic idx, 3))
    (kk : ∀ (H : Heap) (locs : List Loc), xw D A s.heap ws' H locs → W p l e R s m args below meth c H locs cells slots Q (F0 m (pc + 3) ls st1)) : W p l e R s m args below meth c H locs cells slots Q (F0 m pc ls st0) := by
  subst hst1
  obtain ⟨hx, hb, hml, hr, hown, hK, hlocks, hcst⟩ := id E
  obtain ⟨⟨w1, w2, w4, w5⟩, d1, d2, d3⟩ := hV
  have hts : ∀ w ∈ xT, w.before args s = true := fun w h => hK.2.use h
  have hcb : CallB R s args own idx y bytes maxL rt [Cond.code y bytes maxL rt] (xRm fr' lo') 0 0 n := callB_of n hts (x_good w5) rfl rfl rfl (hts _ w4) (hts _ w1) ⟨d1, d2, d3⟩ hrm
  exact x_after (va_runS (As := As) (rest := rest) ⟨hx, hb, hml, hown, hts⟩ hM ⟨hcb, hts _ w2⟩ ⟨xPre_blind, fun U hU hW => ⟨rfl, by rw [hU]; exact x_sub hC hw.1, hK.warm hW, x_subD hnd hC hw.2.1, by rw [hU]; exact hcst.step hw.2.2 hW (fun q hq => by obtain ⟨j, z, hj⟩ := xA_of hq; obtain ⟨i, -, h2⟩ := x_places hC hj; exact hw.2.1.2 i _ h2)⟩⟩ rfl hAs hls hst (lv_room hrest) hdg hcl) hw hC hlen hn hadr kk
/-- invokestatic of a nest mate's private method -/
theorem x_callN {isC : List Nat} {host : String} (E : xE p s m args meth c cc nL ret own D tys A) (hw : xw D A s.heap ws H locs) (hV : xN own idx host y bytes maxL rt n) (hM : xMet l D tys y bytes maxL rt fr' lo' As wc wc' r)
    (hC : isC.map (fun i => ws[i]?) = wc.map some) (hnd : va_nd isC = true) (hlen : isC.length = wc'.length) (hn : xrep ws isC wc' = ws') (hadr : ws'.map (·.1) = ws.map (·.1)) (hAs : As.length = n) (hrm : fr' + 1 ≤ R.frames ∧ 8 + (maxL + 11) + lo' ≤ R.locals) (hcl : cells ≤ R.cells ∧ slots ≤ R.slots) (hls : ls.size = nL) (hst : st0 = As.reverse ++ rest) (hst1 : r.toList ++ rest = st1) (hrest : (rest.map fun v => v.category).sum ≤ 8) (hdg : decode cc pc = .ok (.invokestatic idx, 3))
    (kk : ∀ (H : Heap) (locs : List Loc), xw D A s.heap ws' H locs → W p l e R s m args below meth c H locs cells slots Q (F0 m (pc + 3) ls st1)) : W p l e R s m args below meth c H locs cells slots Q (F0 m pc ls st0) := by
  subst hst1
  obtain ⟨hx, hb, hml, hr, hown, hK, hlocks, hcst⟩ := id E
  obtain ⟨⟨w1, w2, w4, w5⟩, d1, d2, d3⟩ := hV
  have hts : ∀ w ∈ xT, w.before args s = true := fun w h => hK.2.use h
  exact x_after (va_runSN (As := As) (rest := rest) ⟨hx, hb, hml, hown, hts⟩ hM ⟨va_cnB n hts (x_good w5) rfl rfl rfl (hK.2 _ w1) (hts _ w4) ⟨d1, d2, d3⟩ hrm, hts _ w2, trivial⟩ ⟨xPre_blind, fun U hU hW => ⟨rfl, by rw [hU]; exact x_sub hC hw.1, hK.warm hW, x_subD hnd hC hw.2.1, by rw [hU]; exact hcst.step hw.2.2 hW (fun q hq => by obtain ⟨j, z, hj⟩ := xA_of hq; obtain ⟨i, -, h2⟩ := x_places hC hj; exact hw.2.1.2 i _ h2)⟩⟩ rfl hAs hls hst (lv_room hrest) hdg hcl) hw hC hlen hn hadr kk
end XC
/-! guards of the pure functions -/
def xin (i : Int32) (n : Nat) : Bool := !(decide (i < 0) || decide (n ≤ i.toNatClampNeg))
theorem xin_vp {i : Int32} {n : Nat} (h : xin i n = true) : vp_in i n := by
  unfold xin at h
  simp only [Bool.not_eq_true', Bool.or_eq_false_iff, decide_eq_false_iff_not] at h
  rintro (h1 | h1)
  · exact h.1 h1
  · exact h.2 h1
theorem vp_xin {i : Int32} {n : Nat} (h : vp_in i n) : xin i n = true := by
  unfold xin
  simp only [Bool.not_eq_true', Bool.or_eq_false_iff, decide_eq_false_iff_not]
  exact ⟨fun h1 => h (Or.inl h1), fun h1 => h (Or.inr h1)⟩
theorem xgd {α : Type} {b : Bool} {x : Option α} {r : α} (h : (if b = true then x else none) = some r) : b = true ∧ x = some r := by
  cases b
  · simp at h
  · exact ⟨rfl, by simpa using h⟩
/-- a number that is a truth value -/
def xz (v : Int32) : Bool := decide (v = 0) || decide (v = 1)
theorem xz_n {v : Int32} (h : xz v = true) : narrow .boolean (.int v) = .int v := by
  unfold xz at h
  simp only [Bool.or_eq_true, decide_eq_true_eq] at h
  rcases h with rfl | rfl <;> rfl
theorem x_lsw_out {x : Int32} {d : Int} (h0 : ¬ x = 0) (h1 : ¬ x = 1) {a b : Int} : Op.lookupswitch.offset [(0, a), (1, b)] d x.toInt = d := by
  have g0 : ¬ x.toInt = 0 := fun h => h0 (Int32.toInt_inj.mp (by rw [h]; rfl))
  have g1 : ¬ x.toInt = 1 := fun h => h1 (Int32.toInt_inj.mp (by rw [h]; rfl))
  simp [Op.lookupswitch.offset, g0, g1, Ne.symm g0, Ne.symm g1]
theorem x_neL {x y : Int32} {k : Int} (hk : y.toInt = k) (h : ¬ x = y) : ¬ x.toInt = k := fun e => h (Int32.toInt_inj.mp (by rw [e, hk]))
