/-! ===== contracts that speak of the String constants ===== -/
def xPreC (adK adV : Nat → Nat) (D : va_G) (tys : List (ClassId × FieldType)) (av : List Value) (ws : va_W) : Array Value → State → Prop := fun v U => v = av.toArray ∧ va_P D vwCl ws U.heap ∧ xK D tys U ∧ va_D (fun _ => True) ws ∧ xCs adK adV (xA ws) U U.heap
def xMetC (l : Launch) (D : va_G) (tys : List (ClassId × FieldType)) (adK adV : Nat → Nat) (y : MethodName) (cc : ByteArray) (maxL : Nat) (ret : Option FieldType) (fr lo : Nat) (av : List Value) (ws ws' : va_W) (r : Option Value) : Prop :=
  Met l y [Cond.code y cc maxL ret] (xRm fr lo) (xPreC adK adV D tys av ws) (xQ D ws ws' r) 0 0 (xA ws)
theorem x_enterC {l : Launch} {D : va_G} {tys : List (ClassId × FieldType)} {adK adV : Nat → Nat} {y : MethodName} {cc : ByteArray} {maxL : Nat} {ret : Option FieldType} {fr lo : Nat} {av : List Value} {ws ws' : va_W} {r : Option Value}
    (hy : plainName y.cls = true) (hlen : (lg_sl av).length ≤ maxL)
    (body : ∀ (p : Program) (e : Env) (s : State) (m : MethodId) (args : Array Value) (below : List Frame) (meth : Method) (c : Code), xE p s m args meth c cc maxL ret y.cls D tys (xA ws) → xCs adK adV (xA ws) s s.heap → ∀ ls : Array Slot, lv_has ls maxL (lv_args 0 av) → xw D (xA ws) s.heap ws s.heap [] → xG p l e fr lo s m args below meth c D ws ws' r s.heap [] (F0 m 0 ls [])) :
    xMetC l D tys adK adV y cc maxL ret fr lo av ws ws' r := by
  refine Met.ofW (cc := cc) (maxL := maxL) (ret := ret) hy rfl ?_
  intro p e s m args below meth c s₁ B hml hv
  obtain ⟨rfl, hP, hK, hD0, hC0⟩ := hv
  have hown : s.vm.findClass y.cls = some m.cls := findClass_of_methodNamed B.named
  have hl := lv_entry av (n := maxL) hlen
  rw [lg_entry_eq]
  exact body p e s m av.toArray below meth c ⟨B.exec, B.bytes, hml, B.returns, hown, hK, B.notSynchronized, adK, adV, hC0⟩ hC0 _ hl ⟨hP, ⟨hD0.1, fun k q h => xA_in h⟩, va_S.rf⟩
section XS
variable {p : Program} {l : Launch} {e : Env} {R : Room} {s : State} {m : MethodId} {args : Array Value} {below : List Frame} {meth : Method} {c : Code} {H : Heap} {locs : List Loc} {cells slots : Nat} {Q : State → Prop}
variable {cc : ByteArray} {nL : Nat} {ret : Option FieldType} {own : String} {D : va_G} {tys : List (ClassId × FieldType)} {A : Nat → Prop} {ws ws' wc wc' : va_W} {pc : Nat} {ls : Array Slot} {rest st0 st1 : List Value} {a : Array Value} {r : Option Value} {adK adV : Nat → Nat}
theorem x_tret {fr lo : Nat} {v : Int32} {ty : FieldType} (E : xE p s m args meth c cc nL (some ty) own D tys A) (hw : xw D (xA ws) s.heap ws' H locs) (hn : narrow ty (.int v) = .int v) (hdg : decode cc pc = .ok (.ireturn, 1)) : xG p l e fr lo s m args below meth c D ws ws' (some (.int v)) H locs (F0 m pc ls [.int v]) := by
  obtain ⟨hx, hb, hml, hr, hown, hK, hlocks, hcst⟩ := E
  exact W.zret hx hb hr hn (fun t ht hW => ⟨rfl, by rw [ht]; exact hw.1, hw.2.2.F ht⟩) hw.2.2.2.2 hdg hlocks
theorem x_aret {fr lo : Nat} {v : Nat} {C : String} (E : xE p s m args meth c cc nL (some (.object C)) own D tys A) (hw : xw D (xA ws) s.heap ws' H locs) (hdg : decode cc pc = .ok (.areturn, 1)) : xG p l e fr lo s m args below meth c D ws ws' (some (.ref v)) H locs (F0 m pc ls [.ref v]) := by
  obtain ⟨hx, hb, hml, hr, hown, hK, hlocks, hcst⟩ := E
  exact W.aret hx hb hr (Or.inl ⟨_, rfl⟩) (Or.inr ⟨_, rfl⟩) (fun t ht hW => ⟨rfl, by rw [ht]; exact hw.1, hw.2.2.F ht⟩) hw.2.2.2.2 hdg hlocks
theorem xPreC_blind {av : List Value} : FrameBlind (xPreC adK adV D tys av wc) := fun a U g mk q => by
  obtain ⟨q0, qP, qK, qD, qC⟩ := q
  exact ⟨q0, qP, xK.same qK rfl, qD, xCs.same qC rfl rfl⟩
variable {y : MethodName} {bytes : ByteArray} {maxL n idx fr' lo' : Nat} {rt : Option FieldType} {C : String} {b : Nat} {As : List Value}
theorem x_callVC {isC : List Nat} (E : xE p s m args meth c cc nL ret own D tys A) (hcs : xCs adK adV A s s.heap) (hw : xw D A s.heap ws H locs) (hV : xV own idx C y bytes maxL rt n) (hM : xMetC l D tys adK adV y bytes maxL rt fr' lo' (.ref b :: As) wc wc' r) (hrecv : ∃ cell : Cell, H[b]? = some cell ∧ cell.vm.isStatics = false ∧ s.vm.findClass C = some cell.cls)
    (hC : isC.map (fun i => ws[i]?) = wc.map some) (hnd : va_nd isC = true) (hlen : isC.length = wc'.length) (hn : xrep ws isC wc' = ws') (hadr : ws'.map (·.1) = ws.map (·.1)) (hAs : As.length = n) (hrm : fr' + 1 ≤ R.frames ∧ 8 + (maxL + 11) + lo' ≤ R.locals) (hcl : cells ≤ R.cells ∧ slots ≤ R.slots) (hls : ls.size = nL) (hst : st0 = As.reverse ++ .ref b :: rest) (hst1 : r.toList ++ rest = st1) (hrest : (rest.map fun v => v.category).sum ≤ 8) (hdg : decode cc pc = .ok (.invokevirtual idx, 3))
    (kk : ∀ (H : Heap) (locs : List Loc), xw D A s.heap ws' H locs → W p l e R s m args below meth c H locs cells slots Q (F0 m (pc + 3) ls st1)) : W p l e R s m args below meth c H locs cells slots Q (F0 m pc ls st0) := by
  subst hst1
  obtain ⟨hx, hb, hml, hr, hown, hK, hlocks, hcst⟩ := id E
  obtain ⟨⟨w1, w2, w3, w4, w5⟩, d1, d2, d3⟩ := hV
  have hts : ∀ w ∈ xT, w.before args s = true := fun w h => hK.2.use h
  have hcb : CallB R s args own idx y bytes maxL rt [Cond.code y bytes maxL rt] (xRm fr' lo') 0 0 n := callB_of n hts (x_good w5) rfl rfl rfl (hts _ w4) (hts _ w1) ⟨d1, d2, d3⟩ hrm
  exact x_after (va_runV (As := As) (rest := rest) ⟨hx, hb, hml, hown, hts⟩ hM ⟨hcb, hts _ w2, hts _ w3⟩ ⟨xPreC_blind, hrecv, fun U hU hW => ⟨rfl, by rw [hU]; exact x_sub hC hw.1, hK.warm hW, x_subD hnd hC hw.2.1, by rw [hU]; exact hcs.step hw.2.2 hW (fun q hq => by obtain ⟨j, z, hj⟩ := xA_of hq; obtain ⟨i, -, h2⟩ := x_places hC hj; exact hw.2.1.2 i _ h2)⟩⟩ rfl hAs hls hst (lv_room hrest) hdg hcl) hw hC hlen hn hadr kk
theorem x_callSC {isC : List Nat} (E : xE p s m args meth c cc nL ret own D tys A) (hcs : xCs adK adV A s s.heap) (hw : xw D A s.heap ws H locs) (hV : xS own idx y bytes maxL rt n) (hM : xMetC l D tys adK adV y bytes maxL rt fr' lo' As wc wc' r)
    (hC : isC.map (fun i => ws[i]?) = wc.map some) (hnd : va_nd isC = true) (hlen : isC.length = wc'.length) (hn : xrep ws isC wc' = ws') (hadr : ws'.map (·.1) = ws.map (·.1)) (hAs : As.length = n) (hrm : fr' + 1 ≤ R.frames ∧ 8 + (maxL + 11) + lo' ≤ R.locals) (hcl : cells ≤ R.cells ∧ slots ≤ R.slots) (hls : ls.size = nL) (hst : st0 = As.reverse ++ rest) (hst1 : r.toList ++ rest = st1) (hrest : (rest.map fun v => v.category).sum ≤ 8) (hdg : decode cc pc = .ok (.invokestatic idx, 3))
    (kk : ∀ (H : Heap) (locs : List Loc), xw D A s.heap ws' H locs → W p l e R s m args below meth c H locs cells slots Q (F0 m (pc + 3) ls st1)) : W p l e R s m args below meth c H locs cells slots Q (F0 m pc ls st0) := by
  subst hst1
  obtain ⟨hx, hb, hml, hr, hown, hK, hlocks, hcst⟩ := id E
  obtain ⟨⟨w1, w2, w4, w5⟩, d1, d2, d3⟩ := hV
  have hts : ∀ w ∈ xT, w.before args s = true := fun w h => hK.2.use h
  have hcb : CallB R s args own idx y bytes maxL rt [Cond.code y bytes maxL rt] (xRm fr' lo') 0 0 n := callB_of n hts (x_good w5) rfl rfl rfl (hts _ w4) (hts _ w1) ⟨d1, d2, d3⟩ hrm
  exact x_after (va_runS (As := As) (rest := rest) ⟨hx, hb, hml, hown, hts⟩ hM ⟨hcb, hts _ w2⟩ ⟨xPreC_blind, fun U hU hW => ⟨rfl, by rw [hU]; exact x_sub hC hw.1, hK.warm hW, x_subD hnd hC hw.2.1, by rw [hU]; exact hcs.step hw.2.2 hW (fun q hq => by obtain ⟨j, z, hj⟩ := xA_of hq; obtain ⟨i, -, h2⟩ := x_places hC hj; exact hw.2.1.2 i _ h2)⟩⟩ rfl hAs hls hst (lv_room hrest) hdg hcl) hw hC hlen hn hadr kk
end XS
abbrev xNo : va_W := []
def f_Slen (i : Nat) : Int32 := nI (xlen.getD i 0)
def f_Schar (i : Nat) (k : Int32) : Int32 := (xbyt.getD i []).getD k.toNatClampNeg 0
theorem x_byt : ∀ i, i < 5 → ∀ k, k < xlen.getD i 0 → ∀ b, b = (xbyt.getD i []).getD k 0 → (((b &&& 255).toUInt32 % 65536).toInt32 = b ∧ narrow .char (.int b) = .int b) := by
  intro i hi k hk b hb
  subst hb
  have h : (List.range 5).all (fun i => (List.range (xlen.getD i 0)).all (fun k => decide ((((xbyt.getD i []).getD k 0 &&& 255).toUInt32 % 65536).toInt32 = (xbyt.getD i []).getD k 0 ∧ narrow .char (.int ((xbyt.getD i []).getD k 0)) = .int ((xbyt.getD i []).getD k 0)))) = true := by decide +kernel
  have h1 := List.all_eq_true.mp h i (List.mem_range.mpr hi)
  have h2 := List.all_eq_true.mp h1 k (List.mem_range.mpr hk)
  exact of_decide_eq_true h2
theorem x_lenlt : ∀ i, i < 5 → xlen.getD i 0 < 5 := by decide
set_option maxHeartbeats 4000000 in
theorem c_coder {l : Launch} {D : va_G} {tys : List (ClassId × FieldType)} {adK adV : Nat → Nat} {i : Nat} (hi : i < 5) : xMetC l D tys adK adV yJ0_coder_7d493 cJ0_coder_7d493 1 (some .byte) 0 0 [.ref (adK i)] xNo xNo (some (.int 0)) := by
  refine x_enterC (by decide) (Nat.le_of_ble_eq_true rfl) ?_
  intro p e s m args below meth c E hcs ls hl hw
  have E : xE p s m args meth c cJ0_coder_7d493 1 (some .byte) RJ0 D tys (xA xNo) := E
  obtain ⟨hx, hb, -⟩ := id E
  have hl : lv_has ls 1 [(0, .ref (adK i))] := hl
  refine va_gets hx hb hcs.2.2.1 hw.2.2 E.2.2.2.2.1 (E.2.2.2.2.2.1.2.use kF_J0_38) (fun _ h => h) dJ0_coder_7d493_0 ?_
  refine lv_if_eq (tgt := 13) hx hb dJ0_coder_7d493_3 (by decide) (fun c => absurd c (by decide)) (fun _ => ?_)
  refine lv_aload_n hx hb dJ0_coder_7d493_6 rfl (lv_at hl 0 rfl) ?_
  refine vk_getf hx hb (hcs.1.1 i hi).2.1 hw.2.2 E.2.2.2.2.1 (E.2.2.2.2.2.1.2.use kF_J0_15) (fun _ h => h) dJ0_coder_7d493_7 ?_
  refine lv_goto (tgt := 14) hx hb dJ0_coder_7d493_10 (by decide) ?_
  exact x_tret E hw rfl dJ0_coder_7d493_14
set_option maxHeartbeats 4000000 in
theorem c_isLatin1 {l : Launch} {D : va_G} {tys : List (ClassId × FieldType)} {adK adV : Nat → Nat} {i : Nat} (hi : i < 5) : xMetC l D tys adK adV yJ0_isLatin1_aae02 cJ0_isLatin1_aae02 1 (some .boolean) 0 0 [.ref (adK i)] xNo xNo (some (.int 1)) := by
  refine x_enterC (by decide) (Nat.le_of_ble_eq_true rfl) ?_
  intro p e s m args below meth c E hcs ls hl hw
  have E : xE p s m args meth c cJ0_isLatin1_aae02 1 (some .boolean) RJ0 D tys (xA xNo) := E
  obtain ⟨hx, hb, -⟩ := id E
  have hl : lv_has ls 1 [(0, .ref (adK i))] := hl
  refine va_gets hx hb hcs.2.2.1 hw.2.2 E.2.2.2.2.1 (E.2.2.2.2.2.1.2.use kF_J0_38) (fun _ h => h) dJ0_isLatin1_aae02_0 ?_
  refine lv_if_eq (tgt := 17) hx hb dJ0_isLatin1_aae02_3 (by decide) (fun c => absurd c (by decide)) (fun _ => ?_)
  refine lv_aload_n hx hb dJ0_isLatin1_aae02_6 rfl (lv_at hl 0 rfl) ?_
  refine vk_getf hx hb (hcs.1.1 i hi).2.1 hw.2.2 E.2.2.2.2.1 (E.2.2.2.2.2.1.2.use kF_J0_15) (fun _ h => h) dJ0_isLatin1_aae02_7 ?_
  refine lv_if_ne (tgt := 17) hx hb dJ0_isLatin1_aae02_10 (by decide) (fun c => absurd rfl c) (fun _ => ?_)
  refine lv_iconst (v := 1) hx hb dJ0_isLatin1_aae02_13 (by decide) ?_
  refine lv_goto (tgt := 18) hx hb dJ0_isLatin1_aae02_14 (by decide) ?_
  exact x_tret E hw rfl dJ0_isLatin1_aae02_18
set_option maxHeartbeats 4000000 in
theorem c_Slen {l : Launch} {D : va_G} {tys : List (ClassId × FieldType)} {adK adV : Nat → Nat} {i : Nat} (hi : i < 5) : xMetC l D tys adK adV yJ0_length_8abf5 cJ0_length_8abf5 1 (some .int) 1 20 [.ref (adK i)] xNo xNo (some (.int (f_Slen i))) := by
  refine x_enterC (by decide) (Nat.le_of_ble_eq_true rfl) ?_
  intro p e s m args below meth c E hcs ls hl hw
  have E : xE p s m args meth c cJ0_length_8abf5 1 (some .int) RJ0 D tys (xA xNo) := E
  obtain ⟨hx, hb, -⟩ := id E
  have hl : lv_has ls 1 [(0, .ref (adK i))] := hl
  refine lv_aload_n hx hb dJ0_length_8abf5_0 rfl (lv_at hl 0 rfl) ?_
  refine vk_getf hx hb (hcs.1.1 i hi).2.2.1 hw.2.2 E.2.2.2.2.1 (E.2.2.2.2.2.1.2.use kF_J0_9) (fun _ h => h) dJ0_length_8abf5_1 ?_
  refine va_tlen hx hb (hcs.1.1 i hi).2.2.2 hw.2.2 (v := f_Slen i) rfl dJ0_length_8abf5_4 ?_
  refine lv_aload_n hx hb dJ0_length_8abf5_5 rfl (lv_at hl 0 rfl) ?_
  refine x_callVC (isC := []) (ws' := xNo) (st1 := [.int 0, .int (f_Slen i)]) (As := []) (rest := [.int (f_Slen i)]) E hcs hw vc_J0_335 (c_coder (adK := adK) (adV := adV) hi) (vk_recv hcs.1 hi hw.2.2) rfl rfl rfl rfl rfl rfl ⟨Nat.le_of_ble_eq_true rfl, Nat.le_of_ble_eq_true rfl⟩ ⟨Nat.le_refl _, Nat.le_refl _⟩ hl.1 rfl rfl (Nat.le_of_ble_eq_true rfl) dJ0_length_8abf5_6 (fun H locs hw => ?_)
  refine lv_ishr hx hb dJ0_length_8abf5_9 ?_
  rw [sb_shr0]
  exact x_iret E hw dJ0_length_8abf5_10
set_option maxHeartbeats 4000000 in
theorem c_Sci {l : Launch} {D : va_G} {tys : List (ClassId × FieldType)} {adK adV : Nat → Nat} {x y : Int32} {v : Value} (hv : v = .null ∨ ∃ t, v = .ref t) (h0 : ¬ x < 0) (h1 : x < y) : xMetC l D tys adK adV yJ3_checkIndex_8e157 cJ3_checkIndex_8e157 3 (some .int) 0 0 [.int x, .int y, v] xNo xNo (some (.int x)) := by
  refine x_enterC (by decide) (by rcases hv with rfl | ⟨t, rfl⟩ <;> exact Nat.le_of_ble_eq_true rfl) ?_
  intro p e s m args below meth c E hcs ls hl hw
  have E : xE p s m args meth c cJ3_checkIndex_8e157 3 (some .int) RJ3 D tys (xA xNo) := E
  obtain ⟨hx, hb, -⟩ := id E
  have hl : lv_has ls 3 [(0, .int x), (1, .int y)] := lv_sub hl [0, 1] rfl
  refine lv_iload_n hx hb dJ3_checkIndex_8e157_0 rfl (lv_at hl 0 rfl) ?_
  refine lv_if_lt (tgt := 9) hx hb dJ3_checkIndex_8e157_1 (by decide) (fun c => absurd c h0) (fun _ => ?_)
  refine lv_iload_n hx hb dJ3_checkIndex_8e157_4 rfl (lv_at hl 0 rfl) ?_
  refine lv_iload_n hx hb dJ3_checkIndex_8e157_5 rfl (lv_at hl 1 rfl) ?_
  refine lv_icmp_lt (tgt := 16) hx hb dJ3_checkIndex_8e157_6 (by decide) (fun _ => ?_) (fun c => absurd h1 c)
  refine lv_iload_n hx hb dJ3_checkIndex_8e157_16 rfl (lv_at hl 0 rfl) ?_
  exact x_iret E hw dJ3_checkIndex_8e157_17
set_option maxHeartbeats 4000000 in
theorem c_Sck {l : Launch} {D : va_G} {tys : List (ClassId × FieldType)} {adK adV : Nat → Nat} {x y : Int32} (h0 : ¬ x < 0) (h1 : x < y) : xMetC l D tys adK adV yJ0_checkIndex_df160 cJ0_checkIndex_df160 2 none 1 22 [.int x, .int y] xNo xNo none := by
  refine x_enterC (by decide) (Nat.le_of_ble_eq_true rfl) ?_
  intro p e s m args below meth c E hcs ls hl hw
  have E : xE p s m args meth c cJ0_checkIndex_df160 2 none RJ0 D tys (xA xNo) := E
  obtain ⟨hx, hb, -⟩ := id E
  have hl : lv_has ls 2 [(0, .int x), (1, .int y)] := hl
  obtain ⟨v, hv, hZ⟩ : ∃ v : Value, (v = .null ∨ ∃ t, v = .ref t) ∧ va_Z "jdk/internal/util/Preconditions" "SIOOBE_FORMATTER" "Ljava/util/function/BiFunction;" v (xA xNo) s s.heap := by
    rcases hcs.2.2.2 with h | ⟨t, h⟩
    · exact ⟨_, Or.inl rfl, h⟩
    · exact ⟨_, Or.inr ⟨t, rfl⟩, h⟩
  refine lv_iload_n hx hb dJ0_checkIndex_df160_0 rfl (lv_at hl 0 rfl) ?_
  refine lv_iload_n hx hb dJ0_checkIndex_df160_1 rfl (lv_at hl 1 rfl) ?_
  refine va_gets hx hb hZ hw.2.2 E.2.2.2.2.1 (E.2.2.2.2.2.1.2.use kF_J0_1053) (fun _ h => h) dJ0_checkIndex_df160_2 ?_
  refine x_callSC (isC := []) (ws' := xNo) (st1 := [.int x]) (As := [.int x, .int y, v]) (rest := []) E hcs hw vc_J0_1059 (c_Sci (adK := adK) (adV := adV) hv h0 h1) rfl rfl rfl rfl rfl rfl ⟨Nat.le_of_ble_eq_true rfl, Nat.le_of_ble_eq_true rfl⟩ ⟨Nat.le_refl _, Nat.le_refl _⟩ hl.1 rfl rfl (Nat.le_of_ble_eq_true rfl) dJ0_checkIndex_df160_5 (fun H locs hw => ?_)
  refine lv_pop hx hb dJ0_checkIndex_df160_8 rfl ?_
  exact x_vret E hw dJ0_checkIndex_df160_9
theorem x_sin {i : Nat} {k : Int32} (hi : i < 5) (hk : xin k (xlen.getD i 0) = true) : ¬ k < 0 ∧ k < Int32.ofNat (xlen.getD i 0) ∧ k.toNatClampNeg < xlen.getD i 0 := by
  have hl := x_lenlt i hi
  obtain ⟨j, hj, rfl⟩ := vp_in_of (xin_vp hk) (by omega)
  refine ⟨nI_pos (by omega), nI_lt hj (by omega), ?_⟩
  rw [nI_clamp (by omega)]; exact hj
set_option maxHeartbeats 4000000 in
theorem c_Slc {l : Launch} {D : va_G} {tys : List (ClassId × FieldType)} {adK adV : Nat → Nat} {i : Nat} {k : Int32} (hi : i < 5) (hk : xin k (xlen.getD i 0) = true) : xMetC l D tys adK adV yJ1_charAt_3b067 cJ1_charAt_3b067 2 (some .char) 2 43 [.ref (adV i), .int k] xNo xNo (some (.int (f_Schar i k))) := by
  refine x_enterC (by decide) (Nat.le_of_ble_eq_true rfl) ?_
  intro p e s m args below meth c E hcs ls hl hw
  have E : xE p s m args meth c cJ1_charAt_3b067 2 (some .char) RJ1 D tys (xA xNo) := E
  obtain ⟨hx, hb, -⟩ := id E
  have hl : lv_has ls 2 [(0, .ref (adV i)), (1, .int k)] := hl
  obtain ⟨g0, g1, g2⟩ := x_sin hi hk
  obtain ⟨b1, b2⟩ := x_byt i hi k.toNatClampNeg g2 (f_Schar i k) rfl
  refine lv_iload_n hx hb dJ1_charAt_3b067_0 rfl (lv_at hl 1 rfl) ?_
  refine lv_aload_n hx hb dJ1_charAt_3b067_1 rfl (lv_at hl 0 rfl) ?_
  refine va_tlen hx hb (hcs.1.1 i hi).2.2.2 hw.2.2 rfl dJ1_charAt_3b067_2 ?_
  refine x_callSC (isC := []) (ws' := xNo) (st1 := []) (As := [.int k, .int (Int32.ofNat (xlen.getD i 0))]) (rest := []) E hcs hw vc_J1_9 (c_Sck (adK := adK) (adV := adV) g0 g1) rfl rfl rfl rfl rfl rfl ⟨Nat.le_of_ble_eq_true rfl, Nat.le_of_ble_eq_true rfl⟩ ⟨Nat.le_refl _, Nat.le_refl _⟩ hl.1 rfl rfl (Nat.le_of_ble_eq_true rfl) dJ1_charAt_3b067_3 (fun H locs hw => ?_)
  refine lv_aload_n hx hb dJ1_charAt_3b067_6 rfl (lv_at hl 0 rfl) ?_
  refine lv_iload_n hx hb dJ1_charAt_3b067_7 rfl (lv_at hl 1 rfl) ?_
  refine va_tb hx hb (hcs.1.1 i hi).2.2.2 hw.2.2 (xin_vp hk) (v := .int (f_Schar i k)) rfl dJ1_charAt_3b067_8 ?_
  refine lv_sipush (v := 255) hx hb dJ1_charAt_3b067_9 (by decide) ?_
  refine lv_iand hx hb dJ1_charAt_3b067_12 ?_
  refine lv_i2c hx hb dJ1_charAt_3b067_13 b1 ?_
  exact x_tret E hw b2 dJ1_charAt_3b067_14
set_option maxHeartbeats 4000000 in
theorem c_Schar {l : Launch} {D : va_G} {tys : List (ClassId × FieldType)} {adK adV : Nat → Nat} {i : Nat} {k : Int32} (hi : i < 5) (hk : xin k (xlen.getD i 0) = true) : xMetC l D tys adK adV yJ0_charAt_5068e cJ0_charAt_5068e 2 (some .char) 3 64 [.ref (adK i), .int k] xNo xNo (some (.int (f_Schar i k))) := by
  refine x_enterC (by decide) (Nat.le_of_ble_eq_true rfl) ?_
  intro p e s m args below meth c E hcs ls hl hw
  have E : xE p s m args meth c cJ0_charAt_5068e 2 (some .char) RJ0 D tys (xA xNo) := E
  obtain ⟨hx, hb, -⟩ := id E
  have hl : lv_has ls 2 [(0, .ref (adK i)), (1, .int k)] := hl
  obtain ⟨g0, g1, g2⟩ := x_sin hi hk
  obtain ⟨b1, b2⟩ := x_byt i hi k.toNatClampNeg g2 (f_Schar i k) rfl
  refine lv_aload_n hx hb dJ0_charAt_5068e_0 rfl (lv_at hl 0 rfl) ?_
  refine x_callVC (isC := []) (ws' := xNo) (st1 := [.int 1]) (As := []) (rest := []) E hcs hw vc_J0_492 (c_isLatin1 (adK := adK) (adV := adV) hi) (vk_recv hcs.1 hi hw.2.2) rfl rfl rfl rfl rfl rfl ⟨Nat.le_of_ble_eq_true rfl, Nat.le_of_ble_eq_true rfl⟩ ⟨Nat.le_refl _, Nat.le_refl _⟩ hl.1 rfl rfl (Nat.le_of_ble_eq_true rfl) dJ0_charAt_5068e_1 (fun H locs hw => ?_)
  refine lv_if_eq (tgt := 16) hx hb dJ0_charAt_5068e_4 (by decide) (fun c => absurd c (by decide)) (fun _ => ?_)
  refine lv_aload_n hx hb dJ0_charAt_5068e_7 rfl (lv_at hl 0 rfl) ?_
  refine vk_getf hx hb (hcs.1.1 i hi).2.2.1 hw.2.2 E.2.2.2.2.1 (E.2.2.2.2.2.1.2.use kF_J0_9) (fun _ h => h) dJ0_charAt_5068e_8 ?_
  refine lv_iload_n hx hb dJ0_charAt_5068e_11 rfl (lv_at hl 1 rfl) ?_
  refine x_callSC (isC := []) (ws' := xNo) (st1 := [.int (f_Schar i k)]) (As := [.ref (adV i), .int k]) (rest := []) E hcs hw vc_J0_495 (c_Slc (adK := adK) (adV := adV) hi hk) rfl rfl rfl rfl rfl rfl ⟨Nat.le_of_ble_eq_true rfl, Nat.le_of_ble_eq_true rfl⟩ ⟨Nat.le_refl _, Nat.le_refl _⟩ hl.1 rfl rfl (Nat.le_of_ble_eq_true rfl) dJ0_charAt_5068e_12 (fun H locs hw => ?_)
  exact x_tret E hw b2 dJ0_charAt_5068e_15

