abbrev wMod (cI cZ cN cC : ClassId) (h0 h1 h2 h3 h4 h5 h6 h7 h8 h9 h10 h11 h12 h13 h14 h15 : Nat) (mn : Int32) (um : Int32) (len : Int32) (plc : Int32) (srt : Int32) (frm : Int32) (num : Int32) (wrg : Int32) (cm : Int32) (mpt : Int32) (st : Nat → Int32) (pst : Nat → Int32) (kep : Nat → Int32) (isk : Nat → Int32) (pil : Nat → Int32) (nxs : Nat → Int32) (txt : Nat → Int32) (cls : Nat → Int32) (asd : Nat → Int32) (opn : Nat → Int32) (byy : Nat → Int32) (twc : Nat → Int32) (szs : Nat → Int32) (sos : Nat → Int32) (ths : Nat → Int32) : va_W := [(h0, .inr (7, [.int mn, .ref h1, .ref h2, .int um, .ref h3, .ref h4, .ref h5, .ref h6, .ref h7, .int len, .int plc, .int srt, .int frm, .int num, .int wrg, .ref h8, .int cm, .int mpt, .ref h9, .ref h10, .ref h11, .ref h12, .ref h13, .ref h14, .ref h15])), (h1, .inl (cI, 111, .inl st)), (h2, .inl (cI, 888, .inl pst)), (h3, .inl (cI, 222, .inl kep)), (h4, .inl (cI, 2, .inl isk)), (h5, .inl (cI, 11, .inl pil)), (h6, .inl (cI, 11, .inl nxs)), (h7, .inl (cI, 200, .inl txt)), (h8, .inl (cI, 96, .inl cls)), (h9, .inl (cI, 111, .inl asd)), (h10, .inl (cI, 10, .inl opn)), (h11, .inl (cI, 10, .inl byy)), (h12, .inl (cI, 10, .inl twc)), (h13, .inl (cI, 3, .inl szs)), (h14, .inl (cI, 24, .inl sos)), (h15, .inl (cI, 24, .inl ths))]
def f_X7_in (x0 : Int64) (x2 : Int64) (x4 : Int64) : (Int32) :=
  if (lg_cmp x0 x2) < 0 then
   0
  else
   if 0 < (lg_cmp x0 x4) then
    0
   else
    1
set_option maxHeartbeats 4000000 in
set_option maxRecDepth 100000 in
theorem c_X7_in {l : Launch} {D : va_G} {cI cZ cN cC : ClassId}  {x0 : Int64} {x2 : Int64} {x4 : Int64} {res : Int32} (hf : f_X7_in x0 x2 x4 = res) : xMet l D (xtys cI cZ cN cC) yX7_in cX7_in 6 (some .boolean) 0 0 [.long x0, .long x2, .long x4] ([] : va_W) ([] : va_W) (some (.int res)) := by
  refine x_enter (by decide) (Nat.le_of_ble_eq_true rfl) ?_
  intro p e s m args below meth c E ls hl hw
  have E : xE p s m args meth c cX7_in 6 (some .boolean) RX7 D (xtys cI cZ cN cC) (xA ([] : va_W)) := E
  obtain ⟨hx, hb, -⟩ := id E
  have hl : lv_has ls 6 [(0, .long x0), (2, .long x2), (4, .long x4)] := hl
  unfold f_X7_in at hf
  refine lv_lload_n hx hb dX7_in_0 rfl (lv_at hl 0 rfl) ?_
  refine lv_lload_n hx hb dX7_in_1 rfl (lv_at hl 1 rfl) ?_
  refine W.lcmp hx hb dX7_in_2 ?_
  refine lv_if_lt (tgt := 17) hx hb dX7_in_3 (by decide) (fun c1 => ?_) (fun c1 => ?_)
  · rw [if_pos c1] at hf
    refine lv_iconst (v := 0) hx hb dX7_in_17 (by decide) ?_
    subst hf
    exact x_zret E hw (xz_n (v := 0) (by decide)) dX7_in_18
  · rw [if_neg c1] at hf
    refine lv_lload_n hx hb dX7_in_6 rfl (lv_at hl 0 rfl) ?_
    refine lv_lload hx hb dX7_in_7 (lv_at hl 2 rfl) ?_
    refine W.lcmp hx hb dX7_in_9 ?_
    refine lv_if_gt (tgt := 17) hx hb dX7_in_10 (by decide) (fun c2 => ?_) (fun c2 => ?_)
    · rw [if_pos c2] at hf
      refine lv_iconst (v := 0) hx hb dX7_in_17 (by decide) ?_
      subst hf
      exact x_zret E hw (xz_n (v := 0) (by decide)) dX7_in_18
    · rw [if_neg c2] at hf
      refine lv_iconst (v := 1) hx hb dX7_in_13 (by decide) ?_
      refine lv_goto (tgt := 18) hx hb dX7_in_14 (by decide) ?_
      subst hf
      exact x_zret E hw (xz_n (v := 1) (by decide)) dX7_in_18
theorem z_X7_in {x0 : Int64} {x2 : Int64} {x4 : Int64} : xz (f_X7_in x0 x2 x4) = true := by
  unfold f_X7_in
  first | (repeat' split) <;> first | decide | rfl

def f_X7_has (x0 : Int32) (x1 : Int32) : (Int32) :=
  if ((x0 >>> (x1 &&& 31)) &&& 1) = 1 then
   1
  else
   0
set_option maxHeartbeats 4000000 in
set_option maxRecDepth 100000 in
theorem c_X7_has {l : Launch} {D : va_G} {cI cZ cN cC : ClassId}  {x0 : Int32} {x1 : Int32} {res : Int32} (hf : f_X7_has x0 x1 = res) : xMet l D (xtys cI cZ cN cC) yX7_has cX7_has 2 (some .boolean) 0 0 [.int x0, .int x1] ([] : va_W) ([] : va_W) (some (.int res)) := by
  refine x_enter (by decide) (Nat.le_of_ble_eq_true rfl) ?_
  intro p e s m args below meth c E ls hl hw
  have E : xE p s m args meth c cX7_has 2 (some .boolean) RX7 D (xtys cI cZ cN cC) (xA ([] : va_W)) := E
  obtain ⟨hx, hb, -⟩ := id E
  have hl : lv_has ls 2 [(0, .int x0), (1, .int x1)] := hl
  unfold f_X7_has at hf
  refine lv_iload_n hx hb dX7_has_0 rfl (lv_at hl 0 rfl) ?_
  refine lv_iload_n hx hb dX7_has_1 rfl (lv_at hl 1 rfl) ?_
  refine lv_ishr hx hb dX7_has_2 ?_
  refine lv_iconst (v := 1) hx hb dX7_has_3 (by decide) ?_
  refine lv_iand hx hb dX7_has_4 ?_
  refine lv_iconst (v := 1) hx hb dX7_has_5 (by decide) ?_
  refine lv_icmp_ne (tgt := 13) hx hb dX7_has_6 (by decide) (fun c1 => ?_) (fun c1 => ?_)
  · rw [if_neg c1] at hf
    refine lv_iconst (v := 0) hx hb dX7_has_13 (by decide) ?_
    subst hf
    exact x_zret E hw (xz_n (v := 0) (by decide)) dX7_has_14
  · rw [if_pos c1] at hf
    refine lv_iconst (v := 1) hx hb dX7_has_9 (by decide) ?_
    refine lv_goto (tgt := 14) hx hb dX7_has_10 (by decide) ?_
    subst hf
    exact x_zret E hw (xz_n (v := 1) (by decide)) dX7_has_14
theorem z_X7_has {x0 : Int32} {x1 : Int32} : xz (f_X7_has x0 x1) = true := by
  unfold f_X7_has
  first | (repeat' split) <;> first | decide | rfl

def f_X7_ones_4 : Nat → Int32 → Int32 → Option (Int32)
  | 0, _, _ => none
  | n + 1, x1, x2 =>
    if x2 = 0 then
     some x1
    else
     f_X7_ones_4 n (x1 + 1) (x2 &&& (x2 - 1))
set_option maxHeartbeats 4000000 in
set_option maxRecDepth 100000 in
theorem b_X7_ones_4 {p : Program} {l : Launch} {e : Env} {s : State} {m : MethodId} {args : Array Value} {below : List Frame} {meth : Method} {c : Code} {D : va_G} {cI cZ cN cC : ClassId} {ws0 : va_W}  {res : Int32} (E : xE p s m args meth c cX7_ones 3 (some .int) RX7 D (xtys cI cZ cN cC) (xA ws0)) : ∀ (n : Nat) (x1 : Int32) (x2 : Int32), f_X7_ones_4 n x1 x2 = some res → ∀ (H : Heap) (locs : List Loc) (ls : Array Slot), xw D (xA ws0) s.heap ([] : va_W) H locs → lv_has ls 3 [(1, .int x1), (2, .int x2)] → xG p l e 0 0 s m args below meth c D ws0 ([] : va_W) (some (.int res)) H locs (F0 m 4 ls []) := by
  obtain ⟨hx, hb, -⟩ := id E
  intro n
  induction n with
  | zero =>
    intro _ _ hf
    rw [f_X7_ones_4] at hf; cases hf
  | succ n ih =>
    intro x1 x2 hf H locs ls hw hl
    rw [f_X7_ones_4] at hf
    refine lv_iload_n hx hb dX7_ones_4 rfl (lv_at hl 1 rfl) ?_
    refine lv_if_eq (tgt := 20) hx hb dX7_ones_5 (by decide) (fun c1 => ?_) (fun c1 => ?_)
    · rw [if_pos c1] at hf
      refine lv_iload_n hx hb dX7_ones_20 rfl (lv_at hl 0 rfl) ?_
      have hf := Option.some.inj hf; subst hf
      exact x_iret E hw dX7_ones_21
    · rw [if_neg c1] at hf
      refine lv_iinc (v := (x1 + 1)) (lv' := [(1, .int (x1 + 1)), (2, .int x2)]) hx hb dX7_ones_8 hl (k := 0) rfl rfl (by decide) rfl (fun ls hl => ?_)
      refine lv_iload_n hx hb dX7_ones_11 rfl (lv_at hl 1 rfl) ?_
      refine lv_iload_n hx hb dX7_ones_12 rfl (lv_at hl 1 rfl) ?_
      refine lv_iconst (v := 1) hx hb dX7_ones_13 (by decide) ?_
      refine lv_isub hx hb dX7_ones_14 ?_
      refine lv_iand hx hb dX7_ones_15 ?_
      refine lv_istore_n (lv' := [(2, .int (x2 &&& (x2 - 1))), (1, .int (x1 + 1))]) hx hb dX7_ones_16 rfl hl (by decide) rfl (fun ls hl => ?_)
      refine lv_goto (tgt := 4) hx hb dX7_ones_17 (by decide) ?_
      exact ih _ _ hf _ _ _ hw (lv_sub hl [1, 0] rfl)
def f_X7_ones (N : Nat) (x0 : Int32) : Option (Int32) :=
  f_X7_ones_4 N 0 x0
set_option maxHeartbeats 4000000 in
set_option maxRecDepth 100000 in
theorem c_X7_ones {l : Launch} {D : va_G} {cI cZ cN cC : ClassId}  {x0 : Int32} {N : Nat} {res : Int32} (hf : f_X7_ones N x0 = some res) : xMet l D (xtys cI cZ cN cC) yX7_ones cX7_ones 3 (some .int) 0 0 [.int x0] ([] : va_W) ([] : va_W) (some (.int res)) := by
  refine x_enter (by decide) (Nat.le_of_ble_eq_true rfl) ?_
  intro p e s m args below meth c E ls hl hw
  have E : xE p s m args meth c cX7_ones 3 (some .int) RX7 D (xtys cI cZ cN cC) (xA ([] : va_W)) := E
  obtain ⟨hx, hb, -⟩ := id E
  have hl : lv_has ls 3 [(0, .int x0)] := hl
  unfold f_X7_ones at hf
  refine lv_iconst (v := 0) hx hb dX7_ones_0 (by decide) ?_
  refine lv_istore_n (lv' := [(1, .int 0), (0, .int x0)]) hx hb dX7_ones_1 rfl hl (by decide) rfl (fun ls hl => ?_)
  refine lv_iload_n hx hb dX7_ones_2 rfl (lv_at hl 1 rfl) ?_
  refine lv_istore_n (lv' := [(2, .int x0), (1, .int 0), (0, .int x0)]) hx hb dX7_ones_3 rfl hl (by decide) rfl (fun ls hl => ?_)
  exact b_X7_ones_4 E N _ _ hf _ _ _ hw (lv_sub hl [1, 0] rfl)

def f_X7_isChain (x0 : Int32) : (Int32) :=
  (f_X7_in (Int32.toInt64 x0) 0 2)
set_option maxHeartbeats 4000000 in
set_option maxRecDepth 100000 in
theorem c_X7_isChain {l : Launch} {D : va_G} {cI cZ cN cC : ClassId}  {x0 : Int32} {res : Int32} (hf : f_X7_isChain x0 = res) : xMet l D (xtys cI cZ cN cC) yX7_isChain cX7_isChain 1 (some .boolean) 1 25 [.int x0] ([] : va_W) ([] : va_W) (some (.int res)) := by
  refine x_enter (by decide) (Nat.le_of_ble_eq_true rfl) ?_
  intro p e s m args below meth c E ls hl hw
  have E : xE p s m args meth c cX7_isChain 1 (some .boolean) RX7 D (xtys cI cZ cN cC) (xA ([] : va_W)) := E
  obtain ⟨hx, hb, -⟩ := id E
  have hl : lv_has ls 1 [(0, .int x0)] := hl
  unfold f_X7_isChain at hf
  refine lv_iload_n hx hb dX7_isChain_0 rfl (lv_at hl 0 rfl) ?_
  refine lv_i2l (v := (Int32.toInt64 x0)) hx hb dX7_isChain_1 rfl ?_
  refine lv_lconst (v := 0) hx hb dX7_isChain_2 (by decide) ?_
  refine lv_ldc2 hx hb E.2.2.2.2.1 (E.2.2.2.2.2.1.2.use kQ_X7_229) dX7_isChain_3 ?_
  refine x_callS (isC := []) (ws' := ([] : va_W)) (st1 := [.int (f_X7_in (Int32.toInt64 x0) 0 2)]) (As := [.long (Int32.toInt64 x0), .long 0, .long 2]) (rest := []) E hw vc_X7_66 (c_X7_in (cI := cI) (cZ := cZ) (cN := cN) (cC := cC)    (x0 := (Int32.toInt64 x0)) (x2 := 0) (x4 := 2) rfl) rfl rfl rfl rfl rfl rfl ⟨Nat.le_of_ble_eq_true rfl, Nat.le_of_ble_eq_true rfl⟩ ⟨Nat.le_refl _, Nat.le_refl _⟩ hl.1 rfl rfl (Nat.le_of_ble_eq_true rfl) dX7_isChain_6 (fun H locs hw => ?_)
  subst hf
  exact x_zret E hw (xz_n z_X7_in) dX7_isChain_9
theorem z_X7_isChain {x0 : Int32} : xz (f_X7_isChain x0) = true := by
  unfold f_X7_isChain
  first | (repeat' split) <;> first | decide | exact z_X7_in | rfl

def f_X7_isOneOf (x0 : Int32) (x1 : Int32) : (Int32) :=
  (f_X7_in (Int32.toInt64 x0) 0 (Int32.toInt64 x1))
set_option maxHeartbeats 4000000 in
set_option maxRecDepth 100000 in
theorem c_X7_isOneOf {l : Launch} {D : va_G} {cI cZ cN cC : ClassId}  {x0 : Int32} {x1 : Int32} {res : Int32} (hf : f_X7_isOneOf x0 x1 = res) : xMet l D (xtys cI cZ cN cC) yX7_isOneOf cX7_isOneOf 2 (some .boolean) 1 25 [.int x0, .int x1] ([] : va_W) ([] : va_W) (some (.int res)) := by
  refine x_enter (by decide) (Nat.le_of_ble_eq_true rfl) ?_
  intro p e s m args below meth c E ls hl hw
  have E : xE p s m args meth c cX7_isOneOf 2 (some .boolean) RX7 D (xtys cI cZ cN cC) (xA ([] : va_W)) := E
  obtain ⟨hx, hb, -⟩ := id E
  have hl : lv_has ls 2 [(0, .int x0), (1, .int x1)] := hl
  unfold f_X7_isOneOf at hf
  refine lv_iload_n hx hb dX7_isOneOf_0 rfl (lv_at hl 0 rfl) ?_
  refine lv_i2l (v := (Int32.toInt64 x0)) hx hb dX7_isOneOf_1 rfl ?_
  refine lv_lconst (v := 0) hx hb dX7_isOneOf_2 (by decide) ?_
  refine lv_iload_n hx hb dX7_isOneOf_3 rfl (lv_at hl 1 rfl) ?_
  refine lv_i2l (v := (Int32.toInt64 x1)) hx hb dX7_isOneOf_4 rfl ?_
  refine x_callS (isC := []) (ws' := ([] : va_W)) (st1 := [.int (f_X7_in (Int32.toInt64 x0) 0 (Int32.toInt64 x1))]) (As := [.long (Int32.toInt64 x0), .long 0, .long (Int32.toInt64 x1)]) (rest := []) E hw vc_X7_66 (c_X7_in (cI := cI) (cZ := cZ) (cN := cN) (cC := cC)    (x0 := (Int32.toInt64 x0)) (x2 := 0) (x4 := (Int32.toInt64 x1)) rfl) rfl rfl rfl rfl rfl rfl ⟨Nat.le_of_ble_eq_true rfl, Nat.le_of_ble_eq_true rfl⟩ ⟨Nat.le_refl _, Nat.le_refl _⟩ hl.1 rfl rfl (Nat.le_of_ble_eq_true rfl) dX7_isOneOf_5 (fun H locs hw => ?_)
  subst hf
  exact x_zret E hw (xz_n z_X7_in) dX7_isOneOf_8
theorem z_X7_isOneOf {x0 : Int32} {x1 : Int32} : xz (f_X7_isOneOf x0 x1) = true := by
  unfold f_X7_isOneOf
  first | (repeat' split) <;> first | decide | exact z_X7_in | rfl

def f_X7_isPoint (x1 : Int32) (mn : Int32) : (Int32) :=
  (f_X7_in (Int32.toInt64 x1) 0 (Int32.toInt64 (mn - 1)))
set_option maxHeartbeats 4000000 in
set_option maxRecDepth 100000 in
theorem c_X7_isPoint {l : Launch} {D : va_G} {cI cZ cN cC : ClassId} {h0 h1 h2 h3 h4 h5 h6 h7 h8 h9 h10 h11 h12 h13 h14 h15 : Nat} {mn : Int32} {um : Int32} {len : Int32} {plc : Int32} {srt : Int32} {frm : Int32} {num : Int32} {wrg : Int32} {cm : Int32} {mpt : Int32} {st : (Nat → Int32)} {pst : (Nat → Int32)} {kep : (Nat → Int32)} {isk : (Nat → Int32)} {pil : (Nat → Int32)} {nxs : (Nat → Int32)} {txt : (Nat → Int32)} {cls : (Nat → Int32)} {asd : (Nat → Int32)} {opn : (Nat → Int32)} {byy : (Nat → Int32)} {twc : (Nat → Int32)} {szs : (Nat → Int32)} {sos : (Nat → Int32)} {ths : (Nat → Int32)} {x1 : Int32} {res : Int32} (hf : f_X7_isPoint x1 mn = res) : xMet l D (xtys cI cZ cN cC) yX7_isPoint cX7_isPoint 2 (some .boolean) 1 25 [.ref h0, .int x1] (wMod cI cZ cN cC h0 h1 h2 h3 h4 h5 h6 h7 h8 h9 h10 h11 h12 h13 h14 h15 mn um len plc srt frm num wrg cm mpt st pst kep isk pil nxs txt cls asd opn byy twc szs sos ths) (wMod cI cZ cN cC h0 h1 h2 h3 h4 h5 h6 h7 h8 h9 h10 h11 h12 h13 h14 h15 mn um len plc srt frm num wrg cm mpt st pst kep isk pil nxs txt cls asd opn byy twc szs sos ths) (some (.int res)) := by
  refine x_enter (by decide) (Nat.le_of_ble_eq_true rfl) ?_
  intro p e s m args below meth c E ls hl hw
  have E : xE p s m args meth c cX7_isPoint 2 (some .boolean) RX7 D (xtys cI cZ cN cC) (xA (wMod cI cZ cN cC h0 h1 h2 h3 h4 h5 h6 h7 h8 h9 h10 h11 h12 h13 h14 h15 mn um len plc srt frm num wrg cm mpt st pst kep isk pil nxs txt cls asd opn byy twc szs sos ths)) := E
  obtain ⟨hx, hb, -⟩ := id E
  have hl : lv_has ls 2 [(0, .ref h0), (1, .int x1)] := hl
  unfold f_X7_isPoint at hf
  refine lv_iload_n hx hb dX7_isPoint_0 rfl (lv_at hl 1 rfl) ?_
  refine lv_i2l (v := (Int32.toInt64 x1)) hx hb dX7_isPoint_1 rfl ?_
  refine lv_lconst (v := 0) hx hb dX7_isPoint_2 (by decide) ?_
  refine lv_aload_n hx hb dX7_isPoint_3 rfl (lv_at hl 0 rfl) ?_
  refine x_get E hw kin_X7 0 rfl rfl 0 (by decide) kF_X7_7 (v := .int mn) rfl dX7_isPoint_4 ?_
  refine lv_iconst (v := 1) hx hb dX7_isPoint_7 (by decide) ?_
  refine lv_isub hx hb dX7_isPoint_8 ?_
  refine lv_i2l (v := (Int32.toInt64 (mn - 1))) hx hb dX7_isPoint_9 rfl ?_
  refine x_callS (isC := []) (ws' := (wMod cI cZ cN cC h0 h1 h2 h3 h4 h5 h6 h7 h8 h9 h10 h11 h12 h13 h14 h15 mn um len plc srt frm num wrg cm mpt st pst kep isk pil nxs txt cls asd opn byy twc szs sos ths)) (st1 := [.int (f_X7_in (Int32.toInt64 x1) 0 (Int32.toInt64 (mn - 1)))]) (As := [.long (Int32.toInt64 x1), .long 0, .long (Int32.toInt64 (mn - 1))]) (rest := []) E hw vc_X7_66 (c_X7_in (cI := cI) (cZ := cZ) (cN := cN) (cC := cC)    (x0 := (Int32.toInt64 x1)) (x2 := 0) (x4 := (Int32.toInt64 (mn - 1))) rfl) rfl rfl rfl rfl rfl rfl ⟨Nat.le_of_ble_eq_true rfl, Nat.le_of_ble_eq_true rfl⟩ ⟨Nat.le_refl _, Nat.le_refl _⟩ hl.1 rfl rfl (Nat.le_of_ble_eq_true rfl) dX7_isPoint_10 (fun H locs hw => ?_)
  subst hf
  exact x_zret E hw (xz_n z_X7_in) dX7_isPoint_13
theorem z_X7_isPoint {x1 : Int32} {mn : Int32} : xz (f_X7_isPoint x1 mn) = true := by
  unfold f_X7_isPoint
  first | (repeat' split) <;> first | decide | exact z_X7_in | rfl

def f_X7_areTwo (x1 : Int32) (x2 : Int32) (mn : Int32) : (Int32) :=
  if (f_X7_isPoint x1 mn) = 0 then
   0
  else
   if (f_X7_isPoint x2 mn) = 0 then
    0
   else
    if x1 = x2 then
     0
    else
     1
set_option maxHeartbeats 4000000 in
set_option maxRecDepth 100000 in
theorem c_X7_areTwo {l : Launch} {D : va_G} {cI cZ cN cC : ClassId} {h0 h1 h2 h3 h4 h5 h6 h7 h8 h9 h10 h11 h12 h13 h14 h15 : Nat} {mn : Int32} {um : Int32} {len : Int32} {plc : Int32} {srt : Int32} {frm : Int32} {num : Int32} {wrg : Int32} {cm : Int32} {mpt : Int32} {st : (Nat → Int32)} {pst : (Nat → Int32)} {kep : (Nat → Int32)} {isk : (Nat → Int32)} {pil : (Nat → Int32)} {nxs : (Nat → Int32)} {txt : (Nat → Int32)} {cls : (Nat → Int32)} {asd : (Nat → Int32)} {opn : (Nat → Int32)} {byy : (Nat → Int32)} {twc : (Nat → Int32)} {szs : (Nat → Int32)} {sos : (Nat → Int32)} {ths : (Nat → Int32)} {x1 : Int32} {x2 : Int32} {res : Int32} (hf : f_X7_areTwo x1 x2 mn = res) : xMet l D (xtys cI cZ cN cC) yX7_areTwo cX7_areTwo 3 (some .boolean) 2 46 [.ref h0, .int x1, .int x2] (wMod cI cZ cN cC h0 h1 h2 h3 h4 h5 h6 h7 h8 h9 h10 h11 h12 h13 h14 h15 mn um len plc srt frm num wrg cm mpt st pst kep isk pil nxs txt cls asd opn byy twc szs sos ths) (wMod cI cZ cN cC h0 h1 h2 h3 h4 h5 h6 h7 h8 h9 h10 h11 h12 h13 h14 h15 mn um len plc srt frm num wrg cm mpt st pst kep isk pil nxs txt cls asd opn byy twc szs sos ths) (some (.int res)) := by
  refine x_enter (by decide) (Nat.le_of_ble_eq_true rfl) ?_
  intro p e s m args below meth c E ls hl hw
  have E : xE p s m args meth c cX7_areTwo 3 (some .boolean) RX7 D (xtys cI cZ cN cC) (xA (wMod cI cZ cN cC h0 h1 h2 h3 h4 h5 h6 h7 h8 h9 h10 h11 h12 h13 h14 h15 mn um len plc srt frm num wrg cm mpt st pst kep isk pil nxs txt cls asd opn byy twc szs sos ths)) := E
  obtain ⟨hx, hb, -⟩ := id E
  have hl : lv_has ls 3 [(0, .ref h0), (1, .int x1), (2, .int x2)] := hl
  unfold f_X7_areTwo at hf
  refine lv_aload_n hx hb dX7_areTwo_0 rfl (lv_at hl 0 rfl) ?_
  refine lv_iload_n hx hb dX7_areTwo_1 rfl (lv_at hl 1 rfl) ?_
  refine x_callVI (ws' := (wMod cI cZ cN cC h0 h1 h2 h3 h4 h5 h6 h7 h8 h9 h10 h11 h12 h13 h14 h15 mn um len plc srt frm num wrg cm mpt st pst kep isk pil nxs txt cls asd opn byy twc szs sos ths)) (st1 := [.int (f_X7_isPoint x1 mn)]) (As := [.int x1]) (rest := []) E hw vc_X7_70 (c_X7_isPoint (cI := cI) (cZ := cZ) (cN := cN) (cC := cC) (h0 := h0) (h1 := h1) (h2 := h2) (h3 := h3) (h4 := h4) (h5 := h5) (h6 := h6) (h7 := h7) (h8 := h8) (h9 := h9) (h10 := h10) (h11 := h11) (h12 := h12) (h13 := h13) (h14 := h14) (h15 := h15)  (mn := mn) (um := um) (len := len) (plc := plc) (srt := srt) (frm := frm) (num := num) (wrg := wrg) (cm := cm) (mpt := mpt) (st := st) (pst := pst) (kep := kep) (isk := isk) (pil := pil) (nxs := nxs) (txt := txt) (cls := cls) (asd := asd) (opn := opn) (byy := byy) (twc := twc) (szs := szs) (sos := sos) (ths := ths) (x1 := x1) rfl) 0 7 rfl rfl rfl rfl rfl ⟨Nat.le_of_ble_eq_true rfl, Nat.le_of_ble_eq_true rfl⟩ ⟨Nat.le_refl _, Nat.le_refl _⟩ hl.1 rfl rfl (Nat.le_of_ble_eq_true rfl) dX7_areTwo_2 (fun H locs hw => ?_)
  refine lv_if_eq (tgt := 25) hx hb dX7_areTwo_5 (by decide) (fun c1 => ?_) (fun c1 => ?_)
  · rw [if_pos c1] at hf
    refine lv_iconst (v := 0) hx hb dX7_areTwo_25 (by decide) ?_
    subst hf
    exact x_zret E hw (xz_n (v := 0) (by decide)) dX7_areTwo_26
  · rw [if_neg c1] at hf
    refine lv_aload_n hx hb dX7_areTwo_8 rfl (lv_at hl 0 rfl) ?_
    refine lv_iload_n hx hb dX7_areTwo_9 rfl (lv_at hl 2 rfl) ?_
    refine x_callVI (ws' := (wMod cI cZ cN cC h0 h1 h2 h3 h4 h5 h6 h7 h8 h9 h10 h11 h12 h13 h14 h15 mn um len plc srt frm num wrg cm mpt st pst kep isk pil nxs txt cls asd opn byy twc szs sos ths)) (st1 := [.int (f_X7_isPoint x2 mn)]) (As := [.int x2]) (rest := []) E hw vc_X7_70 (c_X7_isPoint (cI := cI) (cZ := cZ) (cN := cN) (cC := cC) (h0 := h0) (h1 := h1) (h2 := h2) (h3 := h3) (h4 := h4) (h5 := h5) (h6 := h6) (h7 := h7) (h8 := h8) (h9 := h9) (h10 := h10) (h11 := h11) (h12 := h12) (h13 := h13) (h14 := h14) (h15 := h15)  (mn := mn) (um := um) (len := len) (plc := plc) (srt := srt) (frm := frm) (num := num) (wrg := wrg) (cm := cm) (mpt := mpt) (st := st) (pst := pst) (kep := kep) (isk := isk) (pil := pil) (nxs := nxs) (txt := txt) (cls := cls) (asd := asd) (opn := opn) (byy := byy) (twc := twc) (szs := szs) (sos := sos) (ths := ths) (x1 := x2) rfl) 0 7 rfl rfl rfl rfl rfl ⟨Nat.le_of_ble_eq_true rfl, Nat.le_of_ble_eq_true rfl⟩ ⟨Nat.le_refl _, Nat.le_refl _⟩ hl.1 rfl rfl (Nat.le_of_ble_eq_true rfl) dX7_areTwo_10 (fun H locs hw => ?_)
    refine lv_if_eq (tgt := 25) hx hb dX7_areTwo_13 (by decide) (fun c2 => ?_) (fun c2 => ?_)
    · rw [if_pos c2] at hf
      refine lv_iconst (v := 0) hx hb dX7_areTwo_25 (by decide) ?_
      subst hf
      exact x_zret E hw (xz_n (v := 0) (by decide)) dX7_areTwo_26
    · rw [if_neg c2] at hf
      refine lv_iload_n hx hb dX7_areTwo_16 rfl (lv_at hl 1 rfl) ?_
      refine lv_iload_n hx hb dX7_areTwo_17 rfl (lv_at hl 2 rfl) ?_
      refine lv_icmp_eq (tgt := 25) hx hb dX7_areTwo_18 (by decide) (fun c3 => ?_) (fun c3 => ?_)
      · rw [if_pos c3] at hf
        refine lv_iconst (v := 0) hx hb dX7_areTwo_25 (by decide) ?_
        subst hf
        exact x_zret E hw (xz_n (v := 0) (by decide)) dX7_areTwo_26
      · rw [if_neg c3] at hf
        refine lv_iconst (v := 1) hx hb dX7_areTwo_21 (by decide) ?_
        refine lv_goto (tgt := 26) hx hb dX7_areTwo_22 (by decide) ?_
        subst hf
        exact x_zret E hw (xz_n (v := 1) (by decide)) dX7_areTwo_26
theorem z_X7_areTwo {x1 : Int32} {x2 : Int32} {mn : Int32} : xz (f_X7_areTwo x1 x2 mn) = true := by
  unfold f_X7_areTwo
  first | (repeat' split) <;> first | decide | exact z_X7_isPoint | rfl

def f_X7_isArc (x1 : Int32) (x2 : Int32) (mn : Int32) (st : (Nat → Int32)) : Option (Int32) :=
  if (f_X7_areTwo x1 x2 mn) = 0 then
   some 0
  else
   if xin (0 + x1) 111 then
   if (f_X7_has (st (Int32.toNatClampNeg (0 + x1))) x2) = 0 then
    some 0
   else
    some 1
   else none
set_option maxHeartbeats 4000000 in
set_option maxRecDepth 100000 in
theorem c_X7_isArc {l : Launch} {D : va_G} {cI cZ cN cC : ClassId} {h0 h1 h2 h3 h4 h5 h6 h7 h8 h9 h10 h11 h12 h13 h14 h15 : Nat} {mn : Int32} {um : Int32} {len : Int32} {plc : Int32} {srt : Int32} {frm : Int32} {num : Int32} {wrg : Int32} {cm : Int32} {mpt : Int32} {st : (Nat → Int32)} {pst : (Nat → Int32)} {kep : (Nat → Int32)} {isk : (Nat → Int32)} {pil : (Nat → Int32)} {nxs : (Nat → Int32)} {txt : (Nat → Int32)} {cls : (Nat → Int32)} {asd : (Nat → Int32)} {opn : (Nat → Int32)} {byy : (Nat → Int32)} {twc : (Nat → Int32)} {szs : (Nat → Int32)} {sos : (Nat → Int32)} {ths : (Nat → Int32)} {x1 : Int32} {x2 : Int32} {res : Int32} (hf : f_X7_isArc x1 x2 mn st = some res) : xMet l D (xtys cI cZ cN cC) yX7_isArc cX7_isArc 3 (some .boolean) 3 68 [.ref h0, .int x1, .int x2] (wMod cI cZ cN cC h0 h1 h2 h3 h4 h5 h6 h7 h8 h9 h10 h11 h12 h13 h14 h15 mn um len plc srt frm num wrg cm mpt st pst kep isk pil nxs txt cls asd opn byy twc szs sos ths) (wMod cI cZ cN cC h0 h1 h2 h3 h4 h5 h6 h7 h8 h9 h10 h11 h12 h13 h14 h15 mn um len plc srt frm num wrg cm mpt st pst kep isk pil nxs txt cls asd opn byy twc szs sos ths) (some (.int res)) := by
  refine x_enter (by decide) (Nat.le_of_ble_eq_true rfl) ?_
  intro p e s m args below meth c E ls hl hw
  have E : xE p s m args meth c cX7_isArc 3 (some .boolean) RX7 D (xtys cI cZ cN cC) (xA (wMod cI cZ cN cC h0 h1 h2 h3 h4 h5 h6 h7 h8 h9 h10 h11 h12 h13 h14 h15 mn um len plc srt frm num wrg cm mpt st pst kep isk pil nxs txt cls asd opn byy twc szs sos ths)) := E
  obtain ⟨hx, hb, -⟩ := id E
  have hl : lv_has ls 3 [(0, .ref h0), (1, .int x1), (2, .int x2)] := hl
  unfold f_X7_isArc at hf
  refine lv_aload_n hx hb dX7_isArc_0 rfl (lv_at hl 0 rfl) ?_
  refine lv_iload_n hx hb dX7_isArc_1 rfl (lv_at hl 1 rfl) ?_
  refine lv_iload_n hx hb dX7_isArc_2 rfl (lv_at hl 2 rfl) ?_
  refine x_callVI (ws' := (wMod cI cZ cN cC h0 h1 h2 h3 h4 h5 h6 h7 h8 h9 h10 h11 h12 h13 h14 h15 mn um len plc srt frm num wrg cm mpt st pst kep isk pil nxs txt cls asd opn byy twc szs sos ths)) (st1 := [.int (f_X7_areTwo x1 x2 mn)]) (As := [.int x1, .int x2]) (rest := []) E hw vc_X7_74 (c_X7_areTwo (cI := cI) (cZ := cZ) (cN := cN) (cC := cC) (h0 := h0) (h1 := h1) (h2 := h2) (h3 := h3) (h4 := h4) (h5 := h5) (h6 := h6) (h7 := h7) (h8 := h8) (h9 := h9) (h10 := h10) (h11 := h11) (h12 := h12) (h13 := h13) (h14 := h14) (h15 := h15)  (mn := mn) (um := um) (len := len) (plc := plc) (srt := srt) (frm := frm) (num := num) (wrg := wrg) (cm := cm) (mpt := mpt) (st := st) (pst := pst) (kep := kep) (isk := isk) (pil := pil) (nxs := nxs) (txt := txt) (cls := cls) (asd := asd) (opn := opn) (byy := byy) (twc := twc) (szs := szs) (sos := sos) (ths := ths) (x1 := x1) (x2 := x2) rfl) 0 7 rfl rfl rfl rfl rfl ⟨Nat.le_of_ble_eq_true rfl, Nat.le_of_ble_eq_true rfl⟩ ⟨Nat.le_refl _, Nat.le_refl _⟩ hl.1 rfl rfl (Nat.le_of_ble_eq_true rfl) dX7_isArc_3 (fun H locs hw => ?_)
  refine lv_if_eq (tgt := 28) hx hb dX7_isArc_6 (by decide) (fun c1 => ?_) (fun c1 => ?_)
  · rw [if_pos c1] at hf
    refine lv_iconst (v := 0) hx hb dX7_isArc_28 (by decide) ?_
    have hf := Option.some.inj hf; subst hf
    exact x_zret E hw (xz_n (v := 0) (by decide)) dX7_isArc_29
  · rw [if_neg c1] at hf
    refine lv_aload_n hx hb dX7_isArc_9 rfl (lv_at hl 0 rfl) ?_
    refine x_get E hw kin_X7 0 rfl rfl 1 (by decide) kF_X7_13 (v := .ref h1) rfl dX7_isArc_10 ?_
    refine lv_iconst (v := 0) hx hb dX7_isArc_13 (by decide) ?_
    refine lv_iload_n hx hb dX7_isArc_14 rfl (lv_at hl 1 rfl) ?_
    refine lv_iadd hx hb dX7_isArc_15 ?_
    obtain ⟨g2, hf⟩ := xgd hf
    refine x_iald E hw 1 0 rfl rfl (xin_vp g2) dX7_isArc_16 ?_
    refine lv_iload_n hx hb dX7_isArc_17 rfl (lv_at hl 2 rfl) ?_
    refine x_callS (isC := []) (ws' := (wMod cI cZ cN cC h0 h1 h2 h3 h4 h5 h6 h7 h8 h9 h10 h11 h12 h13 h14 h15 mn um len plc srt frm num wrg cm mpt st pst kep isk pil nxs txt cls asd opn byy twc szs sos ths)) (st1 := [.int (f_X7_has (st (Int32.toNatClampNeg (0 + x1))) x2)]) (As := [.int (st (Int32.toNatClampNeg (0 + x1))), .int x2]) (rest := []) E hw vc_X7_78 (c_X7_has (cI := cI) (cZ := cZ) (cN := cN) (cC := cC)    (x0 := (st (Int32.toNatClampNeg (0 + x1)))) (x1 := x2) rfl) rfl rfl rfl rfl rfl rfl ⟨Nat.le_of_ble_eq_true rfl, Nat.le_of_ble_eq_true rfl⟩ ⟨Nat.le_refl _, Nat.le_refl _⟩ hl.1 rfl rfl (Nat.le_of_ble_eq_true rfl) dX7_isArc_18 (fun H locs hw => ?_)
    refine lv_if_eq (tgt := 28) hx hb dX7_isArc_21 (by decide) (fun c3 => ?_) (fun c3 => ?_)
    · rw [if_pos c3] at hf
      refine lv_iconst (v := 0) hx hb dX7_isArc_28 (by decide) ?_
      have hf := Option.some.inj hf; subst hf
      exact x_zret E hw (xz_n (v := 0) (by decide)) dX7_isArc_29
    · rw [if_neg c3] at hf
      refine lv_iconst (v := 1) hx hb dX7_isArc_24 (by decide) ?_
      refine lv_goto (tgt := 29) hx hb dX7_isArc_25 (by decide) ?_
      have hf := Option.some.inj hf; subst hf
      exact x_zret E hw (xz_n (v := 1) (by decide)) dX7_isArc_29

def f_X7_begin_28 (mn : Int32) : Nat → Int32 → (Nat → Int32) → Option (Int32 × (Nat → Int32))
  | 0, _, _ => none
  | n + 1, x2, st =>
    if mn ≤ x2 then
     some (mn, st)
    else
     if xin (10 + (11 * x2)) 111 then
     f_X7_begin_28 mn n (x2 + 1) (upd st (Int32.toNatClampNeg (10 + (11 * x2))) 1)
     else none
set_option maxHeartbeats 4000000 in
set_option maxRecDepth 100000 in
theorem b_X7_begin_28 {p : Program} {l : Launch} {e : Env} {s : State} {m : MethodId} {args : Array Value} {below : List Frame} {meth : Method} {c : Code} {D : va_G} {cI cZ cN cC : ClassId} {ws0 : va_W} {h0 h1 h2 h3 h4 h5 h6 h7 h8 h9 h10 h11 h12 h13 h14 h15 : Nat} {mn : Int32} {um : Int32} {len : Int32} {plc : Int32} {srt : Int32} {frm : Int32} {num : Int32} {wrg : Int32} {cm : Int32} {mpt : Int32} {pst : (Nat → Int32)} {kep : (Nat → Int32)} {isk : (Nat → Int32)} {pil : (Nat → Int32)} {nxs : (Nat → Int32)} {txt : (Nat → Int32)} {cls : (Nat → Int32)} {asd : (Nat → Int32)} {opn : (Nat → Int32)} {byy : (Nat → Int32)} {twc : (Nat → Int32)} {szs : (Nat → Int32)} {sos : (Nat → Int32)} {ths : (Nat → Int32)} {res : Int32 × (Nat → Int32)} (E : xE p s m args meth c cX7_begin 3 none RX7 D (xtys cI cZ cN cC) (xA ws0)) : ∀ (n : Nat) (x2 : Int32) (st : (Nat → Int32)), f_X7_begin_28 mn n x2 st = some res → ∀ (H : Heap) (locs : List Loc) (ls : Array Slot), xw D (xA ws0) s.heap (wMod cI cZ cN cC h0 h1 h2 h3 h4 h5 h6 h7 h8 h9 h10 h11 h12 h13 h14 h15 mn um len plc srt frm num wrg cm mpt st pst kep isk pil nxs txt cls asd opn byy twc szs sos ths) H locs → lv_has ls 3 [(0, .ref h0), (2, .int x2)] → xG p l e 0 0 s m args below meth c D ws0 (wMod cI cZ cN cC h0 h1 h2 h3 h4 h5 h6 h7 h8 h9 h10 h11 h12 h13 h14 h15 res.1 um len plc srt frm num wrg cm mpt res.2 pst kep isk pil nxs txt cls asd opn byy twc szs sos ths) none H locs (F0 m 28 ls []) := by
  obtain ⟨hx, hb, -⟩ := id E
  intro n
  induction n with
  | zero =>
    intro _ _ hf
    rw [f_X7_begin_28] at hf; cases hf
  | succ n ih =>
    intro x2 st hf H locs ls hw hl
    rw [f_X7_begin_28] at hf
    refine lv_iload_n hx hb dX7_begin_28 rfl (lv_at hl 1 rfl) ?_
    refine lv_aload_n hx hb dX7_begin_29 rfl (lv_at hl 0 rfl) ?_
    refine x_get E hw kin_X7 0 rfl rfl 0 (by decide) kF_X7_7 (v := .int mn) rfl dX7_begin_30 ?_
    refine lv_icmp_ge (tgt := 55) hx hb dX7_begin_33 (by decide) (fun c3 => ?_) (fun c3 => ?_)
    · rw [if_pos c3] at hf
      have hf := Option.some.inj hf; subst hf
      exact x_vret E hw dX7_begin_55
    · rw [if_neg c3] at hf
      refine lv_aload_n hx hb dX7_begin_36 rfl (lv_at hl 0 rfl) ?_
      refine x_get E hw kin_X7 0 rfl rfl 1 (by decide) kF_X7_13 (v := .ref h1) rfl dX7_begin_37 ?_
      refine lv_bipush (v := 10) hx hb dX7_begin_40 (by decide) ?_
      refine lv_bipush (v := 11) hx hb dX7_begin_42 (by decide) ?_
      refine lv_iload_n hx hb dX7_begin_44 rfl (lv_at hl 1 rfl) ?_
      refine lv_imul hx hb dX7_begin_45 ?_
      refine lv_iadd hx hb dX7_begin_46 ?_
      refine lv_iconst (v := 1) hx hb dX7_begin_47 (by decide) ?_
      obtain ⟨g4, hf⟩ := xgd hf
      refine x_iast (ws' := (wMod cI cZ cN cC h0 h1 h2 h3 h4 h5 h6 h7 h8 h9 h10 h11 h12 h13 h14 h15 mn um len plc srt frm num wrg cm mpt (upd st (Int32.toNatClampNeg (10 + (11 * x2))) 1) pst kep isk pil nxs txt cls asd opn byy twc szs sos ths)) E hw 1 0 rfl rfl (xin_vp g4) rfl dX7_begin_48 (fun H locs hw => ?_)
      refine lv_iinc (v := (x2 + 1)) (lv' := [(2, .int (x2 + 1)), (0, .ref h0)]) hx hb dX7_begin_49 hl (k := 1) rfl rfl (by decide) rfl (fun ls hl => ?_)
      refine lv_goto (tgt := 28) hx hb dX7_begin_52 (by decide) ?_
      exact ih _ _ hf _ _ _ hw (lv_sub hl [1, 0] rfl)
def f_X7_begin_7 (N : Nat) (mn : Int32) : Nat → Int32 → (Nat → Int32) → Option (Int32 × (Nat → Int32))
  | 0, _, _ => none
  | n + 1, x2, st =>
    if 111 ≤ x2 then
     f_X7_begin_28 mn N 0 st
    else
     if xin x2 111 then
     f_X7_begin_7 N mn n (x2 + 1) (upd st (Int32.toNatClampNeg x2) 0)
     else none
set_option maxHeartbeats 4000000 in
set_option maxRecDepth 100000 in
theorem b_X7_begin_7 {p : Program} {l : Launch} {e : Env} {s : State} {m : MethodId} {args : Array Value} {below : List Frame} {meth : Method} {c : Code} {D : va_G} {cI cZ cN cC : ClassId} {ws0 : va_W} {h0 h1 h2 h3 h4 h5 h6 h7 h8 h9 h10 h11 h12 h13 h14 h15 : Nat} {mn : Int32} {um : Int32} {len : Int32} {plc : Int32} {srt : Int32} {frm : Int32} {num : Int32} {wrg : Int32} {cm : Int32} {mpt : Int32} {pst : (Nat → Int32)} {kep : (Nat → Int32)} {isk : (Nat → Int32)} {pil : (Nat → Int32)} {nxs : (Nat → Int32)} {txt : (Nat → Int32)} {cls : (Nat → Int32)} {asd : (Nat → Int32)} {opn : (Nat → Int32)} {byy : (Nat → Int32)} {twc : (Nat → Int32)} {szs : (Nat → Int32)} {sos : (Nat → Int32)} {ths : (Nat → Int32)} {N : Nat} {res : Int32 × (Nat → Int32)} (E : xE p s m args meth c cX7_begin 3 none RX7 D (xtys cI cZ cN cC) (xA ws0)) : ∀ (n : Nat) (x2 : Int32) (st : (Nat → Int32)), f_X7_begin_7 N mn n x2 st = some res → ∀ (H : Heap) (locs : List Loc) (ls : Array Slot), xw D (xA ws0) s.heap (wMod cI cZ cN cC h0 h1 h2 h3 h4 h5 h6 h7 h8 h9 h10 h11 h12 h13 h14 h15 mn um len plc srt frm num wrg cm mpt st pst kep isk pil nxs txt cls asd opn byy twc szs sos ths) H locs → lv_has ls 3 [(0, .ref h0), (2, .int x2)] → xG p l e 0 0 s m args below meth c D ws0 (wMod cI cZ cN cC h0 h1 h2 h3 h4 h5 h6 h7 h8 h9 h10 h11 h12 h13 h14 h15 res.1 um len plc srt frm num wrg cm mpt res.2 pst kep isk pil nxs txt cls asd opn byy twc szs sos ths) none H locs (F0 m 7 ls []) := by
  obtain ⟨hx, hb, -⟩ := id E
  intro n
  induction n with
  | zero =>
    intro _ _ hf
    rw [f_X7_begin_7] at hf; cases hf
  | succ n ih =>
    intro x2 st hf H locs ls hw hl
    rw [f_X7_begin_7] at hf
    refine lv_iload_n hx hb dX7_begin_7 rfl (lv_at hl 1 rfl) ?_
    refine lv_bipush (v := 111) hx hb dX7_begin_8 (by decide) ?_
    refine lv_icmp_ge (tgt := 26) hx hb dX7_begin_10 (by decide) (fun c1 => ?_) (fun c1 => ?_)
    · rw [if_pos c1] at hf
      refine lv_iconst (v := 0) hx hb dX7_begin_26 (by decide) ?_
      refine lv_istore_n (lv' := [(2, .int 0), (0, .ref h0)]) hx hb dX7_begin_27 rfl hl (by decide) rfl (fun ls hl => ?_)
      exact b_X7_begin_28 E N _ _ hf _ _ _ hw (lv_sub hl [1, 0] rfl)
    · rw [if_neg c1] at hf
      refine lv_aload_n hx hb dX7_begin_13 rfl (lv_at hl 0 rfl) ?_
      refine x_get E hw kin_X7 0 rfl rfl 1 (by decide) kF_X7_13 (v := .ref h1) rfl dX7_begin_14 ?_
      refine lv_iload_n hx hb dX7_begin_17 rfl (lv_at hl 1 rfl) ?_
      refine lv_iconst (v := 0) hx hb dX7_begin_18 (by decide) ?_
      obtain ⟨g2, hf⟩ := xgd hf
      refine x_iast (ws' := (wMod cI cZ cN cC h0 h1 h2 h3 h4 h5 h6 h7 h8 h9 h10 h11 h12 h13 h14 h15 mn um len plc srt frm num wrg cm mpt (upd st (Int32.toNatClampNeg x2) 0) pst kep isk pil nxs txt cls asd opn byy twc szs sos ths)) E hw 1 0 rfl rfl (xin_vp g2) rfl dX7_begin_19 (fun H locs hw => ?_)
      refine lv_iinc (v := (x2 + 1)) (lv' := [(2, .int (x2 + 1)), (0, .ref h0)]) hx hb dX7_begin_20 hl (k := 1) rfl rfl (by decide) rfl (fun ls hl => ?_)
      refine lv_goto (tgt := 7) hx hb dX7_begin_23 (by decide) ?_
      exact ih _ _ hf _ _ _ hw (lv_sub hl [1, 0] rfl)
def f_X7_begin (N : Nat) (x1 : Int32) (st : (Nat → Int32)) : Option (Int32 × (Nat → Int32)) :=
  f_X7_begin_7 N x1 N 0 st
set_option maxHeartbeats 4000000 in
set_option maxRecDepth 100000 in
theorem c_X7_begin {l : Launch} {D : va_G} {cI cZ cN cC : ClassId} {h0 h1 h2 h3 h4 h5 h6 h7 h8 h9 h10 h11 h12 h13 h14 h15 : Nat} {mn : Int32} {um : Int32} {len : Int32} {plc : Int32} {srt : Int32} {frm : Int32} {num : Int32} {wrg : Int32} {cm : Int32} {mpt : Int32} {st : (Nat → Int32)} {pst : (Nat → Int32)} {kep : (Nat → Int32)} {isk : (Nat → Int32)} {pil : (Nat → Int32)} {nxs : (Nat → Int32)} {txt : (Nat → Int32)} {cls : (Nat → Int32)} {asd : (Nat → Int32)} {opn : (Nat → Int32)} {byy : (Nat → Int32)} {twc : (Nat → Int32)} {szs : (Nat → Int32)} {sos : (Nat → Int32)} {ths : (Nat → Int32)} {x1 : Int32} {N : Nat} {res : Int32 × (Nat → Int32)} (hf : f_X7_begin N x1 st = some res) : xMet l D (xtys cI cZ cN cC) yX7_begin cX7_begin 3 none 0 0 [.ref h0, .int x1] (wMod cI cZ cN cC h0 h1 h2 h3 h4 h5 h6 h7 h8 h9 h10 h11 h12 h13 h14 h15 mn um len plc srt frm num wrg cm mpt st pst kep isk pil nxs txt cls asd opn byy twc szs sos ths) (wMod cI cZ cN cC h0 h1 h2 h3 h4 h5 h6 h7 h8 h9 h10 h11 h12 h13 h14 h15 res.1 um len plc srt frm num wrg cm mpt res.2 pst kep isk pil nxs txt cls asd opn byy twc szs sos ths) none := by
  refine x_enter (by decide) (Nat.le_of_ble_eq_true rfl) ?_
  intro p e s m args below meth c E ls hl hw
  have E : xE p s m args meth c cX7_begin 3 none RX7 D (xtys cI cZ cN cC) (xA (wMod cI cZ cN cC h0 h1 h2 h3 h4 h5 h6 h7 h8 h9 h10 h11 h12 h13 h14 h15 mn um len plc srt frm num wrg cm mpt st pst kep isk pil nxs txt cls asd opn byy twc szs sos ths)) := E
  obtain ⟨hx, hb, -⟩ := id E
  have hl : lv_has ls 3 [(0, .ref h0), (1, .int x1)] := hl
  unfold f_X7_begin at hf
  refine lv_aload_n hx hb dX7_begin_0 rfl (lv_at hl 0 rfl) ?_
  refine lv_iload_n hx hb dX7_begin_1 rfl (lv_at hl 1 rfl) ?_
  refine x_put (ws' := (wMod cI cZ cN cC h0 h1 h2 h3 h4 h5 h6 h7 h8 h9 h10 h11 h12 h13 h14 h15 x1 um len plc srt frm num wrg cm mpt st pst kep isk pil nxs txt cls asd opn byy twc szs sos ths)) E hw kin_X7 tyX7 tyX7_ok nmX7 0 rfl rfl 0 (by decide) kF_X7_7 rfl (v := .int x1) rfl rfl (Nat.le_of_ble_eq_true rfl) rfl dX7_begin_2 (fun H locs hw => ?_)
  refine lv_iconst (v := 0) hx hb dX7_begin_5 (by decide) ?_
  refine lv_istore_n (lv' := [(2, .int 0), (0, .ref h0), (1, .int x1)]) hx hb dX7_begin_6 rfl hl (by decide) rfl (fun ls hl => ?_)
  exact b_X7_begin_7 E N _ _ hf _ _ _ hw (lv_sub hl [1, 0] rfl)

def f_X7_isIn (x1 : Int32) (x2 : Int32) (st : (Nat → Int32)) : Option (Int32) :=
  if xin ((10 + (10 * x1)) + x2) 111 then
  if (st (Int32.toNatClampNeg ((10 + (10 * x1)) + x2))) ≤ 0 then
   some 0
  else
   some 1
  else none
set_option maxHeartbeats 4000000 in
set_option maxRecDepth 100000 in
theorem c_X7_isIn {l : Launch} {D : va_G} {cI cZ cN cC : ClassId} {h0 h1 h2 h3 h4 h5 h6 h7 h8 h9 h10 h11 h12 h13 h14 h15 : Nat} {mn : Int32} {um : Int32} {len : Int32} {plc : Int32} {srt : Int32} {frm : Int32} {num : Int32} {wrg : Int32} {cm : Int32} {mpt : Int32} {st : (Nat → Int32)} {pst : (Nat → Int32)} {kep : (Nat → Int32)} {isk : (Nat → Int32)} {pil : (Nat → Int32)} {nxs : (Nat → Int32)} {txt : (Nat → Int32)} {cls : (Nat → Int32)} {asd : (Nat → Int32)} {opn : (Nat → Int32)} {byy : (Nat → Int32)} {twc : (Nat → Int32)} {szs : (Nat → Int32)} {sos : (Nat → Int32)} {ths : (Nat → Int32)} {x1 : Int32} {x2 : Int32} {res : Int32} (hf : f_X7_isIn x1 x2 st = some res) : xMet l D (xtys cI cZ cN cC) yX7_isIn cX7_isIn 3 (some .boolean) 0 0 [.ref h0, .int x1, .int x2] (wMod cI cZ cN cC h0 h1 h2 h3 h4 h5 h6 h7 h8 h9 h10 h11 h12 h13 h14 h15 mn um len plc srt frm num wrg cm mpt st pst kep isk pil nxs txt cls asd opn byy twc szs sos ths) (wMod cI cZ cN cC h0 h1 h2 h3 h4 h5 h6 h7 h8 h9 h10 h11 h12 h13 h14 h15 mn um len plc srt frm num wrg cm mpt st pst kep isk pil nxs txt cls asd opn byy twc szs sos ths) (some (.int res)) := by
  refine x_enter (by decide) (Nat.le_of_ble_eq_true rfl) ?_
  intro p e s m args below meth c E ls hl hw
  have E : xE p s m args meth c cX7_isIn 3 (some .boolean) RX7 D (xtys cI cZ cN cC) (xA (wMod cI cZ cN cC h0 h1 h2 h3 h4 h5 h6 h7 h8 h9 h10 h11 h12 h13 h14 h15 mn um len plc srt frm num wrg cm mpt st pst kep isk pil nxs txt cls asd opn byy twc szs sos ths)) := E
  obtain ⟨hx, hb, -⟩ := id E
  have hl : lv_has ls 3 [(0, .ref h0), (1, .int x1), (2, .int x2)] := hl
  unfold f_X7_isIn at hf
  refine lv_aload_n hx hb dX7_isIn_0 rfl (lv_at hl 0 rfl) ?_
  refine x_get E hw kin_X7 0 rfl rfl 1 (by decide) kF_X7_13 (v := .ref h1) rfl dX7_isIn_1 ?_
  refine lv_bipush (v := 10) hx hb dX7_isIn_4 (by decide) ?_
  refine lv_bipush (v := 10) hx hb dX7_isIn_6 (by decide) ?_
  refine lv_iload_n hx hb dX7_isIn_8 rfl (lv_at hl 1 rfl) ?_
  refine lv_imul hx hb dX7_isIn_9 ?_
  refine lv_iadd hx hb dX7_isIn_10 ?_
  refine lv_iload_n hx hb dX7_isIn_11 rfl (lv_at hl 2 rfl) ?_
  refine lv_iadd hx hb dX7_isIn_12 ?_
  obtain ⟨g1, hf⟩ := xgd hf
  refine x_iald E hw 1 0 rfl rfl (xin_vp g1) dX7_isIn_13 ?_
  refine lv_if_le (tgt := 21) hx hb dX7_isIn_14 (by decide) (fun c2 => ?_) (fun c2 => ?_)
  · rw [if_pos c2] at hf
    refine lv_iconst (v := 0) hx hb dX7_isIn_21 (by decide) ?_
    have hf := Option.some.inj hf; subst hf
    exact x_zret E hw (xz_n (v := 0) (by decide)) dX7_isIn_22
  · rw [if_neg c2] at hf
    refine lv_iconst (v := 1) hx hb dX7_isIn_17 (by decide) ?_
    refine lv_goto (tgt := 22) hx hb dX7_isIn_18 (by decide) ?_
    have hf := Option.some.inj hf; subst hf
    exact x_zret E hw (xz_n (v := 1) (by decide)) dX7_isIn_22

def f_X7_arcs_4 (N : Nat) (mn : Int32) (st : (Nat → Int32)) : Nat → Int32 → Int32 → Option (Int32)
  | 0, _, _ => none
  | n + 1, x1, x2 =>
    if mn ≤ x2 then
     some x1
    else
     if xin (0 + x2) 111 then
     (f_X7_ones N (st (Int32.toNatClampNeg (0 + x2)))).bind fun q3 =>
     f_X7_arcs_4 N mn st n (x1 + q3) (x2 + 1)
     else none
set_option maxHeartbeats 4000000 in
set_option maxRecDepth 100000 in
theorem b_X7_arcs_4 {p : Program} {l : Launch} {e : Env} {s : State} {m : MethodId} {args : Array Value} {below : List Frame} {meth : Method} {c : Code} {D : va_G} {cI cZ cN cC : ClassId} {ws0 : va_W} {h0 h1 h2 h3 h4 h5 h6 h7 h8 h9 h10 h11 h12 h13 h14 h15 : Nat} {mn : Int32} {um : Int32} {len : Int32} {plc : Int32} {srt : Int32} {frm : Int32} {num : Int32} {wrg : Int32} {cm : Int32} {mpt : Int32} {st : (Nat → Int32)} {pst : (Nat → Int32)} {kep : (Nat → Int32)} {isk : (Nat → Int32)} {pil : (Nat → Int32)} {nxs : (Nat → Int32)} {txt : (Nat → Int32)} {cls : (Nat → Int32)} {asd : (Nat → Int32)} {opn : (Nat → Int32)} {byy : (Nat → Int32)} {twc : (Nat → Int32)} {szs : (Nat → Int32)} {sos : (Nat → Int32)} {ths : (Nat → Int32)} {N : Nat} {res : Int32} (E : xE p s m args meth c cX7_arcs 3 (some .int) RX7 D (xtys cI cZ cN cC) (xA ws0)) : ∀ (n : Nat) (x1 : Int32) (x2 : Int32), f_X7_arcs_4 N mn st n x1 x2 = some res → ∀ (H : Heap) (locs : List Loc) (ls : Array Slot), xw D (xA ws0) s.heap (wMod cI cZ cN cC h0 h1 h2 h3 h4 h5 h6 h7 h8 h9 h10 h11 h12 h13 h14 h15 mn um len plc srt frm num wrg cm mpt st pst kep isk pil nxs txt cls asd opn byy twc szs sos ths) H locs → lv_has ls 3 [(0, .ref h0), (1, .int x1), (2, .int x2)] → xG p l e 1 22 s m args below meth c D ws0 (wMod cI cZ cN cC h0 h1 h2 h3 h4 h5 h6 h7 h8 h9 h10 h11 h12 h13 h14 h15 mn um len plc srt frm num wrg cm mpt st pst kep isk pil nxs txt cls asd opn byy twc szs sos ths) (some (.int res)) H locs (F0 m 4 ls []) := by
  obtain ⟨hx, hb, -⟩ := id E
  intro n
  induction n with
  | zero =>
    intro _ _ hf
    rw [f_X7_arcs_4] at hf; cases hf
  | succ n ih =>
    intro x1 x2 hf H locs ls hw hl
    rw [f_X7_arcs_4] at hf
    refine lv_iload_n hx hb dX7_arcs_4 rfl (lv_at hl 2 rfl) ?_
    refine lv_aload_n hx hb dX7_arcs_5 rfl (lv_at hl 0 rfl) ?_
    refine x_get E hw kin_X7 0 rfl rfl 0 (by decide) kF_X7_7 (v := .int mn) rfl dX7_arcs_6 ?_
    refine lv_icmp_ge (tgt := 32) hx hb dX7_arcs_9 (by decide) (fun c1 => ?_) (fun c1 => ?_)
    · rw [if_pos c1] at hf
      refine lv_iload_n hx hb dX7_arcs_32 rfl (lv_at hl 1 rfl) ?_
      have hf := Option.some.inj hf; subst hf
      exact x_iret E hw dX7_arcs_33
    · rw [if_neg c1] at hf
      refine lv_iload_n hx hb dX7_arcs_12 rfl (lv_at hl 1 rfl) ?_
      refine lv_aload_n hx hb dX7_arcs_13 rfl (lv_at hl 0 rfl) ?_
      refine x_get E hw kin_X7 0 rfl rfl 1 (by decide) kF_X7_13 (v := .ref h1) rfl dX7_arcs_14 ?_
      refine lv_iconst (v := 0) hx hb dX7_arcs_17 (by decide) ?_
      refine lv_iload_n hx hb dX7_arcs_18 rfl (lv_at hl 2 rfl) ?_
      refine lv_iadd hx hb dX7_arcs_19 ?_
      obtain ⟨g2, hf⟩ := xgd hf
      refine x_iald E hw 1 0 rfl rfl (xin_vp g2) dX7_arcs_20 ?_
      obtain ⟨q3, hq3, hf⟩ := Option.bind_eq_some_iff.mp hf
      refine x_callS (isC := []) (ws' := (wMod cI cZ cN cC h0 h1 h2 h3 h4 h5 h6 h7 h8 h9 h10 h11 h12 h13 h14 h15 mn um len plc srt frm num wrg cm mpt st pst kep isk pil nxs txt cls asd opn byy twc szs sos ths)) (st1 := [.int q3, .int x1]) (As := [.int (st (Int32.toNatClampNeg (0 + x2)))]) (rest := [.int x1]) E hw vc_X7_81 (c_X7_ones (cI := cI) (cZ := cZ) (cN := cN) (cC := cC)    (x0 := (st (Int32.toNatClampNeg (0 + x2)))) hq3) rfl rfl rfl rfl rfl rfl ⟨Nat.le_of_ble_eq_true rfl, Nat.le_of_ble_eq_true rfl⟩ ⟨Nat.le_refl _, Nat.le_refl _⟩ hl.1 rfl rfl (Nat.le_of_ble_eq_true rfl) dX7_arcs_21 (fun H locs hw => ?_)
      refine lv_iadd hx hb dX7_arcs_24 ?_
      refine lv_istore_n (lv' := [(1, .int (x1 + q3)), (0, .ref h0), (2, .int x2)]) hx hb dX7_arcs_25 rfl hl (by decide) rfl (fun ls hl => ?_)
      refine lv_iinc (v := (x2 + 1)) (lv' := [(2, .int (x2 + 1)), (1, .int (x1 + q3)), (0, .ref h0)]) hx hb dX7_arcs_26 hl (k := 2) rfl rfl (by decide) rfl (fun ls hl => ?_)
      refine lv_goto (tgt := 4) hx hb dX7_arcs_29 (by decide) ?_
      exact ih _ _ hf _ _ _ hw (lv_sub hl [2, 1, 0] rfl)
def f_X7_arcs (N : Nat) (mn : Int32) (st : (Nat → Int32)) : Option (Int32) :=
  f_X7_arcs_4 N mn st N 0 0
set_option maxHeartbeats 4000000 in
set_option maxRecDepth 100000 in
theorem c_X7_arcs {l : Launch} {D : va_G} {cI cZ cN cC : ClassId} {h0 h1 h2 h3 h4 h5 h6 h7 h8 h9 h10 h11 h12 h13 h14 h15 : Nat} {mn : Int32} {um : Int32} {len : Int32} {plc : Int32} {srt : Int32} {frm : Int32} {num : Int32} {wrg : Int32} {cm : Int32} {mpt : Int32} {st : (Nat → Int32)} {pst : (Nat → Int32)} {kep : (Nat → Int32)} {isk : (Nat → Int32)} {pil : (Nat → Int32)} {nxs : (Nat → Int32)} {txt : (Nat → Int32)} {cls : (Nat → Int32)} {asd : (Nat → Int32)} {opn : (Nat → Int32)} {byy : (Nat → Int32)} {twc : (Nat → Int32)} {szs : (Nat → Int32)} {sos : (Nat → Int32)} {ths : (Nat → Int32)}  {N : Nat} {res : Int32} (hf : f_X7_arcs N mn st = some res) : xMet l D (xtys cI cZ cN cC) yX7_arcs cX7_arcs 3 (some .int) 1 22 [.ref h0] (wMod cI cZ cN cC h0 h1 h2 h3 h4 h5 h6 h7 h8 h9 h10 h11 h12 h13 h14 h15 mn um len plc srt frm num wrg cm mpt st pst kep isk pil nxs txt cls asd opn byy twc szs sos ths) (wMod cI cZ cN cC h0 h1 h2 h3 h4 h5 h6 h7 h8 h9 h10 h11 h12 h13 h14 h15 mn um len plc srt frm num wrg cm mpt st pst kep isk pil nxs txt cls asd opn byy twc szs sos ths) (some (.int res)) := by
  refine x_enter (by decide) (Nat.le_of_ble_eq_true rfl) ?_
  intro p e s m args below meth c E ls hl hw
  have E : xE p s m args meth c cX7_arcs 3 (some .int) RX7 D (xtys cI cZ cN cC) (xA (wMod cI cZ cN cC h0 h1 h2 h3 h4 h5 h6 h7 h8 h9 h10 h11 h12 h13 h14 h15 mn um len plc srt frm num wrg cm mpt st pst kep isk pil nxs txt cls asd opn byy twc szs sos ths)) := E
  obtain ⟨hx, hb, -⟩ := id E
  have hl : lv_has ls 3 [(0, .ref h0)] := hl
  unfold f_X7_arcs at hf
  refine lv_iconst (v := 0) hx hb dX7_arcs_0 (by decide) ?_
  refine lv_istore_n (lv' := [(1, .int 0), (0, .ref h0)]) hx hb dX7_arcs_1 rfl hl (by decide) rfl (fun ls hl => ?_)
  refine lv_iconst (v := 0) hx hb dX7_arcs_2 (by decide) ?_
  refine lv_istore_n (lv' := [(2, .int 0), (1, .int 0), (0, .ref h0)]) hx hb dX7_arcs_3 rfl hl (by decide) rfl (fun ls hl => ?_)
  exact b_X7_arcs_4 E N _ _ hf _ _ _ hw (lv_sub hl [2, 1, 0] rfl)

def f_X7_pairs_14 (k4 : Int32 → Int32 → Option (Int32)) (x2 : Int32) (mn : Int32) (st : (Nat → Int32)) : Nat → Int32 → Int32 → Option (Int32)
  | 0, _, _ => none
  | n + 1, x1, x3 =>
    if mn ≤ x3 then
     k4 x1 (x2 + 1)
    else
     if x2 = x3 then
      f_X7_pairs_14 k4 x2 mn st n (x1 + 0) (x3 + 1)
     else
      (f_X7_isIn x2 x3 st).bind fun q4 =>
      if q4 = 0 then
       f_X7_pairs_14 k4 x2 mn st n (x1 + 0) (x3 + 1)
      else
       f_X7_pairs_14 k4 x2 mn st n (x1 + 1) (x3 + 1)
set_option maxHeartbeats 4000000 in
set_option maxRecDepth 100000 in
theorem b_X7_pairs_14 {p : Program} {l : Launch} {e : Env} {s : State} {m : MethodId} {args : Array Value} {below : List Frame} {meth : Method} {c : Code} {D : va_G} {cI cZ cN cC : ClassId} {ws0 : va_W} {h0 h1 h2 h3 h4 h5 h6 h7 h8 h9 h10 h11 h12 h13 h14 h15 : Nat} {x2 : Int32} {mn : Int32} {um : Int32} {len : Int32} {plc : Int32} {srt : Int32} {frm : Int32} {num : Int32} {wrg : Int32} {cm : Int32} {mpt : Int32} {st : (Nat → Int32)} {pst : (Nat → Int32)} {kep : (Nat → Int32)} {isk : (Nat → Int32)} {pil : (Nat → Int32)} {nxs : (Nat → Int32)} {txt : (Nat → Int32)} {cls : (Nat → Int32)} {asd : (Nat → Int32)} {opn : (Nat → Int32)} {byy : (Nat → Int32)} {twc : (Nat → Int32)} {szs : (Nat → Int32)} {sos : (Nat → Int32)} {ths : (Nat → Int32)} {res : Int32} (E : xE p s m args meth c cX7_pairs 4 (some .int) RX7 D (xtys cI cZ cN cC) (xA ws0)) {k4 : Int32 → Int32 → Option (Int32)} (hk4 : ∀ (x1 : Int32) (x2 : Int32), k4 x1 x2 = some res → ∀ (H : Heap) (locs : List Loc) (ls : Array Slot), xw D (xA ws0) s.heap (wMod cI cZ cN cC h0 h1 h2 h3 h4 h5 h6 h7 h8 h9 h10 h11 h12 h13 h14 h15 mn um len plc srt frm num wrg cm mpt st pst kep isk pil nxs txt cls asd opn byy twc szs sos ths) H locs → lv_has ls 4 [(0, .ref h0), (1, .int x1), (2, .int x2)] → xG p l e 1 22 s m args below meth c D ws0 (wMod cI cZ cN cC h0 h1 h2 h3 h4 h5 h6 h7 h8 h9 h10 h11 h12 h13 h14 h15 mn um len plc srt frm num wrg cm mpt st pst kep isk pil nxs txt cls asd opn byy twc szs sos ths) (some (.int res)) H locs (F0 m 4 ls [])) : ∀ (n : Nat) (x1 : Int32) (x3 : Int32), f_X7_pairs_14 k4 x2 mn st n x1 x3 = some res → ∀ (H : Heap) (locs : List Loc) (ls : Array Slot), xw D (xA ws0) s.heap (wMod cI cZ cN cC h0 h1 h2 h3 h4 h5 h6 h7 h8 h9 h10 h11 h12 h13 h14 h15 mn um len plc srt frm num wrg cm mpt st pst kep isk pil nxs txt cls asd opn byy twc szs sos ths) H locs → lv_has ls 4 [(0, .ref h0), (1, .int x1), (2, .int x2), (3, .int x3)] → xG p l e 1 22 s m args below meth c D ws0 (wMod cI cZ cN cC h0 h1 h2 h3 h4 h5 h6 h7 h8 h9 h10 h11 h12 h13 h14 h15 mn um len plc srt frm num wrg cm mpt st pst kep isk pil nxs txt cls asd opn byy twc szs sos ths) (some (.int res)) H locs (F0 m 14 ls []) := by
  obtain ⟨hx, hb, -⟩ := id E
  intro n
  induction n with
  | zero =>
    intro _ _ hf
    rw [f_X7_pairs_14] at hf; cases hf
  | succ n ih =>
    intro x1 x3 hf H locs ls hw hl
    rw [f_X7_pairs_14] at hf
    refine lv_iload_n hx hb dX7_pairs_14 rfl (lv_at hl 3 rfl) ?_
    refine lv_aload_n hx hb dX7_pairs_15 rfl (lv_at hl 0 rfl) ?_
    refine x_get E hw kin_X7 0 rfl rfl 0 (by decide) kF_X7_7 (v := .int mn) rfl dX7_pairs_16 ?_
    refine lv_icmp_ge (tgt := 50) hx hb dX7_pairs_19 (by decide) (fun c2 => ?_) (fun c2 => ?_)
    · rw [if_pos c2] at hf
      refine lv_iinc (v := (x2 + 1)) (lv' := [(2, .int (x2 + 1)), (0, .ref h0), (1, .int x1), (3, .int x3)]) hx hb dX7_pairs_50 hl (k := 2) rfl rfl (by decide) rfl (fun ls hl => ?_)
      refine lv_goto (tgt := 4) hx hb dX7_pairs_53 (by decide) ?_
      exact hk4 _ _ hf _ _ _ hw (lv_sub hl [1, 2, 0] rfl)
    · rw [if_neg c2] at hf
      refine lv_iload_n hx hb dX7_pairs_22 rfl (lv_at hl 1 rfl) ?_
      refine lv_iload_n hx hb dX7_pairs_23 rfl (lv_at hl 2 rfl) ?_
      refine lv_iload_n hx hb dX7_pairs_24 rfl (lv_at hl 3 rfl) ?_
      refine lv_icmp_eq (tgt := 41) hx hb dX7_pairs_25 (by decide) (fun c3 => ?_) (fun c3 => ?_)
      · rw [if_pos c3] at hf
        refine lv_iconst (v := 0) hx hb dX7_pairs_41 (by decide) ?_
        refine lv_iadd hx hb dX7_pairs_42 ?_
        refine lv_istore_n (lv' := [(1, .int (x1 + 0)), (0, .ref h0), (2, .int x2), (3, .int x3)]) hx hb dX7_pairs_43 rfl hl (by decide) rfl (fun ls hl => ?_)
        refine lv_iinc (v := (x3 + 1)) (lv' := [(3, .int (x3 + 1)), (1, .int (x1 + 0)), (0, .ref h0), (2, .int x2)]) hx hb dX7_pairs_44 hl (k := 3) rfl rfl (by decide) rfl (fun ls hl => ?_)
        refine lv_goto (tgt := 14) hx hb dX7_pairs_47 (by decide) ?_
        exact ih _ _ hf _ _ _ hw (lv_sub hl [2, 1, 3, 0] rfl)
      · rw [if_neg c3] at hf
        refine lv_aload_n hx hb dX7_pairs_28 rfl (lv_at hl 0 rfl) ?_
        refine lv_iload_n hx hb dX7_pairs_29 rfl (lv_at hl 2 rfl) ?_
        refine lv_iload_n hx hb dX7_pairs_30 rfl (lv_at hl 3 rfl) ?_
        obtain ⟨q4, hq4, hf⟩ := Option.bind_eq_some_iff.mp hf
        refine x_callVI (ws' := (wMod cI cZ cN cC h0 h1 h2 h3 h4 h5 h6 h7 h8 h9 h10 h11 h12 h13 h14 h15 mn um len plc srt frm num wrg cm mpt st pst kep isk pil nxs txt cls asd opn byy twc szs sos ths)) (st1 := [.int q4, .int x1]) (As := [.int x2, .int x3]) (rest := [.int x1]) E hw vc_X7_85 (c_X7_isIn (cI := cI) (cZ := cZ) (cN := cN) (cC := cC) (h0 := h0) (h1 := h1) (h2 := h2) (h3 := h3) (h4 := h4) (h5 := h5) (h6 := h6) (h7 := h7) (h8 := h8) (h9 := h9) (h10 := h10) (h11 := h11) (h12 := h12) (h13 := h13) (h14 := h14) (h15 := h15)  (mn := mn) (um := um) (len := len) (plc := plc) (srt := srt) (frm := frm) (num := num) (wrg := wrg) (cm := cm) (mpt := mpt) (st := st) (pst := pst) (kep := kep) (isk := isk) (pil := pil) (nxs := nxs) (txt := txt) (cls := cls) (asd := asd) (opn := opn) (byy := byy) (twc := twc) (szs := szs) (sos := sos) (ths := ths) (x1 := x2) (x2 := x3) hq4) 0 7 rfl rfl rfl rfl rfl ⟨Nat.le_of_ble_eq_true rfl, Nat.le_of_ble_eq_true rfl⟩ ⟨Nat.le_refl _, Nat.le_refl _⟩ hl.1 rfl rfl (Nat.le_of_ble_eq_true rfl) dX7_pairs_31 (fun H locs hw => ?_)
        refine lv_if_eq (tgt := 41) hx hb dX7_pairs_34 (by decide) (fun c5 => ?_) (fun c5 => ?_)
        · rw [if_pos c5] at hf
          refine lv_iconst (v := 0) hx hb dX7_pairs_41 (by decide) ?_
          refine lv_iadd hx hb dX7_pairs_42 ?_
          refine lv_istore_n (lv' := [(1, .int (x1 + 0)), (0, .ref h0), (2, .int x2), (3, .int x3)]) hx hb dX7_pairs_43 rfl hl (by decide) rfl (fun ls hl => ?_)
          refine lv_iinc (v := (x3 + 1)) (lv' := [(3, .int (x3 + 1)), (1, .int (x1 + 0)), (0, .ref h0), (2, .int x2)]) hx hb dX7_pairs_44 hl (k := 3) rfl rfl (by decide) rfl (fun ls hl => ?_)
          refine lv_goto (tgt := 14) hx hb dX7_pairs_47 (by decide) ?_
          exact ih _ _ hf _ _ _ hw (lv_sub hl [2, 1, 3, 0] rfl)
        · rw [if_neg c5] at hf
          refine lv_iconst (v := 1) hx hb dX7_pairs_37 (by decide) ?_
          refine lv_goto (tgt := 42) hx hb dX7_pairs_38 (by decide) ?_
          refine lv_iadd hx hb dX7_pairs_42 ?_
          refine lv_istore_n (lv' := [(1, .int (x1 + 1)), (0, .ref h0), (2, .int x2), (3, .int x3)]) hx hb dX7_pairs_43 rfl hl (by decide) rfl (fun ls hl => ?_)
          refine lv_iinc (v := (x3 + 1)) (lv' := [(3, .int (x3 + 1)), (1, .int (x1 + 1)), (0, .ref h0), (2, .int x2)]) hx hb dX7_pairs_44 hl (k := 3) rfl rfl (by decide) rfl (fun ls hl => ?_)
          refine lv_goto (tgt := 14) hx hb dX7_pairs_47 (by decide) ?_
          exact ih _ _ hf _ _ _ hw (lv_sub hl [2, 1, 3, 0] rfl)
def f_X7_pairs_4 (N : Nat) (mn : Int32) (st : (Nat → Int32)) : Nat → Int32 → Int32 → Option (Int32)
  | 0, _, _ => none
  | n + 1, x1, x2 =>
    if mn ≤ x2 then
     some x1
    else
     f_X7_pairs_14 (fun x1 x2 => f_X7_pairs_4 N mn st n x1 x2) x2 mn st N x1 0
set_option maxHeartbeats 4000000 in
set_option maxRecDepth 100000 in
theorem b_X7_pairs_4 {p : Program} {l : Launch} {e : Env} {s : State} {m : MethodId} {args : Array Value} {below : List Frame} {meth : Method} {c : Code} {D : va_G} {cI cZ cN cC : ClassId} {ws0 : va_W} {h0 h1 h2 h3 h4 h5 h6 h7 h8 h9 h10 h11 h12 h13 h14 h15 : Nat} {mn : Int32} {um : Int32} {len : Int32} {plc : Int32} {srt : Int32} {frm : Int32} {num : Int32} {wrg : Int32} {cm : Int32} {mpt : Int32} {st : (Nat → Int32)} {pst : (Nat → Int32)} {kep : (Nat → Int32)} {isk : (Nat → Int32)} {pil : (Nat → Int32)} {nxs : (Nat → Int32)} {txt : (Nat → Int32)} {cls : (Nat → Int32)} {asd : (Nat → Int32)} {opn : (Nat → Int32)} {byy : (Nat → Int32)} {twc : (Nat → Int32)} {szs : (Nat → Int32)} {sos : (Nat → Int32)} {ths : (Nat → Int32)} {N : Nat} {res : Int32} (E : xE p s m args meth c cX7_pairs 4 (some .int) RX7 D (xtys cI cZ cN cC) (xA ws0)) : ∀ (n : Nat) (x1 : Int32) (x2 : Int32), f_X7_pairs_4 N mn st n x1 x2 = some res → ∀ (H : Heap) (locs : List Loc) (ls : Array Slot), xw D (xA ws0) s.heap (wMod cI cZ cN cC h0 h1 h2 h3 h4 h5 h6 h7 h8 h9 h10 h11 h12 h13 h14 h15 mn um len plc srt frm num wrg cm mpt st pst kep isk pil nxs txt cls asd opn byy twc szs sos ths) H locs → lv_has ls 4 [(0, .ref h0), (1, .int x1), (2, .int x2)] → xG p l e 1 22 s m args below meth c D ws0 (wMod cI cZ cN cC h0 h1 h2 h3 h4 h5 h6 h7 h8 h9 h10 h11 h12 h13 h14 h15 mn um len plc srt frm num wrg cm mpt st pst kep isk pil nxs txt cls asd opn byy twc szs sos ths) (some (.int res)) H locs (F0 m 4 ls []) := by
  obtain ⟨hx, hb, -⟩ := id E
  intro n
  induction n with
  | zero =>
    intro _ _ hf
    rw [f_X7_pairs_4] at hf; cases hf
  | succ n ih =>
    intro x1 x2 hf H locs ls hw hl
    rw [f_X7_pairs_4] at hf
    refine lv_iload_n hx hb dX7_pairs_4 rfl (lv_at hl 2 rfl) ?_
    refine lv_aload_n hx hb dX7_pairs_5 rfl (lv_at hl 0 rfl) ?_
    refine x_get E hw kin_X7 0 rfl rfl 0 (by decide) kF_X7_7 (v := .int mn) rfl dX7_pairs_6 ?_
    refine lv_icmp_ge (tgt := 56) hx hb dX7_pairs_9 (by decide) (fun c1 => ?_) (fun c1 => ?_)
    · rw [if_pos c1] at hf
      refine lv_iload_n hx hb dX7_pairs_56 rfl (lv_at hl 1 rfl) ?_
      have hf := Option.some.inj hf; subst hf
      exact x_iret E hw dX7_pairs_57
    · rw [if_neg c1] at hf
      refine lv_iconst (v := 0) hx hb dX7_pairs_12 (by decide) ?_
      refine lv_istore_n (lv' := [(3, .int 0), (0, .ref h0), (1, .int x1), (2, .int x2)]) hx hb dX7_pairs_13 rfl hl (by decide) rfl (fun ls hl => ?_)
      exact b_X7_pairs_14 E ih N _ _ hf _ _ _ hw (lv_sub hl [1, 2, 3, 0] rfl)
def f_X7_pairs (N : Nat) (mn : Int32) (st : (Nat → Int32)) : Option (Int32) :=
  f_X7_pairs_4 N mn st N 0 0
set_option maxHeartbeats 4000000 in
set_option maxRecDepth 100000 in
theorem c_X7_pairs {l : Launch} {D : va_G} {cI cZ cN cC : ClassId} {h0 h1 h2 h3 h4 h5 h6 h7 h8 h9 h10 h11 h12 h13 h14 h15 : Nat} {mn : Int32} {um : Int32} {len : Int32} {plc : Int32} {srt : Int32} {frm : Int32} {num : Int32} {wrg : Int32} {cm : Int32} {mpt : Int32} {st : (Nat → Int32)} {pst : (Nat → Int32)} {kep : (Nat → Int32)} {isk : (Nat → Int32)} {pil : (Nat → Int32)} {nxs : (Nat → Int32)} {txt : (Nat → Int32)} {cls : (Nat → Int32)} {asd : (Nat → Int32)} {opn : (Nat → Int32)} {byy : (Nat → Int32)} {twc : (Nat → Int32)} {szs : (Nat → Int32)} {sos : (Nat → Int32)} {ths : (Nat → Int32)}  {N : Nat} {res : Int32} (hf : f_X7_pairs N mn st = some res) : xMet l D (xtys cI cZ cN cC) yX7_pairs cX7_pairs 4 (some .int) 1 22 [.ref h0] (wMod cI cZ cN cC h0 h1 h2 h3 h4 h5 h6 h7 h8 h9 h10 h11 h12 h13 h14 h15 mn um len plc srt frm num wrg cm mpt st pst kep isk pil nxs txt cls asd opn byy twc szs sos ths) (wMod cI cZ cN cC h0 h1 h2 h3 h4 h5 h6 h7 h8 h9 h10 h11 h12 h13 h14 h15 mn um len plc srt frm num wrg cm mpt st pst kep isk pil nxs txt cls asd opn byy twc szs sos ths) (some (.int res)) := by
  refine x_enter (by decide) (Nat.le_of_ble_eq_true rfl) ?_
  intro p e s m args below meth c E ls hl hw
  have E : xE p s m args meth c cX7_pairs 4 (some .int) RX7 D (xtys cI cZ cN cC) (xA (wMod cI cZ cN cC h0 h1 h2 h3 h4 h5 h6 h7 h8 h9 h10 h11 h12 h13 h14 h15 mn um len plc srt frm num wrg cm mpt st pst kep isk pil nxs txt cls asd opn byy twc szs sos ths)) := E
  obtain ⟨hx, hb, -⟩ := id E
  have hl : lv_has ls 4 [(0, .ref h0)] := hl
  unfold f_X7_pairs at hf
  refine lv_iconst (v := 0) hx hb dX7_pairs_0 (by decide) ?_
  refine lv_istore_n (lv' := [(1, .int 0), (0, .ref h0)]) hx hb dX7_pairs_1 rfl hl (by decide) rfl (fun ls hl => ?_)
  refine lv_iconst (v := 0) hx hb dX7_pairs_2 (by decide) ?_
  refine lv_istore_n (lv' := [(2, .int 0), (1, .int 0), (0, .ref h0)]) hx hb dX7_pairs_3 rfl hl (by decide) rfl (fun ls hl => ?_)
  exact b_X7_pairs_4 E N _ _ hf _ _ _ hw (lv_sub hl [2, 1, 0] rfl)

def f_X7_goOn_16 (x1 : Int32) (mn : Int32) : Nat → Int32 → (Nat → Int32) → (Nat → Int32) → (Nat → Int32) → Option ((Nat → Int32) × (Nat → Int32) × (Nat → Int32))
  | 0, _, _, _, _ => none
  | n + 1, x3, st, pil, nxs =>
    if x3 ≤ 0 then
     some (st, pil, nxs)
    else
     if xin (x3 - 1) 11 then
     if xin (x3 - 1) 11 then
     if xin (x3 - 1) 11 then
     if xin (x3 - 1) 11 then
     if (nxs (Int32.toNatClampNeg (x3 - 1))) < mn then
      if xin (0 + (pil (Int32.toNatClampNeg (x3 - 1)))) 111 then
      if (f_X7_has (st (Int32.toNatClampNeg (0 + (pil (Int32.toNatClampNeg (x3 - 1)))))) (nxs (Int32.toNatClampNeg (x3 - 1)))) = 0 then
       f_X7_goOn_16 x1 mn n x3 st pil (upd nxs (Int32.toNatClampNeg (x3 - 1)) ((nxs (Int32.toNatClampNeg (x3 - 1))) + 1))
      else
       (f_X7_isIn x1 (nxs (Int32.toNatClampNeg (x3 - 1))) (upd st (Int32.toNatClampNeg 110) ((st (Int32.toNatClampNeg 110)) + 1))).bind fun q9 =>
       if q9 = 0 then
        if xin ((10 + (10 * x1)) + (nxs (Int32.toNatClampNeg (x3 - 1)))) 111 then
        if xin x3 11 then
        if xin x3 11 then
        f_X7_goOn_16 x1 mn n (x3 + 1) (upd (upd st (Int32.toNatClampNeg 110) ((st (Int32.toNatClampNeg 110)) + 1)) (Int32.toNatClampNeg ((10 + (10 * x1)) + (nxs (Int32.toNatClampNeg (x3 - 1))))) ((pil (Int32.toNatClampNeg (x3 - 1))) + 2)) (upd pil (Int32.toNatClampNeg x3) (nxs (Int32.toNatClampNeg (x3 - 1)))) (upd (upd nxs (Int32.toNatClampNeg (x3 - 1)) ((nxs (Int32.toNatClampNeg (x3 - 1))) + 1)) (Int32.toNatClampNeg x3) 0)
        else none
        else none
        else none
       else
        f_X7_goOn_16 x1 mn n x3 (upd st (Int32.toNatClampNeg 110) ((st (Int32.toNatClampNeg 110)) + 1)) pil (upd nxs (Int32.toNatClampNeg (x3 - 1)) ((nxs (Int32.toNatClampNeg (x3 - 1))) + 1))
      else none
     else
      f_X7_goOn_16 x1 mn n (x3 + (-1)) st pil (upd nxs (Int32.toNatClampNeg (x3 - 1)) ((nxs (Int32.toNatClampNeg (x3 - 1))) + 1))
     else none
     else none
     else none
     else none
set_option maxHeartbeats 4000000 in
set_option maxRecDepth 100000 in
theorem b_X7_goOn_16 {p : Program} {l : Launch} {e : Env} {s : State} {m : MethodId} {args : Array Value} {below : List Frame} {meth : Method} {c : Code} {D : va_G} {cI cZ cN cC : ClassId} {ws0 : va_W} {h0 h1 h2 h3 h4 h5 h6 h7 h8 h9 h10 h11 h12 h13 h14 h15 : Nat} {x1 : Int32} {mn : Int32} {um : Int32} {len : Int32} {plc : Int32} {srt : Int32} {frm : Int32} {num : Int32} {wrg : Int32} {cm : Int32} {mpt : Int32} {pst : (Nat → Int32)} {kep : (Nat → Int32)} {isk : (Nat → Int32)} {txt : (Nat → Int32)} {cls : (Nat → Int32)} {asd : (Nat → Int32)} {opn : (Nat → Int32)} {byy : (Nat → Int32)} {twc : (Nat → Int32)} {szs : (Nat → Int32)} {sos : (Nat → Int32)} {ths : (Nat → Int32)} {res : (Nat → Int32) × (Nat → Int32) × (Nat → Int32)} (E : xE p s m args meth c cX7_goOn 6 none RX7 D (xtys cI cZ cN cC) (xA ws0)) : ∀ (n : Nat) (x3 : Int32) (st : (Nat → Int32)) (pil : (Nat → Int32)) (nxs : (Nat → Int32)), f_X7_goOn_16 x1 mn n x3 st pil nxs = some res → ∀ (H : Heap) (locs : List Loc) (ls : Array Slot), xw D (xA ws0) s.heap (wMod cI cZ cN cC h0 h1 h2 h3 h4 h5 h6 h7 h8 h9 h10 h11 h12 h13 h14 h15 mn um len plc srt frm num wrg cm mpt st pst kep isk pil nxs txt cls asd opn byy twc szs sos ths) H locs → lv_has ls 6 [(0, .ref h0), (1, .int x1), (3, .int x3)] → xG p l e 1 22 s m args below meth c D ws0 (wMod cI cZ cN cC h0 h1 h2 h3 h4 h5 h6 h7 h8 h9 h10 h11 h12 h13 h14 h15 mn um len plc srt frm num wrg cm mpt res.1 pst kep isk res.2.1 res.2.2 txt cls asd opn byy twc szs sos ths) none H locs (F0 m 16 ls []) := by
  obtain ⟨hx, hb, -⟩ := id E
  intro n
  induction n with
  | zero =>
    intro _ _ _ _ hf
    rw [f_X7_goOn_16] at hf; cases hf
  | succ n ih =>
    intro x3 st pil nxs hf H locs ls hw hl
    rw [f_X7_goOn_16] at hf
    refine lv_iload_n hx hb dX7_goOn_16 rfl (lv_at hl 2 rfl) ?_
    refine lv_if_le (tgt := 145) hx hb dX7_goOn_17 (by decide) (fun c1 => ?_) (fun c1 => ?_)
    · rw [if_pos c1] at hf
      have hf := Option.some.inj hf; subst hf
      exact x_vret E hw dX7_goOn_145
    · rw [if_neg c1] at hf
      refine lv_aload_n hx hb dX7_goOn_20 rfl (lv_at hl 0 rfl) ?_
      refine x_get E hw kin_X7 0 rfl rfl 6 (by decide) kF_X7_26 (v := .ref h5) rfl dX7_goOn_21 ?_
      refine lv_iload_n hx hb dX7_goOn_24 rfl (lv_at hl 2 rfl) ?_
      refine lv_iconst (v := 1) hx hb dX7_goOn_25 (by decide) ?_
      refine lv_isub hx hb dX7_goOn_26 ?_
      obtain ⟨g2, hf⟩ := xgd hf
      refine x_iald E hw 5 0 rfl rfl (xin_vp g2) dX7_goOn_27 ?_
      refine lv_istore (lv' := [(4, .int (pil (Int32.toNatClampNeg (x3 - 1)))), (0, .ref h0), (1, .int x1), (3, .int x3)]) hx hb dX7_goOn_28 hl (by decide) rfl (fun ls hl => ?_)
      refine lv_aload_n hx hb dX7_goOn_30 rfl (lv_at hl 1 rfl) ?_
      refine x_get E hw kin_X7 0 rfl rfl 7 (by decide) kF_X7_29 (v := .ref h6) rfl dX7_goOn_31 ?_
      refine lv_iload_n hx hb dX7_goOn_34 rfl (lv_at hl 3 rfl) ?_
      refine lv_iconst (v := 1) hx hb dX7_goOn_35 (by decide) ?_
      refine lv_isub hx hb dX7_goOn_36 ?_
      obtain ⟨g3, hf⟩ := xgd hf
      refine x_iald E hw 6 0 rfl rfl (xin_vp g3) dX7_goOn_37 ?_
      refine lv_istore (lv' := [(5, .int (nxs (Int32.toNatClampNeg (x3 - 1)))), (4, .int (pil (Int32.toNatClampNeg (x3 - 1)))), (0, .ref h0), (1, .int x1), (3, .int x3)]) hx hb dX7_goOn_38 hl (by decide) rfl (fun ls hl => ?_)
      refine lv_aload_n hx hb dX7_goOn_40 rfl (lv_at hl 2 rfl) ?_
      refine x_get E hw kin_X7 0 rfl rfl 7 (by decide) kF_X7_29 (v := .ref h6) rfl dX7_goOn_41 ?_
      refine lv_iload_n hx hb dX7_goOn_44 rfl (lv_at hl 4 rfl) ?_
      refine lv_iconst (v := 1) hx hb dX7_goOn_45 (by decide) ?_
      refine lv_isub hx hb dX7_goOn_46 ?_
      refine lv_dup2_11 hx hb dX7_goOn_47 rfl rfl ?_
      obtain ⟨g4, hf⟩ := xgd hf
      refine x_iald E hw 6 0 rfl rfl (xin_vp g4) dX7_goOn_48 ?_
      refine lv_iconst (v := 1) hx hb dX7_goOn_49 (by decide) ?_
      refine lv_iadd hx hb dX7_goOn_50 ?_
      obtain ⟨g5, hf⟩ := xgd hf
      refine x_iast (ws' := (wMod cI cZ cN cC h0 h1 h2 h3 h4 h5 h6 h7 h8 h9 h10 h11 h12 h13 h14 h15 mn um len plc srt frm num wrg cm mpt st pst kep isk pil (upd nxs (Int32.toNatClampNeg (x3 - 1)) ((nxs (Int32.toNatClampNeg (x3 - 1))) + 1)) txt cls asd opn byy twc szs sos ths)) E hw 6 0 rfl rfl (xin_vp g5) rfl dX7_goOn_51 (fun H locs hw => ?_)
      refine lv_iload hx hb dX7_goOn_52 (lv_at hl 0 rfl) ?_
      refine lv_aload_n hx hb dX7_goOn_54 rfl (lv_at hl 2 rfl) ?_
      refine x_get E hw kin_X7 0 rfl rfl 0 (by decide) kF_X7_7 (v := .int mn) rfl dX7_goOn_55 ?_
      refine lv_icmp_lt (tgt := 67) hx hb dX7_goOn_58 (by decide) (fun c6 => ?_) (fun c6 => ?_)
      · rw [if_pos c6] at hf
        refine lv_aload_n hx hb dX7_goOn_67 rfl (lv_at hl 2 rfl) ?_
        refine x_get E hw kin_X7 0 rfl rfl 1 (by decide) kF_X7_13 (v := .ref h1) rfl dX7_goOn_68 ?_
        refine lv_iconst (v := 0) hx hb dX7_goOn_71 (by decide) ?_
        refine lv_iload hx hb dX7_goOn_72 (lv_at hl 1 rfl) ?_
        refine lv_iadd hx hb dX7_goOn_74 ?_
        obtain ⟨g7, hf⟩ := xgd hf
        refine x_iald E hw 1 0 rfl rfl (xin_vp g7) dX7_goOn_75 ?_
        refine lv_iload hx hb dX7_goOn_76 (lv_at hl 0 rfl) ?_
        refine x_callS (isC := []) (ws' := (wMod cI cZ cN cC h0 h1 h2 h3 h4 h5 h6 h7 h8 h9 h10 h11 h12 h13 h14 h15 mn um len plc srt frm num wrg cm mpt st pst kep isk pil (upd nxs (Int32.toNatClampNeg (x3 - 1)) ((nxs (Int32.toNatClampNeg (x3 - 1))) + 1)) txt cls asd opn byy twc szs sos ths)) (st1 := [.int (f_X7_has (st (Int32.toNatClampNeg (0 + (pil (Int32.toNatClampNeg (x3 - 1)))))) (nxs (Int32.toNatClampNeg (x3 - 1))))]) (As := [.int (st (Int32.toNatClampNeg (0 + (pil (Int32.toNatClampNeg (x3 - 1)))))), .int (nxs (Int32.toNatClampNeg (x3 - 1)))]) (rest := []) E hw vc_X7_78 (c_X7_has (cI := cI) (cZ := cZ) (cN := cN) (cC := cC)    (x0 := (st (Int32.toNatClampNeg (0 + (pil (Int32.toNatClampNeg (x3 - 1))))))) (x1 := (nxs (Int32.toNatClampNeg (x3 - 1)))) rfl) rfl rfl rfl rfl rfl rfl ⟨Nat.le_of_ble_eq_true rfl, Nat.le_of_ble_eq_true rfl⟩ ⟨Nat.le_refl _, Nat.le_refl _⟩ hl.1 rfl rfl (Nat.le_of_ble_eq_true rfl) dX7_goOn_78 (fun H locs hw => ?_)
        refine lv_if_eq (tgt := 142) hx hb dX7_goOn_81 (by decide) (fun c8 => ?_) (fun c8 => ?_)
        · rw [if_pos c8] at hf
          refine lv_goto (tgt := 16) hx hb dX7_goOn_142 (by decide) ?_
          exact ih _ _ _ _ hf _ _ _ hw (lv_sub hl [2, 3, 4] rfl)
        · rw [if_neg c8] at hf
          refine lv_aload_n hx hb dX7_goOn_84 rfl (lv_at hl 2 rfl) ?_
          refine x_get E hw kin_X7 0 rfl rfl 1 (by decide) kF_X7_13 (v := .ref h1) rfl dX7_goOn_85 ?_
          refine lv_bipush (v := 110) hx hb dX7_goOn_88 (by decide) ?_
          refine lv_dup2_11 hx hb dX7_goOn_90 rfl rfl ?_
          refine x_iald E hw 1 0 rfl rfl (xin_vp (by decide)) dX7_goOn_91 ?_
          refine lv_iconst (v := 1) hx hb dX7_goOn_92 (by decide) ?_
          refine lv_iadd hx hb dX7_goOn_93 ?_
          refine x_iast (ws' := (wMod cI cZ cN cC h0 h1 h2 h3 h4 h5 h6 h7 h8 h9 h10 h11 h12 h13 h14 h15 mn um len plc srt frm num wrg cm mpt (upd st (Int32.toNatClampNeg 110) ((st (Int32.toNatClampNeg 110)) + 1)) pst kep isk pil (upd nxs (Int32.toNatClampNeg (x3 - 1)) ((nxs (Int32.toNatClampNeg (x3 - 1))) + 1)) txt cls asd opn byy twc szs sos ths)) E hw 1 0 rfl rfl (xin_vp (by decide)) rfl dX7_goOn_94 (fun H locs hw => ?_)
          refine lv_aload_n hx hb dX7_goOn_95 rfl (lv_at hl 2 rfl) ?_
          refine lv_iload_n hx hb dX7_goOn_96 rfl (lv_at hl 3 rfl) ?_
          refine lv_iload hx hb dX7_goOn_97 (lv_at hl 0 rfl) ?_
          obtain ⟨q9, hq9, hf⟩ := Option.bind_eq_some_iff.mp hf
          refine x_callVI (ws' := (wMod cI cZ cN cC h0 h1 h2 h3 h4 h5 h6 h7 h8 h9 h10 h11 h12 h13 h14 h15 mn um len plc srt frm num wrg cm mpt (upd st (Int32.toNatClampNeg 110) ((st (Int32.toNatClampNeg 110)) + 1)) pst kep isk pil (upd nxs (Int32.toNatClampNeg (x3 - 1)) ((nxs (Int32.toNatClampNeg (x3 - 1))) + 1)) txt cls asd opn byy twc szs sos ths)) (st1 := [.int q9]) (As := [.int x1, .int (nxs (Int32.toNatClampNeg (x3 - 1)))]) (rest := []) E hw vc_X7_85 (c_X7_isIn (cI := cI) (cZ := cZ) (cN := cN) (cC := cC) (h0 := h0) (h1 := h1) (h2 := h2) (h3 := h3) (h4 := h4) (h5 := h5) (h6 := h6) (h7 := h7) (h8 := h8) (h9 := h9) (h10 := h10) (h11 := h11) (h12 := h12) (h13 := h13) (h14 := h14) (h15 := h15)  (mn := mn) (um := um) (len := len) (plc := plc) (srt := srt) (frm := frm) (num := num) (wrg := wrg) (cm := cm) (mpt := mpt) (st := (upd st (Int32.toNatClampNeg 110) ((st (Int32.toNatClampNeg 110)) + 1))) (pst := pst) (kep := kep) (isk := isk) (pil := pil) (nxs := (upd nxs (Int32.toNatClampNeg (x3 - 1)) ((nxs (Int32.toNatClampNeg (x3 - 1))) + 1))) (txt := txt) (cls := cls) (asd := asd) (opn := opn) (byy := byy) (twc := twc) (szs := szs) (sos := sos) (ths := ths) (x1 := x1) (x2 := (nxs (Int32.toNatClampNeg (x3 - 1)))) hq9) 0 7 rfl rfl rfl rfl rfl ⟨Nat.le_of_ble_eq_true rfl, Nat.le_of_ble_eq_true rfl⟩ ⟨Nat.le_refl _, Nat.le_refl _⟩ hl.1 rfl rfl (Nat.le_of_ble_eq_true rfl) dX7_goOn_99 (fun H locs hw => ?_)
          refine lv_if_ne (tgt := 142) hx hb dX7_goOn_102 (by decide) (fun c10 => ?_) (fun c10 => ?_)
          · rw [if_neg c10] at hf
            refine lv_goto (tgt := 16) hx hb dX7_goOn_142 (by decide) ?_
            exact ih _ _ _ _ hf _ _ _ hw (lv_sub hl [2, 3, 4] rfl)
          · rw [if_pos c10] at hf
            refine lv_aload_n hx hb dX7_goOn_105 rfl (lv_at hl 2 rfl) ?_
            refine x_get E hw kin_X7 0 rfl rfl 1 (by decide) kF_X7_13 (v := .ref h1) rfl dX7_goOn_106 ?_
            refine lv_bipush (v := 10) hx hb dX7_goOn_109 (by decide) ?_
            refine lv_bipush (v := 10) hx hb dX7_goOn_111 (by decide) ?_
            refine lv_iload_n hx hb dX7_goOn_113 rfl (lv_at hl 3 rfl) ?_
            refine lv_imul hx hb dX7_goOn_114 ?_
            refine lv_iadd hx hb dX7_goOn_115 ?_
            refine lv_iload hx hb dX7_goOn_116 (lv_at hl 0 rfl) ?_
            refine lv_iadd hx hb dX7_goOn_118 ?_
            refine lv_iload hx hb dX7_goOn_119 (lv_at hl 1 rfl) ?_
            refine lv_iconst (v := 2) hx hb dX7_goOn_121 (by decide) ?_
            refine lv_iadd hx hb dX7_goOn_122 ?_
            obtain ⟨g11, hf⟩ := xgd hf
            refine x_iast (ws' := (wMod cI cZ cN cC h0 h1 h2 h3 h4 h5 h6 h7 h8 h9 h10 h11 h12 h13 h14 h15 mn um len plc srt frm num wrg cm mpt (upd (upd st (Int32.toNatClampNeg 110) ((st (Int32.toNatClampNeg 110)) + 1)) (Int32.toNatClampNeg ((10 + (10 * x1)) + (nxs (Int32.toNatClampNeg (x3 - 1))))) ((pil (Int32.toNatClampNeg (x3 - 1))) + 2)) pst kep isk pil (upd nxs (Int32.toNatClampNeg (x3 - 1)) ((nxs (Int32.toNatClampNeg (x3 - 1))) + 1)) txt cls asd opn byy twc szs sos ths)) E hw 1 0 rfl rfl (xin_vp g11) rfl dX7_goOn_123 (fun H locs hw => ?_)
            refine lv_aload_n hx hb dX7_goOn_124 rfl (lv_at hl 2 rfl) ?_
            refine x_get E hw kin_X7 0 rfl rfl 6 (by decide) kF_X7_26 (v := .ref h5) rfl dX7_goOn_125 ?_
            refine lv_iload_n hx hb dX7_goOn_128 rfl (lv_at hl 4 rfl) ?_
            refine lv_iload hx hb dX7_goOn_129 (lv_at hl 0 rfl) ?_
            obtain ⟨g12, hf⟩ := xgd hf
            refine x_iast (ws' := (wMod cI cZ cN cC h0 h1 h2 h3 h4 h5 h6 h7 h8 h9 h10 h11 h12 h13 h14 h15 mn um len plc srt frm num wrg cm mpt (upd (upd st (Int32.toNatClampNeg 110) ((st (Int32.toNatClampNeg 110)) + 1)) (Int32.toNatClampNeg ((10 + (10 * x1)) + (nxs (Int32.toNatClampNeg (x3 - 1))))) ((pil (Int32.toNatClampNeg (x3 - 1))) + 2)) pst kep isk (upd pil (Int32.toNatClampNeg x3) (nxs (Int32.toNatClampNeg (x3 - 1)))) (upd nxs (Int32.toNatClampNeg (x3 - 1)) ((nxs (Int32.toNatClampNeg (x3 - 1))) + 1)) txt cls asd opn byy twc szs sos ths)) E hw 5 0 rfl rfl (xin_vp g12) rfl dX7_goOn_131 (fun H locs hw => ?_)
            refine lv_aload_n hx hb dX7_goOn_132 rfl (lv_at hl 2 rfl) ?_
            refine x_get E hw kin_X7 0 rfl rfl 7 (by decide) kF_X7_29 (v := .ref h6) rfl dX7_goOn_133 ?_
            refine lv_iload_n hx hb dX7_goOn_136 rfl (lv_at hl 4 rfl) ?_
            refine lv_iconst (v := 0) hx hb dX7_goOn_137 (by decide) ?_
            obtain ⟨g13, hf⟩ := xgd hf
            refine x_iast (ws' := (wMod cI cZ cN cC h0 h1 h2 h3 h4 h5 h6 h7 h8 h9 h10 h11 h12 h13 h14 h15 mn um len plc srt frm num wrg cm mpt (upd (upd st (Int32.toNatClampNeg 110) ((st (Int32.toNatClampNeg 110)) + 1)) (Int32.toNatClampNeg ((10 + (10 * x1)) + (nxs (Int32.toNatClampNeg (x3 - 1))))) ((pil (Int32.toNatClampNeg (x3 - 1))) + 2)) pst kep isk (upd pil (Int32.toNatClampNeg x3) (nxs (Int32.toNatClampNeg (x3 - 1)))) (upd (upd nxs (Int32.toNatClampNeg (x3 - 1)) ((nxs (Int32.toNatClampNeg (x3 - 1))) + 1)) (Int32.toNatClampNeg x3) 0) txt cls asd opn byy twc szs sos ths)) E hw 6 0 rfl rfl (xin_vp g13) rfl dX7_goOn_138 (fun H locs hw => ?_)
            refine lv_iinc (v := (x3 + 1)) (lv' := [(3, .int (x3 + 1)), (5, .int (nxs (Int32.toNatClampNeg (x3 - 1)))), (4, .int (pil (Int32.toNatClampNeg (x3 - 1)))), (0, .ref h0), (1, .int x1)]) hx hb dX7_goOn_139 hl (k := 4) rfl rfl (by decide) rfl (fun ls hl => ?_)
            refine lv_goto (tgt := 16) hx hb dX7_goOn_142 (by decide) ?_
            exact ih _ _ _ _ hf _ _ _ hw (lv_sub hl [3, 4, 0] rfl)
      · rw [if_neg c6] at hf
        refine lv_iinc (v := (x3 + (-1))) (lv' := [(3, .int (x3 + (-1))), (5, .int (nxs (Int32.toNatClampNeg (x3 - 1)))), (4, .int (pil (Int32.toNatClampNeg (x3 - 1)))), (0, .ref h0), (1, .int x1)]) hx hb dX7_goOn_61 hl (k := 4) rfl rfl (by decide) rfl (fun ls hl => ?_)
        refine lv_goto (tgt := 142) hx hb dX7_goOn_64 (by decide) ?_
        refine lv_goto (tgt := 16) hx hb dX7_goOn_142 (by decide) ?_
        exact ih _ _ _ _ hf _ _ _ hw (lv_sub hl [3, 4, 0] rfl)
def f_X7_goOn (N : Nat) (x1 : Int32) (x2 : Int32) (mn : Int32) (st : (Nat → Int32)) (pil : (Nat → Int32)) (nxs : (Nat → Int32)) : Option ((Nat → Int32) × (Nat → Int32) × (Nat → Int32)) :=
  f_X7_goOn_16 x1 mn N 1 st (upd pil (Int32.toNatClampNeg 0) x2) (upd nxs (Int32.toNatClampNeg 0) 0)
set_option maxHeartbeats 4000000 in
set_option maxRecDepth 100000 in
theorem c_X7_goOn {l : Launch} {D : va_G} {cI cZ cN cC : ClassId} {h0 h1 h2 h3 h4 h5 h6 h7 h8 h9 h10 h11 h12 h13 h14 h15 : Nat} {mn : Int32} {um : Int32} {len : Int32} {plc : Int32} {srt : Int32} {frm : Int32} {num : Int32} {wrg : Int32} {cm : Int32} {mpt : Int32} {st : (Nat → Int32)} {pst : (Nat → Int32)} {kep : (Nat → Int32)} {isk : (Nat → Int32)} {pil : (Nat → Int32)} {nxs : (Nat → Int32)} {txt : (Nat → Int32)} {cls : (Nat → Int32)} {asd : (Nat → Int32)} {opn : (Nat → Int32)} {byy : (Nat → Int32)} {twc : (Nat → Int32)} {szs : (Nat → Int32)} {sos : (Nat → Int32)} {ths : (Nat → Int32)} {x1 : Int32} {x2 : Int32} {N : Nat} {res : (Nat → Int32) × (Nat → Int32) × (Nat → Int32)} (hf : f_X7_goOn N x1 x2 mn st pil nxs = some res) : xMet l D (xtys cI cZ cN cC) yX7_goOn cX7_goOn 6 none 1 22 [.ref h0, .int x1, .int x2] (wMod cI cZ cN cC h0 h1 h2 h3 h4 h5 h6 h7 h8 h9 h10 h11 h12 h13 h14 h15 mn um len plc srt frm num wrg cm mpt st pst kep isk pil nxs txt cls asd opn byy twc szs sos ths) (wMod cI cZ cN cC h0 h1 h2 h3 h4 h5 h6 h7 h8 h9 h10 h11 h12 h13 h14 h15 mn um len plc srt frm num wrg cm mpt res.1 pst kep isk res.2.1 res.2.2 txt cls asd opn byy twc szs sos ths) none := by
  refine x_enter (by decide) (Nat.le_of_ble_eq_true rfl) ?_
  intro p e s m args below meth c E ls hl hw
  have E : xE p s m args meth c cX7_goOn 6 none RX7 D (xtys cI cZ cN cC) (xA (wMod cI cZ cN cC h0 h1 h2 h3 h4 h5 h6 h7 h8 h9 h10 h11 h12 h13 h14 h15 mn um len plc srt frm num wrg cm mpt st pst kep isk pil nxs txt cls asd opn byy twc szs sos ths)) := E
  obtain ⟨hx, hb, -⟩ := id E
  have hl : lv_has ls 6 [(0, .ref h0), (1, .int x1), (2, .int x2)] := hl
  unfold f_X7_goOn at hf
  refine lv_iconst (v := 1) hx hb dX7_goOn_0 (by decide) ?_
  refine lv_istore_n (lv' := [(3, .int 1), (0, .ref h0), (1, .int x1), (2, .int x2)]) hx hb dX7_goOn_1 rfl hl (by decide) rfl (fun ls hl => ?_)
  refine lv_aload_n hx hb dX7_goOn_2 rfl (lv_at hl 1 rfl) ?_
  refine x_get E hw kin_X7 0 rfl rfl 6 (by decide) kF_X7_26 (v := .ref h5) rfl dX7_goOn_3 ?_
  refine lv_iconst (v := 0) hx hb dX7_goOn_6 (by decide) ?_
  refine lv_iload_n hx hb dX7_goOn_7 rfl (lv_at hl 3 rfl) ?_
  refine x_iast (ws' := (wMod cI cZ cN cC h0 h1 h2 h3 h4 h5 h6 h7 h8 h9 h10 h11 h12 h13 h14 h15 mn um len plc srt frm num wrg cm mpt st pst kep isk (upd pil (Int32.toNatClampNeg 0) x2) nxs txt cls asd opn byy twc szs sos ths)) E hw 5 0 rfl rfl (xin_vp (by decide)) rfl dX7_goOn_8 (fun H locs hw => ?_)
  refine lv_aload_n hx hb dX7_goOn_9 rfl (lv_at hl 1 rfl) ?_
  refine x_get E hw kin_X7 0 rfl rfl 7 (by decide) kF_X7_29 (v := .ref h6) rfl dX7_goOn_10 ?_
  refine lv_iconst (v := 0) hx hb dX7_goOn_13 (by decide) ?_
  refine lv_iconst (v := 0) hx hb dX7_goOn_14 (by decide) ?_
  refine x_iast (ws' := (wMod cI cZ cN cC h0 h1 h2 h3 h4 h5 h6 h7 h8 h9 h10 h11 h12 h13 h14 h15 mn um len plc srt frm num wrg cm mpt st pst kep isk (upd pil (Int32.toNatClampNeg 0) x2) (upd nxs (Int32.toNatClampNeg 0) 0) txt cls asd opn byy twc szs sos ths)) E hw 6 0 rfl rfl (xin_vp (by decide)) rfl dX7_goOn_15 (fun H locs hw => ?_)
  exact b_X7_goOn_16 E N _ _ _ _ hf _ _ _ hw (lv_sub hl [1, 2, 0] rfl)

def f_X7_putIn_16 (N : Nat) (x1 : Int32) (x2 : Int32) (mn : Int32) : Nat → Int32 → (Nat → Int32) → (Nat → Int32) → (Nat → Int32) → Option ((Nat → Int32) × (Nat → Int32) × (Nat → Int32))
  | 0, _, _, _, _ => none
  | n + 1, x3, st, pil, nxs =>
    if mn ≤ x3 then
     some (st, pil, nxs)
    else
     (f_X7_isIn x3 x1 st).bind fun q4 =>
     if q4 = 0 then
      f_X7_putIn_16 N x1 x2 mn n (x3 + 1) st pil nxs
     else
      (f_X7_isIn x3 x2 (upd st (Int32.toNatClampNeg 110) ((st (Int32.toNatClampNeg 110)) + 1))).bind fun q6 =>
      if q6 = 0 then
       if xin ((10 + (10 * x3)) + x2) 111 then
       (f_X7_goOn N x3 x2 mn (upd (upd st (Int32.toNatClampNeg 110) ((st (Int32.toNatClampNeg 110)) + 1)) (Int32.toNatClampNeg ((10 + (10 * x3)) + x2)) (x1 + 2)) pil nxs).bind fun q9 =>
       f_X7_putIn_16 N x1 x2 mn n (x3 + 1) q9.1 q9.2.1 q9.2.2
       else none
      else
       f_X7_putIn_16 N x1 x2 mn n (x3 + 1) (upd st (Int32.toNatClampNeg 110) ((st (Int32.toNatClampNeg 110)) + 1)) pil nxs
set_option maxHeartbeats 4000000 in
set_option maxRecDepth 100000 in
theorem b_X7_putIn_16 {p : Program} {l : Launch} {e : Env} {s : State} {m : MethodId} {args : Array Value} {below : List Frame} {meth : Method} {c : Code} {D : va_G} {cI cZ cN cC : ClassId} {ws0 : va_W} {h0 h1 h2 h3 h4 h5 h6 h7 h8 h9 h10 h11 h12 h13 h14 h15 : Nat} {x1 : Int32} {x2 : Int32} {mn : Int32} {um : Int32} {len : Int32} {plc : Int32} {srt : Int32} {frm : Int32} {num : Int32} {wrg : Int32} {cm : Int32} {mpt : Int32} {pst : (Nat → Int32)} {kep : (Nat → Int32)} {isk : (Nat → Int32)} {txt : (Nat → Int32)} {cls : (Nat → Int32)} {asd : (Nat → Int32)} {opn : (Nat → Int32)} {byy : (Nat → Int32)} {twc : (Nat → Int32)} {szs : (Nat → Int32)} {sos : (Nat → Int32)} {ths : (Nat → Int32)} {N : Nat} {res : (Nat → Int32) × (Nat → Int32) × (Nat → Int32)} (E : xE p s m args meth c cX7_putIn 4 none RX7 D (xtys cI cZ cN cC) (xA ws0)) : ∀ (n : Nat) (x3 : Int32) (st : (Nat → Int32)) (pil : (Nat → Int32)) (nxs : (Nat → Int32)), f_X7_putIn_16 N x1 x2 mn n x3 st pil nxs = some res → ∀ (H : Heap) (locs : List Loc) (ls : Array Slot), xw D (xA ws0) s.heap (wMod cI cZ cN cC h0 h1 h2 h3 h4 h5 h6 h7 h8 h9 h10 h11 h12 h13 h14 h15 mn um len plc srt frm num wrg cm mpt st pst kep isk pil nxs txt cls asd opn byy twc szs sos ths) H locs → lv_has ls 4 [(0, .ref h0), (1, .int x1), (2, .int x2), (3, .int x3)] → xG p l e 2 47 s m args below meth c D ws0 (wMod cI cZ cN cC h0 h1 h2 h3 h4 h5 h6 h7 h8 h9 h10 h11 h12 h13 h14 h15 mn um len plc srt frm num wrg cm mpt res.1 pst kep isk res.2.1 res.2.2 txt cls asd opn byy twc szs sos ths) none H locs (F0 m 16 ls []) := by
  obtain ⟨hx, hb, -⟩ := id E
  intro n
  induction n with
  | zero =>
    intro _ _ _ _ hf
    rw [f_X7_putIn_16] at hf; cases hf
  | succ n ih =>
    intro x3 st pil nxs hf H locs ls hw hl
    rw [f_X7_putIn_16] at hf
    refine lv_iload_n hx hb dX7_putIn_16 rfl (lv_at hl 3 rfl) ?_
    refine lv_aload_n hx hb dX7_putIn_17 rfl (lv_at hl 0 rfl) ?_
    refine x_get E hw kin_X7 0 rfl rfl 0 (by decide) kF_X7_7 (v := .int mn) rfl dX7_putIn_18 ?_
    refine lv_icmp_ge (tgt := 82) hx hb dX7_putIn_21 (by decide) (fun c3 => ?_) (fun c3 => ?_)
    · rw [if_pos c3] at hf
      have hf := Option.some.inj hf; subst hf
      exact x_vret E hw dX7_putIn_82
    · rw [if_neg c3] at hf
      refine lv_aload_n hx hb dX7_putIn_24 rfl (lv_at hl 0 rfl) ?_
      refine lv_iload_n hx hb dX7_putIn_25 rfl (lv_at hl 3 rfl) ?_
      refine lv_iload_n hx hb dX7_putIn_26 rfl (lv_at hl 1 rfl) ?_
      obtain ⟨q4, hq4, hf⟩ := Option.bind_eq_some_iff.mp hf
      refine x_callVI (ws' := (wMod cI cZ cN cC h0 h1 h2 h3 h4 h5 h6 h7 h8 h9 h10 h11 h12 h13 h14 h15 mn um len plc srt frm num wrg cm mpt st pst kep isk pil nxs txt cls asd opn byy twc szs sos ths)) (st1 := [.int q4]) (As := [.int x3, .int x1]) (rest := []) E hw vc_X7_85 (c_X7_isIn (cI := cI) (cZ := cZ) (cN := cN) (cC := cC) (h0 := h0) (h1 := h1) (h2 := h2) (h3 := h3) (h4 := h4) (h5 := h5) (h6 := h6) (h7 := h7) (h8 := h8) (h9 := h9) (h10 := h10) (h11 := h11) (h12 := h12) (h13 := h13) (h14 := h14) (h15 := h15)  (mn := mn) (um := um) (len := len) (plc := plc) (srt := srt) (frm := frm) (num := num) (wrg := wrg) (cm := cm) (mpt := mpt) (st := st) (pst := pst) (kep := kep) (isk := isk) (pil := pil) (nxs := nxs) (txt := txt) (cls := cls) (asd := asd) (opn := opn) (byy := byy) (twc := twc) (szs := szs) (sos := sos) (ths := ths) (x1 := x3) (x2 := x1) hq4) 0 7 rfl rfl rfl rfl rfl ⟨Nat.le_of_ble_eq_true rfl, Nat.le_of_ble_eq_true rfl⟩ ⟨Nat.le_refl _, Nat.le_refl _⟩ hl.1 rfl rfl (Nat.le_of_ble_eq_true rfl) dX7_putIn_27 (fun H locs hw => ?_)
      refine lv_if_eq (tgt := 76) hx hb dX7_putIn_30 (by decide) (fun c5 => ?_) (fun c5 => ?_)
      · rw [if_pos c5] at hf
        refine lv_iinc (v := (x3 + 1)) (lv' := [(3, .int (x3 + 1)), (0, .ref h0), (1, .int x1), (2, .int x2)]) hx hb dX7_putIn_76 hl (k := 3) rfl rfl (by decide) rfl (fun ls hl => ?_)
        refine lv_goto (tgt := 16) hx hb dX7_putIn_79 (by decide) ?_
        exact ih _ _ _ _ hf _ _ _ hw (lv_sub hl [1, 2, 3, 0] rfl)
      · rw [if_neg c5] at hf
        refine lv_aload_n hx hb dX7_putIn_33 rfl (lv_at hl 0 rfl) ?_
        refine x_get E hw kin_X7 0 rfl rfl 1 (by decide) kF_X7_13 (v := .ref h1) rfl dX7_putIn_34 ?_
        refine lv_bipush (v := 110) hx hb dX7_putIn_37 (by decide) ?_
        refine lv_dup2_11 hx hb dX7_putIn_39 rfl rfl ?_
        refine x_iald E hw 1 0 rfl rfl (xin_vp (by decide)) dX7_putIn_40 ?_
        refine lv_iconst (v := 1) hx hb dX7_putIn_41 (by decide) ?_
        refine lv_iadd hx hb dX7_putIn_42 ?_
        refine x_iast (ws' := (wMod cI cZ cN cC h0 h1 h2 h3 h4 h5 h6 h7 h8 h9 h10 h11 h12 h13 h14 h15 mn um len plc srt frm num wrg cm mpt (upd st (Int32.toNatClampNeg 110) ((st (Int32.toNatClampNeg 110)) + 1)) pst kep isk pil nxs txt cls asd opn byy twc szs sos ths)) E hw 1 0 rfl rfl (xin_vp (by decide)) rfl dX7_putIn_43 (fun H locs hw => ?_)
        refine lv_aload_n hx hb dX7_putIn_44 rfl (lv_at hl 0 rfl) ?_
        refine lv_iload_n hx hb dX7_putIn_45 rfl (lv_at hl 3 rfl) ?_
        refine lv_iload_n hx hb dX7_putIn_46 rfl (lv_at hl 2 rfl) ?_
        obtain ⟨q6, hq6, hf⟩ := Option.bind_eq_some_iff.mp hf
        refine x_callVI (ws' := (wMod cI cZ cN cC h0 h1 h2 h3 h4 h5 h6 h7 h8 h9 h10 h11 h12 h13 h14 h15 mn um len plc srt frm num wrg cm mpt (upd st (Int32.toNatClampNeg 110) ((st (Int32.toNatClampNeg 110)) + 1)) pst kep isk pil nxs txt cls asd opn byy twc szs sos ths)) (st1 := [.int q6]) (As := [.int x3, .int x2]) (rest := []) E hw vc_X7_85 (c_X7_isIn (cI := cI) (cZ := cZ) (cN := cN) (cC := cC) (h0 := h0) (h1 := h1) (h2 := h2) (h3 := h3) (h4 := h4) (h5 := h5) (h6 := h6) (h7 := h7) (h8 := h8) (h9 := h9) (h10 := h10) (h11 := h11) (h12 := h12) (h13 := h13) (h14 := h14) (h15 := h15)  (mn := mn) (um := um) (len := len) (plc := plc) (srt := srt) (frm := frm) (num := num) (wrg := wrg) (cm := cm) (mpt := mpt) (st := (upd st (Int32.toNatClampNeg 110) ((st (Int32.toNatClampNeg 110)) + 1))) (pst := pst) (kep := kep) (isk := isk) (pil := pil) (nxs := nxs) (txt := txt) (cls := cls) (asd := asd) (opn := opn) (byy := byy) (twc := twc) (szs := szs) (sos := sos) (ths := ths) (x1 := x3) (x2 := x2) hq6) 0 7 rfl rfl rfl rfl rfl ⟨Nat.le_of_ble_eq_true rfl, Nat.le_of_ble_eq_true rfl⟩ ⟨Nat.le_refl _, Nat.le_refl _⟩ hl.1 rfl rfl (Nat.le_of_ble_eq_true rfl) dX7_putIn_47 (fun H locs hw => ?_)
        refine lv_if_ne (tgt := 76) hx hb dX7_putIn_50 (by decide) (fun c7 => ?_) (fun c7 => ?_)
        · rw [if_neg c7] at hf
          refine lv_iinc (v := (x3 + 1)) (lv' := [(3, .int (x3 + 1)), (0, .ref h0), (1, .int x1), (2, .int x2)]) hx hb dX7_putIn_76 hl (k := 3) rfl rfl (by decide) rfl (fun ls hl => ?_)
          refine lv_goto (tgt := 16) hx hb dX7_putIn_79 (by decide) ?_
          exact ih _ _ _ _ hf _ _ _ hw (lv_sub hl [1, 2, 3, 0] rfl)
        · rw [if_pos c7] at hf
          refine lv_aload_n hx hb dX7_putIn_53 rfl (lv_at hl 0 rfl) ?_
          refine x_get E hw kin_X7 0 rfl rfl 1 (by decide) kF_X7_13 (v := .ref h1) rfl dX7_putIn_54 ?_
          refine lv_bipush (v := 10) hx hb dX7_putIn_57 (by decide) ?_
          refine lv_bipush (v := 10) hx hb dX7_putIn_59 (by decide) ?_
          refine lv_iload_n hx hb dX7_putIn_61 rfl (lv_at hl 3 rfl) ?_
          refine lv_imul hx hb dX7_putIn_62 ?_
          refine lv_iadd hx hb dX7_putIn_63 ?_
          refine lv_iload_n hx hb dX7_putIn_64 rfl (lv_at hl 2 rfl) ?_
          refine lv_iadd hx hb dX7_putIn_65 ?_
          refine lv_iload_n hx hb dX7_putIn_66 rfl (lv_at hl 1 rfl) ?_
          refine lv_iconst (v := 2) hx hb dX7_putIn_67 (by decide) ?_
          refine lv_iadd hx hb dX7_putIn_68 ?_
          obtain ⟨g8, hf⟩ := xgd hf
          refine x_iast (ws' := (wMod cI cZ cN cC h0 h1 h2 h3 h4 h5 h6 h7 h8 h9 h10 h11 h12 h13 h14 h15 mn um len plc srt frm num wrg cm mpt (upd (upd st (Int32.toNatClampNeg 110) ((st (Int32.toNatClampNeg 110)) + 1)) (Int32.toNatClampNeg ((10 + (10 * x3)) + x2)) (x1 + 2)) pst kep isk pil nxs txt cls asd opn byy twc szs sos ths)) E hw 1 0 rfl rfl (xin_vp g8) rfl dX7_putIn_69 (fun H locs hw => ?_)
          refine lv_aload_n hx hb dX7_putIn_70 rfl (lv_at hl 0 rfl) ?_
          refine lv_iload_n hx hb dX7_putIn_71 rfl (lv_at hl 3 rfl) ?_
          refine lv_iload_n hx hb dX7_putIn_72 rfl (lv_at hl 2 rfl) ?_
          obtain ⟨q9, hq9, hf⟩ := Option.bind_eq_some_iff.mp hf
          refine x_callVI (ws' := (wMod cI cZ cN cC h0 h1 h2 h3 h4 h5 h6 h7 h8 h9 h10 h11 h12 h13 h14 h15 mn um len plc srt frm num wrg cm mpt q9.1 pst kep isk q9.2.1 q9.2.2 txt cls asd opn byy twc szs sos ths)) (st1 := []) (As := [.int x3, .int x2]) (rest := []) E hw vc_X7_88 (c_X7_goOn (cI := cI) (cZ := cZ) (cN := cN) (cC := cC) (h0 := h0) (h1 := h1) (h2 := h2) (h3 := h3) (h4 := h4) (h5 := h5) (h6 := h6) (h7 := h7) (h8 := h8) (h9 := h9) (h10 := h10) (h11 := h11) (h12 := h12) (h13 := h13) (h14 := h14) (h15 := h15)  (mn := mn) (um := um) (len := len) (plc := plc) (srt := srt) (frm := frm) (num := num) (wrg := wrg) (cm := cm) (mpt := mpt) (st := (upd (upd st (Int32.toNatClampNeg 110) ((st (Int32.toNatClampNeg 110)) + 1)) (Int32.toNatClampNeg ((10 + (10 * x3)) + x2)) (x1 + 2))) (pst := pst) (kep := kep) (isk := isk) (pil := pil) (nxs := nxs) (txt := txt) (cls := cls) (asd := asd) (opn := opn) (byy := byy) (twc := twc) (szs := szs) (sos := sos) (ths := ths) (x1 := x3) (x2 := x2) hq9) 0 7 rfl rfl rfl rfl rfl ⟨Nat.le_of_ble_eq_true rfl, Nat.le_of_ble_eq_true rfl⟩ ⟨Nat.le_refl _, Nat.le_refl _⟩ hl.1 rfl rfl (Nat.le_of_ble_eq_true rfl) dX7_putIn_73 (fun H locs hw => ?_)
          refine lv_iinc (v := (x3 + 1)) (lv' := [(3, .int (x3 + 1)), (0, .ref h0), (1, .int x1), (2, .int x2)]) hx hb dX7_putIn_76 hl (k := 3) rfl rfl (by decide) rfl (fun ls hl => ?_)
          refine lv_goto (tgt := 16) hx hb dX7_putIn_79 (by decide) ?_
          exact ih _ _ _ _ hf _ _ _ hw (lv_sub hl [1, 2, 3, 0] rfl)
def f_X7_putIn (N : Nat) (x1 : Int32) (x2 : Int32) (mn : Int32) (st : (Nat → Int32)) (pil : (Nat → Int32)) (nxs : (Nat → Int32)) : Option ((Nat → Int32) × (Nat → Int32) × (Nat → Int32)) :=
  if xin (0 + x1) 111 then
  if xin (0 + x1) 111 then
  f_X7_putIn_16 N x1 x2 mn N 0 (upd st (Int32.toNatClampNeg (0 + x1)) ((st (Int32.toNatClampNeg (0 + x1))) ||| (1 <<< (x2 &&& 31)))) pil nxs
  else none
  else none
set_option maxHeartbeats 4000000 in
set_option maxRecDepth 100000 in
theorem c_X7_putIn {l : Launch} {D : va_G} {cI cZ cN cC : ClassId} {h0 h1 h2 h3 h4 h5 h6 h7 h8 h9 h10 h11 h12 h13 h14 h15 : Nat} {mn : Int32} {um : Int32} {len : Int32} {plc : Int32} {srt : Int32} {frm : Int32} {num : Int32} {wrg : Int32} {cm : Int32} {mpt : Int32} {st : (Nat → Int32)} {pst : (Nat → Int32)} {kep : (Nat → Int32)} {isk : (Nat → Int32)} {pil : (Nat → Int32)} {nxs : (Nat → Int32)} {txt : (Nat → Int32)} {cls : (Nat → Int32)} {asd : (Nat → Int32)} {opn : (Nat → Int32)} {byy : (Nat → Int32)} {twc : (Nat → Int32)} {szs : (Nat → Int32)} {sos : (Nat → Int32)} {ths : (Nat → Int32)} {x1 : Int32} {x2 : Int32} {N : Nat} {res : (Nat → Int32) × (Nat → Int32) × (Nat → Int32)} (hf : f_X7_putIn N x1 x2 mn st pil nxs = some res) : xMet l D (xtys cI cZ cN cC) yX7_putIn cX7_putIn 4 none 2 47 [.ref h0, .int x1, .int x2] (wMod cI cZ cN cC h0 h1 h2 h3 h4 h5 h6 h7 h8 h9 h10 h11 h12 h13 h14 h15 mn um len plc srt frm num wrg cm mpt st pst kep isk pil nxs txt cls asd opn byy twc szs sos ths) (wMod cI cZ cN cC h0 h1 h2 h3 h4 h5 h6 h7 h8 h9 h10 h11 h12 h13 h14 h15 mn um len plc srt frm num wrg cm mpt res.1 pst kep isk res.2.1 res.2.2 txt cls asd opn byy twc szs sos ths) none := by
  refine x_enter (by decide) (Nat.le_of_ble_eq_true rfl) ?_
  intro p e s m args below meth c E ls hl hw
  have E : xE p s m args meth c cX7_putIn 4 none RX7 D (xtys cI cZ cN cC) (xA (wMod cI cZ cN cC h0 h1 h2 h3 h4 h5 h6 h7 h8 h9 h10 h11 h12 h13 h14 h15 mn um len plc srt frm num wrg cm mpt st pst kep isk pil nxs txt cls asd opn byy twc szs sos ths)) := E
  obtain ⟨hx, hb, -⟩ := id E
  have hl : lv_has ls 4 [(0, .ref h0), (1, .int x1), (2, .int x2)] := hl
  unfold f_X7_putIn at hf
  refine lv_aload_n hx hb dX7_putIn_0 rfl (lv_at hl 0 rfl) ?_
  refine x_get E hw kin_X7 0 rfl rfl 1 (by decide) kF_X7_13 (v := .ref h1) rfl dX7_putIn_1 ?_
  refine lv_iconst (v := 0) hx hb dX7_putIn_4 (by decide) ?_
  refine lv_iload_n hx hb dX7_putIn_5 rfl (lv_at hl 1 rfl) ?_
  refine lv_iadd hx hb dX7_putIn_6 ?_
  refine lv_dup2_11 hx hb dX7_putIn_7 rfl rfl ?_
  obtain ⟨g1, hf⟩ := xgd hf
  refine x_iald E hw 1 0 rfl rfl (xin_vp g1) dX7_putIn_8 ?_
  refine lv_iconst (v := 1) hx hb dX7_putIn_9 (by decide) ?_
  refine lv_iload_n hx hb dX7_putIn_10 rfl (lv_at hl 2 rfl) ?_
  refine lv_ishl hx hb dX7_putIn_11 ?_
  refine lv_ior hx hb dX7_putIn_12 ?_
  obtain ⟨g2, hf⟩ := xgd hf
  refine x_iast (ws' := (wMod cI cZ cN cC h0 h1 h2 h3 h4 h5 h6 h7 h8 h9 h10 h11 h12 h13 h14 h15 mn um len plc srt frm num wrg cm mpt (upd st (Int32.toNatClampNeg (0 + x1)) ((st (Int32.toNatClampNeg (0 + x1))) ||| (1 <<< (x2 &&& 31)))) pst kep isk pil nxs txt cls asd opn byy twc szs sos ths)) E hw 1 0 rfl rfl (xin_vp g2) rfl dX7_putIn_13 (fun H locs hw => ?_)
  refine lv_iconst (v := 0) hx hb dX7_putIn_14 (by decide) ?_
  refine lv_istore_n (lv' := [(3, .int 0), (0, .ref h0), (1, .int x1), (2, .int x2)]) hx hb dX7_putIn_15 rfl hl (by decide) rfl (fun ls hl => ?_)
  exact b_X7_putIn_16 E N _ _ _ _ hf _ _ _ hw (lv_sub hl [1, 2, 3, 0] rfl)

def f_X7_grow_2 (N : Nat) (x1 : Int32) (mn : Int32) (pil : (Nat → Int32)) (nxs : (Nat → Int32)) : Nat → Int32 → (Nat → Int32) → Option ((Nat → Int32) × (Nat → Int32) × (Nat → Int32))
  | 0, _, _ => none
  | n + 1, x2, st =>
    if mn ≤ x2 then
     (f_X7_goOn N x1 x1 mn st pil nxs).bind fun q2 =>
     some (q2.1, q2.2.1, q2.2.2)
    else
     if x2 = x1 then
      if xin ((10 + (10 * x1)) + x2) 111 then
      f_X7_grow_2 N x1 mn pil nxs n (x2 + 1) (upd st (Int32.toNatClampNeg ((10 + (10 * x1)) + x2)) 1)
      else none
     else
      if xin ((10 + (10 * x1)) + x2) 111 then
      f_X7_grow_2 N x1 mn pil nxs n (x2 + 1) (upd st (Int32.toNatClampNeg ((10 + (10 * x1)) + x2)) 0)
      else none
set_option maxHeartbeats 4000000 in
set_option maxRecDepth 100000 in
theorem b_X7_grow_2 {p : Program} {l : Launch} {e : Env} {s : State} {m : MethodId} {args : Array Value} {below : List Frame} {meth : Method} {c : Code} {D : va_G} {cI cZ cN cC : ClassId} {ws0 : va_W} {h0 h1 h2 h3 h4 h5 h6 h7 h8 h9 h10 h11 h12 h13 h14 h15 : Nat} {x1 : Int32} {mn : Int32} {um : Int32} {len : Int32} {plc : Int32} {srt : Int32} {frm : Int32} {num : Int32} {wrg : Int32} {cm : Int32} {mpt : Int32} {pst : (Nat → Int32)} {kep : (Nat → Int32)} {isk : (Nat → Int32)} {pil : (Nat → Int32)} {nxs : (Nat → Int32)} {txt : (Nat → Int32)} {cls : (Nat → Int32)} {asd : (Nat → Int32)} {opn : (Nat → Int32)} {byy : (Nat → Int32)} {twc : (Nat → Int32)} {szs : (Nat → Int32)} {sos : (Nat → Int32)} {ths : (Nat → Int32)} {N : Nat} {res : (Nat → Int32) × (Nat → Int32) × (Nat → Int32)} (E : xE p s m args meth c cX7_grow 3 none RX7 D (xtys cI cZ cN cC) (xA ws0)) : ∀ (n : Nat) (x2 : Int32) (st : (Nat → Int32)), f_X7_grow_2 N x1 mn pil nxs n x2 st = some res → ∀ (H : Heap) (locs : List Loc) (ls : Array Slot), xw D (xA ws0) s.heap (wMod cI cZ cN cC h0 h1 h2 h3 h4 h5 h6 h7 h8 h9 h10 h11 h12 h13 h14 h15 mn um len plc srt frm num wrg cm mpt st pst kep isk pil nxs txt cls asd opn byy twc szs sos ths) H locs → lv_has ls 3 [(0, .ref h0), (1, .int x1), (2, .int x2)] → xG p l e 2 47 s m args below meth c D ws0 (wMod cI cZ cN cC h0 h1 h2 h3 h4 h5 h6 h7 h8 h9 h10 h11 h12 h13 h14 h15 mn um len plc srt frm num wrg cm mpt res.1 pst kep isk res.2.1 res.2.2 txt cls asd opn byy twc szs sos ths) none H locs (F0 m 2 ls []) := by
  obtain ⟨hx, hb, -⟩ := id E
  intro n
  induction n with
  | zero =>
    intro _ _ hf
    rw [f_X7_grow_2] at hf; cases hf
  | succ n ih =>
    intro x2 st hf H locs ls hw hl
    rw [f_X7_grow_2] at hf
    refine lv_iload_n hx hb dX7_grow_2 rfl (lv_at hl 2 rfl) ?_
    refine lv_aload_n hx hb dX7_grow_3 rfl (lv_at hl 0 rfl) ?_
    refine x_get E hw kin_X7 0 rfl rfl 0 (by decide) kF_X7_7 (v := .int mn) rfl dX7_grow_4 ?_
    refine lv_icmp_ge (tgt := 40) hx hb dX7_grow_7 (by decide) (fun c1 => ?_) (fun c1 => ?_)
    · rw [if_pos c1] at hf
      refine lv_aload_n hx hb dX7_grow_40 rfl (lv_at hl 0 rfl) ?_
      refine lv_iload_n hx hb dX7_grow_41 rfl (lv_at hl 1 rfl) ?_
      refine lv_iload_n hx hb dX7_grow_42 rfl (lv_at hl 1 rfl) ?_
      obtain ⟨q2, hq2, hf⟩ := Option.bind_eq_some_iff.mp hf
      refine x_callVI (ws' := (wMod cI cZ cN cC h0 h1 h2 h3 h4 h5 h6 h7 h8 h9 h10 h11 h12 h13 h14 h15 mn um len plc srt frm num wrg cm mpt q2.1 pst kep isk q2.2.1 q2.2.2 txt cls asd opn byy twc szs sos ths)) (st1 := []) (As := [.int x1, .int x1]) (rest := []) E hw vc_X7_88 (c_X7_goOn (cI := cI) (cZ := cZ) (cN := cN) (cC := cC) (h0 := h0) (h1 := h1) (h2 := h2) (h3 := h3) (h4 := h4) (h5 := h5) (h6 := h6) (h7 := h7) (h8 := h8) (h9 := h9) (h10 := h10) (h11 := h11) (h12 := h12) (h13 := h13) (h14 := h14) (h15 := h15)  (mn := mn) (um := um) (len := len) (plc := plc) (srt := srt) (frm := frm) (num := num) (wrg := wrg) (cm := cm) (mpt := mpt) (st := st) (pst := pst) (kep := kep) (isk := isk) (pil := pil) (nxs := nxs) (txt := txt) (cls := cls) (asd := asd) (opn := opn) (byy := byy) (twc := twc) (szs := szs) (sos := sos) (ths := ths) (x1 := x1) (x2 := x1) hq2) 0 7 rfl rfl rfl rfl rfl ⟨Nat.le_of_ble_eq_true rfl, Nat.le_of_ble_eq_true rfl⟩ ⟨Nat.le_refl _, Nat.le_refl _⟩ hl.1 rfl rfl (Nat.le_of_ble_eq_true rfl) dX7_grow_43 (fun H locs hw => ?_)
      have hf := Option.some.inj hf; subst hf
      exact x_vret E hw dX7_grow_46
    · rw [if_neg c1] at hf
      refine lv_aload_n hx hb dX7_grow_10 rfl (lv_at hl 0 rfl) ?_
      refine x_get E hw kin_X7 0 rfl rfl 1 (by decide) kF_X7_13 (v := .ref h1) rfl dX7_grow_11 ?_
      refine lv_bipush (v := 10) hx hb dX7_grow_14 (by decide) ?_
      refine lv_bipush (v := 10) hx hb dX7_grow_16 (by decide) ?_
      refine lv_iload_n hx hb dX7_grow_18 rfl (lv_at hl 1 rfl) ?_
      refine lv_imul hx hb dX7_grow_19 ?_
      refine lv_iadd hx hb dX7_grow_20 ?_
      refine lv_iload_n hx hb dX7_grow_21 rfl (lv_at hl 2 rfl) ?_
      refine lv_iadd hx hb dX7_grow_22 ?_
      refine lv_iload_n hx hb dX7_grow_23 rfl (lv_at hl 2 rfl) ?_
      refine lv_iload_n hx hb dX7_grow_24 rfl (lv_at hl 1 rfl) ?_
      refine lv_icmp_ne (tgt := 32) hx hb dX7_grow_25 (by decide) (fun c3 => ?_) (fun c3 => ?_)
      · rw [if_neg c3] at hf
        refine lv_iconst (v := 0) hx hb dX7_grow_32 (by decide) ?_
        obtain ⟨g4, hf⟩ := xgd hf
        refine x_iast (ws' := (wMod cI cZ cN cC h0 h1 h2 h3 h4 h5 h6 h7 h8 h9 h10 h11 h12 h13 h14 h15 mn um len plc srt frm num wrg cm mpt (upd st (Int32.toNatClampNeg ((10 + (10 * x1)) + x2)) 0) pst kep isk pil nxs txt cls asd opn byy twc szs sos ths)) E hw 1 0 rfl rfl (xin_vp g4) rfl dX7_grow_33 (fun H locs hw => ?_)
        refine lv_iinc (v := (x2 + 1)) (lv' := [(2, .int (x2 + 1)), (0, .ref h0), (1, .int x1)]) hx hb dX7_grow_34 hl (k := 2) rfl rfl (by decide) rfl (fun ls hl => ?_)
        refine lv_goto (tgt := 2) hx hb dX7_grow_37 (by decide) ?_
        exact ih _ _ hf _ _ _ hw (lv_sub hl [1, 2, 0] rfl)
      · rw [if_pos c3] at hf
        refine lv_iconst (v := 1) hx hb dX7_grow_28 (by decide) ?_
        refine lv_goto (tgt := 33) hx hb dX7_grow_29 (by decide) ?_
        obtain ⟨g5, hf⟩ := xgd hf
        refine x_iast (ws' := (wMod cI cZ cN cC h0 h1 h2 h3 h4 h5 h6 h7 h8 h9 h10 h11 h12 h13 h14 h15 mn um len plc srt frm num wrg cm mpt (upd st (Int32.toNatClampNeg ((10 + (10 * x1)) + x2)) 1) pst kep isk pil nxs txt cls asd opn byy twc szs sos ths)) E hw 1 0 rfl rfl (xin_vp g5) rfl dX7_grow_33 (fun H locs hw => ?_)
        refine lv_iinc (v := (x2 + 1)) (lv' := [(2, .int (x2 + 1)), (0, .ref h0), (1, .int x1)]) hx hb dX7_grow_34 hl (k := 2) rfl rfl (by decide) rfl (fun ls hl => ?_)
        refine lv_goto (tgt := 2) hx hb dX7_grow_37 (by decide) ?_
        exact ih _ _ hf _ _ _ hw (lv_sub hl [1, 2, 0] rfl)
def f_X7_grow (N : Nat) (x1 : Int32) (mn : Int32) (st : (Nat → Int32)) (pil : (Nat → Int32)) (nxs : (Nat → Int32)) : Option ((Nat → Int32) × (Nat → Int32) × (Nat → Int32)) :=
  f_X7_grow_2 N x1 mn pil nxs N 0 st
set_option maxHeartbeats 4000000 in
set_option maxRecDepth 100000 in
theorem c_X7_grow {l : Launch} {D : va_G} {cI cZ cN cC : ClassId} {h0 h1 h2 h3 h4 h5 h6 h7 h8 h9 h10 h11 h12 h13 h14 h15 : Nat} {mn : Int32} {um : Int32} {len : Int32} {plc : Int32} {srt : Int32} {frm : Int32} {num : Int32} {wrg : Int32} {cm : Int32} {mpt : Int32} {st : (Nat → Int32)} {pst : (Nat → Int32)} {kep : (Nat → Int32)} {isk : (Nat → Int32)} {pil : (Nat → Int32)} {nxs : (Nat → Int32)} {txt : (Nat → Int32)} {cls : (Nat → Int32)} {asd : (Nat → Int32)} {opn : (Nat → Int32)} {byy : (Nat → Int32)} {twc : (Nat → Int32)} {szs : (Nat → Int32)} {sos : (Nat → Int32)} {ths : (Nat → Int32)} {x1 : Int32} {N : Nat} {res : (Nat → Int32) × (Nat → Int32) × (Nat → Int32)} (hf : f_X7_grow N x1 mn st pil nxs = some res) : xMet l D (xtys cI cZ cN cC) yX7_grow cX7_grow 3 none 2 47 [.ref h0, .int x1] (wMod cI cZ cN cC h0 h1 h2 h3 h4 h5 h6 h7 h8 h9 h10 h11 h12 h13 h14 h15 mn um len plc srt frm num wrg cm mpt st pst kep isk pil nxs txt cls asd opn byy twc szs sos ths) (wMod cI cZ cN cC h0 h1 h2 h3 h4 h5 h6 h7 h8 h9 h10 h11 h12 h13 h14 h15 mn um len plc srt frm num wrg cm mpt res.1 pst kep isk res.2.1 res.2.2 txt cls asd opn byy twc szs sos ths) none := by
  refine x_enter (by decide) (Nat.le_of_ble_eq_true rfl) ?_
  intro p e s m args below meth c E ls hl hw
  have E : xE p s m args meth c cX7_grow 3 none RX7 D (xtys cI cZ cN cC) (xA (wMod cI cZ cN cC h0 h1 h2 h3 h4 h5 h6 h7 h8 h9 h10 h11 h12 h13 h14 h15 mn um len plc srt frm num wrg cm mpt st pst kep isk pil nxs txt cls asd opn byy twc szs sos ths)) := E
  obtain ⟨hx, hb, -⟩ := id E
  have hl : lv_has ls 3 [(0, .ref h0), (1, .int x1)] := hl
  unfold f_X7_grow at hf
  refine lv_iconst (v := 0) hx hb dX7_grow_0 (by decide) ?_
  refine lv_istore_n (lv' := [(2, .int 0), (0, .ref h0), (1, .int x1)]) hx hb dX7_grow_1 rfl hl (by decide) rfl (fun ls hl => ?_)
  exact b_X7_grow_2 E N _ _ hf _ _ _ hw (lv_sub hl [1, 2, 0] rfl)

def f_X7_note_51 (um : Int32) (st : (Nat → Int32)) : Nat → Int32 → (Nat → Int32) → Option (Int32 × (Nat → Int32))
  | 0, _, _ => none
  | n + 1, x1, pst =>
    if 111 ≤ x1 then
     some ((um + 1), pst)
    else
     if xin x1 111 then
     if xin ((111 * um) + x1) 888 then
     f_X7_note_51 um st n (x1 + 1) (upd pst (Int32.toNatClampNeg ((111 * um) + x1)) (st (Int32.toNatClampNeg x1)))
     else none
     else none
set_option maxHeartbeats 4000000 in
set_option maxRecDepth 100000 in
theorem b_X7_note_51 {p : Program} {l : Launch} {e : Env} {s : State} {m : MethodId} {args : Array Value} {below : List Frame} {meth : Method} {c : Code} {D : va_G} {cI cZ cN cC : ClassId} {ws0 : va_W} {h0 h1 h2 h3 h4 h5 h6 h7 h8 h9 h10 h11 h12 h13 h14 h15 : Nat} {mn : Int32} {um : Int32} {len : Int32} {plc : Int32} {srt : Int32} {frm : Int32} {num : Int32} {wrg : Int32} {cm : Int32} {mpt : Int32} {st : (Nat → Int32)} {kep : (Nat → Int32)} {isk : (Nat → Int32)} {pil : (Nat → Int32)} {nxs : (Nat → Int32)} {txt : (Nat → Int32)} {cls : (Nat → Int32)} {asd : (Nat → Int32)} {opn : (Nat → Int32)} {byy : (Nat → Int32)} {twc : (Nat → Int32)} {szs : (Nat → Int32)} {sos : (Nat → Int32)} {ths : (Nat → Int32)} {res : Int32 × (Nat → Int32)} (E : xE p s m args meth c cX7_note 2 none RX7 D (xtys cI cZ cN cC) (xA ws0)) : ∀ (n : Nat) (x1 : Int32) (pst : (Nat → Int32)), f_X7_note_51 um st n x1 pst = some res → ∀ (H : Heap) (locs : List Loc) (ls : Array Slot), xw D (xA ws0) s.heap (wMod cI cZ cN cC h0 h1 h2 h3 h4 h5 h6 h7 h8 h9 h10 h11 h12 h13 h14 h15 mn um len plc srt frm num wrg cm mpt st pst kep isk pil nxs txt cls asd opn byy twc szs sos ths) H locs → lv_has ls 2 [(0, .ref h0), (1, .int x1)] → xG p l e 0 0 s m args below meth c D ws0 (wMod cI cZ cN cC h0 h1 h2 h3 h4 h5 h6 h7 h8 h9 h10 h11 h12 h13 h14 h15 mn res.1 len plc srt frm num wrg cm mpt st res.2 kep isk pil nxs txt cls asd opn byy twc szs sos ths) none H locs (F0 m 51 ls []) := by
  obtain ⟨hx, hb, -⟩ := id E
  intro n
  induction n with
  | zero =>
    intro _ _ hf
    rw [f_X7_note_51] at hf; cases hf
  | succ n ih =>
    intro x1 pst hf H locs ls hw hl
    rw [f_X7_note_51] at hf
    refine lv_iload_n hx hb dX7_note_51 rfl (lv_at hl 1 rfl) ?_
    refine lv_bipush (v := 111) hx hb dX7_note_52 (by decide) ?_
    refine lv_icmp_ge (tgt := 83) hx hb dX7_note_54 (by decide) (fun c2 => ?_) (fun c2 => ?_)
    · rw [if_pos c2] at hf
      refine lv_aload_n hx hb dX7_note_83 rfl (lv_at hl 0 rfl) ?_
      refine lv_dup hx hb dX7_note_84 rfl ?_
      refine x_get E hw kin_X7 0 rfl rfl 3 (by decide) kF_X7_92 (v := .int um) rfl dX7_note_85 ?_
      refine lv_iconst (v := 1) hx hb dX7_note_88 (by decide) ?_
      refine lv_iadd hx hb dX7_note_89 ?_
      refine x_put (ws' := (wMod cI cZ cN cC h0 h1 h2 h3 h4 h5 h6 h7 h8 h9 h10 h11 h12 h13 h14 h15 mn (um + 1) len plc srt frm num wrg cm mpt st pst kep isk pil nxs txt cls asd opn byy twc szs sos ths)) E hw kin_X7 tyX7 tyX7_ok nmX7 0 rfl rfl 3 (by decide) kF_X7_92 rfl (v := .int (um + 1)) rfl rfl (Nat.le_of_ble_eq_true rfl) rfl dX7_note_90 (fun H locs hw => ?_)
      have hf := Option.some.inj hf; subst hf
      exact x_vret E hw dX7_note_93
    · rw [if_neg c2] at hf
      refine lv_aload_n hx hb dX7_note_57 rfl (lv_at hl 0 rfl) ?_
      refine x_get E hw kin_X7 0 rfl rfl 2 (by decide) kF_X7_17 (v := .ref h2) rfl dX7_note_58 ?_
      refine lv_bipush (v := 111) hx hb dX7_note_61 (by decide) ?_
      refine lv_aload_n hx hb dX7_note_63 rfl (lv_at hl 0 rfl) ?_
      refine x_get E hw kin_X7 0 rfl rfl 3 (by decide) kF_X7_92 (v := .int um) rfl dX7_note_64 ?_
      refine lv_imul hx hb dX7_note_67 ?_
      refine lv_iload_n hx hb dX7_note_68 rfl (lv_at hl 1 rfl) ?_
      refine lv_iadd hx hb dX7_note_69 ?_
      refine lv_aload_n hx hb dX7_note_70 rfl (lv_at hl 0 rfl) ?_
      refine x_get E hw kin_X7 0 rfl rfl 1 (by decide) kF_X7_13 (v := .ref h1) rfl dX7_note_71 ?_
      refine lv_iload_n hx hb dX7_note_74 rfl (lv_at hl 1 rfl) ?_
      obtain ⟨g3, hf⟩ := xgd hf
      refine x_iald E hw 1 0 rfl rfl (xin_vp g3) dX7_note_75 ?_
      obtain ⟨g4, hf⟩ := xgd hf
      refine x_iast (ws' := (wMod cI cZ cN cC h0 h1 h2 h3 h4 h5 h6 h7 h8 h9 h10 h11 h12 h13 h14 h15 mn um len plc srt frm num wrg cm mpt st (upd pst (Int32.toNatClampNeg ((111 * um) + x1)) (st (Int32.toNatClampNeg x1))) kep isk pil nxs txt cls asd opn byy twc szs sos ths)) E hw 2 0 rfl rfl (xin_vp g4) rfl dX7_note_76 (fun H locs hw => ?_)
      refine lv_iinc (v := (x1 + 1)) (lv' := [(1, .int (x1 + 1)), (0, .ref h0)]) hx hb dX7_note_77 hl (k := 1) rfl rfl (by decide) rfl (fun ls hl => ?_)
      refine lv_goto (tgt := 51) hx hb dX7_note_80 (by decide) ?_
      exact ih _ _ hf _ _ _ hw (lv_sub hl [1, 0] rfl)
def f_X7_note_11 (N : Nat) (um : Int32) (st : (Nat → Int32)) : Nat → Int32 → (Nat → Int32) → Option (Int32 × (Nat → Int32))
  | 0, _, _ => none
  | n + 1, x1, pst =>
    if 777 ≤ x1 then
     f_X7_note_51 (um - 1) st N 0 pst
    else
     if xin (x1 + 111) 888 then
     if xin x1 888 then
     f_X7_note_11 N um st n (x1 + 1) (upd pst (Int32.toNatClampNeg x1) (pst (Int32.toNatClampNeg (x1 + 111))))
     else none
     else none
set_option maxHeartbeats 4000000 in
set_option maxRecDepth 100000 in
theorem b_X7_note_11 {p : Program} {l : Launch} {e : Env} {s : State} {m : MethodId} {args : Array Value} {below : List Frame} {meth : Method} {c : Code} {D : va_G} {cI cZ cN cC : ClassId} {ws0 : va_W} {h0 h1 h2 h3 h4 h5 h6 h7 h8 h9 h10 h11 h12 h13 h14 h15 : Nat} {mn : Int32} {um : Int32} {len : Int32} {plc : Int32} {srt : Int32} {frm : Int32} {num : Int32} {wrg : Int32} {cm : Int32} {mpt : Int32} {st : (Nat → Int32)} {kep : (Nat → Int32)} {isk : (Nat → Int32)} {pil : (Nat → Int32)} {nxs : (Nat → Int32)} {txt : (Nat → Int32)} {cls : (Nat → Int32)} {asd : (Nat → Int32)} {opn : (Nat → Int32)} {byy : (Nat → Int32)} {twc : (Nat → Int32)} {szs : (Nat → Int32)} {sos : (Nat → Int32)} {ths : (Nat → Int32)} {N : Nat} {res : Int32 × (Nat → Int32)} (E : xE p s m args meth c cX7_note 2 none RX7 D (xtys cI cZ cN cC) (xA ws0)) : ∀ (n : Nat) (x1 : Int32) (pst : (Nat → Int32)), f_X7_note_11 N um st n x1 pst = some res → ∀ (H : Heap) (locs : List Loc) (ls : Array Slot), xw D (xA ws0) s.heap (wMod cI cZ cN cC h0 h1 h2 h3 h4 h5 h6 h7 h8 h9 h10 h11 h12 h13 h14 h15 mn um len plc srt frm num wrg cm mpt st pst kep isk pil nxs txt cls asd opn byy twc szs sos ths) H locs → lv_has ls 2 [(0, .ref h0), (1, .int x1)] → xG p l e 0 0 s m args below meth c D ws0 (wMod cI cZ cN cC h0 h1 h2 h3 h4 h5 h6 h7 h8 h9 h10 h11 h12 h13 h14 h15 mn res.1 len plc srt frm num wrg cm mpt st res.2 kep isk pil nxs txt cls asd opn byy twc szs sos ths) none H locs (F0 m 11 ls []) := by
  obtain ⟨hx, hb, -⟩ := id E
  intro n
  induction n with
  | zero =>
    intro _ _ hf
    rw [f_X7_note_11] at hf; cases hf
  | succ n ih =>
    intro x1 pst hf H locs ls hw hl
    rw [f_X7_note_11] at hf
    refine lv_iload_n hx hb dX7_note_11 rfl (lv_at hl 1 rfl) ?_
    refine lv_sipush (v := 777) hx hb dX7_note_12 (by decide) ?_
    refine lv_icmp_ge (tgt := 39) hx hb dX7_note_15 (by decide) (fun c5 => ?_) (fun c5 => ?_)
    · rw [if_pos c5] at hf
      refine lv_aload_n hx hb dX7_note_39 rfl (lv_at hl 0 rfl) ?_
      refine lv_dup hx hb dX7_note_40 rfl ?_
      refine x_get E hw kin_X7 0 rfl rfl 3 (by decide) kF_X7_92 (v := .int um) rfl dX7_note_41 ?_
      refine lv_iconst (v := 1) hx hb dX7_note_44 (by decide) ?_
      refine lv_isub hx hb dX7_note_45 ?_
      refine x_put (ws' := (wMod cI cZ cN cC h0 h1 h2 h3 h4 h5 h6 h7 h8 h9 h10 h11 h12 h13 h14 h15 mn (um - 1) len plc srt frm num wrg cm mpt st pst kep isk pil nxs txt cls asd opn byy twc szs sos ths)) E hw kin_X7 tyX7 tyX7_ok nmX7 0 rfl rfl 3 (by decide) kF_X7_92 rfl (v := .int (um - 1)) rfl rfl (Nat.le_of_ble_eq_true rfl) rfl dX7_note_46 (fun H locs hw => ?_)
      refine lv_iconst (v := 0) hx hb dX7_note_49 (by decide) ?_
      refine lv_istore_n (lv' := [(1, .int 0), (0, .ref h0)]) hx hb dX7_note_50 rfl hl (by decide) rfl (fun ls hl => ?_)
      exact b_X7_note_51 E N _ _ hf _ _ _ hw (lv_sub hl [1, 0] rfl)
    · rw [if_neg c5] at hf
      refine lv_aload_n hx hb dX7_note_18 rfl (lv_at hl 0 rfl) ?_
      refine x_get E hw kin_X7 0 rfl rfl 2 (by decide) kF_X7_17 (v := .ref h2) rfl dX7_note_19 ?_
      refine lv_iload_n hx hb dX7_note_22 rfl (lv_at hl 1 rfl) ?_
      refine lv_aload_n hx hb dX7_note_23 rfl (lv_at hl 0 rfl) ?_
      refine x_get E hw kin_X7 0 rfl rfl 2 (by decide) kF_X7_17 (v := .ref h2) rfl dX7_note_24 ?_
      refine lv_iload_n hx hb dX7_note_27 rfl (lv_at hl 1 rfl) ?_
      refine lv_bipush (v := 111) hx hb dX7_note_28 (by decide) ?_
      refine lv_iadd hx hb dX7_note_30 ?_
      obtain ⟨g6, hf⟩ := xgd hf
      refine x_iald E hw 2 0 rfl rfl (xin_vp g6) dX7_note_31 ?_
      obtain ⟨g7, hf⟩ := xgd hf
      refine x_iast (ws' := (wMod cI cZ cN cC h0 h1 h2 h3 h4 h5 h6 h7 h8 h9 h10 h11 h12 h13 h14 h15 mn um len plc srt frm num wrg cm mpt st (upd pst (Int32.toNatClampNeg x1) (pst (Int32.toNatClampNeg (x1 + 111)))) kep isk pil nxs txt cls asd opn byy twc szs sos ths)) E hw 2 0 rfl rfl (xin_vp g7) rfl dX7_note_32 (fun H locs hw => ?_)
      refine lv_iinc (v := (x1 + 1)) (lv' := [(1, .int (x1 + 1)), (0, .ref h0)]) hx hb dX7_note_33 hl (k := 1) rfl rfl (by decide) rfl (fun ls hl => ?_)
      refine lv_goto (tgt := 11) hx hb dX7_note_36 (by decide) ?_
      exact ih _ _ hf _ _ _ hw (lv_sub hl [1, 0] rfl)
def f_X7_note (N : Nat) (um : Int32) (st : (Nat → Int32)) (pst : (Nat → Int32)) : Option (Int32 × (Nat → Int32)) :=
  if um = 8 then
   f_X7_note_11 N um st N 0 pst
  else
   f_X7_note_51 um st N 0 pst
set_option maxHeartbeats 4000000 in
set_option maxRecDepth 100000 in
theorem c_X7_note {l : Launch} {D : va_G} {cI cZ cN cC : ClassId} {h0 h1 h2 h3 h4 h5 h6 h7 h8 h9 h10 h11 h12 h13 h14 h15 : Nat} {mn : Int32} {um : Int32} {len : Int32} {plc : Int32} {srt : Int32} {frm : Int32} {num : Int32} {wrg : Int32} {cm : Int32} {mpt : Int32} {st : (Nat → Int32)} {pst : (Nat → Int32)} {kep : (Nat → Int32)} {isk : (Nat → Int32)} {pil : (Nat → Int32)} {nxs : (Nat → Int32)} {txt : (Nat → Int32)} {cls : (Nat → Int32)} {asd : (Nat → Int32)} {opn : (Nat → Int32)} {byy : (Nat → Int32)} {twc : (Nat → Int32)} {szs : (Nat → Int32)} {sos : (Nat → Int32)} {ths : (Nat → Int32)}  {N : Nat} {res : Int32 × (Nat → Int32)} (hf : f_X7_note N um st pst = some res) : xMet l D (xtys cI cZ cN cC) yX7_note cX7_note 2 none 0 0 [.ref h0] (wMod cI cZ cN cC h0 h1 h2 h3 h4 h5 h6 h7 h8 h9 h10 h11 h12 h13 h14 h15 mn um len plc srt frm num wrg cm mpt st pst kep isk pil nxs txt cls asd opn byy twc szs sos ths) (wMod cI cZ cN cC h0 h1 h2 h3 h4 h5 h6 h7 h8 h9 h10 h11 h12 h13 h14 h15 mn res.1 len plc srt frm num wrg cm mpt st res.2 kep isk pil nxs txt cls asd opn byy twc szs sos ths) none := by
  refine x_enter (by decide) (Nat.le_of_ble_eq_true rfl) ?_
  intro p e s m args below meth c E ls hl hw
  have E : xE p s m args meth c cX7_note 2 none RX7 D (xtys cI cZ cN cC) (xA (wMod cI cZ cN cC h0 h1 h2 h3 h4 h5 h6 h7 h8 h9 h10 h11 h12 h13 h14 h15 mn um len plc srt frm num wrg cm mpt st pst kep isk pil nxs txt cls asd opn byy twc szs sos ths)) := E
  obtain ⟨hx, hb, -⟩ := id E
  have hl : lv_has ls 2 [(0, .ref h0)] := hl
  unfold f_X7_note at hf
  refine lv_aload_n hx hb dX7_note_0 rfl (lv_at hl 0 rfl) ?_
  refine x_get E hw kin_X7 0 rfl rfl 3 (by decide) kF_X7_92 (v := .int um) rfl dX7_note_1 ?_
  refine lv_bipush (v := 8) hx hb dX7_note_4 (by decide) ?_
  refine lv_icmp_ne (tgt := 49) hx hb dX7_note_6 (by decide) (fun c1 => ?_) (fun c1 => ?_)
  · rw [if_neg c1] at hf
    refine lv_iconst (v := 0) hx hb dX7_note_49 (by decide) ?_
    refine lv_istore_n (lv' := [(1, .int 0), (0, .ref h0)]) hx hb dX7_note_50 rfl hl (by decide) rfl (fun ls hl => ?_)
    exact b_X7_note_51 E N _ _ hf _ _ _ hw (lv_sub hl [1, 0] rfl)
  · rw [if_pos c1] at hf
    refine lv_iconst (v := 0) hx hb dX7_note_9 (by decide) ?_
    refine lv_istore_n (lv' := [(1, .int 0), (0, .ref h0)]) hx hb dX7_note_10 rfl hl (by decide) rfl (fun ls hl => ?_)
    exact b_X7_note_11 E N _ _ hf _ _ _ hw (lv_sub hl [1, 0] rfl)

def f_X7_write (x1 : Int32) (len : Int32) (txt : (Nat → Int32)) : Option (Int32 × Int32 × (Nat → Int32)) :=
  if (f_X7_in (Int32.toInt64 x1) 0 255) = 0 then
   some ((-3), len, txt)
  else
   if len = 200 then
    some ((-5), len, txt)
   else
    if xin len 200 then
    some ((len + 1), (len + 1), (upd txt (Int32.toNatClampNeg len) x1))
    else none
set_option maxHeartbeats 4000000 in
set_option maxRecDepth 100000 in
theorem c_X7_write {l : Launch} {D : va_G} {cI cZ cN cC : ClassId} {h0 h1 h2 h3 h4 h5 h6 h7 h8 h9 h10 h11 h12 h13 h14 h15 : Nat} {mn : Int32} {um : Int32} {len : Int32} {plc : Int32} {srt : Int32} {frm : Int32} {num : Int32} {wrg : Int32} {cm : Int32} {mpt : Int32} {st : (Nat → Int32)} {pst : (Nat → Int32)} {kep : (Nat → Int32)} {isk : (Nat → Int32)} {pil : (Nat → Int32)} {nxs : (Nat → Int32)} {txt : (Nat → Int32)} {cls : (Nat → Int32)} {asd : (Nat → Int32)} {opn : (Nat → Int32)} {byy : (Nat → Int32)} {twc : (Nat → Int32)} {szs : (Nat → Int32)} {sos : (Nat → Int32)} {ths : (Nat → Int32)} {x1 : Int32} {res : Int32 × Int32 × (Nat → Int32)} (hf : f_X7_write x1 len txt = some res) : xMet l D (xtys cI cZ cN cC) yX7_write cX7_write 2 (some .int) 1 25 [.ref h0, .int x1] (wMod cI cZ cN cC h0 h1 h2 h3 h4 h5 h6 h7 h8 h9 h10 h11 h12 h13 h14 h15 mn um len plc srt frm num wrg cm mpt st pst kep isk pil nxs txt cls asd opn byy twc szs sos ths) (wMod cI cZ cN cC h0 h1 h2 h3 h4 h5 h6 h7 h8 h9 h10 h11 h12 h13 h14 h15 mn um res.2.1 plc srt frm num wrg cm mpt st pst kep isk pil nxs res.2.2 cls asd opn byy twc szs sos ths) (some (.int res.1)) := by
  refine x_enter (by decide) (Nat.le_of_ble_eq_true rfl) ?_
  intro p e s m args below meth c E ls hl hw
  have E : xE p s m args meth c cX7_write 2 (some .int) RX7 D (xtys cI cZ cN cC) (xA (wMod cI cZ cN cC h0 h1 h2 h3 h4 h5 h6 h7 h8 h9 h10 h11 h12 h13 h14 h15 mn um len plc srt frm num wrg cm mpt st pst kep isk pil nxs txt cls asd opn byy twc szs sos ths)) := E
  obtain ⟨hx, hb, -⟩ := id E
  have hl : lv_has ls 2 [(0, .ref h0), (1, .int x1)] := hl
  unfold f_X7_write at hf
  refine lv_iload_n hx hb dX7_write_0 rfl (lv_at hl 1 rfl) ?_
  refine lv_i2l (v := (Int32.toInt64 x1)) hx hb dX7_write_1 rfl ?_
  refine lv_lconst (v := 0) hx hb dX7_write_2 (by decide) ?_
  refine lv_ldc2 hx hb E.2.2.2.2.1 (E.2.2.2.2.2.1.2.use kQ_X7_95) dX7_write_3 ?_
  refine x_callS (isC := []) (ws' := (wMod cI cZ cN cC h0 h1 h2 h3 h4 h5 h6 h7 h8 h9 h10 h11 h12 h13 h14 h15 mn um len plc srt frm num wrg cm mpt st pst kep isk pil nxs txt cls asd opn byy twc szs sos ths)) (st1 := [.int (f_X7_in (Int32.toInt64 x1) 0 255)]) (As := [.long (Int32.toInt64 x1), .long 0, .long 255]) (rest := []) E hw vc_X7_66 (c_X7_in (cI := cI) (cZ := cZ) (cN := cN) (cC := cC)    (x0 := (Int32.toInt64 x1)) (x2 := 0) (x4 := 255) rfl) rfl rfl rfl rfl rfl rfl ⟨Nat.le_of_ble_eq_true rfl, Nat.le_of_ble_eq_true rfl⟩ ⟨Nat.le_refl _, Nat.le_refl _⟩ hl.1 rfl rfl (Nat.le_of_ble_eq_true rfl) dX7_write_6 (fun H locs hw => ?_)
  refine lv_if_ne (tgt := 15) hx hb dX7_write_9 (by decide) (fun c1 => ?_) (fun c1 => ?_)
  · rw [if_neg c1] at hf
    refine lv_aload_n hx hb dX7_write_15 rfl (lv_at hl 0 rfl) ?_
    refine x_get E hw kin_X7 0 rfl rfl 9 (by decide) kF_X7_97 (v := .int len) rfl dX7_write_16 ?_
    refine lv_sipush (v := 200) hx hb dX7_write_19 (by decide) ?_
    refine lv_icmp_ne (tgt := 28) hx hb dX7_write_22 (by decide) (fun c2 => ?_) (fun c2 => ?_)
    · rw [if_neg c2] at hf
      refine lv_aload_n hx hb dX7_write_28 rfl (lv_at hl 0 rfl) ?_
      refine x_get E hw kin_X7 0 rfl rfl 8 (by decide) kF_X7_32 (v := .ref h7) rfl dX7_write_29 ?_
      refine lv_aload_n hx hb dX7_write_32 rfl (lv_at hl 0 rfl) ?_
      refine x_get E hw kin_X7 0 rfl rfl 9 (by decide) kF_X7_97 (v := .int len) rfl dX7_write_33 ?_
      refine lv_iload_n hx hb dX7_write_36 rfl (lv_at hl 1 rfl) ?_
      obtain ⟨g3, hf⟩ := xgd hf
      refine x_iast (ws' := (wMod cI cZ cN cC h0 h1 h2 h3 h4 h5 h6 h7 h8 h9 h10 h11 h12 h13 h14 h15 mn um len plc srt frm num wrg cm mpt st pst kep isk pil nxs (upd txt (Int32.toNatClampNeg len) x1) cls asd opn byy twc szs sos ths)) E hw 7 0 rfl rfl (xin_vp g3) rfl dX7_write_37 (fun H locs hw => ?_)
      refine lv_aload_n hx hb dX7_write_38 rfl (lv_at hl 0 rfl) ?_
      refine lv_dup hx hb dX7_write_39 rfl ?_
      refine x_get E hw kin_X7 0 rfl rfl 9 (by decide) kF_X7_97 (v := .int len) rfl dX7_write_40 ?_
      refine lv_iconst (v := 1) hx hb dX7_write_43 (by decide) ?_
      refine lv_iadd hx hb dX7_write_44 ?_
      refine x_put (ws' := (wMod cI cZ cN cC h0 h1 h2 h3 h4 h5 h6 h7 h8 h9 h10 h11 h12 h13 h14 h15 mn um (len + 1) plc srt frm num wrg cm mpt st pst kep isk pil nxs (upd txt (Int32.toNatClampNeg len) x1) cls asd opn byy twc szs sos ths)) E hw kin_X7 tyX7 tyX7_ok nmX7 0 rfl rfl 9 (by decide) kF_X7_97 rfl (v := .int (len + 1)) rfl rfl (Nat.le_of_ble_eq_true rfl) rfl dX7_write_45 (fun H locs hw => ?_)
      refine lv_aload_n hx hb dX7_write_48 rfl (lv_at hl 0 rfl) ?_
      refine x_get E hw kin_X7 0 rfl rfl 9 (by decide) kF_X7_97 (v := .int (len + 1)) rfl dX7_write_49 ?_
      have hf := Option.some.inj hf; subst hf
      exact x_iret E hw dX7_write_52
    · rw [if_pos c2] at hf
      refine lv_bipush (v := (-5)) hx hb dX7_write_25 (by decide) ?_
      have hf := Option.some.inj hf; subst hf
      exact x_iret E hw dX7_write_27
  · rw [if_pos c1] at hf
    refine lv_bipush (v := (-3)) hx hb dX7_write_12 (by decide) ?_
    have hf := Option.some.inj hf; subst hf
    exact x_iret E hw dX7_write_14

def f_X7_erase (len : Int32) : (Int32 × Int32) :=
  (len, 0)
set_option maxHeartbeats 4000000 in
set_option maxRecDepth 100000 in
theorem c_X7_erase {l : Launch} {D : va_G} {cI cZ cN cC : ClassId} {h0 h1 h2 h3 h4 h5 h6 h7 h8 h9 h10 h11 h12 h13 h14 h15 : Nat} {mn : Int32} {um : Int32} {len : Int32} {plc : Int32} {srt : Int32} {frm : Int32} {num : Int32} {wrg : Int32} {cm : Int32} {mpt : Int32} {st : (Nat → Int32)} {pst : (Nat → Int32)} {kep : (Nat → Int32)} {isk : (Nat → Int32)} {pil : (Nat → Int32)} {nxs : (Nat → Int32)} {txt : (Nat → Int32)} {cls : (Nat → Int32)} {asd : (Nat → Int32)} {opn : (Nat → Int32)} {byy : (Nat → Int32)} {twc : (Nat → Int32)} {szs : (Nat → Int32)} {sos : (Nat → Int32)} {ths : (Nat → Int32)}  {res : Int32 × Int32} (hf : f_X7_erase len = res) : xMet l D (xtys cI cZ cN cC) yX7_erase cX7_erase 2 (some .int) 0 0 [.ref h0] (wMod cI cZ cN cC h0 h1 h2 h3 h4 h5 h6 h7 h8 h9 h10 h11 h12 h13 h14 h15 mn um len plc srt frm num wrg cm mpt st pst kep isk pil nxs txt cls asd opn byy twc szs sos ths) (wMod cI cZ cN cC h0 h1 h2 h3 h4 h5 h6 h7 h8 h9 h10 h11 h12 h13 h14 h15 mn um res.2 plc srt frm num wrg cm mpt st pst kep isk pil nxs txt cls asd opn byy twc szs sos ths) (some (.int res.1)) := by
  refine x_enter (by decide) (Nat.le_of_ble_eq_true rfl) ?_
  intro p e s m args below meth c E ls hl hw
  have E : xE p s m args meth c cX7_erase 2 (some .int) RX7 D (xtys cI cZ cN cC) (xA (wMod cI cZ cN cC h0 h1 h2 h3 h4 h5 h6 h7 h8 h9 h10 h11 h12 h13 h14 h15 mn um len plc srt frm num wrg cm mpt st pst kep isk pil nxs txt cls asd opn byy twc szs sos ths)) := E
  obtain ⟨hx, hb, -⟩ := id E
  have hl : lv_has ls 2 [(0, .ref h0)] := hl
  unfold f_X7_erase at hf
  refine lv_aload_n hx hb dX7_erase_0 rfl (lv_at hl 0 rfl) ?_
  refine x_get E hw kin_X7 0 rfl rfl 9 (by decide) kF_X7_97 (v := .int len) rfl dX7_erase_1 ?_
  refine lv_istore_n (lv' := [(1, .int len), (0, .ref h0)]) hx hb dX7_erase_4 rfl hl (by decide) rfl (fun ls hl => ?_)
  refine lv_aload_n hx hb dX7_erase_5 rfl (lv_at hl 1 rfl) ?_
  refine lv_iconst (v := 0) hx hb dX7_erase_6 (by decide) ?_
  refine x_put (ws' := (wMod cI cZ cN cC h0 h1 h2 h3 h4 h5 h6 h7 h8 h9 h10 h11 h12 h13 h14 h15 mn um 0 plc srt frm num wrg cm mpt st pst kep isk pil nxs txt cls asd opn byy twc szs sos ths)) E hw kin_X7 tyX7 tyX7_ok nmX7 0 rfl rfl 9 (by decide) kF_X7_97 rfl (v := .int 0) rfl rfl (Nat.le_of_ble_eq_true rfl) rfl dX7_erase_7 (fun H locs hw => ?_)
  refine lv_iload_n hx hb dX7_erase_10 rfl (lv_at hl 0 rfl) ?_
  subst hf
  exact x_iret E hw dX7_erase_11

def f_X7_letter (len : Int32) (plc : Int32) (txt : (Nat → Int32)) : Option (Int32) :=
  if len ≤ plc then
   some (-1)
  else
   if xin plc 200 then
   some (txt (Int32.toNatClampNeg plc))
   else none
set_option maxHeartbeats 4000000 in
set_option maxRecDepth 100000 in
theorem c_X7_letter {l : Launch} {D : va_G} {cI cZ cN cC : ClassId} {h0 h1 h2 h3 h4 h5 h6 h7 h8 h9 h10 h11 h12 h13 h14 h15 : Nat} {mn : Int32} {um : Int32} {len : Int32} {plc : Int32} {srt : Int32} {frm : Int32} {num : Int32} {wrg : Int32} {cm : Int32} {mpt : Int32} {st : (Nat → Int32)} {pst : (Nat → Int32)} {kep : (Nat → Int32)} {isk : (Nat → Int32)} {pil : (Nat → Int32)} {nxs : (Nat → Int32)} {txt : (Nat → Int32)} {cls : (Nat → Int32)} {asd : (Nat → Int32)} {opn : (Nat → Int32)} {byy : (Nat → Int32)} {twc : (Nat → Int32)} {szs : (Nat → Int32)} {sos : (Nat → Int32)} {ths : (Nat → Int32)}  {res : Int32} (hf : f_X7_letter len plc txt = some res) : xMet l D (xtys cI cZ cN cC) yX7_letter cX7_letter 1 (some .int) 0 0 [.ref h0] (wMod cI cZ cN cC h0 h1 h2 h3 h4 h5 h6 h7 h8 h9 h10 h11 h12 h13 h14 h15 mn um len plc srt frm num wrg cm mpt st pst kep isk pil nxs txt cls asd opn byy twc szs sos ths) (wMod cI cZ cN cC h0 h1 h2 h3 h4 h5 h6 h7 h8 h9 h10 h11 h12 h13 h14 h15 mn um len plc srt frm num wrg cm mpt st pst kep isk pil nxs txt cls asd opn byy twc szs sos ths) (some (.int res)) := by
  refine x_enter (by decide) (Nat.le_of_ble_eq_true rfl) ?_
  intro p e s m args below meth c E ls hl hw
  have E : xE p s m args meth c cX7_letter 1 (some .int) RX7 D (xtys cI cZ cN cC) (xA (wMod cI cZ cN cC h0 h1 h2 h3 h4 h5 h6 h7 h8 h9 h10 h11 h12 h13 h14 h15 mn um len plc srt frm num wrg cm mpt st pst kep isk pil nxs txt cls asd opn byy twc szs sos ths)) := E
  obtain ⟨hx, hb, -⟩ := id E
  have hl : lv_has ls 1 [(0, .ref h0)] := hl
  unfold f_X7_letter at hf
  refine lv_aload_n hx hb dX7_letter_0 rfl (lv_at hl 0 rfl) ?_
  refine x_get E hw kin_X7 0 rfl rfl 10 (by decide) kF_X7_100 (v := .int plc) rfl dX7_letter_1 ?_
  refine lv_aload_n hx hb dX7_letter_4 rfl (lv_at hl 0 rfl) ?_
  refine x_get E hw kin_X7 0 rfl rfl 9 (by decide) kF_X7_97 (v := .int len) rfl dX7_letter_5 ?_
  refine lv_icmp_ge (tgt := 23) hx hb dX7_letter_8 (by decide) (fun c1 => ?_) (fun c1 => ?_)
  · rw [if_pos c1] at hf
    refine lv_iconst (v := (-1)) hx hb dX7_letter_23 (by decide) ?_
    have hf := Option.some.inj hf; subst hf
    exact x_iret E hw dX7_letter_24
  · rw [if_neg c1] at hf
    refine lv_aload_n hx hb dX7_letter_11 rfl (lv_at hl 0 rfl) ?_
    refine x_get E hw kin_X7 0 rfl rfl 8 (by decide) kF_X7_32 (v := .ref h7) rfl dX7_letter_12 ?_
    refine lv_aload_n hx hb dX7_letter_15 rfl (lv_at hl 0 rfl) ?_
    refine x_get E hw kin_X7 0 rfl rfl 10 (by decide) kF_X7_100 (v := .int plc) rfl dX7_letter_16 ?_
    obtain ⟨g2, hf⟩ := xgd hf
    refine x_iald E hw 7 0 rfl rfl (xin_vp g2) dX7_letter_19 ?_
    refine lv_goto (tgt := 24) hx hb dX7_letter_20 (by decide) ?_
    have hf := Option.some.inj hf; subst hf
    exact x_iret E hw dX7_letter_24

def f_X7_next_173 (k128 : Int32 → Int32 → Option (Int32 × Int32 × Int32 × Int32)) (len : Int32) (plc : Int32) (num : Int32) (txt : (Nat → Int32)) : Option (Int32 × Int32 × Int32 × Int32) :=
  if 1000 ≤ num then
   k128 (plc + 1) num
  else
   (f_X7_letter len plc txt).bind fun q22 =>
   k128 (plc + 1) (((10 * num) + q22) - 48)
set_option maxHeartbeats 4000000 in
set_option maxRecDepth 100000 in
theorem b_X7_next_173 {p : Program} {l : Launch} {e : Env} {s : State} {m : MethodId} {args : Array Value} {below : List Frame} {meth : Method} {c : Code} {D : va_G} {cI cZ cN cC : ClassId} {ws0 : va_W} {h0 h1 h2 h3 h4 h5 h6 h7 h8 h9 h10 h11 h12 h13 h14 h15 : Nat} {mn : Int32} {um : Int32} {len : Int32} {plc : Int32} {srt : Int32} {frm : Int32} {num : Int32} {wrg : Int32} {cm : Int32} {mpt : Int32} {st : (Nat → Int32)} {pst : (Nat → Int32)} {kep : (Nat → Int32)} {isk : (Nat → Int32)} {pil : (Nat → Int32)} {nxs : (Nat → Int32)} {txt : (Nat → Int32)} {cls : (Nat → Int32)} {asd : (Nat → Int32)} {opn : (Nat → Int32)} {byy : (Nat → Int32)} {twc : (Nat → Int32)} {szs : (Nat → Int32)} {sos : (Nat → Int32)} {ths : (Nat → Int32)} {res : Int32 × Int32 × Int32 × Int32} (E : xE p s m args meth c cX7_next 2 none RX7 D (xtys cI cZ cN cC) (xA ws0)) {k128 : Int32 → Int32 → Option (Int32 × Int32 × Int32 × Int32)} (hk128 : ∀ (plc : Int32) (num : Int32), k128 plc num = some res → ∀ (H : Heap) (locs : List Loc) (ls : Array Slot), xw D (xA ws0) s.heap (wMod cI cZ cN cC h0 h1 h2 h3 h4 h5 h6 h7 h8 h9 h10 h11 h12 h13 h14 h15 mn um len plc srt frm num wrg cm mpt st pst kep isk pil nxs txt cls asd opn byy twc szs sos ths) H locs → lv_has ls 2 [(0, .ref h0)] → xG p l e 1 25 s m args below meth c D ws0 (wMod cI cZ cN cC h0 h1 h2 h3 h4 h5 h6 h7 h8 h9 h10 h11 h12 h13 h14 h15 mn um len res.1 res.2.1 res.2.2.1 res.2.2.2 wrg cm mpt st pst kep isk pil nxs txt cls asd opn byy twc szs sos ths) none H locs (F0 m 128 ls [])) : f_X7_next_173 k128 len plc num txt = some res → ∀ (H : Heap) (locs : List Loc) (ls : Array Slot), xw D (xA ws0) s.heap (wMod cI cZ cN cC h0 h1 h2 h3 h4 h5 h6 h7 h8 h9 h10 h11 h12 h13 h14 h15 mn um len plc srt frm num wrg cm mpt st pst kep isk pil nxs txt cls asd opn byy twc szs sos ths) H locs → lv_has ls 2 [(0, .ref h0)] → xG p l e 1 25 s m args below meth c D ws0 (wMod cI cZ cN cC h0 h1 h2 h3 h4 h5 h6 h7 h8 h9 h10 h11 h12 h13 h14 h15 mn um len res.1 res.2.1 res.2.2.1 res.2.2.2 wrg cm mpt st pst kep isk pil nxs txt cls asd opn byy twc szs sos ths) none H locs (F0 m 173 ls []) := by
  obtain ⟨hx, hb, -⟩ := id E
  intro hf H locs ls hw hl
  unfold f_X7_next_173 at hf
  refine lv_aload_n hx hb dX7_next_173 rfl (lv_at hl 0 rfl) ?_
  refine lv_aload_n hx hb dX7_next_174 rfl (lv_at hl 0 rfl) ?_
  refine x_get E hw kin_X7 0 rfl rfl 13 (by decide) kF_X7_121 (v := .int num) rfl dX7_next_175 ?_
  refine lv_sipush (v := 1000) hx hb dX7_next_178 (by decide) ?_
  refine lv_icmp_ge (tgt := 202) hx hb dX7_next_181 (by decide) (fun c21 => ?_) (fun c21 => ?_)
  · rw [if_pos c21] at hf
    refine lv_aload_n hx hb dX7_next_202 rfl (lv_at hl 0 rfl) ?_
    refine x_get E hw kin_X7 0 rfl rfl 13 (by decide) kF_X7_121 (v := .int num) rfl dX7_next_203 ?_
    refine x_put (ws' := (wMod cI cZ cN cC h0 h1 h2 h3 h4 h5 h6 h7 h8 h9 h10 h11 h12 h13 h14 h15 mn um len plc srt frm num wrg cm mpt st pst kep isk pil nxs txt cls asd opn byy twc szs sos ths)) E hw kin_X7 tyX7 tyX7_ok nmX7 0 rfl rfl 13 (by decide) kF_X7_121 rfl (v := .int num) rfl rfl (Nat.le_of_ble_eq_true rfl) rfl dX7_next_206 (fun H locs hw => ?_)
    refine lv_aload_n hx hb dX7_next_209 rfl (lv_at hl 0 rfl) ?_
    refine lv_dup hx hb dX7_next_210 rfl ?_
    refine x_get E hw kin_X7 0 rfl rfl 10 (by decide) kF_X7_100 (v := .int plc) rfl dX7_next_211 ?_
    refine lv_iconst (v := 1) hx hb dX7_next_214 (by decide) ?_
    refine lv_iadd hx hb dX7_next_215 ?_
    refine x_put (ws' := (wMod cI cZ cN cC h0 h1 h2 h3 h4 h5 h6 h7 h8 h9 h10 h11 h12 h13 h14 h15 mn um len (plc + 1) srt frm num wrg cm mpt st pst kep isk pil nxs txt cls asd opn byy twc szs sos ths)) E hw kin_X7 tyX7 tyX7_ok nmX7 0 rfl rfl 10 (by decide) kF_X7_100 rfl (v := .int (plc + 1)) rfl rfl (Nat.le_of_ble_eq_true rfl) rfl dX7_next_216 (fun H locs hw => ?_)
    refine lv_goto (tgt := 128) hx hb dX7_next_219 (by decide) ?_
    exact hk128 _ _ hf _ _ _ hw (lv_sub hl [0] rfl)
  · rw [if_neg c21] at hf
    refine lv_bipush (v := 10) hx hb dX7_next_184 (by decide) ?_
    refine lv_aload_n hx hb dX7_next_186 rfl (lv_at hl 0 rfl) ?_
    refine x_get E hw kin_X7 0 rfl rfl 13 (by decide) kF_X7_121 (v := .int num) rfl dX7_next_187 ?_
    refine lv_imul hx hb dX7_next_190 ?_
    refine lv_aload_n hx hb dX7_next_191 rfl (lv_at hl 0 rfl) ?_
    obtain ⟨q22, hq22, hf⟩ := Option.bind_eq_some_iff.mp hf
    refine x_callVI (ws' := (wMod cI cZ cN cC h0 h1 h2 h3 h4 h5 h6 h7 h8 h9 h10 h11 h12 h13 h14 h15 mn um len plc srt frm num wrg cm mpt st pst kep isk pil nxs txt cls asd opn byy twc szs sos ths)) (st1 := [.int q22, .int (10 * num), .ref h0]) (As := []) (rest := [.int (10 * num), .ref h0]) E hw vc_X7_103 (c_X7_letter (cI := cI) (cZ := cZ) (cN := cN) (cC := cC) (h0 := h0) (h1 := h1) (h2 := h2) (h3 := h3) (h4 := h4) (h5 := h5) (h6 := h6) (h7 := h7) (h8 := h8) (h9 := h9) (h10 := h10) (h11 := h11) (h12 := h12) (h13 := h13) (h14 := h14) (h15 := h15)  (mn := mn) (um := um) (len := len) (plc := plc) (srt := srt) (frm := frm) (num := num) (wrg := wrg) (cm := cm) (mpt := mpt) (st := st) (pst := pst) (kep := kep) (isk := isk) (pil := pil) (nxs := nxs) (txt := txt) (cls := cls) (asd := asd) (opn := opn) (byy := byy) (twc := twc) (szs := szs) (sos := sos) (ths := ths)  hq22) 0 7 rfl rfl rfl rfl rfl ⟨Nat.le_of_ble_eq_true rfl, Nat.le_of_ble_eq_true rfl⟩ ⟨Nat.le_refl _, Nat.le_refl _⟩ hl.1 rfl rfl (Nat.le_of_ble_eq_true rfl) dX7_next_192 (fun H locs hw => ?_)
    refine lv_iadd hx hb dX7_next_195 ?_
    refine lv_bipush (v := 48) hx hb dX7_next_196 (by decide) ?_
    refine lv_isub hx hb dX7_next_198 ?_
    refine lv_goto (tgt := 206) hx hb dX7_next_199 (by decide) ?_
    refine x_put (ws' := (wMod cI cZ cN cC h0 h1 h2 h3 h4 h5 h6 h7 h8 h9 h10 h11 h12 h13 h14 h15 mn um len plc srt frm (((10 * num) + q22) - 48) wrg cm mpt st pst kep isk pil nxs txt cls asd opn byy twc szs sos ths)) E hw kin_X7 tyX7 tyX7_ok nmX7 0 rfl rfl 13 (by decide) kF_X7_121 rfl (v := .int (((10 * num) + q22) - 48)) rfl rfl (Nat.le_of_ble_eq_true rfl) rfl dX7_next_206 (fun H locs hw => ?_)
    refine lv_aload_n hx hb dX7_next_209 rfl (lv_at hl 0 rfl) ?_
    refine lv_dup hx hb dX7_next_210 rfl ?_
    refine x_get E hw kin_X7 0 rfl rfl 10 (by decide) kF_X7_100 (v := .int plc) rfl dX7_next_211 ?_
    refine lv_iconst (v := 1) hx hb dX7_next_214 (by decide) ?_
    refine lv_iadd hx hb dX7_next_215 ?_
    refine x_put (ws' := (wMod cI cZ cN cC h0 h1 h2 h3 h4 h5 h6 h7 h8 h9 h10 h11 h12 h13 h14 h15 mn um len (plc + 1) srt frm (((10 * num) + q22) - 48) wrg cm mpt st pst kep isk pil nxs txt cls asd opn byy twc szs sos ths)) E hw kin_X7 tyX7 tyX7_ok nmX7 0 rfl rfl 10 (by decide) kF_X7_100 rfl (v := .int (plc + 1)) rfl rfl (Nat.le_of_ble_eq_true rfl) rfl dX7_next_216 (fun H locs hw => ?_)
    refine lv_goto (tgt := 128) hx hb dX7_next_219 (by decide) ?_
    exact hk128 _ _ hf _ _ _ hw (lv_sub hl [0] rfl)
def f_X7_next_128 (len : Int32) (srt : Int32) (frm : Int32) (txt : (Nat → Int32)) : Nat → Int32 → Int32 → Option (Int32 × Int32 × Int32 × Int32)
  | 0, _, _ => none
  | n + 1, plc, num =>
    if srt = 1 then
     (f_X7_letter len plc txt).bind fun q19 =>
     if (f_X7_in (Int32.toInt64 q19) 97 122) = 0 then
      some (plc, srt, frm, num)
     else
      f_X7_next_173 (fun plc num => f_X7_next_128 len srt frm txt n plc num) len plc num txt
    else
     (f_X7_letter len plc txt).bind fun q17 =>
     if (f_X7_in (Int32.toInt64 q17) 48 57) = 0 then
      some (plc, srt, frm, num)
     else
      f_X7_next_173 (fun plc num => f_X7_next_128 len srt frm txt n plc num) len plc num txt
set_option maxHeartbeats 4000000 in
set_option maxRecDepth 100000 in
theorem b_X7_next_128 {p : Program} {l : Launch} {e : Env} {s : State} {m : MethodId} {args : Array Value} {below : List Frame} {meth : Method} {c : Code} {D : va_G} {cI cZ cN cC : ClassId} {ws0 : va_W} {h0 h1 h2 h3 h4 h5 h6 h7 h8 h9 h10 h11 h12 h13 h14 h15 : Nat} {mn : Int32} {um : Int32} {len : Int32} {srt : Int32} {frm : Int32} {wrg : Int32} {cm : Int32} {mpt : Int32} {st : (Nat → Int32)} {pst : (Nat → Int32)} {kep : (Nat → Int32)} {isk : (Nat → Int32)} {pil : (Nat → Int32)} {nxs : (Nat → Int32)} {txt : (Nat → Int32)} {cls : (Nat → Int32)} {asd : (Nat → Int32)} {opn : (Nat → Int32)} {byy : (Nat → Int32)} {twc : (Nat → Int32)} {szs : (Nat → Int32)} {sos : (Nat → Int32)} {ths : (Nat → Int32)} {res : Int32 × Int32 × Int32 × Int32} (E : xE p s m args meth c cX7_next 2 none RX7 D (xtys cI cZ cN cC) (xA ws0)) : ∀ (n : Nat) (plc : Int32) (num : Int32), f_X7_next_128 len srt frm txt n plc num = some res → ∀ (H : Heap) (locs : List Loc) (ls : Array Slot), xw D (xA ws0) s.heap (wMod cI cZ cN cC h0 h1 h2 h3 h4 h5 h6 h7 h8 h9 h10 h11 h12 h13 h14 h15 mn um len plc srt frm num wrg cm mpt st pst kep isk pil nxs txt cls asd opn byy twc szs sos ths) H locs → lv_has ls 2 [(0, .ref h0)] → xG p l e 1 25 s m args below meth c D ws0 (wMod cI cZ cN cC h0 h1 h2 h3 h4 h5 h6 h7 h8 h9 h10 h11 h12 h13 h14 h15 mn um len res.1 res.2.1 res.2.2.1 res.2.2.2 wrg cm mpt st pst kep isk pil nxs txt cls asd opn byy twc szs sos ths) none H locs (F0 m 128 ls []) := by
  obtain ⟨hx, hb, -⟩ := id E
  intro n
  induction n with
  | zero =>
    intro _ _ hf
    rw [f_X7_next_128] at hf; cases hf
  | succ n ih =>
    intro plc num hf H locs ls hw hl
    rw [f_X7_next_128] at hf
    refine lv_aload_n hx hb dX7_next_128 rfl (lv_at hl 0 rfl) ?_
    refine x_get E hw kin_X7 0 rfl rfl 11 (by decide) kF_X7_118 (v := .int srt) rfl dX7_next_129 ?_
    refine lv_iconst (v := 1) hx hb dX7_next_132 (by decide) ?_
    refine lv_icmp_ne (tgt := 156) hx hb dX7_next_133 (by decide) (fun c16 => ?_) (fun c16 => ?_)
    · rw [if_neg c16] at hf
      refine lv_aload_n hx hb dX7_next_156 rfl (lv_at hl 0 rfl) ?_
      obtain ⟨q17, hq17, hf⟩ := Option.bind_eq_some_iff.mp hf
      refine x_callVI (ws' := (wMod cI cZ cN cC h0 h1 h2 h3 h4 h5 h6 h7 h8 h9 h10 h11 h12 h13 h14 h15 mn um len plc srt frm num wrg cm mpt st pst kep isk pil nxs txt cls asd opn byy twc szs sos ths)) (st1 := [.int q17]) (As := []) (rest := []) E hw vc_X7_103 (c_X7_letter (cI := cI) (cZ := cZ) (cN := cN) (cC := cC) (h0 := h0) (h1 := h1) (h2 := h2) (h3 := h3) (h4 := h4) (h5 := h5) (h6 := h6) (h7 := h7) (h8 := h8) (h9 := h9) (h10 := h10) (h11 := h11) (h12 := h12) (h13 := h13) (h14 := h14) (h15 := h15)  (mn := mn) (um := um) (len := len) (plc := plc) (srt := srt) (frm := frm) (num := num) (wrg := wrg) (cm := cm) (mpt := mpt) (st := st) (pst := pst) (kep := kep) (isk := isk) (pil := pil) (nxs := nxs) (txt := txt) (cls := cls) (asd := asd) (opn := opn) (byy := byy) (twc := twc) (szs := szs) (sos := sos) (ths := ths)  hq17) 0 7 rfl rfl rfl rfl rfl ⟨Nat.le_of_ble_eq_true rfl, Nat.le_of_ble_eq_true rfl⟩ ⟨Nat.le_refl _, Nat.le_refl _⟩ hl.1 rfl rfl (Nat.le_of_ble_eq_true rfl) dX7_next_157 (fun H locs hw => ?_)
      refine lv_i2l (v := (Int32.toInt64 q17)) hx hb dX7_next_160 rfl ?_
      refine lv_ldc2 hx hb E.2.2.2.2.1 (E.2.2.2.2.2.1.2.use kQ_X7_114) dX7_next_161 ?_
      refine lv_ldc2 hx hb E.2.2.2.2.1 (E.2.2.2.2.2.1.2.use kQ_X7_116) dX7_next_164 ?_
      refine x_callS (isC := []) (ws' := (wMod cI cZ cN cC h0 h1 h2 h3 h4 h5 h6 h7 h8 h9 h10 h11 h12 h13 h14 h15 mn um len plc srt frm num wrg cm mpt st pst kep isk pil nxs txt cls asd opn byy twc szs sos ths)) (st1 := [.int (f_X7_in (Int32.toInt64 q17) 48 57)]) (As := [.long (Int32.toInt64 q17), .long 48, .long 57]) (rest := []) E hw vc_X7_66 (c_X7_in (cI := cI) (cZ := cZ) (cN := cN) (cC := cC)    (x0 := (Int32.toInt64 q17)) (x2 := 48) (x4 := 57) rfl) rfl rfl rfl rfl rfl rfl ⟨Nat.le_of_ble_eq_true rfl, Nat.le_of_ble_eq_true rfl⟩ ⟨Nat.le_refl _, Nat.le_refl _⟩ hl.1 rfl rfl (Nat.le_of_ble_eq_true rfl) dX7_next_167 (fun H locs hw => ?_)
      refine lv_if_eq (tgt := 222) hx hb dX7_next_170 (by decide) (fun c18 => ?_) (fun c18 => ?_)
      · rw [if_pos c18] at hf
        have hf := Option.some.inj hf; subst hf
        exact x_vret E hw dX7_next_222
      · rw [if_neg c18] at hf
        exact b_X7_next_173 E ih  hf _ _ _ hw (lv_sub hl [0] rfl)
    · rw [if_pos c16] at hf
      refine lv_aload_n hx hb dX7_next_136 rfl (lv_at hl 0 rfl) ?_
      obtain ⟨q19, hq19, hf⟩ := Option.bind_eq_some_iff.mp hf
      refine x_callVI (ws' := (wMod cI cZ cN cC h0 h1 h2 h3 h4 h5 h6 h7 h8 h9 h10 h11 h12 h13 h14 h15 mn um len plc srt frm num wrg cm mpt st pst kep isk pil nxs txt cls asd opn byy twc szs sos ths)) (st1 := [.int q19]) (As := []) (rest := []) E hw vc_X7_103 (c_X7_letter (cI := cI) (cZ := cZ) (cN := cN) (cC := cC) (h0 := h0) (h1 := h1) (h2 := h2) (h3 := h3) (h4 := h4) (h5 := h5) (h6 := h6) (h7 := h7) (h8 := h8) (h9 := h9) (h10 := h10) (h11 := h11) (h12 := h12) (h13 := h13) (h14 := h14) (h15 := h15)  (mn := mn) (um := um) (len := len) (plc := plc) (srt := srt) (frm := frm) (num := num) (wrg := wrg) (cm := cm) (mpt := mpt) (st := st) (pst := pst) (kep := kep) (isk := isk) (pil := pil) (nxs := nxs) (txt := txt) (cls := cls) (asd := asd) (opn := opn) (byy := byy) (twc := twc) (szs := szs) (sos := sos) (ths := ths)  hq19) 0 7 rfl rfl rfl rfl rfl ⟨Nat.le_of_ble_eq_true rfl, Nat.le_of_ble_eq_true rfl⟩ ⟨Nat.le_refl _, Nat.le_refl _⟩ hl.1 rfl rfl (Nat.le_of_ble_eq_true rfl) dX7_next_137 (fun H locs hw => ?_)
      refine lv_i2l (v := (Int32.toInt64 q19)) hx hb dX7_next_140 rfl ?_
      refine lv_ldc2 hx hb E.2.2.2.2.1 (E.2.2.2.2.2.1.2.use kQ_X7_110) dX7_next_141 ?_
      refine lv_ldc2 hx hb E.2.2.2.2.1 (E.2.2.2.2.2.1.2.use kQ_X7_112) dX7_next_144 ?_
      refine x_callS (isC := []) (ws' := (wMod cI cZ cN cC h0 h1 h2 h3 h4 h5 h6 h7 h8 h9 h10 h11 h12 h13 h14 h15 mn um len plc srt frm num wrg cm mpt st pst kep isk pil nxs txt cls asd opn byy twc szs sos ths)) (st1 := [.int (f_X7_in (Int32.toInt64 q19) 97 122)]) (As := [.long (Int32.toInt64 q19), .long 97, .long 122]) (rest := []) E hw vc_X7_66 (c_X7_in (cI := cI) (cZ := cZ) (cN := cN) (cC := cC)    (x0 := (Int32.toInt64 q19)) (x2 := 97) (x4 := 122) rfl) rfl rfl rfl rfl rfl rfl ⟨Nat.le_of_ble_eq_true rfl, Nat.le_of_ble_eq_true rfl⟩ ⟨Nat.le_refl _, Nat.le_refl _⟩ hl.1 rfl rfl (Nat.le_of_ble_eq_true rfl) dX7_next_147 (fun H locs hw => ?_)
      refine lv_if_eq (tgt := 222) hx hb dX7_next_150 (by decide) (fun c20 => ?_) (fun c20 => ?_)
      · rw [if_pos c20] at hf
        have hf := Option.some.inj hf; subst hf
        exact x_vret E hw dX7_next_222
      · rw [if_neg c20] at hf
        refine lv_goto (tgt := 173) hx hb dX7_next_153 (by decide) ?_
        exact b_X7_next_173 E ih  hf _ _ _ hw (lv_sub hl [0] rfl)
def f_X7_next_85 (N : Nat) (x1 : Int32) (t0 : Int32) (len : Int32) (plc : Int32) (frm : Int32) (txt : (Nat → Int32)) : Option (Int32 × Int32 × Int32 × Int32) :=
  if t0 = 1 then
   f_X7_next_128 len t0 frm txt N plc 0
  else
   if t0 = 2 then
    f_X7_next_128 len t0 frm txt N plc 0
   else
    if 0 ≤ x1 then
     some ((plc + 1), t0, frm, 0)
    else
     some ((plc + 0), t0, frm, 0)
set_option maxHeartbeats 4000000 in
set_option maxRecDepth 100000 in
theorem b_X7_next_85 {p : Program} {l : Launch} {e : Env} {s : State} {m : MethodId} {args : Array Value} {below : List Frame} {meth : Method} {c : Code} {D : va_G} {cI cZ cN cC : ClassId} {ws0 : va_W} {h0 h1 h2 h3 h4 h5 h6 h7 h8 h9 h10 h11 h12 h13 h14 h15 : Nat} {x1 : Int32} {t0 : Int32} {mn : Int32} {um : Int32} {len : Int32} {plc : Int32} {srt : Int32} {frm : Int32} {num : Int32} {wrg : Int32} {cm : Int32} {mpt : Int32} {st : (Nat → Int32)} {pst : (Nat → Int32)} {kep : (Nat → Int32)} {isk : (Nat → Int32)} {pil : (Nat → Int32)} {nxs : (Nat → Int32)} {txt : (Nat → Int32)} {cls : (Nat → Int32)} {asd : (Nat → Int32)} {opn : (Nat → Int32)} {byy : (Nat → Int32)} {twc : (Nat → Int32)} {szs : (Nat → Int32)} {sos : (Nat → Int32)} {ths : (Nat → Int32)} {N : Nat} {res : Int32 × Int32 × Int32 × Int32} (E : xE p s m args meth c cX7_next 2 none RX7 D (xtys cI cZ cN cC) (xA ws0)) : f_X7_next_85 N x1 t0 len plc frm txt = some res → ∀ (H : Heap) (locs : List Loc) (ls : Array Slot), xw D (xA ws0) s.heap (wMod cI cZ cN cC h0 h1 h2 h3 h4 h5 h6 h7 h8 h9 h10 h11 h12 h13 h14 h15 mn um len plc srt frm num wrg cm mpt st pst kep isk pil nxs txt cls asd opn byy twc szs sos ths) H locs → lv_has ls 2 [(0, .ref h0), (1, .int x1)] → xG p l e 1 25 s m args below meth c D ws0 (wMod cI cZ cN cC h0 h1 h2 h3 h4 h5 h6 h7 h8 h9 h10 h11 h12 h13 h14 h15 mn um len res.1 res.2.1 res.2.2.1 res.2.2.2 wrg cm mpt st pst kep isk pil nxs txt cls asd opn byy twc szs sos ths) none H locs (F0 m 85 ls [.int t0, .ref h0]) := by
  obtain ⟨hx, hb, -⟩ := id E
  intro hf H locs ls hw hl
  unfold f_X7_next_85 at hf
  refine x_put (ws' := (wMod cI cZ cN cC h0 h1 h2 h3 h4 h5 h6 h7 h8 h9 h10 h11 h12 h13 h14 h15 mn um len plc t0 frm num wrg cm mpt st pst kep isk pil nxs txt cls asd opn byy twc szs sos ths)) E hw kin_X7 tyX7 tyX7_ok nmX7 0 rfl rfl 11 (by decide) kF_X7_118 rfl (v := .int t0) rfl rfl (Nat.le_of_ble_eq_true rfl) rfl dX7_next_85 (fun H locs hw => ?_)
  refine lv_aload_n hx hb dX7_next_88 rfl (lv_at hl 0 rfl) ?_
  refine lv_iconst (v := 0) hx hb dX7_next_89 (by decide) ?_
  refine x_put (ws' := (wMod cI cZ cN cC h0 h1 h2 h3 h4 h5 h6 h7 h8 h9 h10 h11 h12 h13 h14 h15 mn um len plc t0 frm 0 wrg cm mpt st pst kep isk pil nxs txt cls asd opn byy twc szs sos ths)) E hw kin_X7 tyX7 tyX7_ok nmX7 0 rfl rfl 13 (by decide) kF_X7_121 rfl (v := .int 0) rfl rfl (Nat.le_of_ble_eq_true rfl) rfl dX7_next_90 (fun H locs hw => ?_)
  refine lv_aload_n hx hb dX7_next_93 rfl (lv_at hl 0 rfl) ?_
  refine x_get E hw kin_X7 0 rfl rfl 11 (by decide) kF_X7_118 (v := .int t0) rfl dX7_next_94 ?_
  refine lv_iconst (v := 1) hx hb dX7_next_97 (by decide) ?_
  refine lv_icmp_eq (tgt := 128) hx hb dX7_next_98 (by decide) (fun c7 => ?_) (fun c7 => ?_)
  · rw [if_pos c7] at hf
    exact b_X7_next_128 E N _ _ hf _ _ _ hw (lv_sub hl [0] rfl)
  · rw [if_neg c7] at hf
    refine lv_aload_n hx hb dX7_next_101 rfl (lv_at hl 0 rfl) ?_
    refine x_get E hw kin_X7 0 rfl rfl 11 (by decide) kF_X7_118 (v := .int t0) rfl dX7_next_102 ?_
    refine lv_iconst (v := 2) hx hb dX7_next_105 (by decide) ?_
    refine lv_icmp_eq (tgt := 128) hx hb dX7_next_106 (by decide) (fun c8 => ?_) (fun c8 => ?_)
    · rw [if_pos c8] at hf
      exact b_X7_next_128 E N _ _ hf _ _ _ hw (lv_sub hl [0] rfl)
    · rw [if_neg c8] at hf
      refine lv_aload_n hx hb dX7_next_109 rfl (lv_at hl 0 rfl) ?_
      refine lv_dup hx hb dX7_next_110 rfl ?_
      refine x_get E hw kin_X7 0 rfl rfl 10 (by decide) kF_X7_100 (v := .int plc) rfl dX7_next_111 ?_
      refine lv_iload_n hx hb dX7_next_114 rfl (lv_at hl 1 rfl) ?_
      refine lv_if_ge (tgt := 122) hx hb dX7_next_115 (by decide) (fun c9 => ?_) (fun c9 => ?_)
      · rw [if_pos c9] at hf
        refine lv_iconst (v := 1) hx hb dX7_next_122 (by decide) ?_
        refine lv_iadd hx hb dX7_next_123 ?_
        refine x_put (ws' := (wMod cI cZ cN cC h0 h1 h2 h3 h4 h5 h6 h7 h8 h9 h10 h11 h12 h13 h14 h15 mn um len (plc + 1) t0 frm 0 wrg cm mpt st pst kep isk pil nxs txt cls asd opn byy twc szs sos ths)) E hw kin_X7 tyX7 tyX7_ok nmX7 0 rfl rfl 10 (by decide) kF_X7_100 rfl (v := .int (plc + 1)) rfl rfl (Nat.le_of_ble_eq_true rfl) rfl dX7_next_124 (fun H locs hw => ?_)
        have hf := Option.some.inj hf; subst hf
        exact x_vret E hw dX7_next_127
      · rw [if_neg c9] at hf
        refine lv_iconst (v := 0) hx hb dX7_next_118 (by decide) ?_
        refine lv_goto (tgt := 123) hx hb dX7_next_119 (by decide) ?_
        refine lv_iadd hx hb dX7_next_123 ?_
        refine x_put (ws' := (wMod cI cZ cN cC h0 h1 h2 h3 h4 h5 h6 h7 h8 h9 h10 h11 h12 h13 h14 h15 mn um len (plc + 0) t0 frm 0 wrg cm mpt st pst kep isk pil nxs txt cls asd opn byy twc szs sos ths)) E hw kin_X7 tyX7 tyX7_ok nmX7 0 rfl rfl 10 (by decide) kF_X7_100 rfl (v := .int (plc + 0)) rfl rfl (Nat.le_of_ble_eq_true rfl) rfl dX7_next_124 (fun H locs hw => ?_)
        have hf := Option.some.inj hf; subst hf
        exact x_vret E hw dX7_next_127
def f_X7_next_0 (N : Nat) (len : Int32) (txt : (Nat → Int32)) : Nat → Int32 → Option (Int32 × Int32 × Int32 × Int32)
  | 0, _ => none
  | n + 1, plc =>
    (f_X7_letter len plc txt).bind fun q10 =>
    if q10 = 32 then
     f_X7_next_0 N len txt n (plc + 1)
    else
     (f_X7_letter len plc txt).bind fun q12 =>
     if 0 ≤ q12 then
      if (f_X7_in (Int32.toInt64 q12) 97 122) = 0 then
       if (f_X7_in (Int32.toInt64 q12) 48 57) = 0 then
        f_X7_next_85 N q12 (q12 - 1000) len plc plc txt
       else
        f_X7_next_85 N q12 2 len plc plc txt
      else
       f_X7_next_85 N q12 1 len plc plc txt
     else
      f_X7_next_85 N q12 0 len plc plc txt
set_option maxHeartbeats 4000000 in
set_option maxRecDepth 100000 in
theorem b_X7_next_0 {p : Program} {l : Launch} {e : Env} {s : State} {m : MethodId} {args : Array Value} {below : List Frame} {meth : Method} {c : Code} {D : va_G} {cI cZ cN cC : ClassId} {ws0 : va_W} {h0 h1 h2 h3 h4 h5 h6 h7 h8 h9 h10 h11 h12 h13 h14 h15 : Nat} {mn : Int32} {um : Int32} {len : Int32} {srt : Int32} {frm : Int32} {num : Int32} {wrg : Int32} {cm : Int32} {mpt : Int32} {st : (Nat → Int32)} {pst : (Nat → Int32)} {kep : (Nat → Int32)} {isk : (Nat → Int32)} {pil : (Nat → Int32)} {nxs : (Nat → Int32)} {txt : (Nat → Int32)} {cls : (Nat → Int32)} {asd : (Nat → Int32)} {opn : (Nat → Int32)} {byy : (Nat → Int32)} {twc : (Nat → Int32)} {szs : (Nat → Int32)} {sos : (Nat → Int32)} {ths : (Nat → Int32)} {N : Nat} {res : Int32 × Int32 × Int32 × Int32} (E : xE p s m args meth c cX7_next 2 none RX7 D (xtys cI cZ cN cC) (xA ws0)) : ∀ (n : Nat) (plc : Int32), f_X7_next_0 N len txt n plc = some res → ∀ (H : Heap) (locs : List Loc) (ls : Array Slot), xw D (xA ws0) s.heap (wMod cI cZ cN cC h0 h1 h2 h3 h4 h5 h6 h7 h8 h9 h10 h11 h12 h13 h14 h15 mn um len plc srt frm num wrg cm mpt st pst kep isk pil nxs txt cls asd opn byy twc szs sos ths) H locs → lv_has ls 2 [(0, .ref h0)] → xG p l e 1 25 s m args below meth c D ws0 (wMod cI cZ cN cC h0 h1 h2 h3 h4 h5 h6 h7 h8 h9 h10 h11 h12 h13 h14 h15 mn um len res.1 res.2.1 res.2.2.1 res.2.2.2 wrg cm mpt st pst kep isk pil nxs txt cls asd opn byy twc szs sos ths) none H locs (F0 m 0 ls []) := by
  obtain ⟨hx, hb, -⟩ := id E
  intro n
  induction n with
  | zero =>
    intro _ hf
    rw [f_X7_next_0] at hf; cases hf
  | succ n ih =>
    intro plc hf H locs ls hw hl
    rw [f_X7_next_0] at hf
    refine lv_aload_n hx hb dX7_next_0 rfl (lv_at hl 0 rfl) ?_
    obtain ⟨q10, hq10, hf⟩ := Option.bind_eq_some_iff.mp hf
    refine x_callVI (ws' := (wMod cI cZ cN cC h0 h1 h2 h3 h4 h5 h6 h7 h8 h9 h10 h11 h12 h13 h14 h15 mn um len plc srt frm num wrg cm mpt st pst kep isk pil nxs txt cls asd opn byy twc szs sos ths)) (st1 := [.int q10]) (As := []) (rest := []) E hw vc_X7_103 (c_X7_letter (cI := cI) (cZ := cZ) (cN := cN) (cC := cC) (h0 := h0) (h1 := h1) (h2 := h2) (h3 := h3) (h4 := h4) (h5 := h5) (h6 := h6) (h7 := h7) (h8 := h8) (h9 := h9) (h10 := h10) (h11 := h11) (h12 := h12) (h13 := h13) (h14 := h14) (h15 := h15)  (mn := mn) (um := um) (len := len) (plc := plc) (srt := srt) (frm := frm) (num := num) (wrg := wrg) (cm := cm) (mpt := mpt) (st := st) (pst := pst) (kep := kep) (isk := isk) (pil := pil) (nxs := nxs) (txt := txt) (cls := cls) (asd := asd) (opn := opn) (byy := byy) (twc := twc) (szs := szs) (sos := sos) (ths := ths)  hq10) 0 7 rfl rfl rfl rfl rfl ⟨Nat.le_of_ble_eq_true rfl, Nat.le_of_ble_eq_true rfl⟩ ⟨Nat.le_refl _, Nat.le_refl _⟩ hl.1 rfl rfl (Nat.le_of_ble_eq_true rfl) dX7_next_1 (fun H locs hw => ?_)
    refine lv_bipush (v := 32) hx hb dX7_next_4 (by decide) ?_
    refine lv_icmp_ne (tgt := 22) hx hb dX7_next_6 (by decide) (fun c11 => ?_) (fun c11 => ?_)
    · rw [if_neg c11] at hf
      refine lv_aload_n hx hb dX7_next_22 rfl (lv_at hl 0 rfl) ?_
      refine lv_aload_n hx hb dX7_next_23 rfl (lv_at hl 0 rfl) ?_
      refine x_get E hw kin_X7 0 rfl rfl 10 (by decide) kF_X7_100 (v := .int plc) rfl dX7_next_24 ?_
      refine x_put (ws' := (wMod cI cZ cN cC h0 h1 h2 h3 h4 h5 h6 h7 h8 h9 h10 h11 h12 h13 h14 h15 mn um len plc srt plc num wrg cm mpt st pst kep isk pil nxs txt cls asd opn byy twc szs sos ths)) E hw kin_X7 tyX7 tyX7_ok nmX7 0 rfl rfl 12 (by decide) kF_X7_107 rfl (v := .int plc) rfl rfl (Nat.le_of_ble_eq_true rfl) rfl dX7_next_27 (fun H locs hw => ?_)
      refine lv_aload_n hx hb dX7_next_30 rfl (lv_at hl 0 rfl) ?_
      obtain ⟨q12, hq12, hf⟩ := Option.bind_eq_some_iff.mp hf
      refine x_callVI (ws' := (wMod cI cZ cN cC h0 h1 h2 h3 h4 h5 h6 h7 h8 h9 h10 h11 h12 h13 h14 h15 mn um len plc srt plc num wrg cm mpt st pst kep isk pil nxs txt cls asd opn byy twc szs sos ths)) (st1 := [.int q12]) (As := []) (rest := []) E hw vc_X7_103 (c_X7_letter (cI := cI) (cZ := cZ) (cN := cN) (cC := cC) (h0 := h0) (h1 := h1) (h2 := h2) (h3 := h3) (h4 := h4) (h5 := h5) (h6 := h6) (h7 := h7) (h8 := h8) (h9 := h9) (h10 := h10) (h11 := h11) (h12 := h12) (h13 := h13) (h14 := h14) (h15 := h15)  (mn := mn) (um := um) (len := len) (plc := plc) (srt := srt) (frm := plc) (num := num) (wrg := wrg) (cm := cm) (mpt := mpt) (st := st) (pst := pst) (kep := kep) (isk := isk) (pil := pil) (nxs := nxs) (txt := txt) (cls := cls) (asd := asd) (opn := opn) (byy := byy) (twc := twc) (szs := szs) (sos := sos) (ths := ths)  hq12) 0 7 rfl rfl rfl rfl rfl ⟨Nat.le_of_ble_eq_true rfl, Nat.le_of_ble_eq_true rfl⟩ ⟨Nat.le_refl _, Nat.le_refl _⟩ hl.1 rfl rfl (Nat.le_of_ble_eq_true rfl) dX7_next_31 (fun H locs hw => ?_)
      refine lv_istore_n (lv' := [(1, .int q12), (0, .ref h0)]) hx hb dX7_next_34 rfl hl (by decide) rfl (fun ls hl => ?_)
      refine lv_aload_n hx hb dX7_next_35 rfl (lv_at hl 1 rfl) ?_
      refine lv_iload_n hx hb dX7_next_36 rfl (lv_at hl 0 rfl) ?_
      refine lv_if_ge (tgt := 44) hx hb dX7_next_37 (by decide) (fun c13 => ?_) (fun c13 => ?_)
      · rw [if_pos c13] at hf
        refine lv_iload_n hx hb dX7_next_44 rfl (lv_at hl 0 rfl) ?_
        refine lv_i2l (v := (Int32.toInt64 q12)) hx hb dX7_next_45 rfl ?_
        refine lv_ldc2 hx hb E.2.2.2.2.1 (E.2.2.2.2.2.1.2.use kQ_X7_110) dX7_next_46 ?_
        refine lv_ldc2 hx hb E.2.2.2.2.1 (E.2.2.2.2.2.1.2.use kQ_X7_112) dX7_next_49 ?_
        refine x_callS (isC := []) (ws' := (wMod cI cZ cN cC h0 h1 h2 h3 h4 h5 h6 h7 h8 h9 h10 h11 h12 h13 h14 h15 mn um len plc srt plc num wrg cm mpt st pst kep isk pil nxs txt cls asd opn byy twc szs sos ths)) (st1 := [.int (f_X7_in (Int32.toInt64 q12) 97 122), .ref h0]) (As := [.long (Int32.toInt64 q12), .long 97, .long 122]) (rest := [.ref h0]) E hw vc_X7_66 (c_X7_in (cI := cI) (cZ := cZ) (cN := cN) (cC := cC)    (x0 := (Int32.toInt64 q12)) (x2 := 97) (x4 := 122) rfl) rfl rfl rfl rfl rfl rfl ⟨Nat.le_of_ble_eq_true rfl, Nat.le_of_ble_eq_true rfl⟩ ⟨Nat.le_refl _, Nat.le_refl _⟩ hl.1 rfl rfl (Nat.le_of_ble_eq_true rfl) dX7_next_52 (fun H locs hw => ?_)
        refine lv_if_eq (tgt := 62) hx hb dX7_next_55 (by decide) (fun c14 => ?_) (fun c14 => ?_)
        · rw [if_pos c14] at hf
          refine lv_iload_n hx hb dX7_next_62 rfl (lv_at hl 0 rfl) ?_
          refine lv_i2l (v := (Int32.toInt64 q12)) hx hb dX7_next_63 rfl ?_
          refine lv_ldc2 hx hb E.2.2.2.2.1 (E.2.2.2.2.2.1.2.use kQ_X7_114) dX7_next_64 ?_
          refine lv_ldc2 hx hb E.2.2.2.2.1 (E.2.2.2.2.2.1.2.use kQ_X7_116) dX7_next_67 ?_
          refine x_callS (isC := []) (ws' := (wMod cI cZ cN cC h0 h1 h2 h3 h4 h5 h6 h7 h8 h9 h10 h11 h12 h13 h14 h15 mn um len plc srt plc num wrg cm mpt st pst kep isk pil nxs txt cls asd opn byy twc szs sos ths)) (st1 := [.int (f_X7_in (Int32.toInt64 q12) 48 57), .ref h0]) (As := [.long (Int32.toInt64 q12), .long 48, .long 57]) (rest := [.ref h0]) E hw vc_X7_66 (c_X7_in (cI := cI) (cZ := cZ) (cN := cN) (cC := cC)    (x0 := (Int32.toInt64 q12)) (x2 := 48) (x4 := 57) rfl) rfl rfl rfl rfl rfl rfl ⟨Nat.le_of_ble_eq_true rfl, Nat.le_of_ble_eq_true rfl⟩ ⟨Nat.le_refl _, Nat.le_refl _⟩ hl.1 rfl rfl (Nat.le_of_ble_eq_true rfl) dX7_next_70 (fun H locs hw => ?_)
          refine lv_if_eq (tgt := 80) hx hb dX7_next_73 (by decide) (fun c15 => ?_) (fun c15 => ?_)
          · rw [if_pos c15] at hf
            refine lv_iload_n hx hb dX7_next_80 rfl (lv_at hl 0 rfl) ?_
            refine lv_sipush (v := 1000) hx hb dX7_next_81 (by decide) ?_
            refine lv_isub hx hb dX7_next_84 ?_
            exact b_X7_next_85 E  hf _ _ _ hw (lv_sub hl [1, 0] rfl)
          · rw [if_neg c15] at hf
            refine lv_iconst (v := 2) hx hb dX7_next_76 (by decide) ?_
            refine lv_goto (tgt := 85) hx hb dX7_next_77 (by decide) ?_
            exact b_X7_next_85 E  hf _ _ _ hw (lv_sub hl [1, 0] rfl)
        · rw [if_neg c14] at hf
          refine lv_iconst (v := 1) hx hb dX7_next_58 (by decide) ?_
          refine lv_goto (tgt := 85) hx hb dX7_next_59 (by decide) ?_
          exact b_X7_next_85 E  hf _ _ _ hw (lv_sub hl [1, 0] rfl)
      · rw [if_neg c13] at hf
        refine lv_iconst (v := 0) hx hb dX7_next_40 (by decide) ?_
        refine lv_goto (tgt := 85) hx hb dX7_next_41 (by decide) ?_
        exact b_X7_next_85 E  hf _ _ _ hw (lv_sub hl [1, 0] rfl)
    · rw [if_pos c11] at hf
      refine lv_aload_n hx hb dX7_next_9 rfl (lv_at hl 0 rfl) ?_
      refine lv_dup hx hb dX7_next_10 rfl ?_
      refine x_get E hw kin_X7 0 rfl rfl 10 (by decide) kF_X7_100 (v := .int plc) rfl dX7_next_11 ?_
      refine lv_iconst (v := 1) hx hb dX7_next_14 (by decide) ?_
      refine lv_iadd hx hb dX7_next_15 ?_
      refine x_put (ws' := (wMod cI cZ cN cC h0 h1 h2 h3 h4 h5 h6 h7 h8 h9 h10 h11 h12 h13 h14 h15 mn um len (plc + 1) srt frm num wrg cm mpt st pst kep isk pil nxs txt cls asd opn byy twc szs sos ths)) E hw kin_X7 tyX7 tyX7_ok nmX7 0 rfl rfl 10 (by decide) kF_X7_100 rfl (v := .int (plc + 1)) rfl rfl (Nat.le_of_ble_eq_true rfl) rfl dX7_next_16 (fun H locs hw => ?_)
      refine lv_goto (tgt := 0) hx hb dX7_next_19 (by decide) ?_
      exact ih _ hf _ _ _ hw (lv_sub hl [0] rfl)
def f_X7_next (N : Nat) (len : Int32) (plc : Int32) (txt : (Nat → Int32)) : Option (Int32 × Int32 × Int32 × Int32) :=
  (f_X7_letter len plc txt).bind fun q1 =>
  if q1 = 32 then
   f_X7_next_0 N len txt N (plc + 1)
  else
   (f_X7_letter len plc txt).bind fun q3 =>
   if 0 ≤ q3 then
    if (f_X7_in (Int32.toInt64 q3) 97 122) = 0 then
     if (f_X7_in (Int32.toInt64 q3) 48 57) = 0 then
      f_X7_next_85 N q3 (q3 - 1000) len plc plc txt
     else
      f_X7_next_85 N q3 2 len plc plc txt
    else
     f_X7_next_85 N q3 1 len plc plc txt
   else
    f_X7_next_85 N q3 0 len plc plc txt
set_option maxHeartbeats 4000000 in
set_option maxRecDepth 100000 in
theorem c_X7_next {l : Launch} {D : va_G} {cI cZ cN cC : ClassId} {h0 h1 h2 h3 h4 h5 h6 h7 h8 h9 h10 h11 h12 h13 h14 h15 : Nat} {mn : Int32} {um : Int32} {len : Int32} {plc : Int32} {srt : Int32} {frm : Int32} {num : Int32} {wrg : Int32} {cm : Int32} {mpt : Int32} {st : (Nat → Int32)} {pst : (Nat → Int32)} {kep : (Nat → Int32)} {isk : (Nat → Int32)} {pil : (Nat → Int32)} {nxs : (Nat → Int32)} {txt : (Nat → Int32)} {cls : (Nat → Int32)} {asd : (Nat → Int32)} {opn : (Nat → Int32)} {byy : (Nat → Int32)} {twc : (Nat → Int32)} {szs : (Nat → Int32)} {sos : (Nat → Int32)} {ths : (Nat → Int32)}  {N : Nat} {res : Int32 × Int32 × Int32 × Int32} (hf : f_X7_next N len plc txt = some res) : xMet l D (xtys cI cZ cN cC) yX7_next cX7_next 2 none 1 25 [.ref h0] (wMod cI cZ cN cC h0 h1 h2 h3 h4 h5 h6 h7 h8 h9 h10 h11 h12 h13 h14 h15 mn um len plc srt frm num wrg cm mpt st pst kep isk pil nxs txt cls asd opn byy twc szs sos ths) (wMod cI cZ cN cC h0 h1 h2 h3 h4 h5 h6 h7 h8 h9 h10 h11 h12 h13 h14 h15 mn um len res.1 res.2.1 res.2.2.1 res.2.2.2 wrg cm mpt st pst kep isk pil nxs txt cls asd opn byy twc szs sos ths) none := by
  refine x_enter (by decide) (Nat.le_of_ble_eq_true rfl) ?_
  intro p e s m args below meth c E ls hl hw
  have E : xE p s m args meth c cX7_next 2 none RX7 D (xtys cI cZ cN cC) (xA (wMod cI cZ cN cC h0 h1 h2 h3 h4 h5 h6 h7 h8 h9 h10 h11 h12 h13 h14 h15 mn um len plc srt frm num wrg cm mpt st pst kep isk pil nxs txt cls asd opn byy twc szs sos ths)) := E
  obtain ⟨hx, hb, -⟩ := id E
  have hl : lv_has ls 2 [(0, .ref h0)] := hl
  unfold f_X7_next at hf
  refine lv_aload_n hx hb dX7_next_0 rfl (lv_at hl 0 rfl) ?_
  obtain ⟨q1, hq1, hf⟩ := Option.bind_eq_some_iff.mp hf
  refine x_callVI (ws' := (wMod cI cZ cN cC h0 h1 h2 h3 h4 h5 h6 h7 h8 h9 h10 h11 h12 h13 h14 h15 mn um len plc srt frm num wrg cm mpt st pst kep isk pil nxs txt cls asd opn byy twc szs sos ths)) (st1 := [.int q1]) (As := []) (rest := []) E hw vc_X7_103 (c_X7_letter (cI := cI) (cZ := cZ) (cN := cN) (cC := cC) (h0 := h0) (h1 := h1) (h2 := h2) (h3 := h3) (h4 := h4) (h5 := h5) (h6 := h6) (h7 := h7) (h8 := h8) (h9 := h9) (h10 := h10) (h11 := h11) (h12 := h12) (h13 := h13) (h14 := h14) (h15 := h15)  (mn := mn) (um := um) (len := len) (plc := plc) (srt := srt) (frm := frm) (num := num) (wrg := wrg) (cm := cm) (mpt := mpt) (st := st) (pst := pst) (kep := kep) (isk := isk) (pil := pil) (nxs := nxs) (txt := txt) (cls := cls) (asd := asd) (opn := opn) (byy := byy) (twc := twc) (szs := szs) (sos := sos) (ths := ths)  hq1) 0 7 rfl rfl rfl rfl rfl ⟨Nat.le_of_ble_eq_true rfl, Nat.le_of_ble_eq_true rfl⟩ ⟨Nat.le_refl _, Nat.le_refl _⟩ hl.1 rfl rfl (Nat.le_of_ble_eq_true rfl) dX7_next_1 (fun H locs hw => ?_)
  refine lv_bipush (v := 32) hx hb dX7_next_4 (by decide) ?_
  refine lv_icmp_ne (tgt := 22) hx hb dX7_next_6 (by decide) (fun c2 => ?_) (fun c2 => ?_)
  · rw [if_neg c2] at hf
    refine lv_aload_n hx hb dX7_next_22 rfl (lv_at hl 0 rfl) ?_
    refine lv_aload_n hx hb dX7_next_23 rfl (lv_at hl 0 rfl) ?_
    refine x_get E hw kin_X7 0 rfl rfl 10 (by decide) kF_X7_100 (v := .int plc) rfl dX7_next_24 ?_
    refine x_put (ws' := (wMod cI cZ cN cC h0 h1 h2 h3 h4 h5 h6 h7 h8 h9 h10 h11 h12 h13 h14 h15 mn um len plc srt plc num wrg cm mpt st pst kep isk pil nxs txt cls asd opn byy twc szs sos ths)) E hw kin_X7 tyX7 tyX7_ok nmX7 0 rfl rfl 12 (by decide) kF_X7_107 rfl (v := .int plc) rfl rfl (Nat.le_of_ble_eq_true rfl) rfl dX7_next_27 (fun H locs hw => ?_)
    refine lv_aload_n hx hb dX7_next_30 rfl (lv_at hl 0 rfl) ?_
    obtain ⟨q3, hq3, hf⟩ := Option.bind_eq_some_iff.mp hf
    refine x_callVI (ws' := (wMod cI cZ cN cC h0 h1 h2 h3 h4 h5 h6 h7 h8 h9 h10 h11 h12 h13 h14 h15 mn um len plc srt plc num wrg cm mpt st pst kep isk pil nxs txt cls asd opn byy twc szs sos ths)) (st1 := [.int q3]) (As := []) (rest := []) E hw vc_X7_103 (c_X7_letter (cI := cI) (cZ := cZ) (cN := cN) (cC := cC) (h0 := h0) (h1 := h1) (h2 := h2) (h3 := h3) (h4 := h4) (h5 := h5) (h6 := h6) (h7 := h7) (h8 := h8) (h9 := h9) (h10 := h10) (h11 := h11) (h12 := h12) (h13 := h13) (h14 := h14) (h15 := h15)  (mn := mn) (um := um) (len := len) (plc := plc) (srt := srt) (frm := plc) (num := num) (wrg := wrg) (cm := cm) (mpt := mpt) (st := st) (pst := pst) (kep := kep) (isk := isk) (pil := pil) (nxs := nxs) (txt := txt) (cls := cls) (asd := asd) (opn := opn) (byy := byy) (twc := twc) (szs := szs) (sos := sos) (ths := ths)  hq3) 0 7 rfl rfl rfl rfl rfl ⟨Nat.le_of_ble_eq_true rfl, Nat.le_of_ble_eq_true rfl⟩ ⟨Nat.le_refl _, Nat.le_refl _⟩ hl.1 rfl rfl (Nat.le_of_ble_eq_true rfl) dX7_next_31 (fun H locs hw => ?_)
    refine lv_istore_n (lv' := [(1, .int q3), (0, .ref h0)]) hx hb dX7_next_34 rfl hl (by decide) rfl (fun ls hl => ?_)
    refine lv_aload_n hx hb dX7_next_35 rfl (lv_at hl 1 rfl) ?_
    refine lv_iload_n hx hb dX7_next_36 rfl (lv_at hl 0 rfl) ?_
    refine lv_if_ge (tgt := 44) hx hb dX7_next_37 (by decide) (fun c4 => ?_) (fun c4 => ?_)
    · rw [if_pos c4] at hf
      refine lv_iload_n hx hb dX7_next_44 rfl (lv_at hl 0 rfl) ?_
      refine lv_i2l (v := (Int32.toInt64 q3)) hx hb dX7_next_45 rfl ?_
      refine lv_ldc2 hx hb E.2.2.2.2.1 (E.2.2.2.2.2.1.2.use kQ_X7_110) dX7_next_46 ?_
      refine lv_ldc2 hx hb E.2.2.2.2.1 (E.2.2.2.2.2.1.2.use kQ_X7_112) dX7_next_49 ?_
      refine x_callS (isC := []) (ws' := (wMod cI cZ cN cC h0 h1 h2 h3 h4 h5 h6 h7 h8 h9 h10 h11 h12 h13 h14 h15 mn um len plc srt plc num wrg cm mpt st pst kep isk pil nxs txt cls asd opn byy twc szs sos ths)) (st1 := [.int (f_X7_in (Int32.toInt64 q3) 97 122), .ref h0]) (As := [.long (Int32.toInt64 q3), .long 97, .long 122]) (rest := [.ref h0]) E hw vc_X7_66 (c_X7_in (cI := cI) (cZ := cZ) (cN := cN) (cC := cC)    (x0 := (Int32.toInt64 q3)) (x2 := 97) (x4 := 122) rfl) rfl rfl rfl rfl rfl rfl ⟨Nat.le_of_ble_eq_true rfl, Nat.le_of_ble_eq_true rfl⟩ ⟨Nat.le_refl _, Nat.le_refl _⟩ hl.1 rfl rfl (Nat.le_of_ble_eq_true rfl) dX7_next_52 (fun H locs hw => ?_)
      refine lv_if_eq (tgt := 62) hx hb dX7_next_55 (by decide) (fun c5 => ?_) (fun c5 => ?_)
      · rw [if_pos c5] at hf
        refine lv_iload_n hx hb dX7_next_62 rfl (lv_at hl 0 rfl) ?_
        refine lv_i2l (v := (Int32.toInt64 q3)) hx hb dX7_next_63 rfl ?_
        refine lv_ldc2 hx hb E.2.2.2.2.1 (E.2.2.2.2.2.1.2.use kQ_X7_114) dX7_next_64 ?_
        refine lv_ldc2 hx hb E.2.2.2.2.1 (E.2.2.2.2.2.1.2.use kQ_X7_116) dX7_next_67 ?_
        refine x_callS (isC := []) (ws' := (wMod cI cZ cN cC h0 h1 h2 h3 h4 h5 h6 h7 h8 h9 h10 h11 h12 h13 h14 h15 mn um len plc srt plc num wrg cm mpt st pst kep isk pil nxs txt cls asd opn byy twc szs sos ths)) (st1 := [.int (f_X7_in (Int32.toInt64 q3) 48 57), .ref h0]) (As := [.long (Int32.toInt64 q3), .long 48, .long 57]) (rest := [.ref h0]) E hw vc_X7_66 (c_X7_in (cI := cI) (cZ := cZ) (cN := cN) (cC := cC)    (x0 := (Int32.toInt64 q3)) (x2 := 48) (x4 := 57) rfl) rfl rfl rfl rfl rfl rfl ⟨Nat.le_of_ble_eq_true rfl, Nat.le_of_ble_eq_true rfl⟩ ⟨Nat.le_refl _, Nat.le_refl _⟩ hl.1 rfl rfl (Nat.le_of_ble_eq_true rfl) dX7_next_70 (fun H locs hw => ?_)
        refine lv_if_eq (tgt := 80) hx hb dX7_next_73 (by decide) (fun c6 => ?_) (fun c6 => ?_)
        · rw [if_pos c6] at hf
          refine lv_iload_n hx hb dX7_next_80 rfl (lv_at hl 0 rfl) ?_
          refine lv_sipush (v := 1000) hx hb dX7_next_81 (by decide) ?_
          refine lv_isub hx hb dX7_next_84 ?_
          exact b_X7_next_85 E  hf _ _ _ hw (lv_sub hl [1, 0] rfl)
        · rw [if_neg c6] at hf
          refine lv_iconst (v := 2) hx hb dX7_next_76 (by decide) ?_
          refine lv_goto (tgt := 85) hx hb dX7_next_77 (by decide) ?_
          exact b_X7_next_85 E  hf _ _ _ hw (lv_sub hl [1, 0] rfl)
      · rw [if_neg c5] at hf
        refine lv_iconst (v := 1) hx hb dX7_next_58 (by decide) ?_
        refine lv_goto (tgt := 85) hx hb dX7_next_59 (by decide) ?_
        exact b_X7_next_85 E  hf _ _ _ hw (lv_sub hl [1, 0] rfl)
    · rw [if_neg c4] at hf
      refine lv_iconst (v := 0) hx hb dX7_next_40 (by decide) ?_
      refine lv_goto (tgt := 85) hx hb dX7_next_41 (by decide) ?_
      exact b_X7_next_85 E  hf _ _ _ hw (lv_sub hl [1, 0] rfl)
  · rw [if_pos c2] at hf
    refine lv_aload_n hx hb dX7_next_9 rfl (lv_at hl 0 rfl) ?_
    refine lv_dup hx hb dX7_next_10 rfl ?_
    refine x_get E hw kin_X7 0 rfl rfl 10 (by decide) kF_X7_100 (v := .int plc) rfl dX7_next_11 ?_
    refine lv_iconst (v := 1) hx hb dX7_next_14 (by decide) ?_
    refine lv_iadd hx hb dX7_next_15 ?_
    refine x_put (ws' := (wMod cI cZ cN cC h0 h1 h2 h3 h4 h5 h6 h7 h8 h9 h10 h11 h12 h13 h14 h15 mn um len (plc + 1) srt frm num wrg cm mpt st pst kep isk pil nxs txt cls asd opn byy twc szs sos ths)) E hw kin_X7 tyX7 tyX7_ok nmX7 0 rfl rfl 10 (by decide) kF_X7_100 rfl (v := .int (plc + 1)) rfl rfl (Nat.le_of_ble_eq_true rfl) rfl dX7_next_16 (fun H locs hw => ?_)
    refine lv_goto (tgt := 0) hx hb dX7_next_19 (by decide) ?_
    exact b_X7_next_0 E N _ hf _ _ _ hw (lv_sub hl [0] rfl)

def f_X7_faults (frm : Int32) : (Int32 × Int32) :=
  (0, frm)
set_option maxHeartbeats 4000000 in
set_option maxRecDepth 100000 in
theorem c_X7_faults {l : Launch} {D : va_G} {cI cZ cN cC : ClassId} {h0 h1 h2 h3 h4 h5 h6 h7 h8 h9 h10 h11 h12 h13 h14 h15 : Nat} {mn : Int32} {um : Int32} {len : Int32} {plc : Int32} {srt : Int32} {frm : Int32} {num : Int32} {wrg : Int32} {cm : Int32} {mpt : Int32} {st : (Nat → Int32)} {pst : (Nat → Int32)} {kep : (Nat → Int32)} {isk : (Nat → Int32)} {pil : (Nat → Int32)} {nxs : (Nat → Int32)} {txt : (Nat → Int32)} {cls : (Nat → Int32)} {asd : (Nat → Int32)} {opn : (Nat → Int32)} {byy : (Nat → Int32)} {twc : (Nat → Int32)} {szs : (Nat → Int32)} {sos : (Nat → Int32)} {ths : (Nat → Int32)}  {res : Int32 × Int32} (hf : f_X7_faults frm = res) : xMet l D (xtys cI cZ cN cC) yX7_faults cX7_faults 1 (some .boolean) 0 0 [.ref h0] (wMod cI cZ cN cC h0 h1 h2 h3 h4 h5 h6 h7 h8 h9 h10 h11 h12 h13 h14 h15 mn um len plc srt frm num wrg cm mpt st pst kep isk pil nxs txt cls asd opn byy twc szs sos ths) (wMod cI cZ cN cC h0 h1 h2 h3 h4 h5 h6 h7 h8 h9 h10 h11 h12 h13 h14 h15 mn um len plc srt frm num res.2 cm mpt st pst kep isk pil nxs txt cls asd opn byy twc szs sos ths) (some (.int res.1)) := by
  refine x_enter (by decide) (Nat.le_of_ble_eq_true rfl) ?_
  intro p e s m args below meth c E ls hl hw
  have E : xE p s m args meth c cX7_faults 1 (some .boolean) RX7 D (xtys cI cZ cN cC) (xA (wMod cI cZ cN cC h0 h1 h2 h3 h4 h5 h6 h7 h8 h9 h10 h11 h12 h13 h14 h15 mn um len plc srt frm num wrg cm mpt st pst kep isk pil nxs txt cls asd opn byy twc szs sos ths)) := E
  obtain ⟨hx, hb, -⟩ := id E
  have hl : lv_has ls 1 [(0, .ref h0)] := hl
  unfold f_X7_faults at hf
  refine lv_aload_n hx hb dX7_faults_0 rfl (lv_at hl 0 rfl) ?_
  refine lv_aload_n hx hb dX7_faults_1 rfl (lv_at hl 0 rfl) ?_
  refine x_get E hw kin_X7 0 rfl rfl 12 (by decide) kF_X7_107 (v := .int frm) rfl dX7_faults_2 ?_
  refine x_put (ws' := (wMod cI cZ cN cC h0 h1 h2 h3 h4 h5 h6 h7 h8 h9 h10 h11 h12 h13 h14 h15 mn um len plc srt frm num frm cm mpt st pst kep isk pil nxs txt cls asd opn byy twc szs sos ths)) E hw kin_X7 tyX7 tyX7_ok nmX7 0 rfl rfl 14 (by decide) kF_X7_124 rfl (v := .int frm) rfl rfl (Nat.le_of_ble_eq_true rfl) rfl dX7_faults_5 (fun H locs hw => ?_)
  refine lv_iconst (v := 0) hx hb dX7_faults_8 (by decide) ?_
  subst hf
  exact x_zret E hw (xz_n (v := 0) (by decide)) dX7_faults_9
theorem z_X7_faults {frm : Int32} : xz (f_X7_faults frm).1 = true := by
  unfold f_X7_faults
  first | (repeat' split) <;> first | decide | rfl

def f_X7_takesNumber (N : Nat) (x1 : Int32) (x2 : Int32) (len : Int32) (plc : Int32) (wrg : Int32) (txt : (Nat → Int32)) : Option (Int32 × Int32 × Int32 × Int32 × Int32 × Int32) :=
  (f_X7_next N len plc txt).bind fun q1 =>
  if q1.2.1 = 2 then
   if 3 ≤ (q1.1 - q1.2.2.1) then
    if ((f_X7_faults q1.2.2.1).1) = 0 then
     some (0, q1.1, q1.2.1, q1.2.2.1, q1.2.2.2, (f_X7_faults q1.2.2.1).2)
    else
     some (1, q1.1, q1.2.1, q1.2.2.1, q1.2.2.2, (f_X7_faults q1.2.2.1).2)
   else
    if (f_X7_in (Int32.toInt64 q1.2.2.2) (Int32.toInt64 x1) (Int32.toInt64 x2)) = 0 then
     if ((f_X7_faults q1.2.2.1).1) = 0 then
      some (0, q1.1, q1.2.1, q1.2.2.1, q1.2.2.2, (f_X7_faults q1.2.2.1).2)
     else
      some (1, q1.1, q1.2.1, q1.2.2.1, q1.2.2.2, (f_X7_faults q1.2.2.1).2)
    else
     some (1, q1.1, q1.2.1, q1.2.2.1, q1.2.2.2, wrg)
  else
   if ((f_X7_faults q1.2.2.1).1) = 0 then
    some (0, q1.1, q1.2.1, q1.2.2.1, q1.2.2.2, (f_X7_faults q1.2.2.1).2)
   else
    some (1, q1.1, q1.2.1, q1.2.2.1, q1.2.2.2, (f_X7_faults q1.2.2.1).2)
set_option maxHeartbeats 4000000 in
set_option maxRecDepth 100000 in
theorem c_X7_takesNumber {l : Launch} {D : va_G} {cI cZ cN cC : ClassId} {h0 h1 h2 h3 h4 h5 h6 h7 h8 h9 h10 h11 h12 h13 h14 h15 : Nat} {mn : Int32} {um : Int32} {len : Int32} {plc : Int32} {srt : Int32} {frm : Int32} {num : Int32} {wrg : Int32} {cm : Int32} {mpt : Int32} {st : (Nat → Int32)} {pst : (Nat → Int32)} {kep : (Nat → Int32)} {isk : (Nat → Int32)} {pil : (Nat → Int32)} {nxs : (Nat → Int32)} {txt : (Nat → Int32)} {cls : (Nat → Int32)} {asd : (Nat → Int32)} {opn : (Nat → Int32)} {byy : (Nat → Int32)} {twc : (Nat → Int32)} {szs : (Nat → Int32)} {sos : (Nat → Int32)} {ths : (Nat → Int32)} {x1 : Int32} {x2 : Int32} {N : Nat} {res : Int32 × Int32 × Int32 × Int32 × Int32 × Int32} (hf : f_X7_takesNumber N x1 x2 len plc wrg txt = some res) : xMet l D (xtys cI cZ cN cC) yX7_takesNumber cX7_takesNumber 3 (some .boolean) 2 46 [.ref h0, .int x1, .int x2] (wMod cI cZ cN cC h0 h1 h2 h3 h4 h5 h6 h7 h8 h9 h10 h11 h12 h13 h14 h15 mn um len plc srt frm num wrg cm mpt st pst kep isk pil nxs txt cls asd opn byy twc szs sos ths) (wMod cI cZ cN cC h0 h1 h2 h3 h4 h5 h6 h7 h8 h9 h10 h11 h12 h13 h14 h15 mn um len res.2.1 res.2.2.1 res.2.2.2.1 res.2.2.2.2.1 res.2.2.2.2.2 cm mpt st pst kep isk pil nxs txt cls asd opn byy twc szs sos ths) (some (.int res.1)) := by
  refine x_enter (by decide) (Nat.le_of_ble_eq_true rfl) ?_
  intro p e s m args below meth c E ls hl hw
  have E : xE p s m args meth c cX7_takesNumber 3 (some .boolean) RX7 D (xtys cI cZ cN cC) (xA (wMod cI cZ cN cC h0 h1 h2 h3 h4 h5 h6 h7 h8 h9 h10 h11 h12 h13 h14 h15 mn um len plc srt frm num wrg cm mpt st pst kep isk pil nxs txt cls asd opn byy twc szs sos ths)) := E
  obtain ⟨hx, hb, -⟩ := id E
  have hl : lv_has ls 3 [(0, .ref h0), (1, .int x1), (2, .int x2)] := hl
  unfold f_X7_takesNumber at hf
  refine lv_aload_n hx hb dX7_takesNumber_0 rfl (lv_at hl 0 rfl) ?_
  obtain ⟨q1, hq1, hf⟩ := Option.bind_eq_some_iff.mp hf
  refine x_callVI (ws' := (wMod cI cZ cN cC h0 h1 h2 h3 h4 h5 h6 h7 h8 h9 h10 h11 h12 h13 h14 h15 mn um len q1.1 q1.2.1 q1.2.2.1 q1.2.2.2 wrg cm mpt st pst kep isk pil nxs txt cls asd opn byy twc szs sos ths)) (st1 := []) (As := []) (rest := []) E hw vc_X7_127 (c_X7_next (cI := cI) (cZ := cZ) (cN := cN) (cC := cC) (h0 := h0) (h1 := h1) (h2 := h2) (h3 := h3) (h4 := h4) (h5 := h5) (h6 := h6) (h7 := h7) (h8 := h8) (h9 := h9) (h10 := h10) (h11 := h11) (h12 := h12) (h13 := h13) (h14 := h14) (h15 := h15)  (mn := mn) (um := um) (len := len) (plc := plc) (srt := srt) (frm := frm) (num := num) (wrg := wrg) (cm := cm) (mpt := mpt) (st := st) (pst := pst) (kep := kep) (isk := isk) (pil := pil) (nxs := nxs) (txt := txt) (cls := cls) (asd := asd) (opn := opn) (byy := byy) (twc := twc) (szs := szs) (sos := sos) (ths := ths)  hq1) 0 7 rfl rfl rfl rfl rfl ⟨Nat.le_of_ble_eq_true rfl, Nat.le_of_ble_eq_true rfl⟩ ⟨Nat.le_refl _, Nat.le_refl _⟩ hl.1 rfl rfl (Nat.le_of_ble_eq_true rfl) dX7_takesNumber_1 (fun H locs hw => ?_)
  refine lv_aload_n hx hb dX7_takesNumber_4 rfl (lv_at hl 0 rfl) ?_
  refine x_get E hw kin_X7 0 rfl rfl 11 (by decide) kF_X7_118 (v := .int q1.2.1) rfl dX7_takesNumber_5 ?_
  refine lv_iconst (v := 2) hx hb dX7_takesNumber_8 (by decide) ?_
  refine lv_icmp_ne (tgt := 40) hx hb dX7_takesNumber_9 (by decide) (fun c2 => ?_) (fun c2 => ?_)
  · rw [if_neg c2] at hf
    refine lv_aload_n hx hb dX7_takesNumber_40 rfl (lv_at hl 0 rfl) ?_
    refine x_callVI (ws' := (wMod cI cZ cN cC h0 h1 h2 h3 h4 h5 h6 h7 h8 h9 h10 h11 h12 h13 h14 h15 mn um len q1.1 q1.2.1 q1.2.2.1 q1.2.2.2 ((f_X7_faults q1.2.2.1).2) cm mpt st pst kep isk pil nxs txt cls asd opn byy twc szs sos ths)) (st1 := [.int ((f_X7_faults q1.2.2.1).1)]) (As := []) (rest := []) E hw vc_X7_130 (c_X7_faults (cI := cI) (cZ := cZ) (cN := cN) (cC := cC) (h0 := h0) (h1 := h1) (h2 := h2) (h3 := h3) (h4 := h4) (h5 := h5) (h6 := h6) (h7 := h7) (h8 := h8) (h9 := h9) (h10 := h10) (h11 := h11) (h12 := h12) (h13 := h13) (h14 := h14) (h15 := h15)  (mn := mn) (um := um) (len := len) (plc := q1.1) (srt := q1.2.1) (frm := q1.2.2.1) (num := q1.2.2.2) (wrg := wrg) (cm := cm) (mpt := mpt) (st := st) (pst := pst) (kep := kep) (isk := isk) (pil := pil) (nxs := nxs) (txt := txt) (cls := cls) (asd := asd) (opn := opn) (byy := byy) (twc := twc) (szs := szs) (sos := sos) (ths := ths)  rfl) 0 7 rfl rfl rfl rfl rfl ⟨Nat.le_of_ble_eq_true rfl, Nat.le_of_ble_eq_true rfl⟩ ⟨Nat.le_refl _, Nat.le_refl _⟩ hl.1 rfl rfl (Nat.le_of_ble_eq_true rfl) dX7_takesNumber_41 (fun H locs hw => ?_)
    refine lv_if_eq (tgt := 51) hx hb dX7_takesNumber_44 (by decide) (fun c3 => ?_) (fun c3 => ?_)
    · rw [if_pos c3] at hf
      refine lv_iconst (v := 0) hx hb dX7_takesNumber_51 (by decide) ?_
      have hf := Option.some.inj hf; subst hf
      exact x_zret E hw (xz_n (v := 0) (by decide)) dX7_takesNumber_52
    · rw [if_neg c3] at hf
      refine lv_iconst (v := 1) hx hb dX7_takesNumber_47 (by decide) ?_
      refine lv_goto (tgt := 52) hx hb dX7_takesNumber_48 (by decide) ?_
      have hf := Option.some.inj hf; subst hf
      exact x_zret E hw (xz_n (v := 1) (by decide)) dX7_takesNumber_52
  · rw [if_pos c2] at hf
    refine lv_aload_n hx hb dX7_takesNumber_12 rfl (lv_at hl 0 rfl) ?_
    refine x_get E hw kin_X7 0 rfl rfl 10 (by decide) kF_X7_100 (v := .int q1.1) rfl dX7_takesNumber_13 ?_
    refine lv_aload_n hx hb dX7_takesNumber_16 rfl (lv_at hl 0 rfl) ?_
    refine x_get E hw kin_X7 0 rfl rfl 12 (by decide) kF_X7_107 (v := .int q1.2.2.1) rfl dX7_takesNumber_17 ?_
    refine lv_isub hx hb dX7_takesNumber_20 ?_
    refine lv_iconst (v := 3) hx hb dX7_takesNumber_21 (by decide) ?_
    refine lv_icmp_ge (tgt := 40) hx hb dX7_takesNumber_22 (by decide) (fun c4 => ?_) (fun c4 => ?_)
    · rw [if_pos c4] at hf
      refine lv_aload_n hx hb dX7_takesNumber_40 rfl (lv_at hl 0 rfl) ?_
      refine x_callVI (ws' := (wMod cI cZ cN cC h0 h1 h2 h3 h4 h5 h6 h7 h8 h9 h10 h11 h12 h13 h14 h15 mn um len q1.1 q1.2.1 q1.2.2.1 q1.2.2.2 ((f_X7_faults q1.2.2.1).2) cm mpt st pst kep isk pil nxs txt cls asd opn byy twc szs sos ths)) (st1 := [.int ((f_X7_faults q1.2.2.1).1)]) (As := []) (rest := []) E hw vc_X7_130 (c_X7_faults (cI := cI) (cZ := cZ) (cN := cN) (cC := cC) (h0 := h0) (h1 := h1) (h2 := h2) (h3 := h3) (h4 := h4) (h5 := h5) (h6 := h6) (h7 := h7) (h8 := h8) (h9 := h9) (h10 := h10) (h11 := h11) (h12 := h12) (h13 := h13) (h14 := h14) (h15 := h15)  (mn := mn) (um := um) (len := len) (plc := q1.1) (srt := q1.2.1) (frm := q1.2.2.1) (num := q1.2.2.2) (wrg := wrg) (cm := cm) (mpt := mpt) (st := st) (pst := pst) (kep := kep) (isk := isk) (pil := pil) (nxs := nxs) (txt := txt) (cls := cls) (asd := asd) (opn := opn) (byy := byy) (twc := twc) (szs := szs) (sos := sos) (ths := ths)  rfl) 0 7 rfl rfl rfl rfl rfl ⟨Nat.le_of_ble_eq_true rfl, Nat.le_of_ble_eq_true rfl⟩ ⟨Nat.le_refl _, Nat.le_refl _⟩ hl.1 rfl rfl (Nat.le_of_ble_eq_true rfl) dX7_takesNumber_41 (fun H locs hw => ?_)
      refine lv_if_eq (tgt := 51) hx hb dX7_takesNumber_44 (by decide) (fun c5 => ?_) (fun c5 => ?_)
      · rw [if_pos c5] at hf
        refine lv_iconst (v := 0) hx hb dX7_takesNumber_51 (by decide) ?_
        have hf := Option.some.inj hf; subst hf
        exact x_zret E hw (xz_n (v := 0) (by decide)) dX7_takesNumber_52
      · rw [if_neg c5] at hf
        refine lv_iconst (v := 1) hx hb dX7_takesNumber_47 (by decide) ?_
        refine lv_goto (tgt := 52) hx hb dX7_takesNumber_48 (by decide) ?_
        have hf := Option.some.inj hf; subst hf
        exact x_zret E hw (xz_n (v := 1) (by decide)) dX7_takesNumber_52
    · rw [if_neg c4] at hf
      refine lv_aload_n hx hb dX7_takesNumber_25 rfl (lv_at hl 0 rfl) ?_
      refine x_get E hw kin_X7 0 rfl rfl 13 (by decide) kF_X7_121 (v := .int q1.2.2.2) rfl dX7_takesNumber_26 ?_
      refine lv_i2l (v := (Int32.toInt64 q1.2.2.2)) hx hb dX7_takesNumber_29 rfl ?_
      refine lv_iload_n hx hb dX7_takesNumber_30 rfl (lv_at hl 1 rfl) ?_
      refine lv_i2l (v := (Int32.toInt64 x1)) hx hb dX7_takesNumber_31 rfl ?_
      refine lv_iload_n hx hb dX7_takesNumber_32 rfl (lv_at hl 2 rfl) ?_
      refine lv_i2l (v := (Int32.toInt64 x2)) hx hb dX7_takesNumber_33 rfl ?_
      refine x_callS (isC := []) (ws' := (wMod cI cZ cN cC h0 h1 h2 h3 h4 h5 h6 h7 h8 h9 h10 h11 h12 h13 h14 h15 mn um len q1.1 q1.2.1 q1.2.2.1 q1.2.2.2 wrg cm mpt st pst kep isk pil nxs txt cls asd opn byy twc szs sos ths)) (st1 := [.int (f_X7_in (Int32.toInt64 q1.2.2.2) (Int32.toInt64 x1) (Int32.toInt64 x2))]) (As := [.long (Int32.toInt64 q1.2.2.2), .long (Int32.toInt64 x1), .long (Int32.toInt64 x2)]) (rest := []) E hw vc_X7_66 (c_X7_in (cI := cI) (cZ := cZ) (cN := cN) (cC := cC)    (x0 := (Int32.toInt64 q1.2.2.2)) (x2 := (Int32.toInt64 x1)) (x4 := (Int32.toInt64 x2)) rfl) rfl rfl rfl rfl rfl rfl ⟨Nat.le_of_ble_eq_true rfl, Nat.le_of_ble_eq_true rfl⟩ ⟨Nat.le_refl _, Nat.le_refl _⟩ hl.1 rfl rfl (Nat.le_of_ble_eq_true rfl) dX7_takesNumber_34 (fun H locs hw => ?_)
      refine lv_if_ne (tgt := 47) hx hb dX7_takesNumber_37 (by decide) (fun c6 => ?_) (fun c6 => ?_)
      · rw [if_neg c6] at hf
        refine lv_iconst (v := 1) hx hb dX7_takesNumber_47 (by decide) ?_
        refine lv_goto (tgt := 52) hx hb dX7_takesNumber_48 (by decide) ?_
        have hf := Option.some.inj hf; subst hf
        exact x_zret E hw (xz_n (v := 1) (by decide)) dX7_takesNumber_52
      · rw [if_pos c6] at hf
        refine lv_aload_n hx hb dX7_takesNumber_40 rfl (lv_at hl 0 rfl) ?_
        refine x_callVI (ws' := (wMod cI cZ cN cC h0 h1 h2 h3 h4 h5 h6 h7 h8 h9 h10 h11 h12 h13 h14 h15 mn um len q1.1 q1.2.1 q1.2.2.1 q1.2.2.2 ((f_X7_faults q1.2.2.1).2) cm mpt st pst kep isk pil nxs txt cls asd opn byy twc szs sos ths)) (st1 := [.int ((f_X7_faults q1.2.2.1).1)]) (As := []) (rest := []) E hw vc_X7_130 (c_X7_faults (cI := cI) (cZ := cZ) (cN := cN) (cC := cC) (h0 := h0) (h1 := h1) (h2 := h2) (h3 := h3) (h4 := h4) (h5 := h5) (h6 := h6) (h7 := h7) (h8 := h8) (h9 := h9) (h10 := h10) (h11 := h11) (h12 := h12) (h13 := h13) (h14 := h14) (h15 := h15)  (mn := mn) (um := um) (len := len) (plc := q1.1) (srt := q1.2.1) (frm := q1.2.2.1) (num := q1.2.2.2) (wrg := wrg) (cm := cm) (mpt := mpt) (st := st) (pst := pst) (kep := kep) (isk := isk) (pil := pil) (nxs := nxs) (txt := txt) (cls := cls) (asd := asd) (opn := opn) (byy := byy) (twc := twc) (szs := szs) (sos := sos) (ths := ths)  rfl) 0 7 rfl rfl rfl rfl rfl ⟨Nat.le_of_ble_eq_true rfl, Nat.le_of_ble_eq_true rfl⟩ ⟨Nat.le_refl _, Nat.le_refl _⟩ hl.1 rfl rfl (Nat.le_of_ble_eq_true rfl) dX7_takesNumber_41 (fun H locs hw => ?_)
        refine lv_if_eq (tgt := 51) hx hb dX7_takesNumber_44 (by decide) (fun c7 => ?_) (fun c7 => ?_)
        · rw [if_pos c7] at hf
          refine lv_iconst (v := 0) hx hb dX7_takesNumber_51 (by decide) ?_
          have hf := Option.some.inj hf; subst hf
          exact x_zret E hw (xz_n (v := 0) (by decide)) dX7_takesNumber_52
        · rw [if_neg c7] at hf
          refine lv_iconst (v := 1) hx hb dX7_takesNumber_47 (by decide) ?_
          refine lv_goto (tgt := 52) hx hb dX7_takesNumber_48 (by decide) ?_
          have hf := Option.some.inj hf; subst hf
          exact x_zret E hw (xz_n (v := 1) (by decide)) dX7_takesNumber_52

def f_X7_isWord_10 (x1 : Int32) (x2 : Int32) (x3 : Int32) (x4 : Int32) (t0 : Int32) (plc : Int32) (srt : Int32) (frm : Int32) (txt : (Nat → Int32)) : Option (Int32) :=
  if srt = 1 then
   if (plc - frm) = t0 then
    if xin frm 200 then
    if (txt (Int32.toNatClampNeg frm)) = x1 then
     if xin (frm + 1) 200 then
     if (txt (Int32.toNatClampNeg (frm + 1))) = x2 then
      if xin (frm + 2) 200 then
      if (txt (Int32.toNatClampNeg (frm + 2))) = x3 then
       if x4 = 0 then
        some 1
       else
        if xin (frm + 3) 200 then
        if (txt (Int32.toNatClampNeg (frm + 3))) = x4 then
         some 1
        else
         some 0
        else none
      else
       some 0
      else none
     else
      some 0
     else none
    else
     some 0
    else none
   else
    some 0
  else
   some 0
set_option maxHeartbeats 4000000 in
set_option maxRecDepth 100000 in
theorem b_X7_isWord_10 {p : Program} {l : Launch} {e : Env} {s : State} {m : MethodId} {args : Array Value} {below : List Frame} {meth : Method} {c : Code} {D : va_G} {cI cZ cN cC : ClassId} {ws0 : va_W} {h0 h1 h2 h3 h4 h5 h6 h7 h8 h9 h10 h11 h12 h13 h14 h15 : Nat} {x1 : Int32} {x2 : Int32} {x3 : Int32} {x4 : Int32} {t0 : Int32} {mn : Int32} {um : Int32} {len : Int32} {plc : Int32} {srt : Int32} {frm : Int32} {num : Int32} {wrg : Int32} {cm : Int32} {mpt : Int32} {st : (Nat → Int32)} {pst : (Nat → Int32)} {kep : (Nat → Int32)} {isk : (Nat → Int32)} {pil : (Nat → Int32)} {nxs : (Nat → Int32)} {txt : (Nat → Int32)} {cls : (Nat → Int32)} {asd : (Nat → Int32)} {opn : (Nat → Int32)} {byy : (Nat → Int32)} {twc : (Nat → Int32)} {szs : (Nat → Int32)} {sos : (Nat → Int32)} {ths : (Nat → Int32)} {res : Int32} (E : xE p s m args meth c cX7_isWord 6 (some .boolean) RX7 D (xtys cI cZ cN cC) (xA ws0)) : f_X7_isWord_10 x1 x2 x3 x4 t0 plc srt frm txt = some res → ∀ (H : Heap) (locs : List Loc) (ls : Array Slot), xw D (xA ws0) s.heap (wMod cI cZ cN cC h0 h1 h2 h3 h4 h5 h6 h7 h8 h9 h10 h11 h12 h13 h14 h15 mn um len plc srt frm num wrg cm mpt st pst kep isk pil nxs txt cls asd opn byy twc szs sos ths) H locs → lv_has ls 6 [(0, .ref h0), (1, .int x1), (2, .int x2), (3, .int x3), (4, .int x4)] → xG p l e 0 0 s m args below meth c D ws0 (wMod cI cZ cN cC h0 h1 h2 h3 h4 h5 h6 h7 h8 h9 h10 h11 h12 h13 h14 h15 mn um len plc srt frm num wrg cm mpt st pst kep isk pil nxs txt cls asd opn byy twc szs sos ths) (some (.int res)) H locs (F0 m 10 ls [.int t0]) := by
  obtain ⟨hx, hb, -⟩ := id E
  intro hf H locs ls hw hl
  unfold f_X7_isWord_10 at hf
  refine lv_istore (lv' := [(5, .int t0), (0, .ref h0), (1, .int x1), (2, .int x2), (3, .int x3), (4, .int x4)]) hx hb dX7_isWord_10 hl (by decide) rfl (fun ls hl => ?_)
  refine lv_aload_n hx hb dX7_isWord_12 rfl (lv_at hl 1 rfl) ?_
  refine x_get E hw kin_X7 0 rfl rfl 11 (by decide) kF_X7_118 (v := .int srt) rfl dX7_isWord_13 ?_
  refine lv_iconst (v := 1) hx hb dX7_isWord_16 (by decide) ?_
  refine lv_icmp_ne (tgt := 102) hx hb dX7_isWord_17 (by decide) (fun c2 => ?_) (fun c2 => ?_)
  · rw [if_neg c2] at hf
    refine lv_iconst (v := 0) hx hb dX7_isWord_102 (by decide) ?_
    have hf := Option.some.inj hf; subst hf
    exact x_zret E hw (xz_n (v := 0) (by decide)) dX7_isWord_103
  · rw [if_pos c2] at hf
    refine lv_aload_n hx hb dX7_isWord_20 rfl (lv_at hl 1 rfl) ?_
    refine x_get E hw kin_X7 0 rfl rfl 10 (by decide) kF_X7_100 (v := .int plc) rfl dX7_isWord_21 ?_
    refine lv_aload_n hx hb dX7_isWord_24 rfl (lv_at hl 1 rfl) ?_
    refine x_get E hw kin_X7 0 rfl rfl 12 (by decide) kF_X7_107 (v := .int frm) rfl dX7_isWord_25 ?_
    refine lv_isub hx hb dX7_isWord_28 ?_
    refine lv_iload hx hb dX7_isWord_29 (lv_at hl 0 rfl) ?_
    refine lv_icmp_ne (tgt := 102) hx hb dX7_isWord_31 (by decide) (fun c3 => ?_) (fun c3 => ?_)
    · rw [if_neg c3] at hf
      refine lv_iconst (v := 0) hx hb dX7_isWord_102 (by decide) ?_
      have hf := Option.some.inj hf; subst hf
      exact x_zret E hw (xz_n (v := 0) (by decide)) dX7_isWord_103
    · rw [if_pos c3] at hf
      refine lv_aload_n hx hb dX7_isWord_34 rfl (lv_at hl 1 rfl) ?_
      refine x_get E hw kin_X7 0 rfl rfl 8 (by decide) kF_X7_32 (v := .ref h7) rfl dX7_isWord_35 ?_
      refine lv_aload_n hx hb dX7_isWord_38 rfl (lv_at hl 1 rfl) ?_
      refine x_get E hw kin_X7 0 rfl rfl 12 (by decide) kF_X7_107 (v := .int frm) rfl dX7_isWord_39 ?_
      obtain ⟨g4, hf⟩ := xgd hf
      refine x_iald E hw 7 0 rfl rfl (xin_vp g4) dX7_isWord_42 ?_
      refine lv_iload_n hx hb dX7_isWord_43 rfl (lv_at hl 2 rfl) ?_
      refine lv_icmp_ne (tgt := 102) hx hb dX7_isWord_44 (by decide) (fun c5 => ?_) (fun c5 => ?_)
      · rw [if_neg c5] at hf
        refine lv_iconst (v := 0) hx hb dX7_isWord_102 (by decide) ?_
        have hf := Option.some.inj hf; subst hf
        exact x_zret E hw (xz_n (v := 0) (by decide)) dX7_isWord_103
      · rw [if_pos c5] at hf
        refine lv_aload_n hx hb dX7_isWord_47 rfl (lv_at hl 1 rfl) ?_
        refine x_get E hw kin_X7 0 rfl rfl 8 (by decide) kF_X7_32 (v := .ref h7) rfl dX7_isWord_48 ?_
        refine lv_aload_n hx hb dX7_isWord_51 rfl (lv_at hl 1 rfl) ?_
        refine x_get E hw kin_X7 0 rfl rfl 12 (by decide) kF_X7_107 (v := .int frm) rfl dX7_isWord_52 ?_
        refine lv_iconst (v := 1) hx hb dX7_isWord_55 (by decide) ?_
        refine lv_iadd hx hb dX7_isWord_56 ?_
        obtain ⟨g6, hf⟩ := xgd hf
        refine x_iald E hw 7 0 rfl rfl (xin_vp g6) dX7_isWord_57 ?_
        refine lv_iload_n hx hb dX7_isWord_58 rfl (lv_at hl 3 rfl) ?_
        refine lv_icmp_ne (tgt := 102) hx hb dX7_isWord_59 (by decide) (fun c7 => ?_) (fun c7 => ?_)
        · rw [if_neg c7] at hf
          refine lv_iconst (v := 0) hx hb dX7_isWord_102 (by decide) ?_
          have hf := Option.some.inj hf; subst hf
          exact x_zret E hw (xz_n (v := 0) (by decide)) dX7_isWord_103
        · rw [if_pos c7] at hf
          refine lv_aload_n hx hb dX7_isWord_62 rfl (lv_at hl 1 rfl) ?_
          refine x_get E hw kin_X7 0 rfl rfl 8 (by decide) kF_X7_32 (v := .ref h7) rfl dX7_isWord_63 ?_
          refine lv_aload_n hx hb dX7_isWord_66 rfl (lv_at hl 1 rfl) ?_
          refine x_get E hw kin_X7 0 rfl rfl 12 (by decide) kF_X7_107 (v := .int frm) rfl dX7_isWord_67 ?_
          refine lv_iconst (v := 2) hx hb dX7_isWord_70 (by decide) ?_
          refine lv_iadd hx hb dX7_isWord_71 ?_
          obtain ⟨g8, hf⟩ := xgd hf
          refine x_iald E hw 7 0 rfl rfl (xin_vp g8) dX7_isWord_72 ?_
          refine lv_iload_n hx hb dX7_isWord_73 rfl (lv_at hl 4 rfl) ?_
          refine lv_icmp_ne (tgt := 102) hx hb dX7_isWord_74 (by decide) (fun c9 => ?_) (fun c9 => ?_)
          · rw [if_neg c9] at hf
            refine lv_iconst (v := 0) hx hb dX7_isWord_102 (by decide) ?_
            have hf := Option.some.inj hf; subst hf
            exact x_zret E hw (xz_n (v := 0) (by decide)) dX7_isWord_103
          · rw [if_pos c9] at hf
            refine lv_iload hx hb dX7_isWord_77 (lv_at hl 5 rfl) ?_
            refine lv_if_eq (tgt := 98) hx hb dX7_isWord_79 (by decide) (fun c10 => ?_) (fun c10 => ?_)
            · rw [if_pos c10] at hf
              refine lv_iconst (v := 1) hx hb dX7_isWord_98 (by decide) ?_
              refine lv_goto (tgt := 103) hx hb dX7_isWord_99 (by decide) ?_
              have hf := Option.some.inj hf; subst hf
              exact x_zret E hw (xz_n (v := 1) (by decide)) dX7_isWord_103
            · rw [if_neg c10] at hf
              refine lv_aload_n hx hb dX7_isWord_82 rfl (lv_at hl 1 rfl) ?_
              refine x_get E hw kin_X7 0 rfl rfl 8 (by decide) kF_X7_32 (v := .ref h7) rfl dX7_isWord_83 ?_
              refine lv_aload_n hx hb dX7_isWord_86 rfl (lv_at hl 1 rfl) ?_
              refine x_get E hw kin_X7 0 rfl rfl 12 (by decide) kF_X7_107 (v := .int frm) rfl dX7_isWord_87 ?_
              refine lv_iconst (v := 3) hx hb dX7_isWord_90 (by decide) ?_
              refine lv_iadd hx hb dX7_isWord_91 ?_
              obtain ⟨g11, hf⟩ := xgd hf
              refine x_iald E hw 7 0 rfl rfl (xin_vp g11) dX7_isWord_92 ?_
              refine lv_iload hx hb dX7_isWord_93 (lv_at hl 5 rfl) ?_
              refine lv_icmp_ne (tgt := 102) hx hb dX7_isWord_95 (by decide) (fun c12 => ?_) (fun c12 => ?_)
              · rw [if_neg c12] at hf
                refine lv_iconst (v := 0) hx hb dX7_isWord_102 (by decide) ?_
                have hf := Option.some.inj hf; subst hf
                exact x_zret E hw (xz_n (v := 0) (by decide)) dX7_isWord_103
              · rw [if_pos c12] at hf
                refine lv_iconst (v := 1) hx hb dX7_isWord_98 (by decide) ?_
                refine lv_goto (tgt := 103) hx hb dX7_isWord_99 (by decide) ?_
                have hf := Option.some.inj hf; subst hf
                exact x_zret E hw (xz_n (v := 1) (by decide)) dX7_isWord_103
def f_X7_isWord (x1 : Int32) (x2 : Int32) (x3 : Int32) (x4 : Int32) (plc : Int32) (srt : Int32) (frm : Int32) (txt : (Nat → Int32)) : Option (Int32) :=
  if x4 = 0 then
   f_X7_isWord_10 x1 x2 x3 x4 3 plc srt frm txt
  else
   f_X7_isWord_10 x1 x2 x3 x4 4 plc srt frm txt
set_option maxHeartbeats 4000000 in
set_option maxRecDepth 100000 in
theorem c_X7_isWord {l : Launch} {D : va_G} {cI cZ cN cC : ClassId} {h0 h1 h2 h3 h4 h5 h6 h7 h8 h9 h10 h11 h12 h13 h14 h15 : Nat} {mn : Int32} {um : Int32} {len : Int32} {plc : Int32} {srt : Int32} {frm : Int32} {num : Int32} {wrg : Int32} {cm : Int32} {mpt : Int32} {st : (Nat → Int32)} {pst : (Nat → Int32)} {kep : (Nat → Int32)} {isk : (Nat → Int32)} {pil : (Nat → Int32)} {nxs : (Nat → Int32)} {txt : (Nat → Int32)} {cls : (Nat → Int32)} {asd : (Nat → Int32)} {opn : (Nat → Int32)} {byy : (Nat → Int32)} {twc : (Nat → Int32)} {szs : (Nat → Int32)} {sos : (Nat → Int32)} {ths : (Nat → Int32)} {x1 : Int32} {x2 : Int32} {x3 : Int32} {x4 : Int32} {res : Int32} (hf : f_X7_isWord x1 x2 x3 x4 plc srt frm txt = some res) : xMet l D (xtys cI cZ cN cC) yX7_isWord cX7_isWord 6 (some .boolean) 0 0 [.ref h0, .int x1, .int x2, .int x3, .int x4] (wMod cI cZ cN cC h0 h1 h2 h3 h4 h5 h6 h7 h8 h9 h10 h11 h12 h13 h14 h15 mn um len plc srt frm num wrg cm mpt st pst kep isk pil nxs txt cls asd opn byy twc szs sos ths) (wMod cI cZ cN cC h0 h1 h2 h3 h4 h5 h6 h7 h8 h9 h10 h11 h12 h13 h14 h15 mn um len plc srt frm num wrg cm mpt st pst kep isk pil nxs txt cls asd opn byy twc szs sos ths) (some (.int res)) := by
  refine x_enter (by decide) (Nat.le_of_ble_eq_true rfl) ?_
  intro p e s m args below meth c E ls hl hw
  have E : xE p s m args meth c cX7_isWord 6 (some .boolean) RX7 D (xtys cI cZ cN cC) (xA (wMod cI cZ cN cC h0 h1 h2 h3 h4 h5 h6 h7 h8 h9 h10 h11 h12 h13 h14 h15 mn um len plc srt frm num wrg cm mpt st pst kep isk pil nxs txt cls asd opn byy twc szs sos ths)) := E
  obtain ⟨hx, hb, -⟩ := id E
  have hl : lv_has ls 6 [(0, .ref h0), (1, .int x1), (2, .int x2), (3, .int x3), (4, .int x4)] := hl
  unfold f_X7_isWord at hf
  refine lv_iload hx hb dX7_isWord_0 (lv_at hl 4 rfl) ?_
  refine lv_if_ne (tgt := 9) hx hb dX7_isWord_2 (by decide) (fun c1 => ?_) (fun c1 => ?_)
  · rw [if_neg c1] at hf
    refine lv_iconst (v := 4) hx hb dX7_isWord_9 (by decide) ?_
    exact b_X7_isWord_10 E  hf _ _ _ hw (lv_sub hl [0, 1, 2, 3, 4] rfl)
  · rw [if_pos c1] at hf
    refine lv_iconst (v := 3) hx hb dX7_isWord_5 (by decide) ?_
    refine lv_goto (tgt := 10) hx hb dX7_isWord_6 (by decide) ?_
    exact b_X7_isWord_10 E  hf _ _ _ hw (lv_sub hl [0, 1, 2, 3, 4] rfl)

def f_X7_wordOf (plc : Int32) (srt : Int32) (frm : Int32) (txt : (Nat → Int32)) : Option (Int32) :=
  (f_X7_isWord 110 101 116 0 plc srt frm txt).bind fun q1 =>
  if q1 = 0 then
   (f_X7_isWord 97 114 99 0 plc srt frm txt).bind fun q3 =>
   if q3 = 0 then
    (f_X7_isWord 114 105 110 103 plc srt frm txt).bind fun q5 =>
    if q5 = 0 then
     (f_X7_isWord 112 97 116 104 plc srt frm txt).bind fun q7 =>
     if q7 = 0 then
      (f_X7_isWord 115 116 97 114 plc srt frm txt).bind fun q9 =>
      if q9 = 0 then
       some (-1)
      else
       some 4
     else
      some 3
    else
     some 2
   else
    some 1
  else
   some 0
set_option maxHeartbeats 4000000 in
set_option maxRecDepth 100000 in
theorem c_X7_wordOf {l : Launch} {D : va_G} {cI cZ cN cC : ClassId} {h0 h1 h2 h3 h4 h5 h6 h7 h8 h9 h10 h11 h12 h13 h14 h15 : Nat} {mn : Int32} {um : Int32} {len : Int32} {plc : Int32} {srt : Int32} {frm : Int32} {num : Int32} {wrg : Int32} {cm : Int32} {mpt : Int32} {st : (Nat → Int32)} {pst : (Nat → Int32)} {kep : (Nat → Int32)} {isk : (Nat → Int32)} {pil : (Nat → Int32)} {nxs : (Nat → Int32)} {txt : (Nat → Int32)} {cls : (Nat → Int32)} {asd : (Nat → Int32)} {opn : (Nat → Int32)} {byy : (Nat → Int32)} {twc : (Nat → Int32)} {szs : (Nat → Int32)} {sos : (Nat → Int32)} {ths : (Nat → Int32)}  {res : Int32} (hf : f_X7_wordOf plc srt frm txt = some res) : xMet l D (xtys cI cZ cN cC) yX7_wordOf cX7_wordOf 1 (some .int) 1 25 [.ref h0] (wMod cI cZ cN cC h0 h1 h2 h3 h4 h5 h6 h7 h8 h9 h10 h11 h12 h13 h14 h15 mn um len plc srt frm num wrg cm mpt st pst kep isk pil nxs txt cls asd opn byy twc szs sos ths) (wMod cI cZ cN cC h0 h1 h2 h3 h4 h5 h6 h7 h8 h9 h10 h11 h12 h13 h14 h15 mn um len plc srt frm num wrg cm mpt st pst kep isk pil nxs txt cls asd opn byy twc szs sos ths) (some (.int res)) := by
  refine x_enter (by decide) (Nat.le_of_ble_eq_true rfl) ?_
  intro p e s m args below meth c E ls hl hw
  have E : xE p s m args meth c cX7_wordOf 1 (some .int) RX7 D (xtys cI cZ cN cC) (xA (wMod cI cZ cN cC h0 h1 h2 h3 h4 h5 h6 h7 h8 h9 h10 h11 h12 h13 h14 h15 mn um len plc srt frm num wrg cm mpt st pst kep isk pil nxs txt cls asd opn byy twc szs sos ths)) := E
  obtain ⟨hx, hb, -⟩ := id E
  have hl : lv_has ls 1 [(0, .ref h0)] := hl
  unfold f_X7_wordOf at hf
  refine lv_aload_n hx hb dX7_wordOf_0 rfl (lv_at hl 0 rfl) ?_
  refine lv_bipush (v := 110) hx hb dX7_wordOf_1 (by decide) ?_
  refine lv_bipush (v := 101) hx hb dX7_wordOf_3 (by decide) ?_
  refine lv_bipush (v := 116) hx hb dX7_wordOf_5 (by decide) ?_
  refine lv_iconst (v := 0) hx hb dX7_wordOf_7 (by decide) ?_
  obtain ⟨q1, hq1, hf⟩ := Option.bind_eq_some_iff.mp hf
  refine x_callVI (ws' := (wMod cI cZ cN cC h0 h1 h2 h3 h4 h5 h6 h7 h8 h9 h10 h11 h12 h13 h14 h15 mn um len plc srt frm num wrg cm mpt st pst kep isk pil nxs txt cls asd opn byy twc szs sos ths)) (st1 := [.int q1]) (As := [.int 110, .int 101, .int 116, .int 0]) (rest := []) E hw vc_X7_134 (c_X7_isWord (cI := cI) (cZ := cZ) (cN := cN) (cC := cC) (h0 := h0) (h1 := h1) (h2 := h2) (h3 := h3) (h4 := h4) (h5 := h5) (h6 := h6) (h7 := h7) (h8 := h8) (h9 := h9) (h10 := h10) (h11 := h11) (h12 := h12) (h13 := h13) (h14 := h14) (h15 := h15)  (mn := mn) (um := um) (len := len) (plc := plc) (srt := srt) (frm := frm) (num := num) (wrg := wrg) (cm := cm) (mpt := mpt) (st := st) (pst := pst) (kep := kep) (isk := isk) (pil := pil) (nxs := nxs) (txt := txt) (cls := cls) (asd := asd) (opn := opn) (byy := byy) (twc := twc) (szs := szs) (sos := sos) (ths := ths) (x1 := 110) (x2 := 101) (x3 := 116) (x4 := 0) hq1) 0 7 rfl rfl rfl rfl rfl ⟨Nat.le_of_ble_eq_true rfl, Nat.le_of_ble_eq_true rfl⟩ ⟨Nat.le_refl _, Nat.le_refl _⟩ hl.1 rfl rfl (Nat.le_of_ble_eq_true rfl) dX7_wordOf_8 (fun H locs hw => ?_)
  refine lv_if_eq (tgt := 18) hx hb dX7_wordOf_11 (by decide) (fun c2 => ?_) (fun c2 => ?_)
  · rw [if_pos c2] at hf
    refine lv_aload_n hx hb dX7_wordOf_18 rfl (lv_at hl 0 rfl) ?_
    refine lv_bipush (v := 97) hx hb dX7_wordOf_19 (by decide) ?_
    refine lv_bipush (v := 114) hx hb dX7_wordOf_21 (by decide) ?_
    refine lv_bipush (v := 99) hx hb dX7_wordOf_23 (by decide) ?_
    refine lv_iconst (v := 0) hx hb dX7_wordOf_25 (by decide) ?_
    obtain ⟨q3, hq3, hf⟩ := Option.bind_eq_some_iff.mp hf
    refine x_callVI (ws' := (wMod cI cZ cN cC h0 h1 h2 h3 h4 h5 h6 h7 h8 h9 h10 h11 h12 h13 h14 h15 mn um len plc srt frm num wrg cm mpt st pst kep isk pil nxs txt cls asd opn byy twc szs sos ths)) (st1 := [.int q3]) (As := [.int 97, .int 114, .int 99, .int 0]) (rest := []) E hw vc_X7_134 (c_X7_isWord (cI := cI) (cZ := cZ) (cN := cN) (cC := cC) (h0 := h0) (h1 := h1) (h2 := h2) (h3 := h3) (h4 := h4) (h5 := h5) (h6 := h6) (h7 := h7) (h8 := h8) (h9 := h9) (h10 := h10) (h11 := h11) (h12 := h12) (h13 := h13) (h14 := h14) (h15 := h15)  (mn := mn) (um := um) (len := len) (plc := plc) (srt := srt) (frm := frm) (num := num) (wrg := wrg) (cm := cm) (mpt := mpt) (st := st) (pst := pst) (kep := kep) (isk := isk) (pil := pil) (nxs := nxs) (txt := txt) (cls := cls) (asd := asd) (opn := opn) (byy := byy) (twc := twc) (szs := szs) (sos := sos) (ths := ths) (x1 := 97) (x2 := 114) (x3 := 99) (x4 := 0) hq3) 0 7 rfl rfl rfl rfl rfl ⟨Nat.le_of_ble_eq_true rfl, Nat.le_of_ble_eq_true rfl⟩ ⟨Nat.le_refl _, Nat.le_refl _⟩ hl.1 rfl rfl (Nat.le_of_ble_eq_true rfl) dX7_wordOf_26 (fun H locs hw => ?_)
    refine lv_if_eq (tgt := 36) hx hb dX7_wordOf_29 (by decide) (fun c4 => ?_) (fun c4 => ?_)
    · rw [if_pos c4] at hf
      refine lv_aload_n hx hb dX7_wordOf_36 rfl (lv_at hl 0 rfl) ?_
      refine lv_bipush (v := 114) hx hb dX7_wordOf_37 (by decide) ?_
      refine lv_bipush (v := 105) hx hb dX7_wordOf_39 (by decide) ?_
      refine lv_bipush (v := 110) hx hb dX7_wordOf_41 (by decide) ?_
      refine lv_bipush (v := 103) hx hb dX7_wordOf_43 (by decide) ?_
      obtain ⟨q5, hq5, hf⟩ := Option.bind_eq_some_iff.mp hf
      refine x_callVI (ws' := (wMod cI cZ cN cC h0 h1 h2 h3 h4 h5 h6 h7 h8 h9 h10 h11 h12 h13 h14 h15 mn um len plc srt frm num wrg cm mpt st pst kep isk pil nxs txt cls asd opn byy twc szs sos ths)) (st1 := [.int q5]) (As := [.int 114, .int 105, .int 110, .int 103]) (rest := []) E hw vc_X7_134 (c_X7_isWord (cI := cI) (cZ := cZ) (cN := cN) (cC := cC) (h0 := h0) (h1 := h1) (h2 := h2) (h3 := h3) (h4 := h4) (h5 := h5) (h6 := h6) (h7 := h7) (h8 := h8) (h9 := h9) (h10 := h10) (h11 := h11) (h12 := h12) (h13 := h13) (h14 := h14) (h15 := h15)  (mn := mn) (um := um) (len := len) (plc := plc) (srt := srt) (frm := frm) (num := num) (wrg := wrg) (cm := cm) (mpt := mpt) (st := st) (pst := pst) (kep := kep) (isk := isk) (pil := pil) (nxs := nxs) (txt := txt) (cls := cls) (asd := asd) (opn := opn) (byy := byy) (twc := twc) (szs := szs) (sos := sos) (ths := ths) (x1 := 114) (x2 := 105) (x3 := 110) (x4 := 103) hq5) 0 7 rfl rfl rfl rfl rfl ⟨Nat.le_of_ble_eq_true rfl, Nat.le_of_ble_eq_true rfl⟩ ⟨Nat.le_refl _, Nat.le_refl _⟩ hl.1 rfl rfl (Nat.le_of_ble_eq_true rfl) dX7_wordOf_45 (fun H locs hw => ?_)
      refine lv_if_eq (tgt := 55) hx hb dX7_wordOf_48 (by decide) (fun c6 => ?_) (fun c6 => ?_)
      · rw [if_pos c6] at hf
        refine lv_aload_n hx hb dX7_wordOf_55 rfl (lv_at hl 0 rfl) ?_
        refine lv_bipush (v := 112) hx hb dX7_wordOf_56 (by decide) ?_
        refine lv_bipush (v := 97) hx hb dX7_wordOf_58 (by decide) ?_
        refine lv_bipush (v := 116) hx hb dX7_wordOf_60 (by decide) ?_
        refine lv_bipush (v := 104) hx hb dX7_wordOf_62 (by decide) ?_
        obtain ⟨q7, hq7, hf⟩ := Option.bind_eq_some_iff.mp hf
        refine x_callVI (ws' := (wMod cI cZ cN cC h0 h1 h2 h3 h4 h5 h6 h7 h8 h9 h10 h11 h12 h13 h14 h15 mn um len plc srt frm num wrg cm mpt st pst kep isk pil nxs txt cls asd opn byy twc szs sos ths)) (st1 := [.int q7]) (As := [.int 112, .int 97, .int 116, .int 104]) (rest := []) E hw vc_X7_134 (c_X7_isWord (cI := cI) (cZ := cZ) (cN := cN) (cC := cC) (h0 := h0) (h1 := h1) (h2 := h2) (h3 := h3) (h4 := h4) (h5 := h5) (h6 := h6) (h7 := h7) (h8 := h8) (h9 := h9) (h10 := h10) (h11 := h11) (h12 := h12) (h13 := h13) (h14 := h14) (h15 := h15)  (mn := mn) (um := um) (len := len) (plc := plc) (srt := srt) (frm := frm) (num := num) (wrg := wrg) (cm := cm) (mpt := mpt) (st := st) (pst := pst) (kep := kep) (isk := isk) (pil := pil) (nxs := nxs) (txt := txt) (cls := cls) (asd := asd) (opn := opn) (byy := byy) (twc := twc) (szs := szs) (sos := sos) (ths := ths) (x1 := 112) (x2 := 97) (x3 := 116) (x4 := 104) hq7) 0 7 rfl rfl rfl rfl rfl ⟨Nat.le_of_ble_eq_true rfl, Nat.le_of_ble_eq_true rfl⟩ ⟨Nat.le_refl _, Nat.le_refl _⟩ hl.1 rfl rfl (Nat.le_of_ble_eq_true rfl) dX7_wordOf_64 (fun H locs hw => ?_)
        refine lv_if_eq (tgt := 74) hx hb dX7_wordOf_67 (by decide) (fun c8 => ?_) (fun c8 => ?_)
        · rw [if_pos c8] at hf
          refine lv_aload_n hx hb dX7_wordOf_74 rfl (lv_at hl 0 rfl) ?_
          refine lv_bipush (v := 115) hx hb dX7_wordOf_75 (by decide) ?_
          refine lv_bipush (v := 116) hx hb dX7_wordOf_77 (by decide) ?_
          refine lv_bipush (v := 97) hx hb dX7_wordOf_79 (by decide) ?_
          refine lv_bipush (v := 114) hx hb dX7_wordOf_81 (by decide) ?_
          obtain ⟨q9, hq9, hf⟩ := Option.bind_eq_some_iff.mp hf
          refine x_callVI (ws' := (wMod cI cZ cN cC h0 h1 h2 h3 h4 h5 h6 h7 h8 h9 h10 h11 h12 h13 h14 h15 mn um len plc srt frm num wrg cm mpt st pst kep isk pil nxs txt cls asd opn byy twc szs sos ths)) (st1 := [.int q9]) (As := [.int 115, .int 116, .int 97, .int 114]) (rest := []) E hw vc_X7_134 (c_X7_isWord (cI := cI) (cZ := cZ) (cN := cN) (cC := cC) (h0 := h0) (h1 := h1) (h2 := h2) (h3 := h3) (h4 := h4) (h5 := h5) (h6 := h6) (h7 := h7) (h8 := h8) (h9 := h9) (h10 := h10) (h11 := h11) (h12 := h12) (h13 := h13) (h14 := h14) (h15 := h15)  (mn := mn) (um := um) (len := len) (plc := plc) (srt := srt) (frm := frm) (num := num) (wrg := wrg) (cm := cm) (mpt := mpt) (st := st) (pst := pst) (kep := kep) (isk := isk) (pil := pil) (nxs := nxs) (txt := txt) (cls := cls) (asd := asd) (opn := opn) (byy := byy) (twc := twc) (szs := szs) (sos := sos) (ths := ths) (x1 := 115) (x2 := 116) (x3 := 97) (x4 := 114) hq9) 0 7 rfl rfl rfl rfl rfl ⟨Nat.le_of_ble_eq_true rfl, Nat.le_of_ble_eq_true rfl⟩ ⟨Nat.le_refl _, Nat.le_refl _⟩ hl.1 rfl rfl (Nat.le_of_ble_eq_true rfl) dX7_wordOf_83 (fun H locs hw => ?_)
          refine lv_if_eq (tgt := 93) hx hb dX7_wordOf_86 (by decide) (fun c10 => ?_) (fun c10 => ?_)
          · rw [if_pos c10] at hf
            refine lv_iconst (v := (-1)) hx hb dX7_wordOf_93 (by decide) ?_
            have hf := Option.some.inj hf; subst hf
            exact x_iret E hw dX7_wordOf_94
          · rw [if_neg c10] at hf
            refine lv_iconst (v := 4) hx hb dX7_wordOf_89 (by decide) ?_
            refine lv_goto (tgt := 94) hx hb dX7_wordOf_90 (by decide) ?_
            have hf := Option.some.inj hf; subst hf
            exact x_iret E hw dX7_wordOf_94
        · rw [if_neg c8] at hf
          refine lv_iconst (v := 3) hx hb dX7_wordOf_70 (by decide) ?_
          refine lv_goto (tgt := 94) hx hb dX7_wordOf_71 (by decide) ?_
          have hf := Option.some.inj hf; subst hf
          exact x_iret E hw dX7_wordOf_94
      · rw [if_neg c6] at hf
        refine lv_iconst (v := 2) hx hb dX7_wordOf_51 (by decide) ?_
        refine lv_goto (tgt := 94) hx hb dX7_wordOf_52 (by decide) ?_
        have hf := Option.some.inj hf; subst hf
        exact x_iret E hw dX7_wordOf_94
    · rw [if_neg c4] at hf
      refine lv_iconst (v := 1) hx hb dX7_wordOf_32 (by decide) ?_
      refine lv_goto (tgt := 94) hx hb dX7_wordOf_33 (by decide) ?_
      have hf := Option.some.inj hf; subst hf
      exact x_iret E hw dX7_wordOf_94
  · rw [if_neg c2] at hf
    refine lv_iconst (v := 0) hx hb dX7_wordOf_14 (by decide) ?_
    refine lv_goto (tgt := 94) hx hb dX7_wordOf_15 (by decide) ?_
    have hf := Option.some.inj hf; subst hf
    exact x_iret E hw dX7_wordOf_94

def f_X7_takesPoint_18 (x1 : Int32) (x2 : Int32) (plc : Int32) (srt : Int32) (frm : Int32) (num : Int32) (wrg : Int32) (cls : (Nat → Int32)) : Nat → Int32 → Option (Int32 × Int32 × Int32 × Int32 × Int32 × Int32 × (Nat → Int32))
  | 0, _ => none
  | n + 1, x3 =>
    if x1 ≤ x3 then
     if xin (x2 + x1) 96 then
     some (1, plc, srt, frm, num, wrg, (upd cls (Int32.toNatClampNeg (x2 + x1)) num))
     else none
    else
     if xin (x2 + x3) 96 then
     if (cls (Int32.toNatClampNeg (x2 + x3))) = num then
      some ((f_X7_faults frm).1, plc, srt, frm, num, (f_X7_faults frm).2, cls)
     else
      f_X7_takesPoint_18 x1 x2 plc srt frm num wrg cls n (x3 + 1)
     else none
set_option maxHeartbeats 4000000 in
set_option maxRecDepth 100000 in
theorem b_X7_takesPoint_18 {p : Program} {l : Launch} {e : Env} {s : State} {m : MethodId} {args : Array Value} {below : List Frame} {meth : Method} {c : Code} {D : va_G} {cI cZ cN cC : ClassId} {ws0 : va_W} {h0 h1 h2 h3 h4 h5 h6 h7 h8 h9 h10 h11 h12 h13 h14 h15 : Nat} {x1 : Int32} {x2 : Int32} {mn : Int32} {um : Int32} {len : Int32} {plc : Int32} {srt : Int32} {frm : Int32} {num : Int32} {wrg : Int32} {cm : Int32} {mpt : Int32} {st : (Nat → Int32)} {pst : (Nat → Int32)} {kep : (Nat → Int32)} {isk : (Nat → Int32)} {pil : (Nat → Int32)} {nxs : (Nat → Int32)} {txt : (Nat → Int32)} {cls : (Nat → Int32)} {asd : (Nat → Int32)} {opn : (Nat → Int32)} {byy : (Nat → Int32)} {twc : (Nat → Int32)} {szs : (Nat → Int32)} {sos : (Nat → Int32)} {ths : (Nat → Int32)} {res : Int32 × Int32 × Int32 × Int32 × Int32 × Int32 × (Nat → Int32)} (E : xE p s m args meth c cX7_takesPoint 4 (some .boolean) RX7 D (xtys cI cZ cN cC) (xA ws0)) : ∀ (n : Nat) (x3 : Int32), f_X7_takesPoint_18 x1 x2 plc srt frm num wrg cls n x3 = some res → ∀ (H : Heap) (locs : List Loc) (ls : Array Slot), xw D (xA ws0) s.heap (wMod cI cZ cN cC h0 h1 h2 h3 h4 h5 h6 h7 h8 h9 h10 h11 h12 h13 h14 h15 mn um len plc srt frm num wrg cm mpt st pst kep isk pil nxs txt cls asd opn byy twc szs sos ths) H locs → lv_has ls 4 [(0, .ref h0), (1, .int x1), (2, .int x2), (3, .int x3)] → xG p l e 3 68 s m args below meth c D ws0 (wMod cI cZ cN cC h0 h1 h2 h3 h4 h5 h6 h7 h8 h9 h10 h11 h12 h13 h14 h15 mn um len res.2.1 res.2.2.1 res.2.2.2.1 res.2.2.2.2.1 res.2.2.2.2.2.1 cm mpt st pst kep isk pil nxs txt res.2.2.2.2.2.2 asd opn byy twc szs sos ths) (some (.int res.1)) H locs (F0 m 18 ls []) := by
  obtain ⟨hx, hb, -⟩ := id E
  intro n
  induction n with
  | zero =>
    intro _ hf
    rw [f_X7_takesPoint_18] at hf; cases hf
  | succ n ih =>
    intro x3 hf H locs ls hw hl
    rw [f_X7_takesPoint_18] at hf
    refine lv_iload_n hx hb dX7_takesPoint_18 rfl (lv_at hl 3 rfl) ?_
    refine lv_iload_n hx hb dX7_takesPoint_19 rfl (lv_at hl 1 rfl) ?_
    refine lv_icmp_ge (tgt := 49) hx hb dX7_takesPoint_20 (by decide) (fun c3 => ?_) (fun c3 => ?_)
    · rw [if_pos c3] at hf
      refine lv_aload_n hx hb dX7_takesPoint_49 rfl (lv_at hl 0 rfl) ?_
      refine x_get E hw kin_X7 0 rfl rfl 15 (by decide) kF_X7_35 (v := .ref h8) rfl dX7_takesPoint_50 ?_
      refine lv_iload_n hx hb dX7_takesPoint_53 rfl (lv_at hl 2 rfl) ?_
      refine lv_iload_n hx hb dX7_takesPoint_54 rfl (lv_at hl 1 rfl) ?_
      refine lv_iadd hx hb dX7_takesPoint_55 ?_
      refine lv_aload_n hx hb dX7_takesPoint_56 rfl (lv_at hl 0 rfl) ?_
      refine x_get E hw kin_X7 0 rfl rfl 13 (by decide) kF_X7_121 (v := .int num) rfl dX7_takesPoint_57 ?_
      obtain ⟨g4, hf⟩ := xgd hf
      refine x_iast (ws' := (wMod cI cZ cN cC h0 h1 h2 h3 h4 h5 h6 h7 h8 h9 h10 h11 h12 h13 h14 h15 mn um len plc srt frm num wrg cm mpt st pst kep isk pil nxs txt (upd cls (Int32.toNatClampNeg (x2 + x1)) num) asd opn byy twc szs sos ths)) E hw 8 0 rfl rfl (xin_vp g4) rfl dX7_takesPoint_60 (fun H locs hw => ?_)
      refine lv_iconst (v := 1) hx hb dX7_takesPoint_61 (by decide) ?_
      have hf := Option.some.inj hf; subst hf
      exact x_zret E hw (xz_n (v := 1) (by decide)) dX7_takesPoint_62
    · rw [if_neg c3] at hf
      refine lv_aload_n hx hb dX7_takesPoint_23 rfl (lv_at hl 0 rfl) ?_
      refine x_get E hw kin_X7 0 rfl rfl 15 (by decide) kF_X7_35 (v := .ref h8) rfl dX7_takesPoint_24 ?_
      refine lv_iload_n hx hb dX7_takesPoint_27 rfl (lv_at hl 2 rfl) ?_
      refine lv_iload_n hx hb dX7_takesPoint_28 rfl (lv_at hl 3 rfl) ?_
      refine lv_iadd hx hb dX7_takesPoint_29 ?_
      obtain ⟨g5, hf⟩ := xgd hf
      refine x_iald E hw 8 0 rfl rfl (xin_vp g5) dX7_takesPoint_30 ?_
      refine lv_aload_n hx hb dX7_takesPoint_31 rfl (lv_at hl 0 rfl) ?_
      refine x_get E hw kin_X7 0 rfl rfl 13 (by decide) kF_X7_121 (v := .int num) rfl dX7_takesPoint_32 ?_
      refine lv_icmp_ne (tgt := 43) hx hb dX7_takesPoint_35 (by decide) (fun c6 => ?_) (fun c6 => ?_)
      · rw [if_neg c6] at hf
        refine lv_iinc (v := (x3 + 1)) (lv' := [(3, .int (x3 + 1)), (0, .ref h0), (1, .int x1), (2, .int x2)]) hx hb dX7_takesPoint_43 hl (k := 3) rfl rfl (by decide) rfl (fun ls hl => ?_)
        refine lv_goto (tgt := 18) hx hb dX7_takesPoint_46 (by decide) ?_
        exact ih _ hf _ _ _ hw (lv_sub hl [1, 2, 3, 0] rfl)
      · rw [if_pos c6] at hf
        refine lv_aload_n hx hb dX7_takesPoint_38 rfl (lv_at hl 0 rfl) ?_
        refine x_callVI (ws' := (wMod cI cZ cN cC h0 h1 h2 h3 h4 h5 h6 h7 h8 h9 h10 h11 h12 h13 h14 h15 mn um len plc srt frm num ((f_X7_faults frm).2) cm mpt st pst kep isk pil nxs txt cls asd opn byy twc szs sos ths)) (st1 := [.int ((f_X7_faults frm).1)]) (As := []) (rest := []) E hw vc_X7_130 (c_X7_faults (cI := cI) (cZ := cZ) (cN := cN) (cC := cC) (h0 := h0) (h1 := h1) (h2 := h2) (h3 := h3) (h4 := h4) (h5 := h5) (h6 := h6) (h7 := h7) (h8 := h8) (h9 := h9) (h10 := h10) (h11 := h11) (h12 := h12) (h13 := h13) (h14 := h14) (h15 := h15)  (mn := mn) (um := um) (len := len) (plc := plc) (srt := srt) (frm := frm) (num := num) (wrg := wrg) (cm := cm) (mpt := mpt) (st := st) (pst := pst) (kep := kep) (isk := isk) (pil := pil) (nxs := nxs) (txt := txt) (cls := cls) (asd := asd) (opn := opn) (byy := byy) (twc := twc) (szs := szs) (sos := sos) (ths := ths)  rfl) 0 7 rfl rfl rfl rfl rfl ⟨Nat.le_of_ble_eq_true rfl, Nat.le_of_ble_eq_true rfl⟩ ⟨Nat.le_refl _, Nat.le_refl _⟩ hl.1 rfl rfl (Nat.le_of_ble_eq_true rfl) dX7_takesPoint_39 (fun H locs hw => ?_)
        have hf := Option.some.inj hf; subst hf
        exact x_zret E hw (xz_n (v := (f_X7_faults frm).1) z_X7_faults) dX7_takesPoint_42
def f_X7_takesPoint (N : Nat) (x1 : Int32) (x2 : Int32) (len : Int32) (plc : Int32) (wrg : Int32) (mpt : Int32) (txt : (Nat → Int32)) (cls : (Nat → Int32)) : Option (Int32 × Int32 × Int32 × Int32 × Int32 × Int32 × (Nat → Int32)) :=
  (f_X7_takesNumber N 0 (mpt - 1) len plc wrg txt).bind fun q1 =>
  if q1.1 = 0 then
   some (0, q1.2.1, q1.2.2.1, q1.2.2.2.1, q1.2.2.2.2.1, q1.2.2.2.2.2, cls)
  else
   f_X7_takesPoint_18 x1 x2 q1.2.1 q1.2.2.1 q1.2.2.2.1 q1.2.2.2.2.1 q1.2.2.2.2.2 cls N 1
set_option maxHeartbeats 4000000 in
set_option maxRecDepth 100000 in
theorem c_X7_takesPoint {l : Launch} {D : va_G} {cI cZ cN cC : ClassId} {h0 h1 h2 h3 h4 h5 h6 h7 h8 h9 h10 h11 h12 h13 h14 h15 : Nat} {mn : Int32} {um : Int32} {len : Int32} {plc : Int32} {srt : Int32} {frm : Int32} {num : Int32} {wrg : Int32} {cm : Int32} {mpt : Int32} {st : (Nat → Int32)} {pst : (Nat → Int32)} {kep : (Nat → Int32)} {isk : (Nat → Int32)} {pil : (Nat → Int32)} {nxs : (Nat → Int32)} {txt : (Nat → Int32)} {cls : (Nat → Int32)} {asd : (Nat → Int32)} {opn : (Nat → Int32)} {byy : (Nat → Int32)} {twc : (Nat → Int32)} {szs : (Nat → Int32)} {sos : (Nat → Int32)} {ths : (Nat → Int32)} {x1 : Int32} {x2 : Int32} {N : Nat} {res : Int32 × Int32 × Int32 × Int32 × Int32 × Int32 × (Nat → Int32)} (hf : f_X7_takesPoint N x1 x2 len plc wrg mpt txt cls = some res) : xMet l D (xtys cI cZ cN cC) yX7_takesPoint cX7_takesPoint 4 (some .boolean) 3 68 [.ref h0, .int x1, .int x2] (wMod cI cZ cN cC h0 h1 h2 h3 h4 h5 h6 h7 h8 h9 h10 h11 h12 h13 h14 h15 mn um len plc srt frm num wrg cm mpt st pst kep isk pil nxs txt cls asd opn byy twc szs sos ths) (wMod cI cZ cN cC h0 h1 h2 h3 h4 h5 h6 h7 h8 h9 h10 h11 h12 h13 h14 h15 mn um len res.2.1 res.2.2.1 res.2.2.2.1 res.2.2.2.2.1 res.2.2.2.2.2.1 cm mpt st pst kep isk pil nxs txt res.2.2.2.2.2.2 asd opn byy twc szs sos ths) (some (.int res.1)) := by
  refine x_enter (by decide) (Nat.le_of_ble_eq_true rfl) ?_
  intro p e s m args below meth c E ls hl hw
  have E : xE p s m args meth c cX7_takesPoint 4 (some .boolean) RX7 D (xtys cI cZ cN cC) (xA (wMod cI cZ cN cC h0 h1 h2 h3 h4 h5 h6 h7 h8 h9 h10 h11 h12 h13 h14 h15 mn um len plc srt frm num wrg cm mpt st pst kep isk pil nxs txt cls asd opn byy twc szs sos ths)) := E
  obtain ⟨hx, hb, -⟩ := id E
  have hl : lv_has ls 4 [(0, .ref h0), (1, .int x1), (2, .int x2)] := hl
  unfold f_X7_takesPoint at hf
  refine lv_aload_n hx hb dX7_takesPoint_0 rfl (lv_at hl 0 rfl) ?_
  refine lv_iconst (v := 0) hx hb dX7_takesPoint_1 (by decide) ?_
  refine lv_aload_n hx hb dX7_takesPoint_2 rfl (lv_at hl 0 rfl) ?_
  refine x_get E hw kin_X7 0 rfl rfl 17 (by decide) kF_X7_138 (v := .int mpt) rfl dX7_takesPoint_3 ?_
  refine lv_iconst (v := 1) hx hb dX7_takesPoint_6 (by decide) ?_
  refine lv_isub hx hb dX7_takesPoint_7 ?_
  obtain ⟨q1, hq1, hf⟩ := Option.bind_eq_some_iff.mp hf
  refine x_callVI (ws' := (wMod cI cZ cN cC h0 h1 h2 h3 h4 h5 h6 h7 h8 h9 h10 h11 h12 h13 h14 h15 mn um len q1.2.1 q1.2.2.1 q1.2.2.2.1 q1.2.2.2.2.1 q1.2.2.2.2.2 cm mpt st pst kep isk pil nxs txt cls asd opn byy twc szs sos ths)) (st1 := [.int q1.1]) (As := [.int 0, .int (mpt - 1)]) (rest := []) E hw vc_X7_141 (c_X7_takesNumber (cI := cI) (cZ := cZ) (cN := cN) (cC := cC) (h0 := h0) (h1 := h1) (h2 := h2) (h3 := h3) (h4 := h4) (h5 := h5) (h6 := h6) (h7 := h7) (h8 := h8) (h9 := h9) (h10 := h10) (h11 := h11) (h12 := h12) (h13 := h13) (h14 := h14) (h15 := h15)  (mn := mn) (um := um) (len := len) (plc := plc) (srt := srt) (frm := frm) (num := num) (wrg := wrg) (cm := cm) (mpt := mpt) (st := st) (pst := pst) (kep := kep) (isk := isk) (pil := pil) (nxs := nxs) (txt := txt) (cls := cls) (asd := asd) (opn := opn) (byy := byy) (twc := twc) (szs := szs) (sos := sos) (ths := ths) (x1 := 0) (x2 := (mpt - 1)) hq1) 0 7 rfl rfl rfl rfl rfl ⟨Nat.le_of_ble_eq_true rfl, Nat.le_of_ble_eq_true rfl⟩ ⟨Nat.le_refl _, Nat.le_refl _⟩ hl.1 rfl rfl (Nat.le_of_ble_eq_true rfl) dX7_takesPoint_8 (fun H locs hw => ?_)
  refine lv_if_ne (tgt := 16) hx hb dX7_takesPoint_11 (by decide) (fun c2 => ?_) (fun c2 => ?_)
  · rw [if_neg c2] at hf
    refine lv_iconst (v := 1) hx hb dX7_takesPoint_16 (by decide) ?_
    refine lv_istore_n (lv' := [(3, .int 1), (0, .ref h0), (1, .int x1), (2, .int x2)]) hx hb dX7_takesPoint_17 rfl hl (by decide) rfl (fun ls hl => ?_)
    exact b_X7_takesPoint_18 E N _ hf _ _ _ hw (lv_sub hl [1, 2, 3, 0] rfl)
  · rw [if_pos c2] at hf
    refine lv_iconst (v := 0) hx hb dX7_takesPoint_14 (by decide) ?_
    have hf := Option.some.inj hf; subst hf
    exact x_zret E hw (xz_n (v := 0) (by decide)) dX7_takesPoint_15

def f_X7_readClause_80 (k69 : Int32 → Int32 → Int32 → (Nat → Int32) → Option (Int32 × Int32 × Int32 × Int32 × Int32 × Int32 × Int32 × Int32 × (Nat → Int32))) (N : Nat) (x2 : Int32) (x3 : Int32) (t0 : Int32) (t1 : Int32) (len : Int32) (plc : Int32) (wrg : Int32) (cm : Int32) (mpt : Int32) (txt : (Nat → Int32)) (cls : (Nat → Int32)) : Option (Int32 × Int32 × Int32 × Int32 × Int32 × Int32 × Int32 × Int32 × (Nat → Int32)) :=
  if t0 < t1 then
   (f_X7_next N len plc txt).bind fun q11 =>
   some (1, q11.1, q11.2.1, q11.2.2.1, q11.2.2.2, wrg, (cm + 1), mpt, cls)
  else
   (f_X7_takesPoint N x3 x2 len plc wrg mpt txt cls).bind fun q12 =>
   if q12.1 = 0 then
    some (0, q12.2.1, q12.2.2.1, q12.2.2.2.1, q12.2.2.2.2.1, q12.2.2.2.2.2.1, cm, mpt, q12.2.2.2.2.2.2)
   else
    k69 (x3 + 1) q12.2.1 q12.2.2.2.2.2.1 q12.2.2.2.2.2.2
set_option maxHeartbeats 4000000 in
set_option maxRecDepth 100000 in
theorem b_X7_readClause_80 {p : Program} {l : Launch} {e : Env} {s : State} {m : MethodId} {args : Array Value} {below : List Frame} {meth : Method} {c : Code} {D : va_G} {cI cZ cN cC : ClassId} {ws0 : va_W} {h0 h1 h2 h3 h4 h5 h6 h7 h8 h9 h10 h11 h12 h13 h14 h15 : Nat} {x1 : Int32} {x2 : Int32} {x3 : Int32} {t0 : Int32} {t1 : Int32} {mn : Int32} {um : Int32} {len : Int32} {plc : Int32} {srt : Int32} {frm : Int32} {num : Int32} {wrg : Int32} {cm : Int32} {mpt : Int32} {st : (Nat → Int32)} {pst : (Nat → Int32)} {kep : (Nat → Int32)} {isk : (Nat → Int32)} {pil : (Nat → Int32)} {nxs : (Nat → Int32)} {txt : (Nat → Int32)} {cls : (Nat → Int32)} {asd : (Nat → Int32)} {opn : (Nat → Int32)} {byy : (Nat → Int32)} {twc : (Nat → Int32)} {szs : (Nat → Int32)} {sos : (Nat → Int32)} {ths : (Nat → Int32)} {N : Nat} {res : Int32 × Int32 × Int32 × Int32 × Int32 × Int32 × Int32 × Int32 × (Nat → Int32)} (E : xE p s m args meth c cX7_readClause 4 (some .boolean) RX7 D (xtys cI cZ cN cC) (xA ws0)) {k69 : Int32 → Int32 → Int32 → (Nat → Int32) → Option (Int32 × Int32 × Int32 × Int32 × Int32 × Int32 × Int32 × Int32 × (Nat → Int32))} (hk69 : ∀ (x3 : Int32) (plc : Int32) (srt : Int32) (frm : Int32) (num : Int32) (wrg : Int32) (cls : (Nat → Int32)), k69 x3 plc wrg cls = some res → ∀ (H : Heap) (locs : List Loc) (ls : Array Slot), xw D (xA ws0) s.heap (wMod cI cZ cN cC h0 h1 h2 h3 h4 h5 h6 h7 h8 h9 h10 h11 h12 h13 h14 h15 mn um len plc srt frm num wrg cm mpt st pst kep isk pil nxs txt cls asd opn byy twc szs sos ths) H locs → lv_has ls 4 [(0, .ref h0), (1, .int x1), (2, .int x2), (3, .int x3)] → xG p l e 4 91 s m args below meth c D ws0 (wMod cI cZ cN cC h0 h1 h2 h3 h4 h5 h6 h7 h8 h9 h10 h11 h12 h13 h14 h15 mn um len res.2.1 res.2.2.1 res.2.2.2.1 res.2.2.2.2.1 res.2.2.2.2.2.1 res.2.2.2.2.2.2.1 res.2.2.2.2.2.2.2.1 st pst kep isk pil nxs txt res.2.2.2.2.2.2.2.2 asd opn byy twc szs sos ths) (some (.int res.1)) H locs (F0 m 69 ls [])) : f_X7_readClause_80 k69 N x2 x3 t0 t1 len plc wrg cm mpt txt cls = some res → ∀ (H : Heap) (locs : List Loc) (ls : Array Slot), xw D (xA ws0) s.heap (wMod cI cZ cN cC h0 h1 h2 h3 h4 h5 h6 h7 h8 h9 h10 h11 h12 h13 h14 h15 mn um len plc srt frm num wrg cm mpt st pst kep isk pil nxs txt cls asd opn byy twc szs sos ths) H locs → lv_has ls 4 [(0, .ref h0), (1, .int x1), (2, .int x2), (3, .int x3)] → xG p l e 4 91 s m args below meth c D ws0 (wMod cI cZ cN cC h0 h1 h2 h3 h4 h5 h6 h7 h8 h9 h10 h11 h12 h13 h14 h15 mn um len res.2.1 res.2.2.1 res.2.2.2.1 res.2.2.2.2.1 res.2.2.2.2.2.1 res.2.2.2.2.2.2.1 res.2.2.2.2.2.2.2.1 st pst kep isk pil nxs txt res.2.2.2.2.2.2.2.2 asd opn byy twc szs sos ths) (some (.int res.1)) H locs (F0 m 80 ls [.int t0, .int t1]) := by
  obtain ⟨hx, hb, -⟩ := id E
  intro hf H locs ls hw hl
  unfold f_X7_readClause_80 at hf
  refine lv_icmp_gt (tgt := 100) hx hb dX7_readClause_80 (by decide) (fun c10 => ?_) (fun c10 => ?_)
  · rw [if_pos c10] at hf
    refine lv_aload_n hx hb dX7_readClause_100 rfl (lv_at hl 0 rfl) ?_
    refine lv_dup hx hb dX7_readClause_101 rfl ?_
    refine x_get E hw kin_X7 0 rfl rfl 16 (by decide) kF_X7_147 (v := .int cm) rfl dX7_readClause_102 ?_
    refine lv_iconst (v := 1) hx hb dX7_readClause_105 (by decide) ?_
    refine lv_iadd hx hb dX7_readClause_106 ?_
    refine x_put (ws' := (wMod cI cZ cN cC h0 h1 h2 h3 h4 h5 h6 h7 h8 h9 h10 h11 h12 h13 h14 h15 mn um len plc srt frm num wrg (cm + 1) mpt st pst kep isk pil nxs txt cls asd opn byy twc szs sos ths)) E hw kin_X7 tyX7 tyX7_ok nmX7 0 rfl rfl 16 (by decide) kF_X7_147 rfl (v := .int (cm + 1)) rfl rfl (Nat.le_of_ble_eq_true rfl) rfl dX7_readClause_107 (fun H locs hw => ?_)
    refine lv_aload_n hx hb dX7_readClause_110 rfl (lv_at hl 0 rfl) ?_
    obtain ⟨q11, hq11, hf⟩ := Option.bind_eq_some_iff.mp hf
    refine x_callVI (ws' := (wMod cI cZ cN cC h0 h1 h2 h3 h4 h5 h6 h7 h8 h9 h10 h11 h12 h13 h14 h15 mn um len q11.1 q11.2.1 q11.2.2.1 q11.2.2.2 wrg (cm + 1) mpt st pst kep isk pil nxs txt cls asd opn byy twc szs sos ths)) (st1 := []) (As := []) (rest := []) E hw vc_X7_127 (c_X7_next (cI := cI) (cZ := cZ) (cN := cN) (cC := cC) (h0 := h0) (h1 := h1) (h2 := h2) (h3 := h3) (h4 := h4) (h5 := h5) (h6 := h6) (h7 := h7) (h8 := h8) (h9 := h9) (h10 := h10) (h11 := h11) (h12 := h12) (h13 := h13) (h14 := h14) (h15 := h15)  (mn := mn) (um := um) (len := len) (plc := plc) (srt := srt) (frm := frm) (num := num) (wrg := wrg) (cm := (cm + 1)) (mpt := mpt) (st := st) (pst := pst) (kep := kep) (isk := isk) (pil := pil) (nxs := nxs) (txt := txt) (cls := cls) (asd := asd) (opn := opn) (byy := byy) (twc := twc) (szs := szs) (sos := sos) (ths := ths)  hq11) 0 7 rfl rfl rfl rfl rfl ⟨Nat.le_of_ble_eq_true rfl, Nat.le_of_ble_eq_true rfl⟩ ⟨Nat.le_refl _, Nat.le_refl _⟩ hl.1 rfl rfl (Nat.le_of_ble_eq_true rfl) dX7_readClause_111 (fun H locs hw => ?_)
    refine lv_iconst (v := 1) hx hb dX7_readClause_114 (by decide) ?_
    have hf := Option.some.inj hf; subst hf
    exact x_zret E hw (xz_n (v := 1) (by decide)) dX7_readClause_115
  · rw [if_neg c10] at hf
    refine lv_aload_n hx hb dX7_readClause_83 rfl (lv_at hl 0 rfl) ?_
    refine lv_iload_n hx hb dX7_readClause_84 rfl (lv_at hl 3 rfl) ?_
    refine lv_iload_n hx hb dX7_readClause_85 rfl (lv_at hl 2 rfl) ?_
    obtain ⟨q12, hq12, hf⟩ := Option.bind_eq_some_iff.mp hf
    refine x_callVI (ws' := (wMod cI cZ cN cC h0 h1 h2 h3 h4 h5 h6 h7 h8 h9 h10 h11 h12 h13 h14 h15 mn um len q12.2.1 q12.2.2.1 q12.2.2.2.1 q12.2.2.2.2.1 q12.2.2.2.2.2.1 cm mpt st pst kep isk pil nxs txt q12.2.2.2.2.2.2 asd opn byy twc szs sos ths)) (st1 := [.int q12.1]) (As := [.int x3, .int x2]) (rest := []) E hw vc_X7_150 (c_X7_takesPoint (cI := cI) (cZ := cZ) (cN := cN) (cC := cC) (h0 := h0) (h1 := h1) (h2 := h2) (h3 := h3) (h4 := h4) (h5 := h5) (h6 := h6) (h7 := h7) (h8 := h8) (h9 := h9) (h10 := h10) (h11 := h11) (h12 := h12) (h13 := h13) (h14 := h14) (h15 := h15)  (mn := mn) (um := um) (len := len) (plc := plc) (srt := srt) (frm := frm) (num := num) (wrg := wrg) (cm := cm) (mpt := mpt) (st := st) (pst := pst) (kep := kep) (isk := isk) (pil := pil) (nxs := nxs) (txt := txt) (cls := cls) (asd := asd) (opn := opn) (byy := byy) (twc := twc) (szs := szs) (sos := sos) (ths := ths) (x1 := x3) (x2 := x2) hq12) 0 7 rfl rfl rfl rfl rfl ⟨Nat.le_of_ble_eq_true rfl, Nat.le_of_ble_eq_true rfl⟩ ⟨Nat.le_refl _, Nat.le_refl _⟩ hl.1 rfl rfl (Nat.le_of_ble_eq_true rfl) dX7_readClause_86 (fun H locs hw => ?_)
    refine lv_if_ne (tgt := 94) hx hb dX7_readClause_89 (by decide) (fun c13 => ?_) (fun c13 => ?_)
    · rw [if_neg c13] at hf
      refine lv_iinc (v := (x3 + 1)) (lv' := [(3, .int (x3 + 1)), (0, .ref h0), (1, .int x1), (2, .int x2)]) hx hb dX7_readClause_94 hl (k := 3) rfl rfl (by decide) rfl (fun ls hl => ?_)
      refine lv_goto (tgt := 69) hx hb dX7_readClause_97 (by decide) ?_
      exact hk69 _ _ _ _ _ _ _ hf _ _ _ hw (lv_sub hl [1, 2, 3, 0] rfl)
    · rw [if_pos c13] at hf
      refine lv_iconst (v := 0) hx hb dX7_readClause_92 (by decide) ?_
      have hf := Option.some.inj hf; subst hf
      exact x_zret E hw (xz_n (v := 0) (by decide)) dX7_readClause_93
def f_X7_readClause_69 (N : Nat) (x1 : Int32) (x2 : Int32) (len : Int32) (cm : Int32) (mpt : Int32) (txt : (Nat → Int32)) : Nat → Int32 → Int32 → Int32 → (Nat → Int32) → Option (Int32 × Int32 × Int32 × Int32 × Int32 × Int32 × Int32 × Int32 × (Nat → Int32))
  | 0, _, _, _, _ => none
  | n + 1, x3, plc, wrg, cls =>
    if x1 = 1 then
     f_X7_readClause_80 (fun x3 plc wrg cls => f_X7_readClause_69 N x1 x2 len cm mpt txt n x3 plc wrg cls) N x2 x3 2 x3 len plc wrg cm mpt txt cls
    else
     f_X7_readClause_80 (fun x3 plc wrg cls => f_X7_readClause_69 N x1 x2 len cm mpt txt n x3 plc wrg cls) N x2 x3 3 x3 len plc wrg cm mpt txt cls
set_option maxHeartbeats 4000000 in
set_option maxRecDepth 100000 in
theorem b_X7_readClause_69 {p : Program} {l : Launch} {e : Env} {s : State} {m : MethodId} {args : Array Value} {below : List Frame} {meth : Method} {c : Code} {D : va_G} {cI cZ cN cC : ClassId} {ws0 : va_W} {h0 h1 h2 h3 h4 h5 h6 h7 h8 h9 h10 h11 h12 h13 h14 h15 : Nat} {x1 : Int32} {x2 : Int32} {mn : Int32} {um : Int32} {len : Int32} {cm : Int32} {mpt : Int32} {st : (Nat → Int32)} {pst : (Nat → Int32)} {kep : (Nat → Int32)} {isk : (Nat → Int32)} {pil : (Nat → Int32)} {nxs : (Nat → Int32)} {txt : (Nat → Int32)} {asd : (Nat → Int32)} {opn : (Nat → Int32)} {byy : (Nat → Int32)} {twc : (Nat → Int32)} {szs : (Nat → Int32)} {sos : (Nat → Int32)} {ths : (Nat → Int32)} {N : Nat} {res : Int32 × Int32 × Int32 × Int32 × Int32 × Int32 × Int32 × Int32 × (Nat → Int32)} (E : xE p s m args meth c cX7_readClause 4 (some .boolean) RX7 D (xtys cI cZ cN cC) (xA ws0)) : ∀ (n : Nat) (x3 : Int32) (plc : Int32) (srt : Int32) (frm : Int32) (num : Int32) (wrg : Int32) (cls : (Nat → Int32)), f_X7_readClause_69 N x1 x2 len cm mpt txt n x3 plc wrg cls = some res → ∀ (H : Heap) (locs : List Loc) (ls : Array Slot), xw D (xA ws0) s.heap (wMod cI cZ cN cC h0 h1 h2 h3 h4 h5 h6 h7 h8 h9 h10 h11 h12 h13 h14 h15 mn um len plc srt frm num wrg cm mpt st pst kep isk pil nxs txt cls asd opn byy twc szs sos ths) H locs → lv_has ls 4 [(0, .ref h0), (1, .int x1), (2, .int x2), (3, .int x3)] → xG p l e 4 91 s m args below meth c D ws0 (wMod cI cZ cN cC h0 h1 h2 h3 h4 h5 h6 h7 h8 h9 h10 h11 h12 h13 h14 h15 mn um len res.2.1 res.2.2.1 res.2.2.2.1 res.2.2.2.2.1 res.2.2.2.2.2.1 res.2.2.2.2.2.2.1 res.2.2.2.2.2.2.2.1 st pst kep isk pil nxs txt res.2.2.2.2.2.2.2.2 asd opn byy twc szs sos ths) (some (.int res.1)) H locs (F0 m 69 ls []) := by
  obtain ⟨hx, hb, -⟩ := id E
  intro n
  induction n with
  | zero =>
    intro _ _ _ _ _ _ _ hf
    rw [f_X7_readClause_69] at hf; cases hf
  | succ n ih =>
    intro x3 plc srt frm num wrg cls hf H locs ls hw hl
    rw [f_X7_readClause_69] at hf
    refine lv_iload_n hx hb dX7_readClause_69 rfl (lv_at hl 3 rfl) ?_
    refine lv_iload_n hx hb dX7_readClause_70 rfl (lv_at hl 1 rfl) ?_
    refine lv_iconst (v := 1) hx hb dX7_readClause_71 (by decide) ?_
    refine lv_icmp_ne (tgt := 79) hx hb dX7_readClause_72 (by decide) (fun c9 => ?_) (fun c9 => ?_)
    · rw [if_neg c9] at hf
      refine lv_iconst (v := 3) hx hb dX7_readClause_79 (by decide) ?_
      exact b_X7_readClause_80 E ih  hf _ _ _ hw (lv_sub hl [0, 1, 2, 3] rfl)
    · rw [if_pos c9] at hf
      refine lv_iconst (v := 2) hx hb dX7_readClause_75 (by decide) ?_
      refine lv_goto (tgt := 80) hx hb dX7_readClause_76 (by decide) ?_
      exact b_X7_readClause_80 E ih  hf _ _ _ hw (lv_sub hl [0, 1, 2, 3] rfl)
def f_X7_readClause (N : Nat) (len : Int32) (plc : Int32) (srt : Int32) (frm : Int32) (num : Int32) (wrg : Int32) (cm : Int32) (mpt : Int32) (txt : (Nat → Int32)) (cls : (Nat → Int32)) : Option (Int32 × Int32 × Int32 × Int32 × Int32 × Int32 × Int32 × Int32 × (Nat → Int32)) :=
  (f_X7_wordOf plc srt frm txt).bind fun q1 =>
  if 0 ≤ q1 then
   if xin (4 * cm) 96 then
   if q1 = 0 then
    (f_X7_takesNumber N 2 10 len plc wrg txt).bind fun q5 =>
    if q5.1 = 0 then
     some (0, q5.2.1, q5.2.2.1, q5.2.2.2.1, q5.2.2.2.2.1, q5.2.2.2.2.2, cm, mpt, (upd cls (Int32.toNatClampNeg (4 * cm)) q1))
    else
     if xin ((4 * cm) + 1) 96 then
     (f_X7_next N len q5.2.1 txt).bind fun q8 =>
     some (1, q8.1, q8.2.1, q8.2.2.1, q8.2.2.2, q5.2.2.2.2.2, (cm + 1), q5.2.2.2.2.1, (upd (upd cls (Int32.toNatClampNeg (4 * cm)) q1) (Int32.toNatClampNeg ((4 * cm) + 1)) q5.2.2.2.2.1))
     else none
   else
    f_X7_readClause_69 N q1 (4 * cm) len cm mpt txt N 1 plc wrg (upd cls (Int32.toNatClampNeg (4 * cm)) q1)
   else none
  else
   some ((f_X7_faults frm).1, plc, srt, frm, num, (f_X7_faults frm).2, cm, mpt, cls)
set_option maxHeartbeats 4000000 in
set_option maxRecDepth 100000 in
theorem c_X7_readClause {l : Launch} {D : va_G} {cI cZ cN cC : ClassId} {h0 h1 h2 h3 h4 h5 h6 h7 h8 h9 h10 h11 h12 h13 h14 h15 : Nat} {mn : Int32} {um : Int32} {len : Int32} {plc : Int32} {srt : Int32} {frm : Int32} {num : Int32} {wrg : Int32} {cm : Int32} {mpt : Int32} {st : (Nat → Int32)} {pst : (Nat → Int32)} {kep : (Nat → Int32)} {isk : (Nat → Int32)} {pil : (Nat → Int32)} {nxs : (Nat → Int32)} {txt : (Nat → Int32)} {cls : (Nat → Int32)} {asd : (Nat → Int32)} {opn : (Nat → Int32)} {byy : (Nat → Int32)} {twc : (Nat → Int32)} {szs : (Nat → Int32)} {sos : (Nat → Int32)} {ths : (Nat → Int32)}  {N : Nat} {res : Int32 × Int32 × Int32 × Int32 × Int32 × Int32 × Int32 × Int32 × (Nat → Int32)} (hf : f_X7_readClause N len plc srt frm num wrg cm mpt txt cls = some res) : xMet l D (xtys cI cZ cN cC) yX7_readClause cX7_readClause 4 (some .boolean) 4 91 [.ref h0] (wMod cI cZ cN cC h0 h1 h2 h3 h4 h5 h6 h7 h8 h9 h10 h11 h12 h13 h14 h15 mn um len plc srt frm num wrg cm mpt st pst kep isk pil nxs txt cls asd opn byy twc szs sos ths) (wMod cI cZ cN cC h0 h1 h2 h3 h4 h5 h6 h7 h8 h9 h10 h11 h12 h13 h14 h15 mn um len res.2.1 res.2.2.1 res.2.2.2.1 res.2.2.2.2.1 res.2.2.2.2.2.1 res.2.2.2.2.2.2.1 res.2.2.2.2.2.2.2.1 st pst kep isk pil nxs txt res.2.2.2.2.2.2.2.2 asd opn byy twc szs sos ths) (some (.int res.1)) := by
  refine x_enter (by decide) (Nat.le_of_ble_eq_true rfl) ?_
  intro p e s m args below meth c E ls hl hw
  have E : xE p s m args meth c cX7_readClause 4 (some .boolean) RX7 D (xtys cI cZ cN cC) (xA (wMod cI cZ cN cC h0 h1 h2 h3 h4 h5 h6 h7 h8 h9 h10 h11 h12 h13 h14 h15 mn um len plc srt frm num wrg cm mpt st pst kep isk pil nxs txt cls asd opn byy twc szs sos ths)) := E
  obtain ⟨hx, hb, -⟩ := id E
  have hl : lv_has ls 4 [(0, .ref h0)] := hl
  unfold f_X7_readClause at hf
  refine lv_aload_n hx hb dX7_readClause_0 rfl (lv_at hl 0 rfl) ?_
  obtain ⟨q1, hq1, hf⟩ := Option.bind_eq_some_iff.mp hf
  refine x_callVI (ws' := (wMod cI cZ cN cC h0 h1 h2 h3 h4 h5 h6 h7 h8 h9 h10 h11 h12 h13 h14 h15 mn um len plc srt frm num wrg cm mpt st pst kep isk pil nxs txt cls asd opn byy twc szs sos ths)) (st1 := [.int q1]) (As := []) (rest := []) E hw vc_X7_144 (c_X7_wordOf (cI := cI) (cZ := cZ) (cN := cN) (cC := cC) (h0 := h0) (h1 := h1) (h2 := h2) (h3 := h3) (h4 := h4) (h5 := h5) (h6 := h6) (h7 := h7) (h8 := h8) (h9 := h9) (h10 := h10) (h11 := h11) (h12 := h12) (h13 := h13) (h14 := h14) (h15 := h15)  (mn := mn) (um := um) (len := len) (plc := plc) (srt := srt) (frm := frm) (num := num) (wrg := wrg) (cm := cm) (mpt := mpt) (st := st) (pst := pst) (kep := kep) (isk := isk) (pil := pil) (nxs := nxs) (txt := txt) (cls := cls) (asd := asd) (opn := opn) (byy := byy) (twc := twc) (szs := szs) (sos := sos) (ths := ths)  hq1) 0 7 rfl rfl rfl rfl rfl ⟨Nat.le_of_ble_eq_true rfl, Nat.le_of_ble_eq_true rfl⟩ ⟨Nat.le_refl _, Nat.le_refl _⟩ hl.1 rfl rfl (Nat.le_of_ble_eq_true rfl) dX7_readClause_1 (fun H locs hw => ?_)
  refine lv_istore_n (lv' := [(1, .int q1), (0, .ref h0)]) hx hb dX7_readClause_4 rfl hl (by decide) rfl (fun ls hl => ?_)
  refine lv_iconst (v := 4) hx hb dX7_readClause_5 (by decide) ?_
  refine lv_aload_n hx hb dX7_readClause_6 rfl (lv_at hl 1 rfl) ?_
  refine x_get E hw kin_X7 0 rfl rfl 16 (by decide) kF_X7_147 (v := .int cm) rfl dX7_readClause_7 ?_
  refine lv_imul hx hb dX7_readClause_10 ?_
  refine lv_istore_n (lv' := [(2, .int (4 * cm)), (1, .int q1), (0, .ref h0)]) hx hb dX7_readClause_11 rfl hl (by decide) rfl (fun ls hl => ?_)
  refine lv_iload_n hx hb dX7_readClause_12 rfl (lv_at hl 1 rfl) ?_
  refine lv_if_ge (tgt := 21) hx hb dX7_readClause_13 (by decide) (fun c2 => ?_) (fun c2 => ?_)
  · rw [if_pos c2] at hf
    refine lv_aload_n hx hb dX7_readClause_21 rfl (lv_at hl 2 rfl) ?_
    refine x_get E hw kin_X7 0 rfl rfl 15 (by decide) kF_X7_35 (v := .ref h8) rfl dX7_readClause_22 ?_
    refine lv_iload_n hx hb dX7_readClause_25 rfl (lv_at hl 0 rfl) ?_
    refine lv_iload_n hx hb dX7_readClause_26 rfl (lv_at hl 1 rfl) ?_
    obtain ⟨g3, hf⟩ := xgd hf
    refine x_iast (ws' := (wMod cI cZ cN cC h0 h1 h2 h3 h4 h5 h6 h7 h8 h9 h10 h11 h12 h13 h14 h15 mn um len plc srt frm num wrg cm mpt st pst kep isk pil nxs txt (upd cls (Int32.toNatClampNeg (4 * cm)) q1) asd opn byy twc szs sos ths)) E hw 8 0 rfl rfl (xin_vp g3) rfl dX7_readClause_27 (fun H locs hw => ?_)
    refine lv_iload_n hx hb dX7_readClause_28 rfl (lv_at hl 1 rfl) ?_
    refine lv_if_ne (tgt := 67) hx hb dX7_readClause_29 (by decide) (fun c4 => ?_) (fun c4 => ?_)
    · rw [if_neg c4] at hf
      refine lv_iconst (v := 1) hx hb dX7_readClause_67 (by decide) ?_
      refine lv_istore_n (lv' := [(3, .int 1), (2, .int (4 * cm)), (1, .int q1), (0, .ref h0)]) hx hb dX7_readClause_68 rfl hl (by decide) rfl (fun ls hl => ?_)
      exact b_X7_readClause_69 E N _ _ _ _ _ _ _ hf _ _ _ hw (lv_sub hl [3, 2, 1, 0] rfl)
    · rw [if_pos c4] at hf
      refine lv_aload_n hx hb dX7_readClause_32 rfl (lv_at hl 2 rfl) ?_
      refine lv_iconst (v := 2) hx hb dX7_readClause_33 (by decide) ?_
      refine lv_bipush (v := 10) hx hb dX7_readClause_34 (by decide) ?_
      obtain ⟨q5, hq5, hf⟩ := Option.bind_eq_some_iff.mp hf
      refine x_callVI (ws' := (wMod cI cZ cN cC h0 h1 h2 h3 h4 h5 h6 h7 h8 h9 h10 h11 h12 h13 h14 h15 mn um len q5.2.1 q5.2.2.1 q5.2.2.2.1 q5.2.2.2.2.1 q5.2.2.2.2.2 cm mpt st pst kep isk pil nxs txt (upd cls (Int32.toNatClampNeg (4 * cm)) q1) asd opn byy twc szs sos ths)) (st1 := [.int q5.1]) (As := [.int 2, .int 10]) (rest := []) E hw vc_X7_141 (c_X7_takesNumber (cI := cI) (cZ := cZ) (cN := cN) (cC := cC) (h0 := h0) (h1 := h1) (h2 := h2) (h3 := h3) (h4 := h4) (h5 := h5) (h6 := h6) (h7 := h7) (h8 := h8) (h9 := h9) (h10 := h10) (h11 := h11) (h12 := h12) (h13 := h13) (h14 := h14) (h15 := h15)  (mn := mn) (um := um) (len := len) (plc := plc) (srt := srt) (frm := frm) (num := num) (wrg := wrg) (cm := cm) (mpt := mpt) (st := st) (pst := pst) (kep := kep) (isk := isk) (pil := pil) (nxs := nxs) (txt := txt) (cls := (upd cls (Int32.toNatClampNeg (4 * cm)) q1)) (asd := asd) (opn := opn) (byy := byy) (twc := twc) (szs := szs) (sos := sos) (ths := ths) (x1 := 2) (x2 := 10) hq5) 0 7 rfl rfl rfl rfl rfl ⟨Nat.le_of_ble_eq_true rfl, Nat.le_of_ble_eq_true rfl⟩ ⟨Nat.le_refl _, Nat.le_refl _⟩ hl.1 rfl rfl (Nat.le_of_ble_eq_true rfl) dX7_readClause_36 (fun H locs hw => ?_)
      refine lv_if_ne (tgt := 44) hx hb dX7_readClause_39 (by decide) (fun c6 => ?_) (fun c6 => ?_)
      · rw [if_neg c6] at hf
        refine lv_aload_n hx hb dX7_readClause_44 rfl (lv_at hl 2 rfl) ?_
        refine x_get E hw kin_X7 0 rfl rfl 15 (by decide) kF_X7_35 (v := .ref h8) rfl dX7_readClause_45 ?_
        refine lv_iload_n hx hb dX7_readClause_48 rfl (lv_at hl 0 rfl) ?_
        refine lv_iconst (v := 1) hx hb dX7_readClause_49 (by decide) ?_
        refine lv_iadd hx hb dX7_readClause_50 ?_
        refine lv_aload_n hx hb dX7_readClause_51 rfl (lv_at hl 2 rfl) ?_
        refine x_get E hw kin_X7 0 rfl rfl 13 (by decide) kF_X7_121 (v := .int q5.2.2.2.2.1) rfl dX7_readClause_52 ?_
        obtain ⟨g7, hf⟩ := xgd hf
        refine x_iast (ws' := (wMod cI cZ cN cC h0 h1 h2 h3 h4 h5 h6 h7 h8 h9 h10 h11 h12 h13 h14 h15 mn um len q5.2.1 q5.2.2.1 q5.2.2.2.1 q5.2.2.2.2.1 q5.2.2.2.2.2 cm mpt st pst kep isk pil nxs txt (upd (upd cls (Int32.toNatClampNeg (4 * cm)) q1) (Int32.toNatClampNeg ((4 * cm) + 1)) q5.2.2.2.2.1) asd opn byy twc szs sos ths)) E hw 8 0 rfl rfl (xin_vp g7) rfl dX7_readClause_55 (fun H locs hw => ?_)
        refine lv_aload_n hx hb dX7_readClause_56 rfl (lv_at hl 2 rfl) ?_
        refine lv_aload_n hx hb dX7_readClause_57 rfl (lv_at hl 2 rfl) ?_
        refine x_get E hw kin_X7 0 rfl rfl 13 (by decide) kF_X7_121 (v := .int q5.2.2.2.2.1) rfl dX7_readClause_58 ?_
        refine x_put (ws' := (wMod cI cZ cN cC h0 h1 h2 h3 h4 h5 h6 h7 h8 h9 h10 h11 h12 h13 h14 h15 mn um len q5.2.1 q5.2.2.1 q5.2.2.2.1 q5.2.2.2.2.1 q5.2.2.2.2.2 cm q5.2.2.2.2.1 st pst kep isk pil nxs txt (upd (upd cls (Int32.toNatClampNeg (4 * cm)) q1) (Int32.toNatClampNeg ((4 * cm) + 1)) q5.2.2.2.2.1) asd opn byy twc szs sos ths)) E hw kin_X7 tyX7 tyX7_ok nmX7 0 rfl rfl 17 (by decide) kF_X7_138 rfl (v := .int q5.2.2.2.2.1) rfl rfl (Nat.le_of_ble_eq_true rfl) rfl dX7_readClause_61 (fun H locs hw => ?_)
        refine lv_goto (tgt := 100) hx hb dX7_readClause_64 (by decide) ?_
        refine lv_aload_n hx hb dX7_readClause_100 rfl (lv_at hl 2 rfl) ?_
        refine lv_dup hx hb dX7_readClause_101 rfl ?_
        refine x_get E hw kin_X7 0 rfl rfl 16 (by decide) kF_X7_147 (v := .int cm) rfl dX7_readClause_102 ?_
        refine lv_iconst (v := 1) hx hb dX7_readClause_105 (by decide) ?_
        refine lv_iadd hx hb dX7_readClause_106 ?_
        refine x_put (ws' := (wMod cI cZ cN cC h0 h1 h2 h3 h4 h5 h6 h7 h8 h9 h10 h11 h12 h13 h14 h15 mn um len q5.2.1 q5.2.2.1 q5.2.2.2.1 q5.2.2.2.2.1 q5.2.2.2.2.2 (cm + 1) q5.2.2.2.2.1 st pst kep isk pil nxs txt (upd (upd cls (Int32.toNatClampNeg (4 * cm)) q1) (Int32.toNatClampNeg ((4 * cm) + 1)) q5.2.2.2.2.1) asd opn byy twc szs sos ths)) E hw kin_X7 tyX7 tyX7_ok nmX7 0 rfl rfl 16 (by decide) kF_X7_147 rfl (v := .int (cm + 1)) rfl rfl (Nat.le_of_ble_eq_true rfl) rfl dX7_readClause_107 (fun H locs hw => ?_)
        refine lv_aload_n hx hb dX7_readClause_110 rfl (lv_at hl 2 rfl) ?_
        obtain ⟨q8, hq8, hf⟩ := Option.bind_eq_some_iff.mp hf
        refine x_callVI (ws' := (wMod cI cZ cN cC h0 h1 h2 h3 h4 h5 h6 h7 h8 h9 h10 h11 h12 h13 h14 h15 mn um len q8.1 q8.2.1 q8.2.2.1 q8.2.2.2 q5.2.2.2.2.2 (cm + 1) q5.2.2.2.2.1 st pst kep isk pil nxs txt (upd (upd cls (Int32.toNatClampNeg (4 * cm)) q1) (Int32.toNatClampNeg ((4 * cm) + 1)) q5.2.2.2.2.1) asd opn byy twc szs sos ths)) (st1 := []) (As := []) (rest := []) E hw vc_X7_127 (c_X7_next (cI := cI) (cZ := cZ) (cN := cN) (cC := cC) (h0 := h0) (h1 := h1) (h2 := h2) (h3 := h3) (h4 := h4) (h5 := h5) (h6 := h6) (h7 := h7) (h8 := h8) (h9 := h9) (h10 := h10) (h11 := h11) (h12 := h12) (h13 := h13) (h14 := h14) (h15 := h15)  (mn := mn) (um := um) (len := len) (plc := q5.2.1) (srt := q5.2.2.1) (frm := q5.2.2.2.1) (num := q5.2.2.2.2.1) (wrg := q5.2.2.2.2.2) (cm := (cm + 1)) (mpt := q5.2.2.2.2.1) (st := st) (pst := pst) (kep := kep) (isk := isk) (pil := pil) (nxs := nxs) (txt := txt) (cls := (upd (upd cls (Int32.toNatClampNeg (4 * cm)) q1) (Int32.toNatClampNeg ((4 * cm) + 1)) q5.2.2.2.2.1)) (asd := asd) (opn := opn) (byy := byy) (twc := twc) (szs := szs) (sos := sos) (ths := ths)  hq8) 0 7 rfl rfl rfl rfl rfl ⟨Nat.le_of_ble_eq_true rfl, Nat.le_of_ble_eq_true rfl⟩ ⟨Nat.le_refl _, Nat.le_refl _⟩ hl.1 rfl rfl (Nat.le_of_ble_eq_true rfl) dX7_readClause_111 (fun H locs hw => ?_)
        refine lv_iconst (v := 1) hx hb dX7_readClause_114 (by decide) ?_
        have hf := Option.some.inj hf; subst hf
        exact x_zret E hw (xz_n (v := 1) (by decide)) dX7_readClause_115
      · rw [if_pos c6] at hf
        refine lv_iconst (v := 0) hx hb dX7_readClause_42 (by decide) ?_
        have hf := Option.some.inj hf; subst hf
        exact x_zret E hw (xz_n (v := 0) (by decide)) dX7_readClause_43
  · rw [if_neg c2] at hf
    refine lv_aload_n hx hb dX7_readClause_16 rfl (lv_at hl 2 rfl) ?_
    refine x_callVI (ws' := (wMod cI cZ cN cC h0 h1 h2 h3 h4 h5 h6 h7 h8 h9 h10 h11 h12 h13 h14 h15 mn um len plc srt frm num ((f_X7_faults frm).2) cm mpt st pst kep isk pil nxs txt cls asd opn byy twc szs sos ths)) (st1 := [.int ((f_X7_faults frm).1)]) (As := []) (rest := []) E hw vc_X7_130 (c_X7_faults (cI := cI) (cZ := cZ) (cN := cN) (cC := cC) (h0 := h0) (h1 := h1) (h2 := h2) (h3 := h3) (h4 := h4) (h5 := h5) (h6 := h6) (h7 := h7) (h8 := h8) (h9 := h9) (h10 := h10) (h11 := h11) (h12 := h12) (h13 := h13) (h14 := h14) (h15 := h15)  (mn := mn) (um := um) (len := len) (plc := plc) (srt := srt) (frm := frm) (num := num) (wrg := wrg) (cm := cm) (mpt := mpt) (st := st) (pst := pst) (kep := kep) (isk := isk) (pil := pil) (nxs := nxs) (txt := txt) (cls := cls) (asd := asd) (opn := opn) (byy := byy) (twc := twc) (szs := szs) (sos := sos) (ths := ths)  rfl) 0 7 rfl rfl rfl rfl rfl ⟨Nat.le_of_ble_eq_true rfl, Nat.le_of_ble_eq_true rfl⟩ ⟨Nat.le_refl _, Nat.le_refl _⟩ hl.1 rfl rfl (Nat.le_of_ble_eq_true rfl) dX7_readClause_17 (fun H locs hw => ?_)
    have hf := Option.some.inj hf; subst hf
    exact x_zret E hw (xz_n (v := (f_X7_faults frm).1) z_X7_faults) dX7_readClause_20

def f_X7_readAll_63 (plc : Int32) (srt : Int32) (frm : Int32) (num : Int32) (wrg : Int32) (cm : Int32) (mpt : Int32) (cls : (Nat → Int32)) : Option (Int32 × Int32 × Int32 × Int32 × Int32 × Int32 × Int32 × Int32 × (Nat → Int32)) :=
  if srt = 0 then
   some (1, plc, srt, frm, num, wrg, cm, mpt, cls)
  else
   if ((f_X7_faults frm).1) = 0 then
    some (0, plc, srt, frm, num, (f_X7_faults frm).2, cm, mpt, cls)
   else
    some (1, plc, srt, frm, num, (f_X7_faults frm).2, cm, mpt, cls)
set_option maxHeartbeats 4000000 in
set_option maxRecDepth 100000 in
theorem b_X7_readAll_63 {p : Program} {l : Launch} {e : Env} {s : State} {m : MethodId} {args : Array Value} {below : List Frame} {meth : Method} {c : Code} {D : va_G} {cI cZ cN cC : ClassId} {ws0 : va_W} {h0 h1 h2 h3 h4 h5 h6 h7 h8 h9 h10 h11 h12 h13 h14 h15 : Nat} {mn : Int32} {um : Int32} {len : Int32} {plc : Int32} {srt : Int32} {frm : Int32} {num : Int32} {wrg : Int32} {cm : Int32} {mpt : Int32} {st : (Nat → Int32)} {pst : (Nat → Int32)} {kep : (Nat → Int32)} {isk : (Nat → Int32)} {pil : (Nat → Int32)} {nxs : (Nat → Int32)} {txt : (Nat → Int32)} {cls : (Nat → Int32)} {asd : (Nat → Int32)} {opn : (Nat → Int32)} {byy : (Nat → Int32)} {twc : (Nat → Int32)} {szs : (Nat → Int32)} {sos : (Nat → Int32)} {ths : (Nat → Int32)} {res : Int32 × Int32 × Int32 × Int32 × Int32 × Int32 × Int32 × Int32 × (Nat → Int32)} (E : xE p s m args meth c cX7_readAll 1 (some .boolean) RX7 D (xtys cI cZ cN cC) (xA ws0)) : f_X7_readAll_63 plc srt frm num wrg cm mpt cls = some res → ∀ (H : Heap) (locs : List Loc) (ls : Array Slot), xw D (xA ws0) s.heap (wMod cI cZ cN cC h0 h1 h2 h3 h4 h5 h6 h7 h8 h9 h10 h11 h12 h13 h14 h15 mn um len plc srt frm num wrg cm mpt st pst kep isk pil nxs txt cls asd opn byy twc szs sos ths) H locs → lv_has ls 1 [(0, .ref h0)] → xG p l e 5 114 s m args below meth c D ws0 (wMod cI cZ cN cC h0 h1 h2 h3 h4 h5 h6 h7 h8 h9 h10 h11 h12 h13 h14 h15 mn um len res.2.1 res.2.2.1 res.2.2.2.1 res.2.2.2.2.1 res.2.2.2.2.2.1 res.2.2.2.2.2.2.1 res.2.2.2.2.2.2.2.1 st pst kep isk pil nxs txt res.2.2.2.2.2.2.2.2 asd opn byy twc szs sos ths) (some (.int res.1)) H locs (F0 m 63 ls []) := by
  obtain ⟨hx, hb, -⟩ := id E
  intro hf H locs ls hw hl
  unfold f_X7_readAll_63 at hf
  refine lv_aload_n hx hb dX7_readAll_63 rfl (lv_at hl 0 rfl) ?_
  refine x_get E hw kin_X7 0 rfl rfl 11 (by decide) kF_X7_118 (v := .int srt) rfl dX7_readAll_64 ?_
  refine lv_if_eq (tgt := 77) hx hb dX7_readAll_67 (by decide) (fun c9 => ?_) (fun c9 => ?_)
  · rw [if_pos c9] at hf
    refine lv_iconst (v := 1) hx hb dX7_readAll_77 (by decide) ?_
    refine lv_goto (tgt := 82) hx hb dX7_readAll_78 (by decide) ?_
    have hf := Option.some.inj hf; subst hf
    exact x_zret E hw (xz_n (v := 1) (by decide)) dX7_readAll_82
  · rw [if_neg c9] at hf
    refine lv_aload_n hx hb dX7_readAll_70 rfl (lv_at hl 0 rfl) ?_
    refine x_callVI (ws' := (wMod cI cZ cN cC h0 h1 h2 h3 h4 h5 h6 h7 h8 h9 h10 h11 h12 h13 h14 h15 mn um len plc srt frm num ((f_X7_faults frm).2) cm mpt st pst kep isk pil nxs txt cls asd opn byy twc szs sos ths)) (st1 := [.int ((f_X7_faults frm).1)]) (As := []) (rest := []) E hw vc_X7_130 (c_X7_faults (cI := cI) (cZ := cZ) (cN := cN) (cC := cC) (h0 := h0) (h1 := h1) (h2 := h2) (h3 := h3) (h4 := h4) (h5 := h5) (h6 := h6) (h7 := h7) (h8 := h8) (h9 := h9) (h10 := h10) (h11 := h11) (h12 := h12) (h13 := h13) (h14 := h14) (h15 := h15)  (mn := mn) (um := um) (len := len) (plc := plc) (srt := srt) (frm := frm) (num := num) (wrg := wrg) (cm := cm) (mpt := mpt) (st := st) (pst := pst) (kep := kep) (isk := isk) (pil := pil) (nxs := nxs) (txt := txt) (cls := cls) (asd := asd) (opn := opn) (byy := byy) (twc := twc) (szs := szs) (sos := sos) (ths := ths)  rfl) 0 7 rfl rfl rfl rfl rfl ⟨Nat.le_of_ble_eq_true rfl, Nat.le_of_ble_eq_true rfl⟩ ⟨Nat.le_refl _, Nat.le_refl _⟩ hl.1 rfl rfl (Nat.le_of_ble_eq_true rfl) dX7_readAll_71 (fun H locs hw => ?_)
    refine lv_if_eq (tgt := 81) hx hb dX7_readAll_74 (by decide) (fun c10 => ?_) (fun c10 => ?_)
    · rw [if_pos c10] at hf
      refine lv_iconst (v := 0) hx hb dX7_readAll_81 (by decide) ?_
      have hf := Option.some.inj hf; subst hf
      exact x_zret E hw (xz_n (v := 0) (by decide)) dX7_readAll_82
    · rw [if_neg c10] at hf
      refine lv_iconst (v := 1) hx hb dX7_readAll_77 (by decide) ?_
      refine lv_goto (tgt := 82) hx hb dX7_readAll_78 (by decide) ?_
      have hf := Option.some.inj hf; subst hf
      exact x_zret E hw (xz_n (v := 1) (by decide)) dX7_readAll_82
def f_X7_readAll_31 (N : Nat) (len : Int32) (txt : (Nat → Int32)) : Nat → Int32 → Int32 → Int32 → Int32 → Int32 → Int32 → Int32 → (Nat → Int32) → Option (Int32 × Int32 × Int32 × Int32 × Int32 × Int32 × Int32 × Int32 × (Nat → Int32))
  | 0, _, _, _, _, _, _, _, _ => none
  | n + 1, plc, srt, frm, num, wrg, cm, mpt, cls =>
    if srt = (-941) then
     if 24 ≤ cm then
      f_X7_readAll_63 plc srt frm num wrg cm mpt cls
     else
      (f_X7_next N len plc txt).bind fun q6 =>
      (f_X7_readClause N len q6.1 q6.2.1 q6.2.2.1 q6.2.2.2 wrg cm mpt txt cls).bind fun q7 =>
      if q7.1 = 0 then
       some (0, q7.2.1, q7.2.2.1, q7.2.2.2.1, q7.2.2.2.2.1, q7.2.2.2.2.2.1, q7.2.2.2.2.2.2.1, q7.2.2.2.2.2.2.2.1, q7.2.2.2.2.2.2.2.2)
      else
       f_X7_readAll_31 N len txt n q7.2.1 q7.2.2.1 q7.2.2.2.1 q7.2.2.2.2.1 q7.2.2.2.2.2.1 q7.2.2.2.2.2.2.1 q7.2.2.2.2.2.2.2.1 q7.2.2.2.2.2.2.2.2
    else
     f_X7_readAll_63 plc srt frm num wrg cm mpt cls
set_option maxHeartbeats 4000000 in
set_option maxRecDepth 100000 in
theorem b_X7_readAll_31 {p : Program} {l : Launch} {e : Env} {s : State} {m : MethodId} {args : Array Value} {below : List Frame} {meth : Method} {c : Code} {D : va_G} {cI cZ cN cC : ClassId} {ws0 : va_W} {h0 h1 h2 h3 h4 h5 h6 h7 h8 h9 h10 h11 h12 h13 h14 h15 : Nat} {mn : Int32} {um : Int32} {len : Int32} {st : (Nat → Int32)} {pst : (Nat → Int32)} {kep : (Nat → Int32)} {isk : (Nat → Int32)} {pil : (Nat → Int32)} {nxs : (Nat → Int32)} {txt : (Nat → Int32)} {asd : (Nat → Int32)} {opn : (Nat → Int32)} {byy : (Nat → Int32)} {twc : (Nat → Int32)} {szs : (Nat → Int32)} {sos : (Nat → Int32)} {ths : (Nat → Int32)} {N : Nat} {res : Int32 × Int32 × Int32 × Int32 × Int32 × Int32 × Int32 × Int32 × (Nat → Int32)} (E : xE p s m args meth c cX7_readAll 1 (some .boolean) RX7 D (xtys cI cZ cN cC) (xA ws0)) : ∀ (n : Nat) (plc : Int32) (srt : Int32) (frm : Int32) (num : Int32) (wrg : Int32) (cm : Int32) (mpt : Int32) (cls : (Nat → Int32)), f_X7_readAll_31 N len txt n plc srt frm num wrg cm mpt cls = some res → ∀ (H : Heap) (locs : List Loc) (ls : Array Slot), xw D (xA ws0) s.heap (wMod cI cZ cN cC h0 h1 h2 h3 h4 h5 h6 h7 h8 h9 h10 h11 h12 h13 h14 h15 mn um len plc srt frm num wrg cm mpt st pst kep isk pil nxs txt cls asd opn byy twc szs sos ths) H locs → lv_has ls 1 [(0, .ref h0)] → xG p l e 5 114 s m args below meth c D ws0 (wMod cI cZ cN cC h0 h1 h2 h3 h4 h5 h6 h7 h8 h9 h10 h11 h12 h13 h14 h15 mn um len res.2.1 res.2.2.1 res.2.2.2.1 res.2.2.2.2.1 res.2.2.2.2.2.1 res.2.2.2.2.2.2.1 res.2.2.2.2.2.2.2.1 st pst kep isk pil nxs txt res.2.2.2.2.2.2.2.2 asd opn byy twc szs sos ths) (some (.int res.1)) H locs (F0 m 31 ls []) := by
  obtain ⟨hx, hb, -⟩ := id E
  intro n
  induction n with
  | zero =>
    intro _ _ _ _ _ _ _ _ hf
    rw [f_X7_readAll_31] at hf; cases hf
  | succ n ih =>
    intro plc srt frm num wrg cm mpt cls hf H locs ls hw hl
    rw [f_X7_readAll_31] at hf
    refine lv_aload_n hx hb dX7_readAll_31 rfl (lv_at hl 0 rfl) ?_
    refine x_get E hw kin_X7 0 rfl rfl 11 (by decide) kF_X7_118 (v := .int srt) rfl dX7_readAll_32 ?_
    refine lv_sipush (v := (-941)) hx hb dX7_readAll_35 (by decide) ?_
    refine lv_icmp_ne (tgt := 63) hx hb dX7_readAll_38 (by decide) (fun c4 => ?_) (fun c4 => ?_)
    · rw [if_neg c4] at hf
      exact b_X7_readAll_63 E  hf _ _ _ hw (lv_sub hl [0] rfl)
    · rw [if_pos c4] at hf
      refine lv_aload_n hx hb dX7_readAll_41 rfl (lv_at hl 0 rfl) ?_
      refine x_get E hw kin_X7 0 rfl rfl 16 (by decide) kF_X7_147 (v := .int cm) rfl dX7_readAll_42 ?_
      refine lv_bipush (v := 24) hx hb dX7_readAll_45 (by decide) ?_
      refine lv_icmp_ge (tgt := 63) hx hb dX7_readAll_47 (by decide) (fun c5 => ?_) (fun c5 => ?_)
      · rw [if_pos c5] at hf
        exact b_X7_readAll_63 E  hf _ _ _ hw (lv_sub hl [0] rfl)
      · rw [if_neg c5] at hf
        refine lv_aload_n hx hb dX7_readAll_50 rfl (lv_at hl 0 rfl) ?_
        obtain ⟨q6, hq6, hf⟩ := Option.bind_eq_some_iff.mp hf
        refine x_callVI (ws' := (wMod cI cZ cN cC h0 h1 h2 h3 h4 h5 h6 h7 h8 h9 h10 h11 h12 h13 h14 h15 mn um len q6.1 q6.2.1 q6.2.2.1 q6.2.2.2 wrg cm mpt st pst kep isk pil nxs txt cls asd opn byy twc szs sos ths)) (st1 := []) (As := []) (rest := []) E hw vc_X7_127 (c_X7_next (cI := cI) (cZ := cZ) (cN := cN) (cC := cC) (h0 := h0) (h1 := h1) (h2 := h2) (h3 := h3) (h4 := h4) (h5 := h5) (h6 := h6) (h7 := h7) (h8 := h8) (h9 := h9) (h10 := h10) (h11 := h11) (h12 := h12) (h13 := h13) (h14 := h14) (h15 := h15)  (mn := mn) (um := um) (len := len) (plc := plc) (srt := srt) (frm := frm) (num := num) (wrg := wrg) (cm := cm) (mpt := mpt) (st := st) (pst := pst) (kep := kep) (isk := isk) (pil := pil) (nxs := nxs) (txt := txt) (cls := cls) (asd := asd) (opn := opn) (byy := byy) (twc := twc) (szs := szs) (sos := sos) (ths := ths)  hq6) 0 7 rfl rfl rfl rfl rfl ⟨Nat.le_of_ble_eq_true rfl, Nat.le_of_ble_eq_true rfl⟩ ⟨Nat.le_refl _, Nat.le_refl _⟩ hl.1 rfl rfl (Nat.le_of_ble_eq_true rfl) dX7_readAll_51 (fun H locs hw => ?_)
        refine lv_aload_n hx hb dX7_readAll_54 rfl (lv_at hl 0 rfl) ?_
        obtain ⟨q7, hq7, hf⟩ := Option.bind_eq_some_iff.mp hf
        refine x_callVI (ws' := (wMod cI cZ cN cC h0 h1 h2 h3 h4 h5 h6 h7 h8 h9 h10 h11 h12 h13 h14 h15 mn um len q7.2.1 q7.2.2.1 q7.2.2.2.1 q7.2.2.2.2.1 q7.2.2.2.2.2.1 q7.2.2.2.2.2.2.1 q7.2.2.2.2.2.2.2.1 st pst kep isk pil nxs txt q7.2.2.2.2.2.2.2.2 asd opn byy twc szs sos ths)) (st1 := [.int q7.1]) (As := []) (rest := []) E hw vc_X7_153 (c_X7_readClause (cI := cI) (cZ := cZ) (cN := cN) (cC := cC) (h0 := h0) (h1 := h1) (h2 := h2) (h3 := h3) (h4 := h4) (h5 := h5) (h6 := h6) (h7 := h7) (h8 := h8) (h9 := h9) (h10 := h10) (h11 := h11) (h12 := h12) (h13 := h13) (h14 := h14) (h15 := h15)  (mn := mn) (um := um) (len := len) (plc := q6.1) (srt := q6.2.1) (frm := q6.2.2.1) (num := q6.2.2.2) (wrg := wrg) (cm := cm) (mpt := mpt) (st := st) (pst := pst) (kep := kep) (isk := isk) (pil := pil) (nxs := nxs) (txt := txt) (cls := cls) (asd := asd) (opn := opn) (byy := byy) (twc := twc) (szs := szs) (sos := sos) (ths := ths)  hq7) 0 7 rfl rfl rfl rfl rfl ⟨Nat.le_of_ble_eq_true rfl, Nat.le_of_ble_eq_true rfl⟩ ⟨Nat.le_refl _, Nat.le_refl _⟩ hl.1 rfl rfl (Nat.le_of_ble_eq_true rfl) dX7_readAll_55 (fun H locs hw => ?_)
        refine lv_if_ne (tgt := 31) hx hb dX7_readAll_58 (by decide) (fun c8 => ?_) (fun c8 => ?_)
        · rw [if_neg c8] at hf
          exact ih _ _ _ _ _ _ _ _ hf _ _ _ hw (lv_sub hl [0] rfl)
        · rw [if_pos c8] at hf
          refine lv_iconst (v := 0) hx hb dX7_readAll_61 (by decide) ?_
          have hf := Option.some.inj hf; subst hf
          exact x_zret E hw (xz_n (v := 0) (by decide)) dX7_readAll_62
def f_X7_readAll (N : Nat) (mn : Int32) (len : Int32) (wrg : Int32) (txt : (Nat → Int32)) (cls : (Nat → Int32)) : Option (Int32 × Int32 × Int32 × Int32 × Int32 × Int32 × Int32 × Int32 × (Nat → Int32)) :=
  (f_X7_next N len 0 txt).bind fun q1 =>
  (f_X7_readClause N len q1.1 q1.2.1 q1.2.2.1 q1.2.2.2 wrg 0 mn txt cls).bind fun q2 =>
  if q2.1 = 0 then
   some (0, q2.2.1, q2.2.2.1, q2.2.2.2.1, q2.2.2.2.2.1, q2.2.2.2.2.2.1, q2.2.2.2.2.2.2.1, q2.2.2.2.2.2.2.2.1, q2.2.2.2.2.2.2.2.2)
  else
   f_X7_readAll_31 N len txt N q2.2.1 q2.2.2.1 q2.2.2.2.1 q2.2.2.2.2.1 q2.2.2.2.2.2.1 q2.2.2.2.2.2.2.1 q2.2.2.2.2.2.2.2.1 q2.2.2.2.2.2.2.2.2
set_option maxHeartbeats 4000000 in
set_option maxRecDepth 100000 in
theorem c_X7_readAll {l : Launch} {D : va_G} {cI cZ cN cC : ClassId} {h0 h1 h2 h3 h4 h5 h6 h7 h8 h9 h10 h11 h12 h13 h14 h15 : Nat} {mn : Int32} {um : Int32} {len : Int32} {plc : Int32} {srt : Int32} {frm : Int32} {num : Int32} {wrg : Int32} {cm : Int32} {mpt : Int32} {st : (Nat → Int32)} {pst : (Nat → Int32)} {kep : (Nat → Int32)} {isk : (Nat → Int32)} {pil : (Nat → Int32)} {nxs : (Nat → Int32)} {txt : (Nat → Int32)} {cls : (Nat → Int32)} {asd : (Nat → Int32)} {opn : (Nat → Int32)} {byy : (Nat → Int32)} {twc : (Nat → Int32)} {szs : (Nat → Int32)} {sos : (Nat → Int32)} {ths : (Nat → Int32)}  {N : Nat} {res : Int32 × Int32 × Int32 × Int32 × Int32 × Int32 × Int32 × Int32 × (Nat → Int32)} (hf : f_X7_readAll N mn len wrg txt cls = some res) : xMet l D (xtys cI cZ cN cC) yX7_readAll cX7_readAll 1 (some .boolean) 5 114 [.ref h0] (wMod cI cZ cN cC h0 h1 h2 h3 h4 h5 h6 h7 h8 h9 h10 h11 h12 h13 h14 h15 mn um len plc srt frm num wrg cm mpt st pst kep isk pil nxs txt cls asd opn byy twc szs sos ths) (wMod cI cZ cN cC h0 h1 h2 h3 h4 h5 h6 h7 h8 h9 h10 h11 h12 h13 h14 h15 mn um len res.2.1 res.2.2.1 res.2.2.2.1 res.2.2.2.2.1 res.2.2.2.2.2.1 res.2.2.2.2.2.2.1 res.2.2.2.2.2.2.2.1 st pst kep isk pil nxs txt res.2.2.2.2.2.2.2.2 asd opn byy twc szs sos ths) (some (.int res.1)) := by
  refine x_enter (by decide) (Nat.le_of_ble_eq_true rfl) ?_
  intro p e s m args below meth c E ls hl hw
  have E : xE p s m args meth c cX7_readAll 1 (some .boolean) RX7 D (xtys cI cZ cN cC) (xA (wMod cI cZ cN cC h0 h1 h2 h3 h4 h5 h6 h7 h8 h9 h10 h11 h12 h13 h14 h15 mn um len plc srt frm num wrg cm mpt st pst kep isk pil nxs txt cls asd opn byy twc szs sos ths)) := E
  obtain ⟨hx, hb, -⟩ := id E
  have hl : lv_has ls 1 [(0, .ref h0)] := hl
  unfold f_X7_readAll at hf
  refine lv_aload_n hx hb dX7_readAll_0 rfl (lv_at hl 0 rfl) ?_
  refine lv_iconst (v := 0) hx hb dX7_readAll_1 (by decide) ?_
  refine x_put (ws' := (wMod cI cZ cN cC h0 h1 h2 h3 h4 h5 h6 h7 h8 h9 h10 h11 h12 h13 h14 h15 mn um len 0 srt frm num wrg cm mpt st pst kep isk pil nxs txt cls asd opn byy twc szs sos ths)) E hw kin_X7 tyX7 tyX7_ok nmX7 0 rfl rfl 10 (by decide) kF_X7_100 rfl (v := .int 0) rfl rfl (Nat.le_of_ble_eq_true rfl) rfl dX7_readAll_2 (fun H locs hw => ?_)
  refine lv_aload_n hx hb dX7_readAll_5 rfl (lv_at hl 0 rfl) ?_
  refine lv_iconst (v := 0) hx hb dX7_readAll_6 (by decide) ?_
  refine x_put (ws' := (wMod cI cZ cN cC h0 h1 h2 h3 h4 h5 h6 h7 h8 h9 h10 h11 h12 h13 h14 h15 mn um len 0 srt frm num wrg 0 mpt st pst kep isk pil nxs txt cls asd opn byy twc szs sos ths)) E hw kin_X7 tyX7 tyX7_ok nmX7 0 rfl rfl 16 (by decide) kF_X7_147 rfl (v := .int 0) rfl rfl (Nat.le_of_ble_eq_true rfl) rfl dX7_readAll_7 (fun H locs hw => ?_)
  refine lv_aload_n hx hb dX7_readAll_10 rfl (lv_at hl 0 rfl) ?_
  refine lv_aload_n hx hb dX7_readAll_11 rfl (lv_at hl 0 rfl) ?_
  refine x_get E hw kin_X7 0 rfl rfl 0 (by decide) kF_X7_7 (v := .int mn) rfl dX7_readAll_12 ?_
  refine x_put (ws' := (wMod cI cZ cN cC h0 h1 h2 h3 h4 h5 h6 h7 h8 h9 h10 h11 h12 h13 h14 h15 mn um len 0 srt frm num wrg 0 mn st pst kep isk pil nxs txt cls asd opn byy twc szs sos ths)) E hw kin_X7 tyX7 tyX7_ok nmX7 0 rfl rfl 17 (by decide) kF_X7_138 rfl (v := .int mn) rfl rfl (Nat.le_of_ble_eq_true rfl) rfl dX7_readAll_15 (fun H locs hw => ?_)
  refine lv_aload_n hx hb dX7_readAll_18 rfl (lv_at hl 0 rfl) ?_
  obtain ⟨q1, hq1, hf⟩ := Option.bind_eq_some_iff.mp hf
  refine x_callVI (ws' := (wMod cI cZ cN cC h0 h1 h2 h3 h4 h5 h6 h7 h8 h9 h10 h11 h12 h13 h14 h15 mn um len q1.1 q1.2.1 q1.2.2.1 q1.2.2.2 wrg 0 mn st pst kep isk pil nxs txt cls asd opn byy twc szs sos ths)) (st1 := []) (As := []) (rest := []) E hw vc_X7_127 (c_X7_next (cI := cI) (cZ := cZ) (cN := cN) (cC := cC) (h0 := h0) (h1 := h1) (h2 := h2) (h3 := h3) (h4 := h4) (h5 := h5) (h6 := h6) (h7 := h7) (h8 := h8) (h9 := h9) (h10 := h10) (h11 := h11) (h12 := h12) (h13 := h13) (h14 := h14) (h15 := h15)  (mn := mn) (um := um) (len := len) (plc := 0) (srt := srt) (frm := frm) (num := num) (wrg := wrg) (cm := 0) (mpt := mn) (st := st) (pst := pst) (kep := kep) (isk := isk) (pil := pil) (nxs := nxs) (txt := txt) (cls := cls) (asd := asd) (opn := opn) (byy := byy) (twc := twc) (szs := szs) (sos := sos) (ths := ths)  hq1) 0 7 rfl rfl rfl rfl rfl ⟨Nat.le_of_ble_eq_true rfl, Nat.le_of_ble_eq_true rfl⟩ ⟨Nat.le_refl _, Nat.le_refl _⟩ hl.1 rfl rfl (Nat.le_of_ble_eq_true rfl) dX7_readAll_19 (fun H locs hw => ?_)
  refine lv_aload_n hx hb dX7_readAll_22 rfl (lv_at hl 0 rfl) ?_
  obtain ⟨q2, hq2, hf⟩ := Option.bind_eq_some_iff.mp hf
  refine x_callVI (ws' := (wMod cI cZ cN cC h0 h1 h2 h3 h4 h5 h6 h7 h8 h9 h10 h11 h12 h13 h14 h15 mn um len q2.2.1 q2.2.2.1 q2.2.2.2.1 q2.2.2.2.2.1 q2.2.2.2.2.2.1 q2.2.2.2.2.2.2.1 q2.2.2.2.2.2.2.2.1 st pst kep isk pil nxs txt q2.2.2.2.2.2.2.2.2 asd opn byy twc szs sos ths)) (st1 := [.int q2.1]) (As := []) (rest := []) E hw vc_X7_153 (c_X7_readClause (cI := cI) (cZ := cZ) (cN := cN) (cC := cC) (h0 := h0) (h1 := h1) (h2 := h2) (h3 := h3) (h4 := h4) (h5 := h5) (h6 := h6) (h7 := h7) (h8 := h8) (h9 := h9) (h10 := h10) (h11 := h11) (h12 := h12) (h13 := h13) (h14 := h14) (h15 := h15)  (mn := mn) (um := um) (len := len) (plc := q1.1) (srt := q1.2.1) (frm := q1.2.2.1) (num := q1.2.2.2) (wrg := wrg) (cm := 0) (mpt := mn) (st := st) (pst := pst) (kep := kep) (isk := isk) (pil := pil) (nxs := nxs) (txt := txt) (cls := cls) (asd := asd) (opn := opn) (byy := byy) (twc := twc) (szs := szs) (sos := sos) (ths := ths)  hq2) 0 7 rfl rfl rfl rfl rfl ⟨Nat.le_of_ble_eq_true rfl, Nat.le_of_ble_eq_true rfl⟩ ⟨Nat.le_refl _, Nat.le_refl _⟩ hl.1 rfl rfl (Nat.le_of_ble_eq_true rfl) dX7_readAll_23 (fun H locs hw => ?_)
  refine lv_if_ne (tgt := 31) hx hb dX7_readAll_26 (by decide) (fun c3 => ?_) (fun c3 => ?_)
  · rw [if_neg c3] at hf
    exact b_X7_readAll_31 E N _ _ _ _ _ _ _ _ hf _ _ _ hw (lv_sub hl [0] rfl)
  · rw [if_pos c3] at hf
    refine lv_iconst (v := 0) hx hb dX7_readAll_29 (by decide) ?_
    have hf := Option.some.inj hf; subst hf
    exact x_zret E hw (xz_n (v := 0) (by decide)) dX7_readAll_30

def f_X7_fault (N : Nat) (mn : Int32) (len : Int32) (wrg : Int32) (txt : (Nat → Int32)) (cls : (Nat → Int32)) : Option (Int32 × Int32 × Int32 × Int32 × Int32 × Int32 × Int32 × Int32 × (Nat → Int32)) :=
  (f_X7_readAll N mn len wrg txt cls).bind fun q1 =>
  if q1.1 = 0 then
   some (q1.2.2.2.2.2.1, q1.2.1, q1.2.2.1, q1.2.2.2.1, q1.2.2.2.2.1, q1.2.2.2.2.2.1, q1.2.2.2.2.2.2.1, q1.2.2.2.2.2.2.2.1, q1.2.2.2.2.2.2.2.2)
  else
   some ((-1), q1.2.1, q1.2.2.1, q1.2.2.2.1, q1.2.2.2.2.1, q1.2.2.2.2.2.1, q1.2.2.2.2.2.2.1, q1.2.2.2.2.2.2.2.1, q1.2.2.2.2.2.2.2.2)
set_option maxHeartbeats 4000000 in
set_option maxRecDepth 100000 in
theorem c_X7_fault {l : Launch} {D : va_G} {cI cZ cN cC : ClassId} {h0 h1 h2 h3 h4 h5 h6 h7 h8 h9 h10 h11 h12 h13 h14 h15 : Nat} {mn : Int32} {um : Int32} {len : Int32} {plc : Int32} {srt : Int32} {frm : Int32} {num : Int32} {wrg : Int32} {cm : Int32} {mpt : Int32} {st : (Nat → Int32)} {pst : (Nat → Int32)} {kep : (Nat → Int32)} {isk : (Nat → Int32)} {pil : (Nat → Int32)} {nxs : (Nat → Int32)} {txt : (Nat → Int32)} {cls : (Nat → Int32)} {asd : (Nat → Int32)} {opn : (Nat → Int32)} {byy : (Nat → Int32)} {twc : (Nat → Int32)} {szs : (Nat → Int32)} {sos : (Nat → Int32)} {ths : (Nat → Int32)}  {N : Nat} {res : Int32 × Int32 × Int32 × Int32 × Int32 × Int32 × Int32 × Int32 × (Nat → Int32)} (hf : f_X7_fault N mn len wrg txt cls = some res) : xMet l D (xtys cI cZ cN cC) yX7_fault cX7_fault 1 (some .int) 6 134 [.ref h0] (wMod cI cZ cN cC h0 h1 h2 h3 h4 h5 h6 h7 h8 h9 h10 h11 h12 h13 h14 h15 mn um len plc srt frm num wrg cm mpt st pst kep isk pil nxs txt cls asd opn byy twc szs sos ths) (wMod cI cZ cN cC h0 h1 h2 h3 h4 h5 h6 h7 h8 h9 h10 h11 h12 h13 h14 h15 mn um len res.2.1 res.2.2.1 res.2.2.2.1 res.2.2.2.2.1 res.2.2.2.2.2.1 res.2.2.2.2.2.2.1 res.2.2.2.2.2.2.2.1 st pst kep isk pil nxs txt res.2.2.2.2.2.2.2.2 asd opn byy twc szs sos ths) (some (.int res.1)) := by
  refine x_enter (by decide) (Nat.le_of_ble_eq_true rfl) ?_
  intro p e s m args below meth c E ls hl hw
  have E : xE p s m args meth c cX7_fault 1 (some .int) RX7 D (xtys cI cZ cN cC) (xA (wMod cI cZ cN cC h0 h1 h2 h3 h4 h5 h6 h7 h8 h9 h10 h11 h12 h13 h14 h15 mn um len plc srt frm num wrg cm mpt st pst kep isk pil nxs txt cls asd opn byy twc szs sos ths)) := E
  obtain ⟨hx, hb, -⟩ := id E
  have hl : lv_has ls 1 [(0, .ref h0)] := hl
  unfold f_X7_fault at hf
  refine lv_aload_n hx hb dX7_fault_0 rfl (lv_at hl 0 rfl) ?_
  obtain ⟨q1, hq1, hf⟩ := Option.bind_eq_some_iff.mp hf
  refine x_callVI (ws' := (wMod cI cZ cN cC h0 h1 h2 h3 h4 h5 h6 h7 h8 h9 h10 h11 h12 h13 h14 h15 mn um len q1.2.1 q1.2.2.1 q1.2.2.2.1 q1.2.2.2.2.1 q1.2.2.2.2.2.1 q1.2.2.2.2.2.2.1 q1.2.2.2.2.2.2.2.1 st pst kep isk pil nxs txt q1.2.2.2.2.2.2.2.2 asd opn byy twc szs sos ths)) (st1 := [.int q1.1]) (As := []) (rest := []) E hw vc_X7_156 (c_X7_readAll (cI := cI) (cZ := cZ) (cN := cN) (cC := cC) (h0 := h0) (h1 := h1) (h2 := h2) (h3 := h3) (h4 := h4) (h5 := h5) (h6 := h6) (h7 := h7) (h8 := h8) (h9 := h9) (h10 := h10) (h11 := h11) (h12 := h12) (h13 := h13) (h14 := h14) (h15 := h15)  (mn := mn) (um := um) (len := len) (plc := plc) (srt := srt) (frm := frm) (num := num) (wrg := wrg) (cm := cm) (mpt := mpt) (st := st) (pst := pst) (kep := kep) (isk := isk) (pil := pil) (nxs := nxs) (txt := txt) (cls := cls) (asd := asd) (opn := opn) (byy := byy) (twc := twc) (szs := szs) (sos := sos) (ths := ths)  hq1) 0 7 rfl rfl rfl rfl rfl ⟨Nat.le_of_ble_eq_true rfl, Nat.le_of_ble_eq_true rfl⟩ ⟨Nat.le_refl _, Nat.le_refl _⟩ hl.1 rfl rfl (Nat.le_of_ble_eq_true rfl) dX7_fault_1 (fun H locs hw => ?_)
  refine lv_if_eq (tgt := 11) hx hb dX7_fault_4 (by decide) (fun c2 => ?_) (fun c2 => ?_)
  · rw [if_pos c2] at hf
    refine lv_aload_n hx hb dX7_fault_11 rfl (lv_at hl 0 rfl) ?_
    refine x_get E hw kin_X7 0 rfl rfl 14 (by decide) kF_X7_124 (v := .int q1.2.2.2.2.2.1) rfl dX7_fault_12 ?_
    have hf := Option.some.inj hf; subst hf
    exact x_iret E hw dX7_fault_15
  · rw [if_neg c2] at hf
    refine lv_iconst (v := (-1)) hx hb dX7_fault_7 (by decide) ?_
    refine lv_goto (tgt := 15) hx hb dX7_fault_8 (by decide) ?_
    have hf := Option.some.inj hf; subst hf
    exact x_iret E hw dX7_fault_15

