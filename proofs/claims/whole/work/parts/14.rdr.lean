abbrev wRdr (cI cZ cN cC : ClassId) (h0 h1 h2 k0 k1 : Nat) (ncl : Int32) (tso : Int32) (tst : Int32) (ten : Int32) (knd : Nat → Int32) (nbs : Nat → Int32) (len : Int32) (txt : Nat → Int32) : va_W := [(h0, .inr (5, [.ref k0, .ref h1, .ref h2, .int ncl, .int tso, .int tst, .int ten])), (h1, .inl (cI, 24, .inl knd)), (h2, .inl (cI, 72, .inl nbs)), (k0, .inr (2, [.ref k1, .int len])), (k1, .inl (cI, 200, .inl txt))]
def f_X5_sortOf (x0 : Int32) : (Int32) :=
  if x0 < 97 then
   if x0 < 48 then
    3
   else
    if 57 < x0 then
     3
    else
     2
  else
   if 122 < x0 then
    if x0 < 48 then
     3
    else
     if 57 < x0 then
      3
     else
      2
   else
    1
set_option maxHeartbeats 4000000 in
set_option maxRecDepth 100000 in
theorem c_X5_sortOf {l : Launch} {D : va_G} {cI cZ cN cC : ClassId}  {x0 : Int32} {res : Int32} (hf : f_X5_sortOf x0 = res) : xMet l D (xtys cI cZ cN cC) yX5_sortOf cX5_sortOf 1 (some .int) 0 0 [.int x0] ([] : va_W) ([] : va_W) (some (.int res)) := by
  refine x_enter (by decide) (Nat.le_of_ble_eq_true rfl) ?_
  intro p e s m args below meth c E ls hl hw
  have E : xE p s m args meth c cX5_sortOf 1 (some .int) RX5 D (xtys cI cZ cN cC) (xA ([] : va_W)) := E
  obtain ⟨hx, hb, -⟩ := id E
  have hl : lv_has ls 1 [(0, .int x0)] := hl
  unfold f_X5_sortOf at hf
  refine lv_iload_n hx hb dX5_sortOf_0 rfl (lv_at hl 0 rfl) ?_
  refine lv_bipush (v := 97) hx hb dX5_sortOf_1 (by decide) ?_
  refine lv_icmp_lt (tgt := 14) hx hb dX5_sortOf_3 (by decide) (fun c1 => ?_) (fun c1 => ?_)
  · rw [if_pos c1] at hf
    refine lv_iload_n hx hb dX5_sortOf_14 rfl (lv_at hl 0 rfl) ?_
    refine lv_bipush (v := 48) hx hb dX5_sortOf_15 (by decide) ?_
    refine lv_icmp_lt (tgt := 30) hx hb dX5_sortOf_17 (by decide) (fun c2 => ?_) (fun c2 => ?_)
    · rw [if_pos c2] at hf
      refine lv_iconst (v := 3) hx hb dX5_sortOf_30 (by decide) ?_
      subst hf
      exact x_iret E hw dX5_sortOf_31
    · rw [if_neg c2] at hf
      refine lv_iload_n hx hb dX5_sortOf_20 rfl (lv_at hl 0 rfl) ?_
      refine lv_bipush (v := 57) hx hb dX5_sortOf_21 (by decide) ?_
      refine lv_icmp_gt (tgt := 30) hx hb dX5_sortOf_23 (by decide) (fun c3 => ?_) (fun c3 => ?_)
      · rw [if_pos c3] at hf
        refine lv_iconst (v := 3) hx hb dX5_sortOf_30 (by decide) ?_
        subst hf
        exact x_iret E hw dX5_sortOf_31
      · rw [if_neg c3] at hf
        refine lv_iconst (v := 2) hx hb dX5_sortOf_26 (by decide) ?_
        refine lv_goto (tgt := 31) hx hb dX5_sortOf_27 (by decide) ?_
        subst hf
        exact x_iret E hw dX5_sortOf_31
  · rw [if_neg c1] at hf
    refine lv_iload_n hx hb dX5_sortOf_6 rfl (lv_at hl 0 rfl) ?_
    refine lv_bipush (v := 122) hx hb dX5_sortOf_7 (by decide) ?_
    refine lv_icmp_gt (tgt := 14) hx hb dX5_sortOf_9 (by decide) (fun c4 => ?_) (fun c4 => ?_)
    · rw [if_pos c4] at hf
      refine lv_iload_n hx hb dX5_sortOf_14 rfl (lv_at hl 0 rfl) ?_
      refine lv_bipush (v := 48) hx hb dX5_sortOf_15 (by decide) ?_
      refine lv_icmp_lt (tgt := 30) hx hb dX5_sortOf_17 (by decide) (fun c5 => ?_) (fun c5 => ?_)
      · rw [if_pos c5] at hf
        refine lv_iconst (v := 3) hx hb dX5_sortOf_30 (by decide) ?_
        subst hf
        exact x_iret E hw dX5_sortOf_31
      · rw [if_neg c5] at hf
        refine lv_iload_n hx hb dX5_sortOf_20 rfl (lv_at hl 0 rfl) ?_
        refine lv_bipush (v := 57) hx hb dX5_sortOf_21 (by decide) ?_
        refine lv_icmp_gt (tgt := 30) hx hb dX5_sortOf_23 (by decide) (fun c6 => ?_) (fun c6 => ?_)
        · rw [if_pos c6] at hf
          refine lv_iconst (v := 3) hx hb dX5_sortOf_30 (by decide) ?_
          subst hf
          exact x_iret E hw dX5_sortOf_31
        · rw [if_neg c6] at hf
          refine lv_iconst (v := 2) hx hb dX5_sortOf_26 (by decide) ?_
          refine lv_goto (tgt := 31) hx hb dX5_sortOf_27 (by decide) ?_
          subst hf
          exact x_iret E hw dX5_sortOf_31
    · rw [if_neg c4] at hf
      refine lv_iconst (v := 1) hx hb dX5_sortOf_12 (by decide) ?_
      subst hf
      exact x_iret E hw dX5_sortOf_13

def f_X5_numbersOf (x0 : Int32) : (Int32) :=
  if x0 = 0 then
   1
  else if x0 = 1 then
   2
  else
   3
set_option maxHeartbeats 4000000 in
set_option maxRecDepth 100000 in
theorem c_X5_numbersOf {l : Launch} {D : va_G} {cI cZ cN cC : ClassId}  {x0 : Int32} {res : Int32} (hf : f_X5_numbersOf x0 = res) : xMet l D (xtys cI cZ cN cC) yX5_numbersOf cX5_numbersOf 1 (some .int) 0 0 [.int x0] ([] : va_W) ([] : va_W) (some (.int res)) := by
  refine x_enter (by decide) (Nat.le_of_ble_eq_true rfl) ?_
  intro p e s m args below meth c E ls hl hw
  have E : xE p s m args meth c cX5_numbersOf 1 (some .int) RX5 D (xtys cI cZ cN cC) (xA ([] : va_W)) := E
  obtain ⟨hx, hb, -⟩ := id E
  have hl : lv_has ls 1 [(0, .int x0)] := hl
  unfold f_X5_numbersOf at hf
  refine lv_iload_n hx hb dX5_numbersOf_0 rfl (lv_at hl 0 rfl) ?_
  by_cases c1 : x0 = 0
  · rw [if_pos c1] at hf
    refine lv_lookup (tgt := 28) hx hb dX5_numbersOf_1 (by decide) (by first | (rw [c1]; done) | (rw [c1]; rfl)) (by decide) ?_
    refine lv_iconst (v := 1) hx hb dX5_numbersOf_28 (by decide) ?_
    subst hf
    exact x_iret E hw dX5_numbersOf_29
  rw [if_neg c1] at hf
  by_cases c2 : x0 = 1
  · rw [if_pos c2] at hf
    refine lv_lookup (tgt := 30) hx hb dX5_numbersOf_1 (by decide) (by first | (rw [c2]; done) | (rw [c2]; rfl)) (by decide) ?_
    refine lv_iconst (v := 2) hx hb dX5_numbersOf_30 (by decide) ?_
    subst hf
    exact x_iret E hw dX5_numbersOf_31
  rw [if_neg c2] at hf
  refine lv_lookup (tgt := 32) hx hb dX5_numbersOf_1 (by decide) (x_lsw_out c1 c2) (by decide) ?_
  refine lv_iconst (v := 3) hx hb dX5_numbersOf_32 (by decide) ?_
  subst hf
  exact x_iret E hw dX5_numbersOf_33

def f_X5_wordOf (x0 : Int32) : (Nat) :=
  if Int32.toInt x0 < 0 ∨ 3 < Int32.toInt x0 then
   4
  else if x0 = 0 then
   0
  else if x0 = 1 then
   1
  else if x0 = 2 then
   2
  else
   3
set_option maxHeartbeats 4000000 in
set_option maxRecDepth 100000 in
theorem c_X5_wordOf {l : Launch} {D : va_G} {cI cZ cN cC : ClassId} {adK adV : Nat → Nat}  {x0 : Int32} {res : Nat} (hf : f_X5_wordOf x0 = res) : xMetC l D (xtys cI cZ cN cC) adK adV yX5_wordOf cX5_wordOf 1 (some (.object "java/lang/String")) 0 0 [.int x0] ([] : va_W) ([] : va_W) (some (.ref (adK res))) := by
  refine x_enterC (by decide) (Nat.le_of_ble_eq_true rfl) ?_
  intro p e s m args below meth c E hcs ls hl hw
  have E : xE p s m args meth c cX5_wordOf 1 (some (.object "java/lang/String")) RX5 D (xtys cI cZ cN cC) (xA ([] : va_W)) := E
  obtain ⟨hx, hb, -⟩ := id E
  have hl : lv_has ls 1 [(0, .int x0)] := hl
  unfold f_X5_wordOf at hf
  refine lv_iload_n hx hb dX5_wordOf_0 rfl (lv_at hl 0 rfl) ?_
  by_cases c0 : Int32.toInt x0 < 0 ∨ 3 < Int32.toInt x0
  · rw [if_pos c0] at hf
    refine lv_tableOut (tgt := 44) hx hb dX5_wordOf_1 c0 (by decide) ?_
    refine va_ldcS hx hb E.2.2.2.2.1 hcs.2.1.2.2.2.2 dX5_wordOf_44 ?_
    subst hf
    exact x_aret E hw dX5_wordOf_46
  rw [if_neg c0] at hf
  by_cases c1 : x0 = 0
  · rw [if_pos c1] at hf
    refine lv_tableIn (tgt := 32) hx hb dX5_wordOf_1 (by rw [c1]; decide) (by rw [c1]; decide) (by rw [c1]; rfl) (by decide) ?_
    refine va_ldcS hx hb E.2.2.2.2.1 hcs.2.1.1 dX5_wordOf_32 ?_
    subst hf
    exact x_aret E hw dX5_wordOf_34
  rw [if_neg c1] at hf
  by_cases c2 : x0 = 1
  · rw [if_pos c2] at hf
    refine lv_tableIn (tgt := 35) hx hb dX5_wordOf_1 (by rw [c2]; decide) (by rw [c2]; decide) (by rw [c2]; rfl) (by decide) ?_
    refine va_ldcS hx hb E.2.2.2.2.1 hcs.2.1.2.1 dX5_wordOf_35 ?_
    subst hf
    exact x_aret E hw dX5_wordOf_37
  rw [if_neg c2] at hf
  by_cases c3 : x0 = 2
  · rw [if_pos c3] at hf
    refine lv_tableIn (tgt := 38) hx hb dX5_wordOf_1 (by rw [c3]; decide) (by rw [c3]; decide) (by rw [c3]; rfl) (by decide) ?_
    refine va_ldcS hx hb E.2.2.2.2.1 hcs.2.1.2.2.1 dX5_wordOf_38 ?_
    subst hf
    exact x_aret E hw dX5_wordOf_40
  rw [if_neg c3] at hf
  have c4 : x0 = 3 := Int32.toInt_inj.mp (by
    have e1 := x_neL (k := 0) (by decide) c1
    have e2 := x_neL (k := 1) (by decide) c2
    have e3 := x_neL (k := 2) (by decide) c3
    show Int32.toInt x0 = 3
    omega)
  refine lv_tableIn (tgt := 41) hx hb dX5_wordOf_1 (by rw [c4]; decide) (by rw [c4]; decide) (by rw [c4]; rfl) (by decide) ?_
  refine va_ldcS hx hb E.2.2.2.2.1 hcs.2.1.2.2.2.1 dX5_wordOf_41 ?_
  subst hf
  exact x_aret E hw dX5_wordOf_43
theorem lt_X5_wordOf {x0 : Int32} : f_X5_wordOf x0 < 5 := by
  unfold f_X5_wordOf
  (repeat' split) <;> decide

def f_X5_numberOf (x1 : Int32) (x2 : Int32) (nbs : (Nat → Int32)) : Option (Int32) :=
  if xin ((x1 * 3) + x2) 72 then
  some (nbs (Int32.toNatClampNeg ((x1 * 3) + x2)))
  else none
set_option maxHeartbeats 4000000 in
set_option maxRecDepth 100000 in
theorem c_X5_numberOf {l : Launch} {D : va_G} {cI cZ cN cC : ClassId} {h0 h1 h2 k0 k1 : Nat} {ncl : Int32} {tso : Int32} {tst : Int32} {ten : Int32} {knd : (Nat → Int32)} {nbs : (Nat → Int32)} {len : Int32} {txt : (Nat → Int32)} {x1 : Int32} {x2 : Int32} {res : Int32} (hf : f_X5_numberOf x1 x2 nbs = some res) : xMet l D (xtys cI cZ cN cC) yX5_numberOf cX5_numberOf 3 (some .int) 0 0 [.ref h0, .int x1, .int x2] (wRdr cI cZ cN cC h0 h1 h2 k0 k1 ncl tso tst ten knd nbs len txt) (wRdr cI cZ cN cC h0 h1 h2 k0 k1 ncl tso tst ten knd nbs len txt) (some (.int res)) := by
  refine x_enter (by decide) (Nat.le_of_ble_eq_true rfl) ?_
  intro p e s m args below meth c E ls hl hw
  have E : xE p s m args meth c cX5_numberOf 3 (some .int) RX5 D (xtys cI cZ cN cC) (xA (wRdr cI cZ cN cC h0 h1 h2 k0 k1 ncl tso tst ten knd nbs len txt)) := E
  obtain ⟨hx, hb, -⟩ := id E
  have hl : lv_has ls 3 [(0, .ref h0), (1, .int x1), (2, .int x2)] := hl
  unfold f_X5_numberOf at hf
  refine lv_aload_n hx hb dX5_numberOf_0 rfl (lv_at hl 0 rfl) ?_
  refine x_get E hw kin_X5 0 rfl rfl 2 (by decide) kF_X5_15 (v := .ref h2) rfl dX5_numberOf_1 ?_
  refine lv_iload_n hx hb dX5_numberOf_4 rfl (lv_at hl 1 rfl) ?_
  refine lv_iconst (v := 3) hx hb dX5_numberOf_5 (by decide) ?_
  refine lv_imul hx hb dX5_numberOf_6 ?_
  refine lv_iload_n hx hb dX5_numberOf_7 rfl (lv_at hl 2 rfl) ?_
  refine lv_iadd hx hb dX5_numberOf_8 ?_
  obtain ⟨g1, hf⟩ := xgd hf
  refine x_iald E hw 2 0 rfl rfl (xin_vp g1) dX5_numberOf_9 ?_
  have hf := Option.some.inj hf; subst hf
  exact x_iret E hw dX5_numberOf_10

def f_X5_nextToken_82 (tso : Int32) (tst : Int32) (len : Int32) (txt : (Nat → Int32)) : Nat → Int32 → Option (Int32 × Int32 × Int32)
  | 0, _ => none
  | n + 1, x1 =>
    if tso = 3 then
     some (tso, tst, x1)
    else
     if len ≤ x1 then
      some (tso, tst, x1)
     else
      if xin x1 200 then
      if (f_X5_sortOf (txt (Int32.toNatClampNeg x1))) = tso then
       f_X5_nextToken_82 tso tst len txt n (x1 + 1)
      else
       some (tso, tst, x1)
      else none
set_option maxHeartbeats 4000000 in
set_option maxRecDepth 100000 in
theorem b_X5_nextToken_82 {p : Program} {l : Launch} {e : Env} {s : State} {m : MethodId} {args : Array Value} {below : List Frame} {meth : Method} {c : Code} {D : va_G} {cI cZ cN cC : ClassId} {ws0 : va_W} {h0 h1 h2 k0 k1 : Nat} {ncl : Int32} {tso : Int32} {tst : Int32} {ten : Int32} {knd : (Nat → Int32)} {nbs : (Nat → Int32)} {len : Int32} {txt : (Nat → Int32)} {res : Int32 × Int32 × Int32} (E : xE p s m args meth c cX5_nextToken 2 none RX5 D (xtys cI cZ cN cC) (xA ws0)) : ∀ (n : Nat) (x1 : Int32), f_X5_nextToken_82 tso tst len txt n x1 = some res → ∀ (H : Heap) (locs : List Loc) (ls : Array Slot), xw D (xA ws0) s.heap (wRdr cI cZ cN cC h0 h1 h2 k0 k1 ncl tso tst ten knd nbs len txt) H locs → lv_has ls 2 [(0, .ref h0), (1, .int x1)] → xG p l e 1 20 s m args below meth c D ws0 (wRdr cI cZ cN cC h0 h1 h2 k0 k1 ncl res.1 res.2.1 res.2.2 knd nbs len txt) none H locs (F0 m 82 ls []) := by
  obtain ⟨hx, hb, -⟩ := id E
  intro n
  induction n with
  | zero =>
    intro _ hf
    rw [f_X5_nextToken_82] at hf; cases hf
  | succ n ih =>
    intro x1 hf H locs ls hw hl
    rw [f_X5_nextToken_82] at hf
    refine lv_aload_n hx hb dX5_nextToken_82 rfl (lv_at hl 0 rfl) ?_
    refine x_get E hw kin_X5 0 rfl rfl 4 (by decide) kF_X5_43 (v := .int tso) rfl dX5_nextToken_83 ?_
    refine lv_iconst (v := 3) hx hb dX5_nextToken_86 (by decide) ?_
    refine lv_icmp_eq (tgt := 126) hx hb dX5_nextToken_87 (by decide) (fun c6 => ?_) (fun c6 => ?_)
    · rw [if_pos c6] at hf
      refine lv_aload_n hx hb dX5_nextToken_126 rfl (lv_at hl 0 rfl) ?_
      refine lv_iload_n hx hb dX5_nextToken_127 rfl (lv_at hl 1 rfl) ?_
      refine x_put (ws' := (wRdr cI cZ cN cC h0 h1 h2 k0 k1 ncl tso tst x1 knd nbs len txt)) E hw kin_X5 tyX5 tyX5_ok nmX5 0 rfl rfl 6 (by decide) kF_X5_26 rfl (v := .int x1) rfl rfl (Nat.le_of_ble_eq_true rfl) rfl dX5_nextToken_128 (fun H locs hw => ?_)
      have hf := Option.some.inj hf; subst hf
      exact x_vret E hw dX5_nextToken_131
    · rw [if_neg c6] at hf
      refine lv_iload_n hx hb dX5_nextToken_90 rfl (lv_at hl 1 rfl) ?_
      refine lv_aload_n hx hb dX5_nextToken_91 rfl (lv_at hl 0 rfl) ?_
      refine x_get E hw kin_X5 0 rfl rfl 0 (by decide) kF_X5_18 (v := .ref k0) rfl dX5_nextToken_92 ?_
      refine x_get E hw kin_X2 3 rfl rfl 1 (by decide) kF_X5_70 (v := .int len) rfl dX5_nextToken_95 ?_
      refine lv_icmp_ge (tgt := 126) hx hb dX5_nextToken_98 (by decide) (fun c7 => ?_) (fun c7 => ?_)
      · rw [if_pos c7] at hf
        refine lv_aload_n hx hb dX5_nextToken_126 rfl (lv_at hl 0 rfl) ?_
        refine lv_iload_n hx hb dX5_nextToken_127 rfl (lv_at hl 1 rfl) ?_
        refine x_put (ws' := (wRdr cI cZ cN cC h0 h1 h2 k0 k1 ncl tso tst x1 knd nbs len txt)) E hw kin_X5 tyX5 tyX5_ok nmX5 0 rfl rfl 6 (by decide) kF_X5_26 rfl (v := .int x1) rfl rfl (Nat.le_of_ble_eq_true rfl) rfl dX5_nextToken_128 (fun H locs hw => ?_)
        have hf := Option.some.inj hf; subst hf
        exact x_vret E hw dX5_nextToken_131
      · rw [if_neg c7] at hf
        refine lv_aload_n hx hb dX5_nextToken_101 rfl (lv_at hl 0 rfl) ?_
        refine x_get E hw kin_X5 0 rfl rfl 0 (by decide) kF_X5_18 (v := .ref k0) rfl dX5_nextToken_102 ?_
        refine x_get E hw kin_X2 3 rfl rfl 0 (by decide) kF_X5_65 (v := .ref k1) rfl dX5_nextToken_105 ?_
        refine lv_iload_n hx hb dX5_nextToken_108 rfl (lv_at hl 1 rfl) ?_
        obtain ⟨g8, hf⟩ := xgd hf
        refine x_iald E hw 4 0 rfl rfl (xin_vp g8) dX5_nextToken_109 ?_
        refine x_callS (isC := []) (ws' := (wRdr cI cZ cN cC h0 h1 h2 k0 k1 ncl tso tst ten knd nbs len txt)) (st1 := [.int (f_X5_sortOf (txt (Int32.toNatClampNeg x1)))]) (As := [.int (txt (Int32.toNatClampNeg x1))]) (rest := []) E hw vc_X5_73 (c_X5_sortOf (cI := cI) (cZ := cZ) (cN := cN) (cC := cC)    (x0 := (txt (Int32.toNatClampNeg x1))) rfl) rfl rfl rfl rfl rfl rfl ⟨Nat.le_of_ble_eq_true rfl, Nat.le_of_ble_eq_true rfl⟩ ⟨Nat.le_refl _, Nat.le_refl _⟩ hl.1 rfl rfl (Nat.le_of_ble_eq_true rfl) dX5_nextToken_110 (fun H locs hw => ?_)
        refine lv_aload_n hx hb dX5_nextToken_113 rfl (lv_at hl 0 rfl) ?_
        refine x_get E hw kin_X5 0 rfl rfl 4 (by decide) kF_X5_43 (v := .int tso) rfl dX5_nextToken_114 ?_
        refine lv_icmp_ne (tgt := 126) hx hb dX5_nextToken_117 (by decide) (fun c9 => ?_) (fun c9 => ?_)
        · rw [if_neg c9] at hf
          refine lv_aload_n hx hb dX5_nextToken_126 rfl (lv_at hl 0 rfl) ?_
          refine lv_iload_n hx hb dX5_nextToken_127 rfl (lv_at hl 1 rfl) ?_
          refine x_put (ws' := (wRdr cI cZ cN cC h0 h1 h2 k0 k1 ncl tso tst x1 knd nbs len txt)) E hw kin_X5 tyX5 tyX5_ok nmX5 0 rfl rfl 6 (by decide) kF_X5_26 rfl (v := .int x1) rfl rfl (Nat.le_of_ble_eq_true rfl) rfl dX5_nextToken_128 (fun H locs hw => ?_)
          have hf := Option.some.inj hf; subst hf
          exact x_vret E hw dX5_nextToken_131
        · rw [if_pos c9] at hf
          refine lv_iinc (v := (x1 + 1)) (lv' := [(1, .int (x1 + 1)), (0, .ref h0)]) hx hb dX5_nextToken_120 hl (k := 1) rfl rfl (by decide) rfl (fun ls hl => ?_)
          refine lv_goto (tgt := 82) hx hb dX5_nextToken_123 (by decide) ?_
          exact ih _ hf _ _ _ hw (lv_sub hl [1, 0] rfl)
def f_X5_nextToken_36 (N : Nat) (x1 : Int32) (len : Int32) (txt : (Nat → Int32)) : Option (Int32 × Int32 × Int32) :=
  if x1 < len then
   if xin x1 200 then
   f_X5_nextToken_82 (f_X5_sortOf (txt (Int32.toNatClampNeg x1))) x1 len txt N (x1 + 1)
   else none
  else
   some (0, x1, x1)
set_option maxHeartbeats 4000000 in
set_option maxRecDepth 100000 in
theorem b_X5_nextToken_36 {p : Program} {l : Launch} {e : Env} {s : State} {m : MethodId} {args : Array Value} {below : List Frame} {meth : Method} {c : Code} {D : va_G} {cI cZ cN cC : ClassId} {ws0 : va_W} {h0 h1 h2 k0 k1 : Nat} {x1 : Int32} {ncl : Int32} {tso : Int32} {tst : Int32} {ten : Int32} {knd : (Nat → Int32)} {nbs : (Nat → Int32)} {len : Int32} {txt : (Nat → Int32)} {N : Nat} {res : Int32 × Int32 × Int32} (E : xE p s m args meth c cX5_nextToken 2 none RX5 D (xtys cI cZ cN cC) (xA ws0)) : f_X5_nextToken_36 N x1 len txt = some res → ∀ (H : Heap) (locs : List Loc) (ls : Array Slot), xw D (xA ws0) s.heap (wRdr cI cZ cN cC h0 h1 h2 k0 k1 ncl tso tst ten knd nbs len txt) H locs → lv_has ls 2 [(0, .ref h0), (1, .int x1)] → xG p l e 1 20 s m args below meth c D ws0 (wRdr cI cZ cN cC h0 h1 h2 k0 k1 ncl res.1 res.2.1 res.2.2 knd nbs len txt) none H locs (F0 m 36 ls []) := by
  obtain ⟨hx, hb, -⟩ := id E
  intro hf H locs ls hw hl
  unfold f_X5_nextToken_36 at hf
  refine lv_aload_n hx hb dX5_nextToken_36 rfl (lv_at hl 0 rfl) ?_
  refine lv_iload_n hx hb dX5_nextToken_37 rfl (lv_at hl 1 rfl) ?_
  refine x_put (ws' := (wRdr cI cZ cN cC h0 h1 h2 k0 k1 ncl tso x1 ten knd nbs len txt)) E hw kin_X5 tyX5 tyX5_ok nmX5 0 rfl rfl 5 (by decide) kF_X5_33 rfl (v := .int x1) rfl rfl (Nat.le_of_ble_eq_true rfl) rfl dX5_nextToken_38 (fun H locs hw => ?_)
  refine lv_iload_n hx hb dX5_nextToken_41 rfl (lv_at hl 1 rfl) ?_
  refine lv_aload_n hx hb dX5_nextToken_42 rfl (lv_at hl 0 rfl) ?_
  refine x_get E hw kin_X5 0 rfl rfl 0 (by decide) kF_X5_18 (v := .ref k0) rfl dX5_nextToken_43 ?_
  refine x_get E hw kin_X2 3 rfl rfl 1 (by decide) kF_X5_70 (v := .int len) rfl dX5_nextToken_46 ?_
  refine lv_icmp_lt (tgt := 63) hx hb dX5_nextToken_49 (by decide) (fun c4 => ?_) (fun c4 => ?_)
  · rw [if_pos c4] at hf
    refine lv_aload_n hx hb dX5_nextToken_63 rfl (lv_at hl 0 rfl) ?_
    refine lv_aload_n hx hb dX5_nextToken_64 rfl (lv_at hl 0 rfl) ?_
    refine x_get E hw kin_X5 0 rfl rfl 0 (by decide) kF_X5_18 (v := .ref k0) rfl dX5_nextToken_65 ?_
    refine x_get E hw kin_X2 3 rfl rfl 0 (by decide) kF_X5_65 (v := .ref k1) rfl dX5_nextToken_68 ?_
    refine lv_iload_n hx hb dX5_nextToken_71 rfl (lv_at hl 1 rfl) ?_
    obtain ⟨g5, hf⟩ := xgd hf
    refine x_iald E hw 4 0 rfl rfl (xin_vp g5) dX5_nextToken_72 ?_
    refine x_callS (isC := []) (ws' := (wRdr cI cZ cN cC h0 h1 h2 k0 k1 ncl tso x1 ten knd nbs len txt)) (st1 := [.int (f_X5_sortOf (txt (Int32.toNatClampNeg x1))), .ref h0]) (As := [.int (txt (Int32.toNatClampNeg x1))]) (rest := [.ref h0]) E hw vc_X5_73 (c_X5_sortOf (cI := cI) (cZ := cZ) (cN := cN) (cC := cC)    (x0 := (txt (Int32.toNatClampNeg x1))) rfl) rfl rfl rfl rfl rfl rfl ⟨Nat.le_of_ble_eq_true rfl, Nat.le_of_ble_eq_true rfl⟩ ⟨Nat.le_refl _, Nat.le_refl _⟩ hl.1 rfl rfl (Nat.le_of_ble_eq_true rfl) dX5_nextToken_73 (fun H locs hw => ?_)
    refine x_put (ws' := (wRdr cI cZ cN cC h0 h1 h2 k0 k1 ncl (f_X5_sortOf (txt (Int32.toNatClampNeg x1))) x1 ten knd nbs len txt)) E hw kin_X5 tyX5 tyX5_ok nmX5 0 rfl rfl 4 (by decide) kF_X5_43 rfl (v := .int (f_X5_sortOf (txt (Int32.toNatClampNeg x1)))) rfl rfl (Nat.le_of_ble_eq_true rfl) rfl dX5_nextToken_76 (fun H locs hw => ?_)
    refine lv_iinc (v := (x1 + 1)) (lv' := [(1, .int (x1 + 1)), (0, .ref h0)]) hx hb dX5_nextToken_79 hl (k := 1) rfl rfl (by decide) rfl (fun ls hl => ?_)
    exact b_X5_nextToken_82 E N _ hf _ _ _ hw (lv_sub hl [1, 0] rfl)
  · rw [if_neg c4] at hf
    refine lv_aload_n hx hb dX5_nextToken_52 rfl (lv_at hl 0 rfl) ?_
    refine lv_iconst (v := 0) hx hb dX5_nextToken_53 (by decide) ?_
    refine x_put (ws' := (wRdr cI cZ cN cC h0 h1 h2 k0 k1 ncl 0 x1 ten knd nbs len txt)) E hw kin_X5 tyX5 tyX5_ok nmX5 0 rfl rfl 4 (by decide) kF_X5_43 rfl (v := .int 0) rfl rfl (Nat.le_of_ble_eq_true rfl) rfl dX5_nextToken_54 (fun H locs hw => ?_)
    refine lv_aload_n hx hb dX5_nextToken_57 rfl (lv_at hl 0 rfl) ?_
    refine lv_iload_n hx hb dX5_nextToken_58 rfl (lv_at hl 1 rfl) ?_
    refine x_put (ws' := (wRdr cI cZ cN cC h0 h1 h2 k0 k1 ncl 0 x1 x1 knd nbs len txt)) E hw kin_X5 tyX5 tyX5_ok nmX5 0 rfl rfl 6 (by decide) kF_X5_26 rfl (v := .int x1) rfl rfl (Nat.le_of_ble_eq_true rfl) rfl dX5_nextToken_59 (fun H locs hw => ?_)
    have hf := Option.some.inj hf; subst hf
    exact x_vret E hw dX5_nextToken_62
def f_X5_nextToken_5 (N : Nat) (len : Int32) (txt : (Nat → Int32)) : Nat → Int32 → Option (Int32 × Int32 × Int32)
  | 0, _ => none
  | n + 1, x1 =>
    if len ≤ x1 then
     f_X5_nextToken_36 N x1 len txt
    else
     if xin x1 200 then
     if (txt (Int32.toNatClampNeg x1)) = 32 then
      f_X5_nextToken_5 N len txt n (x1 + 1)
     else
      f_X5_nextToken_36 N x1 len txt
     else none
set_option maxHeartbeats 4000000 in
set_option maxRecDepth 100000 in
theorem b_X5_nextToken_5 {p : Program} {l : Launch} {e : Env} {s : State} {m : MethodId} {args : Array Value} {below : List Frame} {meth : Method} {c : Code} {D : va_G} {cI cZ cN cC : ClassId} {ws0 : va_W} {h0 h1 h2 k0 k1 : Nat} {ncl : Int32} {tso : Int32} {tst : Int32} {ten : Int32} {knd : (Nat → Int32)} {nbs : (Nat → Int32)} {len : Int32} {txt : (Nat → Int32)} {N : Nat} {res : Int32 × Int32 × Int32} (E : xE p s m args meth c cX5_nextToken 2 none RX5 D (xtys cI cZ cN cC) (xA ws0)) : ∀ (n : Nat) (x1 : Int32), f_X5_nextToken_5 N len txt n x1 = some res → ∀ (H : Heap) (locs : List Loc) (ls : Array Slot), xw D (xA ws0) s.heap (wRdr cI cZ cN cC h0 h1 h2 k0 k1 ncl tso tst ten knd nbs len txt) H locs → lv_has ls 2 [(0, .ref h0), (1, .int x1)] → xG p l e 1 20 s m args below meth c D ws0 (wRdr cI cZ cN cC h0 h1 h2 k0 k1 ncl res.1 res.2.1 res.2.2 knd nbs len txt) none H locs (F0 m 5 ls []) := by
  obtain ⟨hx, hb, -⟩ := id E
  intro n
  induction n with
  | zero =>
    intro _ hf
    rw [f_X5_nextToken_5] at hf; cases hf
  | succ n ih =>
    intro x1 hf H locs ls hw hl
    rw [f_X5_nextToken_5] at hf
    refine lv_iload_n hx hb dX5_nextToken_5 rfl (lv_at hl 1 rfl) ?_
    refine lv_aload_n hx hb dX5_nextToken_6 rfl (lv_at hl 0 rfl) ?_
    refine x_get E hw kin_X5 0 rfl rfl 0 (by decide) kF_X5_18 (v := .ref k0) rfl dX5_nextToken_7 ?_
    refine x_get E hw kin_X2 3 rfl rfl 1 (by decide) kF_X5_70 (v := .int len) rfl dX5_nextToken_10 ?_
    refine lv_icmp_ge (tgt := 36) hx hb dX5_nextToken_13 (by decide) (fun c1 => ?_) (fun c1 => ?_)
    · rw [if_pos c1] at hf
      exact b_X5_nextToken_36 E  hf _ _ _ hw (lv_sub hl [0, 1] rfl)
    · rw [if_neg c1] at hf
      refine lv_aload_n hx hb dX5_nextToken_16 rfl (lv_at hl 0 rfl) ?_
      refine x_get E hw kin_X5 0 rfl rfl 0 (by decide) kF_X5_18 (v := .ref k0) rfl dX5_nextToken_17 ?_
      refine x_get E hw kin_X2 3 rfl rfl 0 (by decide) kF_X5_65 (v := .ref k1) rfl dX5_nextToken_20 ?_
      refine lv_iload_n hx hb dX5_nextToken_23 rfl (lv_at hl 1 rfl) ?_
      obtain ⟨g2, hf⟩ := xgd hf
      refine x_iald E hw 4 0 rfl rfl (xin_vp g2) dX5_nextToken_24 ?_
      refine lv_bipush (v := 32) hx hb dX5_nextToken_25 (by decide) ?_
      refine lv_icmp_ne (tgt := 36) hx hb dX5_nextToken_27 (by decide) (fun c3 => ?_) (fun c3 => ?_)
      · rw [if_neg c3] at hf
        exact b_X5_nextToken_36 E  hf _ _ _ hw (lv_sub hl [0, 1] rfl)
      · rw [if_pos c3] at hf
        refine lv_iinc (v := (x1 + 1)) (lv' := [(1, .int (x1 + 1)), (0, .ref h0)]) hx hb dX5_nextToken_30 hl (k := 1) rfl rfl (by decide) rfl (fun ls hl => ?_)
        refine lv_goto (tgt := 5) hx hb dX5_nextToken_33 (by decide) ?_
        exact ih _ hf _ _ _ hw (lv_sub hl [1, 0] rfl)
def f_X5_nextToken (N : Nat) (ten : Int32) (len : Int32) (txt : (Nat → Int32)) : Option (Int32 × Int32 × Int32) :=
  f_X5_nextToken_5 N len txt N ten
set_option maxHeartbeats 4000000 in
set_option maxRecDepth 100000 in
theorem c_X5_nextToken {l : Launch} {D : va_G} {cI cZ cN cC : ClassId} {h0 h1 h2 k0 k1 : Nat} {ncl : Int32} {tso : Int32} {tst : Int32} {ten : Int32} {knd : (Nat → Int32)} {nbs : (Nat → Int32)} {len : Int32} {txt : (Nat → Int32)}  {N : Nat} {res : Int32 × Int32 × Int32} (hf : f_X5_nextToken N ten len txt = some res) : xMet l D (xtys cI cZ cN cC) yX5_nextToken cX5_nextToken 2 none 1 20 [.ref h0] (wRdr cI cZ cN cC h0 h1 h2 k0 k1 ncl tso tst ten knd nbs len txt) (wRdr cI cZ cN cC h0 h1 h2 k0 k1 ncl res.1 res.2.1 res.2.2 knd nbs len txt) none := by
  refine x_enter (by decide) (Nat.le_of_ble_eq_true rfl) ?_
  intro p e s m args below meth c E ls hl hw
  have E : xE p s m args meth c cX5_nextToken 2 none RX5 D (xtys cI cZ cN cC) (xA (wRdr cI cZ cN cC h0 h1 h2 k0 k1 ncl tso tst ten knd nbs len txt)) := E
  obtain ⟨hx, hb, -⟩ := id E
  have hl : lv_has ls 2 [(0, .ref h0)] := hl
  unfold f_X5_nextToken at hf
  refine lv_aload_n hx hb dX5_nextToken_0 rfl (lv_at hl 0 rfl) ?_
  refine x_get E hw kin_X5 0 rfl rfl 6 (by decide) kF_X5_26 (v := .int ten) rfl dX5_nextToken_1 ?_
  refine lv_istore_n (lv' := [(1, .int ten), (0, .ref h0)]) hx hb dX5_nextToken_4 rfl hl (by decide) rfl (fun ls hl => ?_)
  exact b_X5_nextToken_5 E N _ hf _ _ _ hw (lv_sub hl [1, 0] rfl)

def f_X5_isSemicolon (tso : Int32) (tst : Int32) (txt : (Nat → Int32)) : Option (Int32) :=
  if tso = 3 then
   if xin tst 200 then
   if (txt (Int32.toNatClampNeg tst)) = 59 then
    some 1
   else
    some 0
   else none
  else
   some 0
set_option maxHeartbeats 4000000 in
set_option maxRecDepth 100000 in
theorem c_X5_isSemicolon {l : Launch} {D : va_G} {cI cZ cN cC : ClassId} {h0 h1 h2 k0 k1 : Nat} {ncl : Int32} {tso : Int32} {tst : Int32} {ten : Int32} {knd : (Nat → Int32)} {nbs : (Nat → Int32)} {len : Int32} {txt : (Nat → Int32)}  {res : Int32} (hf : f_X5_isSemicolon tso tst txt = some res) : xMet l D (xtys cI cZ cN cC) yX5_isSemicolon cX5_isSemicolon 1 (some .boolean) 0 0 [.ref h0] (wRdr cI cZ cN cC h0 h1 h2 k0 k1 ncl tso tst ten knd nbs len txt) (wRdr cI cZ cN cC h0 h1 h2 k0 k1 ncl tso tst ten knd nbs len txt) (some (.int res)) := by
  refine x_enter (by decide) (Nat.le_of_ble_eq_true rfl) ?_
  intro p e s m args below meth c E ls hl hw
  have E : xE p s m args meth c cX5_isSemicolon 1 (some .boolean) RX5 D (xtys cI cZ cN cC) (xA (wRdr cI cZ cN cC h0 h1 h2 k0 k1 ncl tso tst ten knd nbs len txt)) := E
  obtain ⟨hx, hb, -⟩ := id E
  have hl : lv_has ls 1 [(0, .ref h0)] := hl
  unfold f_X5_isSemicolon at hf
  refine lv_aload_n hx hb dX5_isSemicolon_0 rfl (lv_at hl 0 rfl) ?_
  refine x_get E hw kin_X5 0 rfl rfl 4 (by decide) kF_X5_43 (v := .int tso) rfl dX5_isSemicolon_1 ?_
  refine lv_iconst (v := 3) hx hb dX5_isSemicolon_4 (by decide) ?_
  refine lv_icmp_ne (tgt := 29) hx hb dX5_isSemicolon_5 (by decide) (fun c1 => ?_) (fun c1 => ?_)
  · rw [if_neg c1] at hf
    refine lv_iconst (v := 0) hx hb dX5_isSemicolon_29 (by decide) ?_
    have hf := Option.some.inj hf; subst hf
    exact x_zret E hw (xz_n (v := 0) (by decide)) dX5_isSemicolon_30
  · rw [if_pos c1] at hf
    refine lv_aload_n hx hb dX5_isSemicolon_8 rfl (lv_at hl 0 rfl) ?_
    refine x_get E hw kin_X5 0 rfl rfl 0 (by decide) kF_X5_18 (v := .ref k0) rfl dX5_isSemicolon_9 ?_
    refine x_get E hw kin_X2 3 rfl rfl 0 (by decide) kF_X5_65 (v := .ref k1) rfl dX5_isSemicolon_12 ?_
    refine lv_aload_n hx hb dX5_isSemicolon_15 rfl (lv_at hl 0 rfl) ?_
    refine x_get E hw kin_X5 0 rfl rfl 5 (by decide) kF_X5_33 (v := .int tst) rfl dX5_isSemicolon_16 ?_
    obtain ⟨g2, hf⟩ := xgd hf
    refine x_iald E hw 4 0 rfl rfl (xin_vp g2) dX5_isSemicolon_19 ?_
    refine lv_bipush (v := 59) hx hb dX5_isSemicolon_20 (by decide) ?_
    refine lv_icmp_ne (tgt := 29) hx hb dX5_isSemicolon_22 (by decide) (fun c3 => ?_) (fun c3 => ?_)
    · rw [if_neg c3] at hf
      refine lv_iconst (v := 0) hx hb dX5_isSemicolon_29 (by decide) ?_
      have hf := Option.some.inj hf; subst hf
      exact x_zret E hw (xz_n (v := 0) (by decide)) dX5_isSemicolon_30
    · rw [if_pos c3] at hf
      refine lv_iconst (v := 1) hx hb dX5_isSemicolon_25 (by decide) ?_
      refine lv_goto (tgt := 30) hx hb dX5_isSemicolon_26 (by decide) ?_
      have hf := Option.some.inj hf; subst hf
      exact x_zret E hw (xz_n (v := 1) (by decide)) dX5_isSemicolon_30

def f_X5_tokenNumber_7 (ten : Int32) (txt : (Nat → Int32)) : Nat → Int32 → Int32 → Option (Int32)
  | 0, _, _ => none
  | n + 1, x1, x2 =>
    if ten ≤ x2 then
     some x1
    else
     if xin x2 200 then
     f_X5_tokenNumber_7 ten txt n (((10 * x1) + (txt (Int32.toNatClampNeg x2))) - 48) (x2 + 1)
     else none
set_option maxHeartbeats 4000000 in
set_option maxRecDepth 100000 in
theorem b_X5_tokenNumber_7 {p : Program} {l : Launch} {e : Env} {s : State} {m : MethodId} {args : Array Value} {below : List Frame} {meth : Method} {c : Code} {D : va_G} {cI cZ cN cC : ClassId} {ws0 : va_W} {h0 h1 h2 k0 k1 : Nat} {ncl : Int32} {tso : Int32} {tst : Int32} {ten : Int32} {knd : (Nat → Int32)} {nbs : (Nat → Int32)} {len : Int32} {txt : (Nat → Int32)} {res : Int32} (E : xE p s m args meth c cX5_tokenNumber 3 (some .int) RX5 D (xtys cI cZ cN cC) (xA ws0)) : ∀ (n : Nat) (x1 : Int32) (x2 : Int32), f_X5_tokenNumber_7 ten txt n x1 x2 = some res → ∀ (H : Heap) (locs : List Loc) (ls : Array Slot), xw D (xA ws0) s.heap (wRdr cI cZ cN cC h0 h1 h2 k0 k1 ncl tso tst ten knd nbs len txt) H locs → lv_has ls 3 [(0, .ref h0), (1, .int x1), (2, .int x2)] → xG p l e 0 0 s m args below meth c D ws0 (wRdr cI cZ cN cC h0 h1 h2 k0 k1 ncl tso tst ten knd nbs len txt) (some (.int res)) H locs (F0 m 7 ls []) := by
  obtain ⟨hx, hb, -⟩ := id E
  intro n
  induction n with
  | zero =>
    intro _ _ hf
    rw [f_X5_tokenNumber_7] at hf; cases hf
  | succ n ih =>
    intro x1 x2 hf H locs ls hw hl
    rw [f_X5_tokenNumber_7] at hf
    refine lv_iload_n hx hb dX5_tokenNumber_7 rfl (lv_at hl 2 rfl) ?_
    refine lv_aload_n hx hb dX5_tokenNumber_8 rfl (lv_at hl 0 rfl) ?_
    refine x_get E hw kin_X5 0 rfl rfl 6 (by decide) kF_X5_26 (v := .int ten) rfl dX5_tokenNumber_9 ?_
    refine lv_icmp_ge (tgt := 39) hx hb dX5_tokenNumber_12 (by decide) (fun c1 => ?_) (fun c1 => ?_)
    · rw [if_pos c1] at hf
      refine lv_iload_n hx hb dX5_tokenNumber_39 rfl (lv_at hl 1 rfl) ?_
      have hf := Option.some.inj hf; subst hf
      exact x_iret E hw dX5_tokenNumber_40
    · rw [if_neg c1] at hf
      refine lv_bipush (v := 10) hx hb dX5_tokenNumber_15 (by decide) ?_
      refine lv_iload_n hx hb dX5_tokenNumber_17 rfl (lv_at hl 1 rfl) ?_
      refine lv_imul hx hb dX5_tokenNumber_18 ?_
      refine lv_aload_n hx hb dX5_tokenNumber_19 rfl (lv_at hl 0 rfl) ?_
      refine x_get E hw kin_X5 0 rfl rfl 0 (by decide) kF_X5_18 (v := .ref k0) rfl dX5_tokenNumber_20 ?_
      refine x_get E hw kin_X2 3 rfl rfl 0 (by decide) kF_X5_65 (v := .ref k1) rfl dX5_tokenNumber_23 ?_
      refine lv_iload_n hx hb dX5_tokenNumber_26 rfl (lv_at hl 2 rfl) ?_
      obtain ⟨g2, hf⟩ := xgd hf
      refine x_iald E hw 4 0 rfl rfl (xin_vp g2) dX5_tokenNumber_27 ?_
      refine lv_iadd hx hb dX5_tokenNumber_28 ?_
      refine lv_bipush (v := 48) hx hb dX5_tokenNumber_29 (by decide) ?_
      refine lv_isub hx hb dX5_tokenNumber_31 ?_
      refine lv_istore_n (lv' := [(1, .int (((10 * x1) + (txt (Int32.toNatClampNeg x2))) - 48)), (0, .ref h0), (2, .int x2)]) hx hb dX5_tokenNumber_32 rfl hl (by decide) rfl (fun ls hl => ?_)
      refine lv_iinc (v := (x2 + 1)) (lv' := [(2, .int (x2 + 1)), (1, .int (((10 * x1) + (txt (Int32.toNatClampNeg x2))) - 48)), (0, .ref h0)]) hx hb dX5_tokenNumber_33 hl (k := 2) rfl rfl (by decide) rfl (fun ls hl => ?_)
      refine lv_goto (tgt := 7) hx hb dX5_tokenNumber_36 (by decide) ?_
      exact ih _ _ hf _ _ _ hw (lv_sub hl [2, 1, 0] rfl)
def f_X5_tokenNumber (N : Nat) (tst : Int32) (ten : Int32) (txt : (Nat → Int32)) : Option (Int32) :=
  f_X5_tokenNumber_7 ten txt N 0 tst
set_option maxHeartbeats 4000000 in
set_option maxRecDepth 100000 in
theorem c_X5_tokenNumber {l : Launch} {D : va_G} {cI cZ cN cC : ClassId} {h0 h1 h2 k0 k1 : Nat} {ncl : Int32} {tso : Int32} {tst : Int32} {ten : Int32} {knd : (Nat → Int32)} {nbs : (Nat → Int32)} {len : Int32} {txt : (Nat → Int32)}  {N : Nat} {res : Int32} (hf : f_X5_tokenNumber N tst ten txt = some res) : xMet l D (xtys cI cZ cN cC) yX5_tokenNumber cX5_tokenNumber 3 (some .int) 0 0 [.ref h0] (wRdr cI cZ cN cC h0 h1 h2 k0 k1 ncl tso tst ten knd nbs len txt) (wRdr cI cZ cN cC h0 h1 h2 k0 k1 ncl tso tst ten knd nbs len txt) (some (.int res)) := by
  refine x_enter (by decide) (Nat.le_of_ble_eq_true rfl) ?_
  intro p e s m args below meth c E ls hl hw
  have E : xE p s m args meth c cX5_tokenNumber 3 (some .int) RX5 D (xtys cI cZ cN cC) (xA (wRdr cI cZ cN cC h0 h1 h2 k0 k1 ncl tso tst ten knd nbs len txt)) := E
  obtain ⟨hx, hb, -⟩ := id E
  have hl : lv_has ls 3 [(0, .ref h0)] := hl
  unfold f_X5_tokenNumber at hf
  refine lv_iconst (v := 0) hx hb dX5_tokenNumber_0 (by decide) ?_
  refine lv_istore_n (lv' := [(1, .int 0), (0, .ref h0)]) hx hb dX5_tokenNumber_1 rfl hl (by decide) rfl (fun ls hl => ?_)
  refine lv_aload_n hx hb dX5_tokenNumber_2 rfl (lv_at hl 1 rfl) ?_
  refine x_get E hw kin_X5 0 rfl rfl 5 (by decide) kF_X5_33 (v := .int tst) rfl dX5_tokenNumber_3 ?_
  refine lv_istore_n (lv' := [(2, .int tst), (1, .int 0), (0, .ref h0)]) hx hb dX5_tokenNumber_6 rfl hl (by decide) rfl (fun ls hl => ?_)
  exact b_X5_tokenNumber_7 E N _ _ hf _ _ _ hw (lv_sub hl [2, 1, 0] rfl)

def f_X5_takeNumber_73 (x2 : Int32) (x4 : Int32) (ncl : Int32) (nbs : (Nat → Int32)) : Nat → Int32 → Option (Int32 × (Nat → Int32))
  | 0, _ => none
  | n + 1, x7 =>
    if x2 ≤ x7 then
     if xin ((ncl * 3) + x2) 72 then
     some (1, (upd nbs (Int32.toNatClampNeg ((ncl * 3) + x2)) x4))
     else none
    else
     (f_X5_numberOf ncl x7 nbs).bind fun q12 =>
     if q12 = x4 then
      some (0, nbs)
     else
      f_X5_takeNumber_73 x2 x4 ncl nbs n (x7 + 1)
set_option maxHeartbeats 4000000 in
set_option maxRecDepth 100000 in
theorem b_X5_takeNumber_73 {p : Program} {l : Launch} {e : Env} {s : State} {m : MethodId} {args : Array Value} {below : List Frame} {meth : Method} {c : Code} {D : va_G} {cI cZ cN cC : ClassId} {ws0 : va_W} {h0 h1 h2 k0 k1 : Nat} {x2 : Int32} {x4 : Int32} {ncl : Int32} {tso : Int32} {tst : Int32} {ten : Int32} {knd : (Nat → Int32)} {nbs : (Nat → Int32)} {len : Int32} {txt : (Nat → Int32)} {res : Int32 × (Nat → Int32)} (E : xE p s m args meth c cX5_takeNumber 8 (some .boolean) RX5 D (xtys cI cZ cN cC) (xA ws0)) : ∀ (n : Nat) (x7 : Int32), f_X5_takeNumber_73 x2 x4 ncl nbs n x7 = some res → ∀ (H : Heap) (locs : List Loc) (ls : Array Slot), xw D (xA ws0) s.heap (wRdr cI cZ cN cC h0 h1 h2 k0 k1 ncl tso tst ten knd nbs len txt) H locs → lv_has ls 8 [(0, .ref h0), (2, .int x2), (4, .int x4), (7, .int x7)] → xG p l e 1 22 s m args below meth c D ws0 (wRdr cI cZ cN cC h0 h1 h2 k0 k1 ncl tso tst ten knd res.2 len txt) (some (.int res.1)) H locs (F0 m 73 ls []) := by
  obtain ⟨hx, hb, -⟩ := id E
  intro n
  induction n with
  | zero =>
    intro _ hf
    rw [f_X5_takeNumber_73] at hf; cases hf
  | succ n ih =>
    intro x7 hf H locs ls hw hl
    rw [f_X5_takeNumber_73] at hf
    refine lv_iload hx hb dX5_takeNumber_73 (lv_at hl 3 rfl) ?_
    refine lv_iload_n hx hb dX5_takeNumber_75 rfl (lv_at hl 1 rfl) ?_
    refine lv_icmp_ge (tgt := 102) hx hb dX5_takeNumber_76 (by decide) (fun c10 => ?_) (fun c10 => ?_)
    · rw [if_pos c10] at hf
      refine lv_aload_n hx hb dX5_takeNumber_102 rfl (lv_at hl 0 rfl) ?_
      refine x_get E hw kin_X5 0 rfl rfl 2 (by decide) kF_X5_15 (v := .ref h2) rfl dX5_takeNumber_103 ?_
      refine lv_aload_n hx hb dX5_takeNumber_106 rfl (lv_at hl 0 rfl) ?_
      refine x_get E hw kin_X5 0 rfl rfl 3 (by decide) kF_X5_22 (v := .int ncl) rfl dX5_takeNumber_107 ?_
      refine lv_iconst (v := 3) hx hb dX5_takeNumber_110 (by decide) ?_
      refine lv_imul hx hb dX5_takeNumber_111 ?_
      refine lv_iload_n hx hb dX5_takeNumber_112 rfl (lv_at hl 1 rfl) ?_
      refine lv_iadd hx hb dX5_takeNumber_113 ?_
      refine lv_iload hx hb dX5_takeNumber_114 (lv_at hl 2 rfl) ?_
      obtain ⟨g11, hf⟩ := xgd hf
      refine x_iast (ws' := (wRdr cI cZ cN cC h0 h1 h2 k0 k1 ncl tso tst ten knd (upd nbs (Int32.toNatClampNeg ((ncl * 3) + x2)) x4) len txt)) E hw 2 0 rfl rfl (xin_vp g11) rfl dX5_takeNumber_116 (fun H locs hw => ?_)
      refine lv_iconst (v := 1) hx hb dX5_takeNumber_117 (by decide) ?_
      have hf := Option.some.inj hf; subst hf
      exact x_zret E hw (xz_n (v := 1) (by decide)) dX5_takeNumber_118
    · rw [if_neg c10] at hf
      refine lv_aload_n hx hb dX5_takeNumber_79 rfl (lv_at hl 0 rfl) ?_
      refine lv_aload_n hx hb dX5_takeNumber_80 rfl (lv_at hl 0 rfl) ?_
      refine x_get E hw kin_X5 0 rfl rfl 3 (by decide) kF_X5_22 (v := .int ncl) rfl dX5_takeNumber_81 ?_
      refine lv_iload hx hb dX5_takeNumber_84 (lv_at hl 3 rfl) ?_
      obtain ⟨q12, hq12, hf⟩ := Option.bind_eq_some_iff.mp hf
      refine x_callVI (ws' := (wRdr cI cZ cN cC h0 h1 h2 k0 k1 ncl tso tst ten knd nbs len txt)) (st1 := [.int q12]) (As := [.int ncl, .int x7]) (rest := []) E hw vc_X5_36 (c_X5_numberOf (cI := cI) (cZ := cZ) (cN := cN) (cC := cC) (h0 := h0) (h1 := h1) (h2 := h2) (k0 := k0) (k1 := k1)  (ncl := ncl) (tso := tso) (tst := tst) (ten := ten) (knd := knd) (nbs := nbs) (len := len) (txt := txt) (x1 := ncl) (x2 := x7) hq12) 0 5 rfl rfl rfl rfl rfl ⟨Nat.le_of_ble_eq_true rfl, Nat.le_of_ble_eq_true rfl⟩ ⟨Nat.le_refl _, Nat.le_refl _⟩ hl.1 rfl rfl (Nat.le_of_ble_eq_true rfl) dX5_takeNumber_86 (fun H locs hw => ?_)
      refine lv_iload hx hb dX5_takeNumber_89 (lv_at hl 2 rfl) ?_
      refine lv_icmp_ne (tgt := 96) hx hb dX5_takeNumber_91 (by decide) (fun c13 => ?_) (fun c13 => ?_)
      · rw [if_neg c13] at hf
        refine lv_iinc (v := (x7 + 1)) (lv' := [(7, .int (x7 + 1)), (0, .ref h0), (2, .int x2), (4, .int x4)]) hx hb dX5_takeNumber_96 hl (k := 3) rfl rfl (by decide) rfl (fun ls hl => ?_)
        refine lv_goto (tgt := 73) hx hb dX5_takeNumber_99 (by decide) ?_
        exact ih _ hf _ _ _ hw (lv_sub hl [1, 2, 3, 0] rfl)
      · rw [if_pos c13] at hf
        refine lv_iconst (v := 0) hx hb dX5_takeNumber_94 (by decide) ?_
        have hf := Option.some.inj hf; subst hf
        exact x_zret E hw (xz_n (v := 0) (by decide)) dX5_takeNumber_95
def f_X5_takeNumber_38 (N : Nat) (x1 : Int32) (x2 : Int32) (x3 : Int32) (x4 : Int32) (t0 : Int32) (ncl : Int32) (nbs : (Nat → Int32)) : Option (Int32 × (Nat → Int32)) :=
  if x1 = 0 then
   if x4 < t0 then
    some (0, nbs)
   else
    if x4 ≤ 10 then
     f_X5_takeNumber_73 x2 x4 ncl nbs N 0
    else
     some (0, nbs)
  else
   if x4 < t0 then
    some (0, nbs)
   else
    if x4 ≤ (x3 - 1) then
     f_X5_takeNumber_73 x2 x4 ncl nbs N 0
    else
     some (0, nbs)
set_option maxHeartbeats 4000000 in
set_option maxRecDepth 100000 in
theorem b_X5_takeNumber_38 {p : Program} {l : Launch} {e : Env} {s : State} {m : MethodId} {args : Array Value} {below : List Frame} {meth : Method} {c : Code} {D : va_G} {cI cZ cN cC : ClassId} {ws0 : va_W} {h0 h1 h2 k0 k1 : Nat} {x1 : Int32} {x2 : Int32} {x3 : Int32} {x4 : Int32} {t0 : Int32} {ncl : Int32} {tso : Int32} {tst : Int32} {ten : Int32} {knd : (Nat → Int32)} {nbs : (Nat → Int32)} {len : Int32} {txt : (Nat → Int32)} {N : Nat} {res : Int32 × (Nat → Int32)} (E : xE p s m args meth c cX5_takeNumber 8 (some .boolean) RX5 D (xtys cI cZ cN cC) (xA ws0)) : f_X5_takeNumber_38 N x1 x2 x3 x4 t0 ncl nbs = some res → ∀ (H : Heap) (locs : List Loc) (ls : Array Slot), xw D (xA ws0) s.heap (wRdr cI cZ cN cC h0 h1 h2 k0 k1 ncl tso tst ten knd nbs len txt) H locs → lv_has ls 8 [(0, .ref h0), (1, .int x1), (2, .int x2), (3, .int x3), (4, .int x4)] → xG p l e 1 22 s m args below meth c D ws0 (wRdr cI cZ cN cC h0 h1 h2 k0 k1 ncl tso tst ten knd res.2 len txt) (some (.int res.1)) H locs (F0 m 38 ls [.int t0]) := by
  obtain ⟨hx, hb, -⟩ := id E
  intro hf H locs ls hw hl
  unfold f_X5_takeNumber_38 at hf
  refine lv_istore (lv' := [(5, .int t0), (0, .ref h0), (1, .int x1), (2, .int x2), (3, .int x3), (4, .int x4)]) hx hb dX5_takeNumber_38 hl (by decide) rfl (fun ls hl => ?_)
  refine lv_iload_n hx hb dX5_takeNumber_40 rfl (lv_at hl 2 rfl) ?_
  refine lv_if_ne (tgt := 49) hx hb dX5_takeNumber_41 (by decide) (fun c5 => ?_) (fun c5 => ?_)
  · rw [if_neg c5] at hf
    refine lv_iload_n hx hb dX5_takeNumber_49 rfl (lv_at hl 4 rfl) ?_
    refine lv_iconst (v := 1) hx hb dX5_takeNumber_50 (by decide) ?_
    refine lv_isub hx hb dX5_takeNumber_51 ?_
    refine lv_istore (lv' := [(6, .int (x3 - 1)), (5, .int t0), (0, .ref h0), (1, .int x1), (2, .int x2), (3, .int x3), (4, .int x4)]) hx hb dX5_takeNumber_52 hl (by decide) rfl (fun ls hl => ?_)
    refine lv_iload hx hb dX5_takeNumber_54 (lv_at hl 6 rfl) ?_
    refine lv_iload hx hb dX5_takeNumber_56 (lv_at hl 1 rfl) ?_
    refine lv_icmp_lt (tgt := 68) hx hb dX5_takeNumber_58 (by decide) (fun c6 => ?_) (fun c6 => ?_)
    · rw [if_pos c6] at hf
      refine lv_iconst (v := 0) hx hb dX5_takeNumber_68 (by decide) ?_
      have hf := Option.some.inj hf; subst hf
      exact x_zret E hw (xz_n (v := 0) (by decide)) dX5_takeNumber_69
    · rw [if_neg c6] at hf
      refine lv_iload hx hb dX5_takeNumber_61 (lv_at hl 6 rfl) ?_
      refine lv_iload hx hb dX5_takeNumber_63 (lv_at hl 0 rfl) ?_
      refine lv_icmp_le (tgt := 70) hx hb dX5_takeNumber_65 (by decide) (fun c7 => ?_) (fun c7 => ?_)
      · rw [if_pos c7] at hf
        refine lv_iconst (v := 0) hx hb dX5_takeNumber_70 (by decide) ?_
        refine lv_istore (lv' := [(7, .int 0), (6, .int (x3 - 1)), (5, .int t0), (0, .ref h0), (1, .int x1), (2, .int x2), (3, .int x3), (4, .int x4)]) hx hb dX5_takeNumber_71 hl (by decide) rfl (fun ls hl => ?_)
        exact b_X5_takeNumber_73 E N _ hf _ _ _ hw (lv_sub hl [3, 5, 7, 0] rfl)
      · rw [if_neg c7] at hf
        refine lv_iconst (v := 0) hx hb dX5_takeNumber_68 (by decide) ?_
        have hf := Option.some.inj hf; subst hf
        exact x_zret E hw (xz_n (v := 0) (by decide)) dX5_takeNumber_69
  · rw [if_pos c5] at hf
    refine lv_bipush (v := 10) hx hb dX5_takeNumber_44 (by decide) ?_
    refine lv_goto (tgt := 52) hx hb dX5_takeNumber_46 (by decide) ?_
    refine lv_istore (lv' := [(6, .int 10), (5, .int t0), (0, .ref h0), (1, .int x1), (2, .int x2), (3, .int x3), (4, .int x4)]) hx hb dX5_takeNumber_52 hl (by decide) rfl (fun ls hl => ?_)
    refine lv_iload hx hb dX5_takeNumber_54 (lv_at hl 6 rfl) ?_
    refine lv_iload hx hb dX5_takeNumber_56 (lv_at hl 1 rfl) ?_
    refine lv_icmp_lt (tgt := 68) hx hb dX5_takeNumber_58 (by decide) (fun c8 => ?_) (fun c8 => ?_)
    · rw [if_pos c8] at hf
      refine lv_iconst (v := 0) hx hb dX5_takeNumber_68 (by decide) ?_
      have hf := Option.some.inj hf; subst hf
      exact x_zret E hw (xz_n (v := 0) (by decide)) dX5_takeNumber_69
    · rw [if_neg c8] at hf
      refine lv_iload hx hb dX5_takeNumber_61 (lv_at hl 6 rfl) ?_
      refine lv_iload hx hb dX5_takeNumber_63 (lv_at hl 0 rfl) ?_
      refine lv_icmp_le (tgt := 70) hx hb dX5_takeNumber_65 (by decide) (fun c9 => ?_) (fun c9 => ?_)
      · rw [if_pos c9] at hf
        refine lv_iconst (v := 0) hx hb dX5_takeNumber_70 (by decide) ?_
        refine lv_istore (lv' := [(7, .int 0), (6, .int 10), (5, .int t0), (0, .ref h0), (1, .int x1), (2, .int x2), (3, .int x3), (4, .int x4)]) hx hb dX5_takeNumber_71 hl (by decide) rfl (fun ls hl => ?_)
        exact b_X5_takeNumber_73 E N _ hf _ _ _ hw (lv_sub hl [3, 5, 7, 0] rfl)
      · rw [if_neg c9] at hf
        refine lv_iconst (v := 0) hx hb dX5_takeNumber_68 (by decide) ?_
        have hf := Option.some.inj hf; subst hf
        exact x_zret E hw (xz_n (v := 0) (by decide)) dX5_takeNumber_69
def f_X5_takeNumber (N : Nat) (x1 : Int32) (x2 : Int32) (x3 : Int32) (ncl : Int32) (tso : Int32) (tst : Int32) (ten : Int32) (nbs : (Nat → Int32)) (txt : (Nat → Int32)) : Option (Int32 × (Nat → Int32)) :=
  if tso = 2 then
   if (ten - tst) ≤ 2 then
    (f_X5_tokenNumber N tst ten txt).bind fun q3 =>
    if x1 = 0 then
     f_X5_takeNumber_38 N x1 x2 x3 q3 2 ncl nbs
    else
     f_X5_takeNumber_38 N x1 x2 x3 q3 0 ncl nbs
   else
    some (0, nbs)
  else
   some (0, nbs)
set_option maxHeartbeats 4000000 in
set_option maxRecDepth 100000 in
theorem c_X5_takeNumber {l : Launch} {D : va_G} {cI cZ cN cC : ClassId} {h0 h1 h2 k0 k1 : Nat} {ncl : Int32} {tso : Int32} {tst : Int32} {ten : Int32} {knd : (Nat → Int32)} {nbs : (Nat → Int32)} {len : Int32} {txt : (Nat → Int32)} {x1 : Int32} {x2 : Int32} {x3 : Int32} {N : Nat} {res : Int32 × (Nat → Int32)} (hf : f_X5_takeNumber N x1 x2 x3 ncl tso tst ten nbs txt = some res) : xMet l D (xtys cI cZ cN cC) yX5_takeNumber cX5_takeNumber 8 (some .boolean) 1 22 [.ref h0, .int x1, .int x2, .int x3] (wRdr cI cZ cN cC h0 h1 h2 k0 k1 ncl tso tst ten knd nbs len txt) (wRdr cI cZ cN cC h0 h1 h2 k0 k1 ncl tso tst ten knd res.2 len txt) (some (.int res.1)) := by
  refine x_enter (by decide) (Nat.le_of_ble_eq_true rfl) ?_
  intro p e s m args below meth c E ls hl hw
  have E : xE p s m args meth c cX5_takeNumber 8 (some .boolean) RX5 D (xtys cI cZ cN cC) (xA (wRdr cI cZ cN cC h0 h1 h2 k0 k1 ncl tso tst ten knd nbs len txt)) := E
  obtain ⟨hx, hb, -⟩ := id E
  have hl : lv_has ls 8 [(0, .ref h0), (1, .int x1), (2, .int x2), (3, .int x3)] := hl
  unfold f_X5_takeNumber at hf
  refine lv_aload_n hx hb dX5_takeNumber_0 rfl (lv_at hl 0 rfl) ?_
  refine x_get E hw kin_X5 0 rfl rfl 4 (by decide) kF_X5_43 (v := .int tso) rfl dX5_takeNumber_1 ?_
  refine lv_iconst (v := 2) hx hb dX5_takeNumber_4 (by decide) ?_
  refine lv_icmp_ne (tgt := 21) hx hb dX5_takeNumber_5 (by decide) (fun c1 => ?_) (fun c1 => ?_)
  · rw [if_neg c1] at hf
    refine lv_iconst (v := 0) hx hb dX5_takeNumber_21 (by decide) ?_
    have hf := Option.some.inj hf; subst hf
    exact x_zret E hw (xz_n (v := 0) (by decide)) dX5_takeNumber_22
  · rw [if_pos c1] at hf
    refine lv_aload_n hx hb dX5_takeNumber_8 rfl (lv_at hl 0 rfl) ?_
    refine x_get E hw kin_X5 0 rfl rfl 6 (by decide) kF_X5_26 (v := .int ten) rfl dX5_takeNumber_9 ?_
    refine lv_aload_n hx hb dX5_takeNumber_12 rfl (lv_at hl 0 rfl) ?_
    refine x_get E hw kin_X5 0 rfl rfl 5 (by decide) kF_X5_33 (v := .int tst) rfl dX5_takeNumber_13 ?_
    refine lv_isub hx hb dX5_takeNumber_16 ?_
    refine lv_iconst (v := 2) hx hb dX5_takeNumber_17 (by decide) ?_
    refine lv_icmp_le (tgt := 23) hx hb dX5_takeNumber_18 (by decide) (fun c2 => ?_) (fun c2 => ?_)
    · rw [if_pos c2] at hf
      refine lv_aload_n hx hb dX5_takeNumber_23 rfl (lv_at hl 0 rfl) ?_
      obtain ⟨q3, hq3, hf⟩ := Option.bind_eq_some_iff.mp hf
      refine x_callVI (ws' := (wRdr cI cZ cN cC h0 h1 h2 k0 k1 ncl tso tst ten knd nbs len txt)) (st1 := [.int q3]) (As := []) (rest := []) E hw vc_X5_62 (c_X5_tokenNumber (cI := cI) (cZ := cZ) (cN := cN) (cC := cC) (h0 := h0) (h1 := h1) (h2 := h2) (k0 := k0) (k1 := k1)  (ncl := ncl) (tso := tso) (tst := tst) (ten := ten) (knd := knd) (nbs := nbs) (len := len) (txt := txt)  hq3) 0 5 rfl rfl rfl rfl rfl ⟨Nat.le_of_ble_eq_true rfl, Nat.le_of_ble_eq_true rfl⟩ ⟨Nat.le_refl _, Nat.le_refl _⟩ hl.1 rfl rfl (Nat.le_of_ble_eq_true rfl) dX5_takeNumber_24 (fun H locs hw => ?_)
      refine lv_istore (lv' := [(4, .int q3), (0, .ref h0), (1, .int x1), (2, .int x2), (3, .int x3)]) hx hb dX5_takeNumber_27 hl (by decide) rfl (fun ls hl => ?_)
      refine lv_iload_n hx hb dX5_takeNumber_29 rfl (lv_at hl 2 rfl) ?_
      refine lv_if_ne (tgt := 37) hx hb dX5_takeNumber_30 (by decide) (fun c4 => ?_) (fun c4 => ?_)
      · rw [if_neg c4] at hf
        refine lv_iconst (v := 0) hx hb dX5_takeNumber_37 (by decide) ?_
        exact b_X5_takeNumber_38 E  hf _ _ _ hw (lv_sub hl [1, 2, 3, 4, 0] rfl)
      · rw [if_pos c4] at hf
        refine lv_iconst (v := 2) hx hb dX5_takeNumber_33 (by decide) ?_
        refine lv_goto (tgt := 38) hx hb dX5_takeNumber_34 (by decide) ?_
        exact b_X5_takeNumber_38 E  hf _ _ _ hw (lv_sub hl [1, 2, 3, 4, 0] rfl)
    · rw [if_neg c2] at hf
      refine lv_iconst (v := 0) hx hb dX5_takeNumber_21 (by decide) ?_
      have hf := Option.some.inj hf; subst hf
      exact x_zret E hw (xz_n (v := 0) (by decide)) dX5_takeNumber_22

def f_X5_tokenIs_20 (tst : Int32) (txt : (Nat → Int32)) (i1 : Nat) : Nat → Int32 → Option (Int32)
  | 0, _ => none
  | n + 1, x2 =>
    if (f_Slen i1) ≤ x2 then
     some 1
    else
     if xin (tst + x2) 200 then
     if xin x2 (xlen.getD i1 0) then
     if (txt (Int32.toNatClampNeg (tst + x2))) = (f_Schar i1 x2) then
      f_X5_tokenIs_20 tst txt i1 n (x2 + 1)
     else
      some 0
     else none
     else none
set_option maxHeartbeats 4000000 in
set_option maxRecDepth 100000 in
theorem b_X5_tokenIs_20 {p : Program} {l : Launch} {e : Env} {s : State} {m : MethodId} {args : Array Value} {below : List Frame} {meth : Method} {c : Code} {D : va_G} {cI cZ cN cC : ClassId} {ws0 : va_W} {h0 h1 h2 k0 k1 : Nat} {i1 : Nat} (hi1 : i1 < 5) {adK adV : Nat → Nat} {ncl : Int32} {tso : Int32} {tst : Int32} {ten : Int32} {knd : (Nat → Int32)} {nbs : (Nat → Int32)} {len : Int32} {txt : (Nat → Int32)} {res : Int32} (E : xE p s m args meth c cX5_tokenIs 3 (some .boolean) RX5 D (xtys cI cZ cN cC) (xA ws0)) (hcs : xCs adK adV (xA ws0) s s.heap) : ∀ (n : Nat) (x2 : Int32), f_X5_tokenIs_20 tst txt i1 n x2 = some res → ∀ (H : Heap) (locs : List Loc) (ls : Array Slot), xw D (xA ws0) s.heap (wRdr cI cZ cN cC h0 h1 h2 k0 k1 ncl tso tst ten knd nbs len txt) H locs → lv_has ls 3 [(0, .ref h0), (1, .ref (adK i1)), (2, .int x2)] → xG p l e 4 85 s m args below meth c D ws0 (wRdr cI cZ cN cC h0 h1 h2 k0 k1 ncl tso tst ten knd nbs len txt) (some (.int res)) H locs (F0 m 20 ls []) := by
  obtain ⟨hx, hb, -⟩ := id E
  intro n
  induction n with
  | zero =>
    intro _ hf
    rw [f_X5_tokenIs_20] at hf; cases hf
  | succ n ih =>
    intro x2 hf H locs ls hw hl
    rw [f_X5_tokenIs_20] at hf
    refine lv_iload_n hx hb dX5_tokenIs_20 rfl (lv_at hl 2 rfl) ?_
    refine lv_aload_n hx hb dX5_tokenIs_21 rfl (lv_at hl 1 rfl) ?_
    refine x_callVC (isC := []) (ws' := (wRdr cI cZ cN cC h0 h1 h2 k0 k1 ncl tso tst ten knd nbs len txt)) (st1 := [.int (f_Slen i1), .int x2]) (As := []) (rest := [.int x2]) E hcs hw vc_X5_84 (c_Slen (adK := adK) (adV := adV) (i := i1) hi1) (vk_recv hcs.1 hi1 hw.2.2) rfl rfl rfl rfl rfl rfl ⟨Nat.le_of_ble_eq_true rfl, Nat.le_of_ble_eq_true rfl⟩ ⟨Nat.le_refl _, Nat.le_refl _⟩ hl.1 rfl rfl (Nat.le_of_ble_eq_true rfl) dX5_tokenIs_22 (fun H locs hw => ?_)
    refine lv_icmp_ge (tgt := 58) hx hb dX5_tokenIs_25 (by decide) (fun c2 => ?_) (fun c2 => ?_)
    · rw [if_pos c2] at hf
      refine lv_iconst (v := 1) hx hb dX5_tokenIs_58 (by decide) ?_
      have hf := Option.some.inj hf; subst hf
      exact x_zret E hw (xz_n (v := 1) (by decide)) dX5_tokenIs_59
    · rw [if_neg c2] at hf
      refine lv_aload_n hx hb dX5_tokenIs_28 rfl (lv_at hl 0 rfl) ?_
      refine x_get E hw kin_X5 0 rfl rfl 0 (by decide) kF_X5_18 (v := .ref k0) rfl dX5_tokenIs_29 ?_
      refine x_get E hw kin_X2 3 rfl rfl 0 (by decide) kF_X5_65 (v := .ref k1) rfl dX5_tokenIs_32 ?_
      refine lv_aload_n hx hb dX5_tokenIs_35 rfl (lv_at hl 0 rfl) ?_
      refine x_get E hw kin_X5 0 rfl rfl 5 (by decide) kF_X5_33 (v := .int tst) rfl dX5_tokenIs_36 ?_
      refine lv_iload_n hx hb dX5_tokenIs_39 rfl (lv_at hl 2 rfl) ?_
      refine lv_iadd hx hb dX5_tokenIs_40 ?_
      obtain ⟨g3, hf⟩ := xgd hf
      refine x_iald E hw 4 0 rfl rfl (xin_vp g3) dX5_tokenIs_41 ?_
      refine lv_aload_n hx hb dX5_tokenIs_42 rfl (lv_at hl 1 rfl) ?_
      refine lv_iload_n hx hb dX5_tokenIs_43 rfl (lv_at hl 2 rfl) ?_
      obtain ⟨g4, hf⟩ := xgd hf
      refine x_callVC (isC := []) (ws' := (wRdr cI cZ cN cC h0 h1 h2 k0 k1 ncl tso tst ten knd nbs len txt)) (st1 := [.int (f_Schar i1 x2), .int (txt (Int32.toNatClampNeg (tst + x2)))]) (As := [.int x2]) (rest := [.int (txt (Int32.toNatClampNeg (tst + x2)))]) E hcs hw vc_X5_88 (c_Schar (adK := adK) (adV := adV) (i := i1) hi1 g4) (vk_recv hcs.1 hi1 hw.2.2) rfl rfl rfl rfl rfl rfl ⟨Nat.le_of_ble_eq_true rfl, Nat.le_of_ble_eq_true rfl⟩ ⟨Nat.le_refl _, Nat.le_refl _⟩ hl.1 rfl rfl (Nat.le_of_ble_eq_true rfl) dX5_tokenIs_44 (fun H locs hw => ?_)
      refine lv_icmp_eq (tgt := 52) hx hb dX5_tokenIs_47 (by decide) (fun c5 => ?_) (fun c5 => ?_)
      · rw [if_pos c5] at hf
        refine lv_iinc (v := (x2 + 1)) (lv' := [(2, .int (x2 + 1)), (0, .ref h0), (1, .ref (adK i1))]) hx hb dX5_tokenIs_52 hl (k := 2) rfl rfl (by decide) rfl (fun ls hl => ?_)
        refine lv_goto (tgt := 20) hx hb dX5_tokenIs_55 (by decide) ?_
        exact ih _ hf _ _ _ hw (lv_sub hl [1, 2, 0] rfl)
      · rw [if_neg c5] at hf
        refine lv_iconst (v := 0) hx hb dX5_tokenIs_50 (by decide) ?_
        have hf := Option.some.inj hf; subst hf
        exact x_zret E hw (xz_n (v := 0) (by decide)) dX5_tokenIs_51
def f_X5_tokenIs (N : Nat) (tst : Int32) (ten : Int32) (txt : (Nat → Int32)) (i1 : Nat) : Option (Int32) :=
  if (ten - tst) = (f_Slen i1) then
   f_X5_tokenIs_20 tst txt i1 N 0
  else
   some 0
set_option maxHeartbeats 4000000 in
set_option maxRecDepth 100000 in
theorem c_X5_tokenIs {l : Launch} {D : va_G} {cI cZ cN cC : ClassId} {h0 h1 h2 k0 k1 : Nat} {i1 : Nat} (hi1 : i1 < 5) {adK adV : Nat → Nat} {ncl : Int32} {tso : Int32} {tst : Int32} {ten : Int32} {knd : (Nat → Int32)} {nbs : (Nat → Int32)} {len : Int32} {txt : (Nat → Int32)}  {N : Nat} {res : Int32} (hf : f_X5_tokenIs N tst ten txt i1 = some res) : xMetC l D (xtys cI cZ cN cC) adK adV yX5_tokenIs cX5_tokenIs 3 (some .boolean) 4 85 [.ref h0, .ref (adK i1)] (wRdr cI cZ cN cC h0 h1 h2 k0 k1 ncl tso tst ten knd nbs len txt) (wRdr cI cZ cN cC h0 h1 h2 k0 k1 ncl tso tst ten knd nbs len txt) (some (.int res)) := by
  refine x_enterC (by decide) (Nat.le_of_ble_eq_true rfl) ?_
  intro p e s m args below meth c E hcs ls hl hw
  have E : xE p s m args meth c cX5_tokenIs 3 (some .boolean) RX5 D (xtys cI cZ cN cC) (xA (wRdr cI cZ cN cC h0 h1 h2 k0 k1 ncl tso tst ten knd nbs len txt)) := E
  obtain ⟨hx, hb, -⟩ := id E
  have hl : lv_has ls 3 [(0, .ref h0), (1, .ref (adK i1))] := hl
  unfold f_X5_tokenIs at hf
  refine lv_aload_n hx hb dX5_tokenIs_0 rfl (lv_at hl 0 rfl) ?_
  refine x_get E hw kin_X5 0 rfl rfl 6 (by decide) kF_X5_26 (v := .int ten) rfl dX5_tokenIs_1 ?_
  refine lv_aload_n hx hb dX5_tokenIs_4 rfl (lv_at hl 0 rfl) ?_
  refine x_get E hw kin_X5 0 rfl rfl 5 (by decide) kF_X5_33 (v := .int tst) rfl dX5_tokenIs_5 ?_
  refine lv_isub hx hb dX5_tokenIs_8 ?_
  refine lv_aload_n hx hb dX5_tokenIs_9 rfl (lv_at hl 1 rfl) ?_
  refine x_callVC (isC := []) (ws' := (wRdr cI cZ cN cC h0 h1 h2 k0 k1 ncl tso tst ten knd nbs len txt)) (st1 := [.int (f_Slen i1), .int (ten - tst)]) (As := []) (rest := [.int (ten - tst)]) E hcs hw vc_X5_84 (c_Slen (adK := adK) (adV := adV) (i := i1) hi1) (vk_recv hcs.1 hi1 hw.2.2) rfl rfl rfl rfl rfl rfl ⟨Nat.le_of_ble_eq_true rfl, Nat.le_of_ble_eq_true rfl⟩ ⟨Nat.le_refl _, Nat.le_refl _⟩ hl.1 rfl rfl (Nat.le_of_ble_eq_true rfl) dX5_tokenIs_10 (fun H locs hw => ?_)
  refine lv_icmp_eq (tgt := 18) hx hb dX5_tokenIs_13 (by decide) (fun c1 => ?_) (fun c1 => ?_)
  · rw [if_pos c1] at hf
    refine lv_iconst (v := 0) hx hb dX5_tokenIs_18 (by decide) ?_
    refine lv_istore_n (lv' := [(2, .int 0), (0, .ref h0), (1, .ref (adK i1))]) hx hb dX5_tokenIs_19 rfl hl (by decide) rfl (fun ls hl => ?_)
    exact b_X5_tokenIs_20 hi1 E hcs N _ hf _ _ _ hw (lv_sub hl [1, 2, 0] rfl)
  · rw [if_neg c1] at hf
    refine lv_iconst (v := 0) hx hb dX5_tokenIs_16 (by decide) ?_
    have hf := Option.some.inj hf; subst hf
    exact x_zret E hw (xz_n (v := 0) (by decide)) dX5_tokenIs_17

def f_X5_kindOfToken_12 (N : Nat) (tst : Int32) (ten : Int32) (txt : (Nat → Int32)) : Nat → Int32 → Option (Int32)
  | 0, _ => none
  | n + 1, x1 =>
    if 5 ≤ x1 then
     some (-1)
    else
     (f_X5_tokenIs N tst ten txt (f_X5_wordOf x1)).bind fun q3 =>
     if q3 = 0 then
      f_X5_kindOfToken_12 N tst ten txt n (x1 + 1)
     else
      some x1
set_option maxHeartbeats 4000000 in
set_option maxRecDepth 100000 in
theorem b_X5_kindOfToken_12 {p : Program} {l : Launch} {e : Env} {s : State} {m : MethodId} {args : Array Value} {below : List Frame} {meth : Method} {c : Code} {D : va_G} {cI cZ cN cC : ClassId} {ws0 : va_W} {h0 h1 h2 k0 k1 : Nat} {adK adV : Nat → Nat} {ncl : Int32} {tso : Int32} {tst : Int32} {ten : Int32} {knd : (Nat → Int32)} {nbs : (Nat → Int32)} {len : Int32} {txt : (Nat → Int32)} {N : Nat} {res : Int32} (E : xE p s m args meth c cX5_kindOfToken 2 (some .int) RX5 D (xtys cI cZ cN cC) (xA ws0)) (hcs : xCs adK adV (xA ws0) s s.heap) : ∀ (n : Nat) (x1 : Int32), f_X5_kindOfToken_12 N tst ten txt n x1 = some res → ∀ (H : Heap) (locs : List Loc) (ls : Array Slot), xw D (xA ws0) s.heap (wRdr cI cZ cN cC h0 h1 h2 k0 k1 ncl tso tst ten knd nbs len txt) H locs → lv_has ls 2 [(0, .ref h0), (1, .int x1)] → xG p l e 5 107 s m args below meth c D ws0 (wRdr cI cZ cN cC h0 h1 h2 k0 k1 ncl tso tst ten knd nbs len txt) (some (.int res)) H locs (F0 m 12 ls []) := by
  obtain ⟨hx, hb, -⟩ := id E
  intro n
  induction n with
  | zero =>
    intro _ hf
    rw [f_X5_kindOfToken_12] at hf; cases hf
  | succ n ih =>
    intro x1 hf H locs ls hw hl
    rw [f_X5_kindOfToken_12] at hf
    refine lv_iload_n hx hb dX5_kindOfToken_12 rfl (lv_at hl 1 rfl) ?_
    refine lv_iconst (v := 5) hx hb dX5_kindOfToken_13 (by decide) ?_
    refine lv_icmp_ge (tgt := 36) hx hb dX5_kindOfToken_14 (by decide) (fun c2 => ?_) (fun c2 => ?_)
    · rw [if_pos c2] at hf
      refine lv_iconst (v := (-1)) hx hb dX5_kindOfToken_36 (by decide) ?_
      have hf := Option.some.inj hf; subst hf
      exact x_iret E hw dX5_kindOfToken_37
    · rw [if_neg c2] at hf
      refine lv_aload_n hx hb dX5_kindOfToken_17 rfl (lv_at hl 0 rfl) ?_
      refine lv_iload_n hx hb dX5_kindOfToken_18 rfl (lv_at hl 1 rfl) ?_
      refine x_callSC (isC := []) (ws' := (wRdr cI cZ cN cC h0 h1 h2 k0 k1 ncl tso tst ten knd nbs len txt)) (st1 := [.ref (adK (f_X5_wordOf x1)), .ref h0]) (As := [.int x1]) (rest := [.ref h0]) E hcs hw vc_X5_76 (c_X5_wordOf (cI := cI) (cZ := cZ) (cN := cN) (cC := cC)    (x0 := x1) (adK := adK) (adV := adV) rfl) rfl rfl rfl rfl rfl rfl ⟨Nat.le_of_ble_eq_true rfl, Nat.le_of_ble_eq_true rfl⟩ ⟨Nat.le_refl _, Nat.le_refl _⟩ hl.1 rfl rfl (Nat.le_of_ble_eq_true rfl) dX5_kindOfToken_19 (fun H locs hw => ?_)
      obtain ⟨q3, hq3, hf⟩ := Option.bind_eq_some_iff.mp hf
      refine x_callVC (isC := [0, 1, 2, 3, 4]) (ws' := (wRdr cI cZ cN cC h0 h1 h2 k0 k1 ncl tso tst ten knd nbs len txt)) (st1 := [.int q3]) (As := [.ref (adK (f_X5_wordOf x1))]) (rest := []) E hcs hw vc_X5_80 (c_X5_tokenIs (cI := cI) (cZ := cZ) (cN := cN) (cC := cC) (h0 := h0) (h1 := h1) (h2 := h2) (k0 := k0) (k1 := k1)  (ncl := ncl) (tso := tso) (tst := tst) (ten := ten) (knd := knd) (nbs := nbs) (len := len) (txt := txt) (i1 := (f_X5_wordOf x1)) (adK := adK) (adV := adV) (hi1 := lt_X5_wordOf) hq3) (va_recv E.2.2.2.2.2.1.1 hw.1 (ci := 5) (q0 := 0) rfl rfl) rfl rfl rfl rfl rfl rfl ⟨Nat.le_of_ble_eq_true rfl, Nat.le_of_ble_eq_true rfl⟩ ⟨Nat.le_refl _, Nat.le_refl _⟩ hl.1 rfl rfl (Nat.le_of_ble_eq_true rfl) dX5_kindOfToken_22 (fun H locs hw => ?_)
      refine lv_if_eq (tgt := 30) hx hb dX5_kindOfToken_25 (by decide) (fun c4 => ?_) (fun c4 => ?_)
      · rw [if_pos c4] at hf
        refine lv_iinc (v := (x1 + 1)) (lv' := [(1, .int (x1 + 1)), (0, .ref h0)]) hx hb dX5_kindOfToken_30 hl (k := 1) rfl rfl (by decide) rfl (fun ls hl => ?_)
        refine lv_goto (tgt := 12) hx hb dX5_kindOfToken_33 (by decide) ?_
        exact ih _ hf _ _ _ hw (lv_sub hl [1, 0] rfl)
      · rw [if_neg c4] at hf
        refine lv_iload_n hx hb dX5_kindOfToken_28 rfl (lv_at hl 1 rfl) ?_
        have hf := Option.some.inj hf; subst hf
        exact x_iret E hw dX5_kindOfToken_29
def f_X5_kindOfToken (N : Nat) (tso : Int32) (tst : Int32) (ten : Int32) (txt : (Nat → Int32)) : Option (Int32) :=
  if tso = 1 then
   f_X5_kindOfToken_12 N tst ten txt N 0
  else
   some (-1)
set_option maxHeartbeats 4000000 in
set_option maxRecDepth 100000 in
theorem c_X5_kindOfToken {l : Launch} {D : va_G} {cI cZ cN cC : ClassId} {h0 h1 h2 k0 k1 : Nat} {ncl : Int32} {tso : Int32} {tst : Int32} {ten : Int32} {knd : (Nat → Int32)} {nbs : (Nat → Int32)} {len : Int32} {txt : (Nat → Int32)}  {N : Nat} {res : Int32} (hf : f_X5_kindOfToken N tso tst ten txt = some res) : xMet l D (xtys cI cZ cN cC) yX5_kindOfToken cX5_kindOfToken 2 (some .int) 5 107 [.ref h0] (wRdr cI cZ cN cC h0 h1 h2 k0 k1 ncl tso tst ten knd nbs len txt) (wRdr cI cZ cN cC h0 h1 h2 k0 k1 ncl tso tst ten knd nbs len txt) (some (.int res)) := by
  refine x_enter (by decide) (Nat.le_of_ble_eq_true rfl) ?_
  intro p e s m args below meth c E ls hl hw
  have E : xE p s m args meth c cX5_kindOfToken 2 (some .int) RX5 D (xtys cI cZ cN cC) (xA (wRdr cI cZ cN cC h0 h1 h2 k0 k1 ncl tso tst ten knd nbs len txt)) := E
  obtain ⟨hx, hb, -⟩ := id E
  obtain ⟨adK, adV, hcs⟩ := E.2.2.2.2.2.2.2
  have hl : lv_has ls 2 [(0, .ref h0)] := hl
  unfold f_X5_kindOfToken at hf
  refine lv_aload_n hx hb dX5_kindOfToken_0 rfl (lv_at hl 0 rfl) ?_
  refine x_get E hw kin_X5 0 rfl rfl 4 (by decide) kF_X5_43 (v := .int tso) rfl dX5_kindOfToken_1 ?_
  refine lv_iconst (v := 1) hx hb dX5_kindOfToken_4 (by decide) ?_
  refine lv_icmp_eq (tgt := 10) hx hb dX5_kindOfToken_5 (by decide) (fun c1 => ?_) (fun c1 => ?_)
  · rw [if_pos c1] at hf
    refine lv_iconst (v := 0) hx hb dX5_kindOfToken_10 (by decide) ?_
    refine lv_istore_n (lv' := [(1, .int 0), (0, .ref h0)]) hx hb dX5_kindOfToken_11 rfl hl (by decide) rfl (fun ls hl => ?_)
    exact b_X5_kindOfToken_12 E hcs N _ hf _ _ _ hw (lv_sub hl [1, 0] rfl)
  · rw [if_neg c1] at hf
    refine lv_iconst (v := (-1)) hx hb dX5_kindOfToken_8 (by decide) ?_
    have hf := Option.some.inj hf; subst hf
    exact x_iret E hw dX5_kindOfToken_9

def f_X5_readClause_34 (N : Nat) (x1 : Int32) (x2 : Int32) (x3 : Int32) (ncl : Int32) (knd : (Nat → Int32)) (len : Int32) (txt : (Nat → Int32)) : Nat → Int32 → Int32 → Int32 → Int32 → (Nat → Int32) → Option (Int32 × Int32 × Int32 × Int32 × (Nat → Int32) × (Nat → Int32))
  | 0, _, _, _, _, _ => none
  | n + 1, x4, tso, tst, ten, nbs =>
    if x3 ≤ x4 then
     some (1, tso, tst, ten, knd, nbs)
    else
     (f_X5_nextToken N ten len txt).bind fun q6 =>
     (f_X5_takeNumber N x2 x4 x1 ncl q6.1 q6.2.1 q6.2.2 nbs txt).bind fun q7 =>
     if q7.1 = 0 then
      some (0, q6.1, q6.2.1, q6.2.2, knd, q7.2)
     else
      f_X5_readClause_34 N x1 x2 x3 ncl knd len txt n (x4 + 1) q6.1 q6.2.1 q6.2.2 q7.2
set_option maxHeartbeats 4000000 in
set_option maxRecDepth 100000 in
theorem b_X5_readClause_34 {p : Program} {l : Launch} {e : Env} {s : State} {m : MethodId} {args : Array Value} {below : List Frame} {meth : Method} {c : Code} {D : va_G} {cI cZ cN cC : ClassId} {ws0 : va_W} {h0 h1 h2 k0 k1 : Nat} {x1 : Int32} {x2 : Int32} {x3 : Int32} {ncl : Int32} {knd : (Nat → Int32)} {len : Int32} {txt : (Nat → Int32)} {N : Nat} {res : Int32 × Int32 × Int32 × Int32 × (Nat → Int32) × (Nat → Int32)} (E : xE p s m args meth c cX5_readClause 5 (some .boolean) RX5 D (xtys cI cZ cN cC) (xA ws0)) : ∀ (n : Nat) (x4 : Int32) (tso : Int32) (tst : Int32) (ten : Int32) (nbs : (Nat → Int32)), f_X5_readClause_34 N x1 x2 x3 ncl knd len txt n x4 tso tst ten nbs = some res → ∀ (H : Heap) (locs : List Loc) (ls : Array Slot), xw D (xA ws0) s.heap (wRdr cI cZ cN cC h0 h1 h2 k0 k1 ncl tso tst ten knd nbs len txt) H locs → lv_has ls 5 [(0, .ref h0), (1, .int x1), (2, .int x2), (3, .int x3), (4, .int x4)] → xG p l e 6 128 s m args below meth c D ws0 (wRdr cI cZ cN cC h0 h1 h2 k0 k1 ncl res.2.1 res.2.2.1 res.2.2.2.1 res.2.2.2.2.1 res.2.2.2.2.2 len txt) (some (.int res.1)) H locs (F0 m 34 ls []) := by
  obtain ⟨hx, hb, -⟩ := id E
  intro n
  induction n with
  | zero =>
    intro _ _ _ _ _ hf
    rw [f_X5_readClause_34] at hf; cases hf
  | succ n ih =>
    intro x4 tso tst ten nbs hf H locs ls hw hl
    rw [f_X5_readClause_34] at hf
    refine lv_iload hx hb dX5_readClause_34 (lv_at hl 4 rfl) ?_
    refine lv_iload_n hx hb dX5_readClause_36 rfl (lv_at hl 3 rfl) ?_
    refine lv_icmp_ge (tgt := 63) hx hb dX5_readClause_37 (by decide) (fun c5 => ?_) (fun c5 => ?_)
    · rw [if_pos c5] at hf
      refine lv_iconst (v := 1) hx hb dX5_readClause_63 (by decide) ?_
      have hf := Option.some.inj hf; subst hf
      exact x_zret E hw (xz_n (v := 1) (by decide)) dX5_readClause_64
    · rw [if_neg c5] at hf
      refine lv_aload_n hx hb dX5_readClause_40 rfl (lv_at hl 0 rfl) ?_
      obtain ⟨q6, hq6, hf⟩ := Option.bind_eq_some_iff.mp hf
      refine x_callVI (ws' := (wRdr cI cZ cN cC h0 h1 h2 k0 k1 ncl q6.1 q6.2.1 q6.2.2 knd nbs len txt)) (st1 := []) (As := []) (rest := []) E hw vc_X5_40 (c_X5_nextToken (cI := cI) (cZ := cZ) (cN := cN) (cC := cC) (h0 := h0) (h1 := h1) (h2 := h2) (k0 := k0) (k1 := k1)  (ncl := ncl) (tso := tso) (tst := tst) (ten := ten) (knd := knd) (nbs := nbs) (len := len) (txt := txt)  hq6) 0 5 rfl rfl rfl rfl rfl ⟨Nat.le_of_ble_eq_true rfl, Nat.le_of_ble_eq_true rfl⟩ ⟨Nat.le_refl _, Nat.le_refl _⟩ hl.1 rfl rfl (Nat.le_of_ble_eq_true rfl) dX5_readClause_41 (fun H locs hw => ?_)
      refine lv_aload_n hx hb dX5_readClause_44 rfl (lv_at hl 0 rfl) ?_
      refine lv_iload_n hx hb dX5_readClause_45 rfl (lv_at hl 2 rfl) ?_
      refine lv_iload hx hb dX5_readClause_46 (lv_at hl 4 rfl) ?_
      refine lv_iload_n hx hb dX5_readClause_48 rfl (lv_at hl 1 rfl) ?_
      obtain ⟨q7, hq7, hf⟩ := Option.bind_eq_some_iff.mp hf
      refine x_callVI (ws' := (wRdr cI cZ cN cC h0 h1 h2 k0 k1 ncl q6.1 q6.2.1 q6.2.2 knd q7.2 len txt)) (st1 := [.int q7.1]) (As := [.int x2, .int x4, .int x1]) (rest := []) E hw vc_X5_58 (c_X5_takeNumber (cI := cI) (cZ := cZ) (cN := cN) (cC := cC) (h0 := h0) (h1 := h1) (h2 := h2) (k0 := k0) (k1 := k1)  (ncl := ncl) (tso := q6.1) (tst := q6.2.1) (ten := q6.2.2) (knd := knd) (nbs := nbs) (len := len) (txt := txt) (x1 := x2) (x2 := x4) (x3 := x1) hq7) 0 5 rfl rfl rfl rfl rfl ⟨Nat.le_of_ble_eq_true rfl, Nat.le_of_ble_eq_true rfl⟩ ⟨Nat.le_refl _, Nat.le_refl _⟩ hl.1 rfl rfl (Nat.le_of_ble_eq_true rfl) dX5_readClause_49 (fun H locs hw => ?_)
      refine lv_if_ne (tgt := 57) hx hb dX5_readClause_52 (by decide) (fun c8 => ?_) (fun c8 => ?_)
      · rw [if_neg c8] at hf
        refine lv_iinc (v := (x4 + 1)) (lv' := [(4, .int (x4 + 1)), (0, .ref h0), (1, .int x1), (2, .int x2), (3, .int x3)]) hx hb dX5_readClause_57 hl (k := 4) rfl rfl (by decide) rfl (fun ls hl => ?_)
        refine lv_goto (tgt := 34) hx hb dX5_readClause_60 (by decide) ?_
        exact ih _ _ _ _ _ hf _ _ _ hw (lv_sub hl [1, 2, 3, 4, 0] rfl)
      · rw [if_pos c8] at hf
        refine lv_iconst (v := 0) hx hb dX5_readClause_55 (by decide) ?_
        have hf := Option.some.inj hf; subst hf
        exact x_zret E hw (xz_n (v := 0) (by decide)) dX5_readClause_56
def f_X5_readClause (N : Nat) (x1 : Int32) (ncl : Int32) (ten : Int32) (knd : (Nat → Int32)) (nbs : (Nat → Int32)) (len : Int32) (txt : (Nat → Int32)) : Option (Int32 × Int32 × Int32 × Int32 × (Nat → Int32) × (Nat → Int32)) :=
  (f_X5_nextToken N ten len txt).bind fun q1 =>
  (f_X5_kindOfToken N q1.1 q1.2.1 q1.2.2 txt).bind fun q2 =>
  if q2 = (-1) then
   some (0, q1.1, q1.2.1, q1.2.2, knd, nbs)
  else
   if xin ncl 24 then
   f_X5_readClause_34 N x1 q2 (f_X5_numbersOf q2) ncl (upd knd (Int32.toNatClampNeg ncl) q2) len txt N 0 q1.1 q1.2.1 q1.2.2 nbs
   else none
set_option maxHeartbeats 4000000 in
set_option maxRecDepth 100000 in
theorem c_X5_readClause {l : Launch} {D : va_G} {cI cZ cN cC : ClassId} {h0 h1 h2 k0 k1 : Nat} {ncl : Int32} {tso : Int32} {tst : Int32} {ten : Int32} {knd : (Nat → Int32)} {nbs : (Nat → Int32)} {len : Int32} {txt : (Nat → Int32)} {x1 : Int32} {N : Nat} {res : Int32 × Int32 × Int32 × Int32 × (Nat → Int32) × (Nat → Int32)} (hf : f_X5_readClause N x1 ncl ten knd nbs len txt = some res) : xMet l D (xtys cI cZ cN cC) yX5_readClause cX5_readClause 5 (some .boolean) 6 128 [.ref h0, .int x1] (wRdr cI cZ cN cC h0 h1 h2 k0 k1 ncl tso tst ten knd nbs len txt) (wRdr cI cZ cN cC h0 h1 h2 k0 k1 ncl res.2.1 res.2.2.1 res.2.2.2.1 res.2.2.2.2.1 res.2.2.2.2.2 len txt) (some (.int res.1)) := by
  refine x_enter (by decide) (Nat.le_of_ble_eq_true rfl) ?_
  intro p e s m args below meth c E ls hl hw
  have E : xE p s m args meth c cX5_readClause 5 (some .boolean) RX5 D (xtys cI cZ cN cC) (xA (wRdr cI cZ cN cC h0 h1 h2 k0 k1 ncl tso tst ten knd nbs len txt)) := E
  obtain ⟨hx, hb, -⟩ := id E
  have hl : lv_has ls 5 [(0, .ref h0), (1, .int x1)] := hl
  unfold f_X5_readClause at hf
  refine lv_aload_n hx hb dX5_readClause_0 rfl (lv_at hl 0 rfl) ?_
  obtain ⟨q1, hq1, hf⟩ := Option.bind_eq_some_iff.mp hf
  refine x_callVI (ws' := (wRdr cI cZ cN cC h0 h1 h2 k0 k1 ncl q1.1 q1.2.1 q1.2.2 knd nbs len txt)) (st1 := []) (As := []) (rest := []) E hw vc_X5_40 (c_X5_nextToken (cI := cI) (cZ := cZ) (cN := cN) (cC := cC) (h0 := h0) (h1 := h1) (h2 := h2) (k0 := k0) (k1 := k1)  (ncl := ncl) (tso := tso) (tst := tst) (ten := ten) (knd := knd) (nbs := nbs) (len := len) (txt := txt)  hq1) 0 5 rfl rfl rfl rfl rfl ⟨Nat.le_of_ble_eq_true rfl, Nat.le_of_ble_eq_true rfl⟩ ⟨Nat.le_refl _, Nat.le_refl _⟩ hl.1 rfl rfl (Nat.le_of_ble_eq_true rfl) dX5_readClause_1 (fun H locs hw => ?_)
  refine lv_aload_n hx hb dX5_readClause_4 rfl (lv_at hl 0 rfl) ?_
  obtain ⟨q2, hq2, hf⟩ := Option.bind_eq_some_iff.mp hf
  refine x_callVI (ws' := (wRdr cI cZ cN cC h0 h1 h2 k0 k1 ncl q1.1 q1.2.1 q1.2.2 knd nbs len txt)) (st1 := [.int q2]) (As := []) (rest := []) E hw vc_X5_50 (c_X5_kindOfToken (cI := cI) (cZ := cZ) (cN := cN) (cC := cC) (h0 := h0) (h1 := h1) (h2 := h2) (k0 := k0) (k1 := k1)  (ncl := ncl) (tso := q1.1) (tst := q1.2.1) (ten := q1.2.2) (knd := knd) (nbs := nbs) (len := len) (txt := txt)  hq2) 0 5 rfl rfl rfl rfl rfl ⟨Nat.le_of_ble_eq_true rfl, Nat.le_of_ble_eq_true rfl⟩ ⟨Nat.le_refl _, Nat.le_refl _⟩ hl.1 rfl rfl (Nat.le_of_ble_eq_true rfl) dX5_readClause_5 (fun H locs hw => ?_)
  refine lv_istore_n (lv' := [(2, .int q2), (0, .ref h0), (1, .int x1)]) hx hb dX5_readClause_8 rfl hl (by decide) rfl (fun ls hl => ?_)
  refine lv_iload_n hx hb dX5_readClause_9 rfl (lv_at hl 0 rfl) ?_
  refine lv_iconst (v := (-1)) hx hb dX5_readClause_10 (by decide) ?_
  refine lv_icmp_ne (tgt := 16) hx hb dX5_readClause_11 (by decide) (fun c3 => ?_) (fun c3 => ?_)
  · rw [if_neg c3] at hf
    refine lv_aload_n hx hb dX5_readClause_16 rfl (lv_at hl 1 rfl) ?_
    refine x_get E hw kin_X5 0 rfl rfl 1 (by decide) kF_X5_9 (v := .ref h1) rfl dX5_readClause_17 ?_
    refine lv_aload_n hx hb dX5_readClause_20 rfl (lv_at hl 1 rfl) ?_
    refine x_get E hw kin_X5 0 rfl rfl 3 (by decide) kF_X5_22 (v := .int ncl) rfl dX5_readClause_21 ?_
    refine lv_iload_n hx hb dX5_readClause_24 rfl (lv_at hl 0 rfl) ?_
    obtain ⟨g4, hf⟩ := xgd hf
    refine x_iast (ws' := (wRdr cI cZ cN cC h0 h1 h2 k0 k1 ncl q1.1 q1.2.1 q1.2.2 (upd knd (Int32.toNatClampNeg ncl) q2) nbs len txt)) E hw 1 0 rfl rfl (xin_vp g4) rfl dX5_readClause_25 (fun H locs hw => ?_)
    refine lv_iload_n hx hb dX5_readClause_26 rfl (lv_at hl 0 rfl) ?_
    refine x_callS (isC := []) (ws' := (wRdr cI cZ cN cC h0 h1 h2 k0 k1 ncl q1.1 q1.2.1 q1.2.2 (upd knd (Int32.toNatClampNeg ncl) q2) nbs len txt)) (st1 := [.int (f_X5_numbersOf q2)]) (As := [.int q2]) (rest := []) E hw vc_X5_54 (c_X5_numbersOf (cI := cI) (cZ := cZ) (cN := cN) (cC := cC)    (x0 := q2) rfl) rfl rfl rfl rfl rfl rfl ⟨Nat.le_of_ble_eq_true rfl, Nat.le_of_ble_eq_true rfl⟩ ⟨Nat.le_refl _, Nat.le_refl _⟩ hl.1 rfl rfl (Nat.le_of_ble_eq_true rfl) dX5_readClause_27 (fun H locs hw => ?_)
    refine lv_istore_n (lv' := [(3, .int (f_X5_numbersOf q2)), (2, .int q2), (0, .ref h0), (1, .int x1)]) hx hb dX5_readClause_30 rfl hl (by decide) rfl (fun ls hl => ?_)
    refine lv_iconst (v := 0) hx hb dX5_readClause_31 (by decide) ?_
    refine lv_istore (lv' := [(4, .int 0), (3, .int (f_X5_numbersOf q2)), (2, .int q2), (0, .ref h0), (1, .int x1)]) hx hb dX5_readClause_32 hl (by decide) rfl (fun ls hl => ?_)
    exact b_X5_readClause_34 E N _ _ _ _ _ hf _ _ _ hw (lv_sub hl [3, 4, 2, 1, 0] rfl)
  · rw [if_pos c3] at hf
    refine lv_iconst (v := 0) hx hb dX5_readClause_14 (by decide) ?_
    have hf := Option.some.inj hf; subst hf
    exact x_zret E hw (xz_n (v := 0) (by decide)) dX5_readClause_15

def f_X5_readAll_56 (k12 : Int32 → Int32 → Int32 → Int32 → Int32 → (Nat → Int32) → (Nat → Int32) → Option (Int32 × Int32 × Int32 × Int32 × Int32 × (Nat → Int32) × (Nat → Int32))) (N : Nat) (x2 : Int32) (ncl : Int32) (ten : Int32) (knd : (Nat → Int32)) (nbs : (Nat → Int32)) (len : Int32) (txt : (Nat → Int32)) : Option (Int32 × Int32 × Int32 × Int32 × Int32 × (Nat → Int32) × (Nat → Int32)) :=
  (f_X5_nextToken N ten len txt).bind fun q7 =>
  if q7.1 = 0 then
   some ((-1), (ncl + 1), q7.1, q7.2.1, q7.2.2, knd, nbs)
  else
   (f_X5_isSemicolon q7.1 q7.2.1 txt).bind fun q9 =>
   if q9 = 0 then
    some (q7.2.1, (ncl + 1), q7.1, q7.2.1, q7.2.2, knd, nbs)
   else
    k12 x2 (ncl + 1) q7.1 q7.2.1 q7.2.2 knd nbs
set_option maxHeartbeats 4000000 in
set_option maxRecDepth 100000 in
theorem b_X5_readAll_56 {p : Program} {l : Launch} {e : Env} {s : State} {m : MethodId} {args : Array Value} {below : List Frame} {meth : Method} {c : Code} {D : va_G} {cI cZ cN cC : ClassId} {ws0 : va_W} {h0 h1 h2 k0 k1 : Nat} {x2 : Int32} {ncl : Int32} {tso : Int32} {tst : Int32} {ten : Int32} {knd : (Nat → Int32)} {nbs : (Nat → Int32)} {len : Int32} {txt : (Nat → Int32)} {N : Nat} {res : Int32 × Int32 × Int32 × Int32 × Int32 × (Nat → Int32) × (Nat → Int32)} (E : xE p s m args meth c cX5_readAll 3 (some .int) RX5 D (xtys cI cZ cN cC) (xA ws0)) {k12 : Int32 → Int32 → Int32 → Int32 → Int32 → (Nat → Int32) → (Nat → Int32) → Option (Int32 × Int32 × Int32 × Int32 × Int32 × (Nat → Int32) × (Nat → Int32))} (hk12 : ∀ (x2 : Int32) (ncl : Int32) (tso : Int32) (tst : Int32) (ten : Int32) (knd : (Nat → Int32)) (nbs : (Nat → Int32)), k12 x2 ncl tso tst ten knd nbs = some res → ∀ (H : Heap) (locs : List Loc) (ls : Array Slot), xw D (xA ws0) s.heap (wRdr cI cZ cN cC h0 h1 h2 k0 k1 ncl tso tst ten knd nbs len txt) H locs → lv_has ls 3 [(0, .ref h0), (2, .int x2)] → xG p l e 7 152 s m args below meth c D ws0 (wRdr cI cZ cN cC h0 h1 h2 k0 k1 res.2.1 res.2.2.1 res.2.2.2.1 res.2.2.2.2.1 res.2.2.2.2.2.1 res.2.2.2.2.2.2 len txt) (some (.int res.1)) H locs (F0 m 12 ls [])) : f_X5_readAll_56 k12 N x2 ncl ten knd nbs len txt = some res → ∀ (H : Heap) (locs : List Loc) (ls : Array Slot), xw D (xA ws0) s.heap (wRdr cI cZ cN cC h0 h1 h2 k0 k1 ncl tso tst ten knd nbs len txt) H locs → lv_has ls 3 [(0, .ref h0), (2, .int x2)] → xG p l e 7 152 s m args below meth c D ws0 (wRdr cI cZ cN cC h0 h1 h2 k0 k1 res.2.1 res.2.2.1 res.2.2.2.1 res.2.2.2.2.1 res.2.2.2.2.2.1 res.2.2.2.2.2.2 len txt) (some (.int res.1)) H locs (F0 m 56 ls []) := by
  obtain ⟨hx, hb, -⟩ := id E
  intro hf H locs ls hw hl
  unfold f_X5_readAll_56 at hf
  refine lv_aload_n hx hb dX5_readAll_56 rfl (lv_at hl 0 rfl) ?_
  refine lv_dup hx hb dX5_readAll_57 rfl ?_
  refine x_get E hw kin_X5 0 rfl rfl 3 (by decide) kF_X5_22 (v := .int ncl) rfl dX5_readAll_58 ?_
  refine lv_iconst (v := 1) hx hb dX5_readAll_61 (by decide) ?_
  refine lv_iadd hx hb dX5_readAll_62 ?_
  refine x_put (ws' := (wRdr cI cZ cN cC h0 h1 h2 k0 k1 (ncl + 1) tso tst ten knd nbs len txt)) E hw kin_X5 tyX5 tyX5_ok nmX5 0 rfl rfl 3 (by decide) kF_X5_22 rfl (v := .int (ncl + 1)) rfl rfl (Nat.le_of_ble_eq_true rfl) rfl dX5_readAll_63 (fun H locs hw => ?_)
  refine lv_aload_n hx hb dX5_readAll_66 rfl (lv_at hl 0 rfl) ?_
  obtain ⟨q7, hq7, hf⟩ := Option.bind_eq_some_iff.mp hf
  refine x_callVI (ws' := (wRdr cI cZ cN cC h0 h1 h2 k0 k1 (ncl + 1) q7.1 q7.2.1 q7.2.2 knd nbs len txt)) (st1 := []) (As := []) (rest := []) E hw vc_X5_40 (c_X5_nextToken (cI := cI) (cZ := cZ) (cN := cN) (cC := cC) (h0 := h0) (h1 := h1) (h2 := h2) (k0 := k0) (k1 := k1)  (ncl := (ncl + 1)) (tso := tso) (tst := tst) (ten := ten) (knd := knd) (nbs := nbs) (len := len) (txt := txt)  hq7) 0 5 rfl rfl rfl rfl rfl ⟨Nat.le_of_ble_eq_true rfl, Nat.le_of_ble_eq_true rfl⟩ ⟨Nat.le_refl _, Nat.le_refl _⟩ hl.1 rfl rfl (Nat.le_of_ble_eq_true rfl) dX5_readAll_67 (fun H locs hw => ?_)
  refine lv_aload_n hx hb dX5_readAll_70 rfl (lv_at hl 0 rfl) ?_
  refine x_get E hw kin_X5 0 rfl rfl 4 (by decide) kF_X5_43 (v := .int q7.1) rfl dX5_readAll_71 ?_
  refine lv_if_ne (tgt := 79) hx hb dX5_readAll_74 (by decide) (fun c8 => ?_) (fun c8 => ?_)
  · rw [if_neg c8] at hf
    refine lv_aload_n hx hb dX5_readAll_79 rfl (lv_at hl 0 rfl) ?_
    obtain ⟨q9, hq9, hf⟩ := Option.bind_eq_some_iff.mp hf
    refine x_callVI (ws' := (wRdr cI cZ cN cC h0 h1 h2 k0 k1 (ncl + 1) q7.1 q7.2.1 q7.2.2 knd nbs len txt)) (st1 := [.int q9]) (As := []) (rest := []) E hw vc_X5_46 (c_X5_isSemicolon (cI := cI) (cZ := cZ) (cN := cN) (cC := cC) (h0 := h0) (h1 := h1) (h2 := h2) (k0 := k0) (k1 := k1)  (ncl := (ncl + 1)) (tso := q7.1) (tst := q7.2.1) (ten := q7.2.2) (knd := knd) (nbs := nbs) (len := len) (txt := txt)  hq9) 0 5 rfl rfl rfl rfl rfl ⟨Nat.le_of_ble_eq_true rfl, Nat.le_of_ble_eq_true rfl⟩ ⟨Nat.le_refl _, Nat.le_refl _⟩ hl.1 rfl rfl (Nat.le_of_ble_eq_true rfl) dX5_readAll_80 (fun H locs hw => ?_)
    refine lv_if_ne (tgt := 12) hx hb dX5_readAll_83 (by decide) (fun c10 => ?_) (fun c10 => ?_)
    · rw [if_neg c10] at hf
      exact hk12 _ _ _ _ _ _ _ hf _ _ _ hw (lv_sub hl [0, 1] rfl)
    · rw [if_pos c10] at hf
      refine lv_aload_n hx hb dX5_readAll_86 rfl (lv_at hl 0 rfl) ?_
      refine x_get E hw kin_X5 0 rfl rfl 5 (by decide) kF_X5_33 (v := .int q7.2.1) rfl dX5_readAll_87 ?_
      have hf := Option.some.inj hf; subst hf
      exact x_iret E hw dX5_readAll_90
  · rw [if_pos c8] at hf
    refine lv_iconst (v := (-1)) hx hb dX5_readAll_77 (by decide) ?_
    have hf := Option.some.inj hf; subst hf
    exact x_iret E hw dX5_readAll_78
def f_X5_readAll_12 (N : Nat) (len : Int32) (txt : (Nat → Int32)) : Nat → Int32 → Int32 → Int32 → Int32 → Int32 → (Nat → Int32) → (Nat → Int32) → Option (Int32 × Int32 × Int32 × Int32 × Int32 × (Nat → Int32) × (Nat → Int32))
  | 0, _, _, _, _, _, _, _ => none
  | n + 1, x2, ncl, tso, tst, ten, knd, nbs =>
    if 24 ≤ ncl then
     some (tst, ncl, tso, tst, ten, knd, nbs)
    else
     (f_X5_readClause N x2 ncl ten knd nbs len txt).bind fun q2 =>
     if q2.1 = 0 then
      some (q2.2.2.1, ncl, q2.2.1, q2.2.2.1, q2.2.2.2.1, q2.2.2.2.2.1, q2.2.2.2.2.2)
     else
      if xin ncl 24 then
      if (q2.2.2.2.2.1 (Int32.toNatClampNeg ncl)) = 0 then
       (f_X5_numberOf ncl 0 q2.2.2.2.2.2).bind fun q6 =>
       f_X5_readAll_56 (fun x2 ncl tso tst ten knd nbs => f_X5_readAll_12 N len txt n x2 ncl tso tst ten knd nbs) N q6 ncl q2.2.2.2.1 q2.2.2.2.2.1 q2.2.2.2.2.2 len txt
      else
       f_X5_readAll_56 (fun x2 ncl tso tst ten knd nbs => f_X5_readAll_12 N len txt n x2 ncl tso tst ten knd nbs) N x2 ncl q2.2.2.2.1 q2.2.2.2.2.1 q2.2.2.2.2.2 len txt
      else none
set_option maxHeartbeats 4000000 in
set_option maxRecDepth 100000 in
theorem b_X5_readAll_12 {p : Program} {l : Launch} {e : Env} {s : State} {m : MethodId} {args : Array Value} {below : List Frame} {meth : Method} {c : Code} {D : va_G} {cI cZ cN cC : ClassId} {ws0 : va_W} {h0 h1 h2 k0 k1 : Nat} {len : Int32} {txt : (Nat → Int32)} {N : Nat} {res : Int32 × Int32 × Int32 × Int32 × Int32 × (Nat → Int32) × (Nat → Int32)} (E : xE p s m args meth c cX5_readAll 3 (some .int) RX5 D (xtys cI cZ cN cC) (xA ws0)) : ∀ (n : Nat) (x2 : Int32) (ncl : Int32) (tso : Int32) (tst : Int32) (ten : Int32) (knd : (Nat → Int32)) (nbs : (Nat → Int32)), f_X5_readAll_12 N len txt n x2 ncl tso tst ten knd nbs = some res → ∀ (H : Heap) (locs : List Loc) (ls : Array Slot), xw D (xA ws0) s.heap (wRdr cI cZ cN cC h0 h1 h2 k0 k1 ncl tso tst ten knd nbs len txt) H locs → lv_has ls 3 [(0, .ref h0), (2, .int x2)] → xG p l e 7 152 s m args below meth c D ws0 (wRdr cI cZ cN cC h0 h1 h2 k0 k1 res.2.1 res.2.2.1 res.2.2.2.1 res.2.2.2.2.1 res.2.2.2.2.2.1 res.2.2.2.2.2.2 len txt) (some (.int res.1)) H locs (F0 m 12 ls []) := by
  obtain ⟨hx, hb, -⟩ := id E
  intro n
  induction n with
  | zero =>
    intro _ _ _ _ _ _ _ hf
    rw [f_X5_readAll_12] at hf; cases hf
  | succ n ih =>
    intro x2 ncl tso tst ten knd nbs hf H locs ls hw hl
    rw [f_X5_readAll_12] at hf
    refine lv_aload_n hx hb dX5_readAll_12 rfl (lv_at hl 0 rfl) ?_
    refine x_get E hw kin_X5 0 rfl rfl 3 (by decide) kF_X5_22 (v := .int ncl) rfl dX5_readAll_13 ?_
    refine lv_bipush (v := 24) hx hb dX5_readAll_16 (by decide) ?_
    refine lv_icmp_ge (tgt := 91) hx hb dX5_readAll_18 (by decide) (fun c1 => ?_) (fun c1 => ?_)
    · rw [if_pos c1] at hf
      refine lv_aload_n hx hb dX5_readAll_91 rfl (lv_at hl 0 rfl) ?_
      refine x_get E hw kin_X5 0 rfl rfl 5 (by decide) kF_X5_33 (v := .int tst) rfl dX5_readAll_92 ?_
      have hf := Option.some.inj hf; subst hf
      exact x_iret E hw dX5_readAll_95
    · rw [if_neg c1] at hf
      refine lv_aload_n hx hb dX5_readAll_21 rfl (lv_at hl 0 rfl) ?_
      refine lv_iload_n hx hb dX5_readAll_22 rfl (lv_at hl 1 rfl) ?_
      obtain ⟨q2, hq2, hf⟩ := Option.bind_eq_some_iff.mp hf
      refine x_callVI (ws' := (wRdr cI cZ cN cC h0 h1 h2 k0 k1 ncl q2.2.1 q2.2.2.1 q2.2.2.2.1 q2.2.2.2.2.1 q2.2.2.2.2.2 len txt)) (st1 := [.int q2.1]) (As := [.int x2]) (rest := []) E hw vc_X5_29 (c_X5_readClause (cI := cI) (cZ := cZ) (cN := cN) (cC := cC) (h0 := h0) (h1 := h1) (h2 := h2) (k0 := k0) (k1 := k1)  (ncl := ncl) (tso := tso) (tst := tst) (ten := ten) (knd := knd) (nbs := nbs) (len := len) (txt := txt) (x1 := x2) hq2) 0 5 rfl rfl rfl rfl rfl ⟨Nat.le_of_ble_eq_true rfl, Nat.le_of_ble_eq_true rfl⟩ ⟨Nat.le_refl _, Nat.le_refl _⟩ hl.1 rfl rfl (Nat.le_of_ble_eq_true rfl) dX5_readAll_23 (fun H locs hw => ?_)
      refine lv_if_ne (tgt := 34) hx hb dX5_readAll_26 (by decide) (fun c3 => ?_) (fun c3 => ?_)
      · rw [if_neg c3] at hf
        refine lv_aload_n hx hb dX5_readAll_34 rfl (lv_at hl 0 rfl) ?_
        refine x_get E hw kin_X5 0 rfl rfl 1 (by decide) kF_X5_9 (v := .ref h1) rfl dX5_readAll_35 ?_
        refine lv_aload_n hx hb dX5_readAll_38 rfl (lv_at hl 0 rfl) ?_
        refine x_get E hw kin_X5 0 rfl rfl 3 (by decide) kF_X5_22 (v := .int ncl) rfl dX5_readAll_39 ?_
        obtain ⟨g4, hf⟩ := xgd hf
        refine x_iald E hw 1 0 rfl rfl (xin_vp g4) dX5_readAll_42 ?_
        refine lv_if_ne (tgt := 56) hx hb dX5_readAll_43 (by decide) (fun c5 => ?_) (fun c5 => ?_)
        · rw [if_neg c5] at hf
          exact b_X5_readAll_56 E ih  hf _ _ _ hw (lv_sub hl [0, 1] rfl)
        · rw [if_pos c5] at hf
          refine lv_aload_n hx hb dX5_readAll_46 rfl (lv_at hl 0 rfl) ?_
          refine lv_aload_n hx hb dX5_readAll_47 rfl (lv_at hl 0 rfl) ?_
          refine x_get E hw kin_X5 0 rfl rfl 3 (by decide) kF_X5_22 (v := .int ncl) rfl dX5_readAll_48 ?_
          refine lv_iconst (v := 0) hx hb dX5_readAll_51 (by decide) ?_
          obtain ⟨q6, hq6, hf⟩ := Option.bind_eq_some_iff.mp hf
          refine x_callVI (ws' := (wRdr cI cZ cN cC h0 h1 h2 k0 k1 ncl q2.2.1 q2.2.2.1 q2.2.2.2.1 q2.2.2.2.2.1 q2.2.2.2.2.2 len txt)) (st1 := [.int q6]) (As := [.int ncl, .int 0]) (rest := []) E hw vc_X5_36 (c_X5_numberOf (cI := cI) (cZ := cZ) (cN := cN) (cC := cC) (h0 := h0) (h1 := h1) (h2 := h2) (k0 := k0) (k1 := k1)  (ncl := ncl) (tso := q2.2.1) (tst := q2.2.2.1) (ten := q2.2.2.2.1) (knd := q2.2.2.2.2.1) (nbs := q2.2.2.2.2.2) (len := len) (txt := txt) (x1 := ncl) (x2 := 0) hq6) 0 5 rfl rfl rfl rfl rfl ⟨Nat.le_of_ble_eq_true rfl, Nat.le_of_ble_eq_true rfl⟩ ⟨Nat.le_refl _, Nat.le_refl _⟩ hl.1 rfl rfl (Nat.le_of_ble_eq_true rfl) dX5_readAll_52 (fun H locs hw => ?_)
          refine lv_istore_n (lv' := [(2, .int q6), (0, .ref h0)]) hx hb dX5_readAll_55 rfl hl (by decide) rfl (fun ls hl => ?_)
          exact b_X5_readAll_56 E ih  hf _ _ _ hw (lv_sub hl [1, 0] rfl)
      · rw [if_pos c3] at hf
        refine lv_aload_n hx hb dX5_readAll_29 rfl (lv_at hl 0 rfl) ?_
        refine x_get E hw kin_X5 0 rfl rfl 5 (by decide) kF_X5_33 (v := .int q2.2.2.1) rfl dX5_readAll_30 ?_
        have hf := Option.some.inj hf; subst hf
        exact x_iret E hw dX5_readAll_33
def f_X5_readAll (N : Nat) (x1 : Int32) (tso : Int32) (tst : Int32) (knd : (Nat → Int32)) (nbs : (Nat → Int32)) (len : Int32) (txt : (Nat → Int32)) : Option (Int32 × Int32 × Int32 × Int32 × Int32 × (Nat → Int32) × (Nat → Int32)) :=
  f_X5_readAll_12 N len txt N x1 0 tso tst 0 knd nbs
set_option maxHeartbeats 4000000 in
set_option maxRecDepth 100000 in
theorem c_X5_readAll {l : Launch} {D : va_G} {cI cZ cN cC : ClassId} {h0 h1 h2 k0 k1 : Nat} {ncl : Int32} {tso : Int32} {tst : Int32} {ten : Int32} {knd : (Nat → Int32)} {nbs : (Nat → Int32)} {len : Int32} {txt : (Nat → Int32)} {x1 : Int32} {N : Nat} {res : Int32 × Int32 × Int32 × Int32 × Int32 × (Nat → Int32) × (Nat → Int32)} (hf : f_X5_readAll N x1 tso tst knd nbs len txt = some res) : xMet l D (xtys cI cZ cN cC) yX5_readAll cX5_readAll 3 (some .int) 7 152 [.ref h0, .int x1] (wRdr cI cZ cN cC h0 h1 h2 k0 k1 ncl tso tst ten knd nbs len txt) (wRdr cI cZ cN cC h0 h1 h2 k0 k1 res.2.1 res.2.2.1 res.2.2.2.1 res.2.2.2.2.1 res.2.2.2.2.2.1 res.2.2.2.2.2.2 len txt) (some (.int res.1)) := by
  refine x_enter (by decide) (Nat.le_of_ble_eq_true rfl) ?_
  intro p e s m args below meth c E ls hl hw
  have E : xE p s m args meth c cX5_readAll 3 (some .int) RX5 D (xtys cI cZ cN cC) (xA (wRdr cI cZ cN cC h0 h1 h2 k0 k1 ncl tso tst ten knd nbs len txt)) := E
  obtain ⟨hx, hb, -⟩ := id E
  have hl : lv_has ls 3 [(0, .ref h0), (1, .int x1)] := hl
  unfold f_X5_readAll at hf
  refine lv_iload_n hx hb dX5_readAll_0 rfl (lv_at hl 1 rfl) ?_
  refine lv_istore_n (lv' := [(2, .int x1), (0, .ref h0), (1, .int x1)]) hx hb dX5_readAll_1 rfl hl (by decide) rfl (fun ls hl => ?_)
  refine lv_aload_n hx hb dX5_readAll_2 rfl (lv_at hl 1 rfl) ?_
  refine lv_iconst (v := 0) hx hb dX5_readAll_3 (by decide) ?_
  refine x_put (ws' := (wRdr cI cZ cN cC h0 h1 h2 k0 k1 0 tso tst ten knd nbs len txt)) E hw kin_X5 tyX5 tyX5_ok nmX5 0 rfl rfl 3 (by decide) kF_X5_22 rfl (v := .int 0) rfl rfl (Nat.le_of_ble_eq_true rfl) rfl dX5_readAll_4 (fun H locs hw => ?_)
  refine lv_aload_n hx hb dX5_readAll_7 rfl (lv_at hl 1 rfl) ?_
  refine lv_iconst (v := 0) hx hb dX5_readAll_8 (by decide) ?_
  refine x_put (ws' := (wRdr cI cZ cN cC h0 h1 h2 k0 k1 0 tso tst 0 knd nbs len txt)) E hw kin_X5 tyX5 tyX5_ok nmX5 0 rfl rfl 6 (by decide) kF_X5_26 rfl (v := .int 0) rfl rfl (Nat.le_of_ble_eq_true rfl) rfl dX5_readAll_9 (fun H locs hw => ?_)
  exact b_X5_readAll_12 E N _ _ _ _ _ _ _ hf _ _ _ hw (lv_sub hl [1, 0] rfl)

