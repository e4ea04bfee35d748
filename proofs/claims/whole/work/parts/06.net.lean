def f_X3_allPoints (pts : Int32) : (Int32) :=
  ((1 <<< (pts &&& 31)) - 1)
set_option maxHeartbeats 4000000 in
set_option maxRecDepth 100000 in
theorem c_X3_allPoints {l : Launch} {D : va_G} {cI cZ cN cC : ClassId} {h0 h1 h2 h3 : Nat} {pts : Int32} {wrk : Int32} {out : (Nat → Int32)} {mem : (Nat → Int32)} {abv : (Nat → Int32)}  {res : Int32} (hf : f_X3_allPoints pts = res) : xMet l D (xtys cI cZ cN cC) yX3_allPoints cX3_allPoints 1 (some .int) 0 0 [.ref h0] (wNet cI cZ cN cC h0 h1 h2 h3 pts wrk out mem abv) (wNet cI cZ cN cC h0 h1 h2 h3 pts wrk out mem abv) (some (.int res)) := by
  refine x_enter (by decide) (Nat.le_of_ble_eq_true rfl) ?_
  intro p e s m args below meth c E ls hl hw
  have E : xE p s m args meth c cX3_allPoints 1 (some .int) RX3 D (xtys cI cZ cN cC) (xA (wNet cI cZ cN cC h0 h1 h2 h3 pts wrk out mem abv)) := E
  obtain ⟨hx, hb, -⟩ := id E
  have hl : lv_has ls 1 [(0, .ref h0)] := hl
  unfold f_X3_allPoints at hf
  refine lv_iconst (v := 1) hx hb dX3_allPoints_0 (by decide) ?_
  refine lv_aload_n hx hb dX3_allPoints_1 rfl (lv_at hl 0 rfl) ?_
  refine x_get E hw kin_X3 0 rfl rfl 0 (by decide) kF_X3_25 (v := .int pts) rfl dX3_allPoints_2 ?_
  refine lv_ishl hx hb dX3_allPoints_5 ?_
  refine lv_iconst (v := 1) hx hb dX3_allPoints_6 (by decide) ?_
  refine lv_isub hx hb dX3_allPoints_7 ?_
  subst hf
  exact x_iret E hw dX3_allPoints_8

def f_X3_hasArc (x1 : Int32) (x2 : Int32) (out : (Nat → Int32)) : Option (Int32) :=
  if xin x1 10 then
  some (f_X6_has (out (Int32.toNatClampNeg x1)) x2)
  else none
set_option maxHeartbeats 4000000 in
set_option maxRecDepth 100000 in
theorem c_X3_hasArc {l : Launch} {D : va_G} {cI cZ cN cC : ClassId} {h0 h1 h2 h3 : Nat} {pts : Int32} {wrk : Int32} {out : (Nat → Int32)} {mem : (Nat → Int32)} {abv : (Nat → Int32)} {x1 : Int32} {x2 : Int32} {res : Int32} (hf : f_X3_hasArc x1 x2 out = some res) : xMet l D (xtys cI cZ cN cC) yX3_hasArc cX3_hasArc 3 (some .boolean) 1 21 [.ref h0, .int x1, .int x2] (wNet cI cZ cN cC h0 h1 h2 h3 pts wrk out mem abv) (wNet cI cZ cN cC h0 h1 h2 h3 pts wrk out mem abv) (some (.int res)) := by
  refine x_enter (by decide) (Nat.le_of_ble_eq_true rfl) ?_
  intro p e s m args below meth c E ls hl hw
  have E : xE p s m args meth c cX3_hasArc 3 (some .boolean) RX3 D (xtys cI cZ cN cC) (xA (wNet cI cZ cN cC h0 h1 h2 h3 pts wrk out mem abv)) := E
  obtain ⟨hx, hb, -⟩ := id E
  have hl : lv_has ls 3 [(0, .ref h0), (1, .int x1), (2, .int x2)] := hl
  unfold f_X3_hasArc at hf
  refine lv_aload_n hx hb dX3_hasArc_0 rfl (lv_at hl 0 rfl) ?_
  refine x_get E hw kin_X3 0 rfl rfl 2 (by decide) kF_X3_9 (v := .ref h1) rfl dX3_hasArc_1 ?_
  refine lv_iload_n hx hb dX3_hasArc_4 rfl (lv_at hl 1 rfl) ?_
  obtain ⟨g1, hf⟩ := xgd hf
  refine x_iald E hw 1 0 rfl rfl (xin_vp g1) dX3_hasArc_5 ?_
  refine lv_iload_n hx hb dX3_hasArc_6 rfl (lv_at hl 2 rfl) ?_
  refine x_callN (isC := []) (ws' := (wNet cI cZ cN cC h0 h1 h2 h3 pts wrk out mem abv)) (st1 := [.int (f_X6_has (out (Int32.toNatClampNeg x1)) x2)]) (As := [.int (out (Int32.toNatClampNeg x1)), .int x2]) (rest := []) E hw vc_X3_44 (c_X6_has (cI := cI) (cZ := cZ) (cN := cN) (cC := cC)    (x0 := (out (Int32.toNatClampNeg x1))) (x1 := x2) rfl) rfl rfl rfl rfl rfl rfl ⟨Nat.le_of_ble_eq_true rfl, Nat.le_of_ble_eq_true rfl⟩ ⟨Nat.le_refl _, Nat.le_refl _⟩ hl.1 rfl rfl (Nat.le_of_ble_eq_true rfl) dX3_hasArc_7 (fun H locs hw => ?_)
  have hf := Option.some.inj hf; subst hf
  exact x_zret E hw (xz_n z_X6_has) dX3_hasArc_10

def f_X3_arcsBetween_5 (x1 : Int32) (x2 : Int32) (pts : Int32) (out : (Nat → Int32)) : Nat → Int32 → Int32 → Option (Int32)
  | 0, _, _ => none
  | n + 1, x3, x4 =>
    if pts ≤ x4 then
     some x3
    else
     if (f_X6_has x1 x4) = 0 then
      f_X3_arcsBetween_5 x1 x2 pts out n x3 (x4 + 1)
     else
      if xin x4 10 then
      f_X3_arcsBetween_5 x1 x2 pts out n (x3 + (f_J6_bitCount_0f7a4 ((out (Int32.toNatClampNeg x4)) &&& x2))) (x4 + 1)
      else none
set_option maxHeartbeats 4000000 in
set_option maxRecDepth 100000 in
theorem b_X3_arcsBetween_5 {p : Program} {l : Launch} {e : Env} {s : State} {m : MethodId} {args : Array Value} {below : List Frame} {meth : Method} {c : Code} {D : va_G} {cI cZ cN cC : ClassId} {ws0 : va_W} {h0 h1 h2 h3 : Nat} {x1 : Int32} {x2 : Int32} {pts : Int32} {wrk : Int32} {out : (Nat → Int32)} {mem : (Nat → Int32)} {abv : (Nat → Int32)} {res : Int32} (E : xE p s m args meth c cX3_arcsBetween 5 (some .int) RX3 D (xtys cI cZ cN cC) (xA ws0)) : ∀ (n : Nat) (x3 : Int32) (x4 : Int32), f_X3_arcsBetween_5 x1 x2 pts out n x3 x4 = some res → ∀ (H : Heap) (locs : List Loc) (ls : Array Slot), xw D (xA ws0) s.heap (wNet cI cZ cN cC h0 h1 h2 h3 pts wrk out mem abv) H locs → lv_has ls 5 [(0, .ref h0), (1, .int x1), (2, .int x2), (3, .int x3), (4, .int x4)] → xG p l e 1 21 s m args below meth c D ws0 (wNet cI cZ cN cC h0 h1 h2 h3 pts wrk out mem abv) (some (.int res)) H locs (F0 m 5 ls []) := by
  obtain ⟨hx, hb, -⟩ := id E
  intro n
  induction n with
  | zero =>
    intro _ _ hf
    rw [f_X3_arcsBetween_5] at hf; cases hf
  | succ n ih =>
    intro x3 x4 hf H locs ls hw hl
    rw [f_X3_arcsBetween_5] at hf
    refine lv_iload hx hb dX3_arcsBetween_5 (lv_at hl 4 rfl) ?_
    refine lv_aload_n hx hb dX3_arcsBetween_7 rfl (lv_at hl 0 rfl) ?_
    refine x_get E hw kin_X3 0 rfl rfl 0 (by decide) kF_X3_25 (v := .int pts) rfl dX3_arcsBetween_8 ?_
    refine lv_icmp_ge (tgt := 44) hx hb dX3_arcsBetween_11 (by decide) (fun c1 => ?_) (fun c1 => ?_)
    · rw [if_pos c1] at hf
      refine lv_iload_n hx hb dX3_arcsBetween_44 rfl (lv_at hl 3 rfl) ?_
      have hf := Option.some.inj hf; subst hf
      exact x_iret E hw dX3_arcsBetween_45
    · rw [if_neg c1] at hf
      refine lv_iload_n hx hb dX3_arcsBetween_14 rfl (lv_at hl 1 rfl) ?_
      refine lv_iload hx hb dX3_arcsBetween_15 (lv_at hl 4 rfl) ?_
      refine x_callN (isC := []) (ws' := (wNet cI cZ cN cC h0 h1 h2 h3 pts wrk out mem abv)) (st1 := [.int (f_X6_has x1 x4)]) (As := [.int x1, .int x4]) (rest := []) E hw vc_X3_44 (c_X6_has (cI := cI) (cZ := cZ) (cN := cN) (cC := cC)    (x0 := x1) (x1 := x4) rfl) rfl rfl rfl rfl rfl rfl ⟨Nat.le_of_ble_eq_true rfl, Nat.le_of_ble_eq_true rfl⟩ ⟨Nat.le_refl _, Nat.le_refl _⟩ hl.1 rfl rfl (Nat.le_of_ble_eq_true rfl) dX3_arcsBetween_17 (fun H locs hw => ?_)
      refine lv_if_eq (tgt := 38) hx hb dX3_arcsBetween_20 (by decide) (fun c2 => ?_) (fun c2 => ?_)
      · rw [if_pos c2] at hf
        refine lv_iinc (v := (x4 + 1)) (lv' := [(4, .int (x4 + 1)), (0, .ref h0), (1, .int x1), (2, .int x2), (3, .int x3)]) hx hb dX3_arcsBetween_38 hl (k := 4) rfl rfl (by decide) rfl (fun ls hl => ?_)
        refine lv_goto (tgt := 5) hx hb dX3_arcsBetween_41 (by decide) ?_
        exact ih _ _ hf _ _ _ hw (lv_sub hl [1, 2, 3, 4, 0] rfl)
      · rw [if_neg c2] at hf
        refine lv_iload_n hx hb dX3_arcsBetween_23 rfl (lv_at hl 3 rfl) ?_
        refine lv_aload_n hx hb dX3_arcsBetween_24 rfl (lv_at hl 0 rfl) ?_
        refine x_get E hw kin_X3 0 rfl rfl 2 (by decide) kF_X3_9 (v := .ref h1) rfl dX3_arcsBetween_25 ?_
        refine lv_iload hx hb dX3_arcsBetween_28 (lv_at hl 4 rfl) ?_
        obtain ⟨g3, hf⟩ := xgd hf
        refine x_iald E hw 1 0 rfl rfl (xin_vp g3) dX3_arcsBetween_30 ?_
        refine lv_iload_n hx hb dX3_arcsBetween_31 rfl (lv_at hl 2 rfl) ?_
        refine lv_iand hx hb dX3_arcsBetween_32 ?_
        refine x_callS (isC := []) (ws' := (wNet cI cZ cN cC h0 h1 h2 h3 pts wrk out mem abv)) (st1 := [.int (f_J6_bitCount_0f7a4 ((out (Int32.toNatClampNeg x4)) &&& x2)), .int x3]) (As := [.int ((out (Int32.toNatClampNeg x4)) &&& x2)]) (rest := [.int x3]) E hw vc_X3_56 (c_J6_bitCount_0f7a4 (cI := cI) (cZ := cZ) (cN := cN) (cC := cC)    (x0 := ((out (Int32.toNatClampNeg x4)) &&& x2)) rfl) rfl rfl rfl rfl rfl rfl ⟨Nat.le_of_ble_eq_true rfl, Nat.le_of_ble_eq_true rfl⟩ ⟨Nat.le_refl _, Nat.le_refl _⟩ hl.1 rfl rfl (Nat.le_of_ble_eq_true rfl) dX3_arcsBetween_33 (fun H locs hw => ?_)
        refine lv_iadd hx hb dX3_arcsBetween_36 ?_
        refine lv_istore_n (lv' := [(3, .int (x3 + (f_J6_bitCount_0f7a4 ((out (Int32.toNatClampNeg x4)) &&& x2)))), (0, .ref h0), (1, .int x1), (2, .int x2), (4, .int x4)]) hx hb dX3_arcsBetween_37 rfl hl (by decide) rfl (fun ls hl => ?_)
        refine lv_iinc (v := (x4 + 1)) (lv' := [(4, .int (x4 + 1)), (3, .int (x3 + (f_J6_bitCount_0f7a4 ((out (Int32.toNatClampNeg x4)) &&& x2)))), (0, .ref h0), (1, .int x1), (2, .int x2)]) hx hb dX3_arcsBetween_38 hl (k := 4) rfl rfl (by decide) rfl (fun ls hl => ?_)
        refine lv_goto (tgt := 5) hx hb dX3_arcsBetween_41 (by decide) ?_
        exact ih _ _ hf _ _ _ hw (lv_sub hl [2, 3, 4, 1, 0] rfl)
def f_X3_arcsBetween (N : Nat) (x1 : Int32) (x2 : Int32) (pts : Int32) (out : (Nat → Int32)) : Option (Int32) :=
  f_X3_arcsBetween_5 x1 x2 pts out N 0 0
set_option maxHeartbeats 4000000 in
set_option maxRecDepth 100000 in
theorem c_X3_arcsBetween {l : Launch} {D : va_G} {cI cZ cN cC : ClassId} {h0 h1 h2 h3 : Nat} {pts : Int32} {wrk : Int32} {out : (Nat → Int32)} {mem : (Nat → Int32)} {abv : (Nat → Int32)} {x1 : Int32} {x2 : Int32} {N : Nat} {res : Int32} (hf : f_X3_arcsBetween N x1 x2 pts out = some res) : xMet l D (xtys cI cZ cN cC) yX3_arcsBetween cX3_arcsBetween 5 (some .int) 1 21 [.ref h0, .int x1, .int x2] (wNet cI cZ cN cC h0 h1 h2 h3 pts wrk out mem abv) (wNet cI cZ cN cC h0 h1 h2 h3 pts wrk out mem abv) (some (.int res)) := by
  refine x_enter (by decide) (Nat.le_of_ble_eq_true rfl) ?_
  intro p e s m args below meth c E ls hl hw
  have E : xE p s m args meth c cX3_arcsBetween 5 (some .int) RX3 D (xtys cI cZ cN cC) (xA (wNet cI cZ cN cC h0 h1 h2 h3 pts wrk out mem abv)) := E
  obtain ⟨hx, hb, -⟩ := id E
  have hl : lv_has ls 5 [(0, .ref h0), (1, .int x1), (2, .int x2)] := hl
  unfold f_X3_arcsBetween at hf
  refine lv_iconst (v := 0) hx hb dX3_arcsBetween_0 (by decide) ?_
  refine lv_istore_n (lv' := [(3, .int 0), (0, .ref h0), (1, .int x1), (2, .int x2)]) hx hb dX3_arcsBetween_1 rfl hl (by decide) rfl (fun ls hl => ?_)
  refine lv_iconst (v := 0) hx hb dX3_arcsBetween_2 (by decide) ?_
  refine lv_istore (lv' := [(4, .int 0), (3, .int 0), (0, .ref h0), (1, .int x1), (2, .int x2)]) hx hb dX3_arcsBetween_3 hl (by decide) rfl (fun ls hl => ?_)
  exact b_X3_arcsBetween_5 E N _ _ hf _ _ _ hw (lv_sub hl [2, 3, 4, 1, 0] rfl)

def f_X3_arcs (N : Nat) (pts : Int32) (out : (Nat → Int32)) : Option (Int32) :=
  (f_X3_arcsBetween N (f_X3_allPoints pts) (f_X3_allPoints pts) pts out).bind fun q1 =>
  some q1
set_option maxHeartbeats 4000000 in
set_option maxRecDepth 100000 in
theorem c_X3_arcs {l : Launch} {D : va_G} {cI cZ cN cC : ClassId} {h0 h1 h2 h3 : Nat} {pts : Int32} {wrk : Int32} {out : (Nat → Int32)} {mem : (Nat → Int32)} {abv : (Nat → Int32)}  {N : Nat} {res : Int32} (hf : f_X3_arcs N pts out = some res) : xMet l D (xtys cI cZ cN cC) yX3_arcs cX3_arcs 1 (some .int) 2 45 [.ref h0] (wNet cI cZ cN cC h0 h1 h2 h3 pts wrk out mem abv) (wNet cI cZ cN cC h0 h1 h2 h3 pts wrk out mem abv) (some (.int res)) := by
  refine x_enter (by decide) (Nat.le_of_ble_eq_true rfl) ?_
  intro p e s m args below meth c E ls hl hw
  have E : xE p s m args meth c cX3_arcs 1 (some .int) RX3 D (xtys cI cZ cN cC) (xA (wNet cI cZ cN cC h0 h1 h2 h3 pts wrk out mem abv)) := E
  obtain ⟨hx, hb, -⟩ := id E
  have hl : lv_has ls 1 [(0, .ref h0)] := hl
  unfold f_X3_arcs at hf
  refine lv_aload_n hx hb dX3_arcs_0 rfl (lv_at hl 0 rfl) ?_
  refine lv_aload_n hx hb dX3_arcs_1 rfl (lv_at hl 0 rfl) ?_
  refine x_callVI (ws' := (wNet cI cZ cN cC h0 h1 h2 h3 pts wrk out mem abv)) (st1 := [.int (f_X3_allPoints pts), .ref h0]) (As := []) (rest := [.ref h0]) E hw vc_X3_48 (c_X3_allPoints (cI := cI) (cZ := cZ) (cN := cN) (cC := cC) (h0 := h0) (h1 := h1) (h2 := h2) (h3 := h3)  (pts := pts) (wrk := wrk) (out := out) (mem := mem) (abv := abv)  rfl) 0 3 rfl rfl rfl rfl rfl ⟨Nat.le_of_ble_eq_true rfl, Nat.le_of_ble_eq_true rfl⟩ ⟨Nat.le_refl _, Nat.le_refl _⟩ hl.1 rfl rfl (Nat.le_of_ble_eq_true rfl) dX3_arcs_2 (fun H locs hw => ?_)
  refine lv_aload_n hx hb dX3_arcs_5 rfl (lv_at hl 0 rfl) ?_
  refine x_callVI (ws' := (wNet cI cZ cN cC h0 h1 h2 h3 pts wrk out mem abv)) (st1 := [.int (f_X3_allPoints pts), .int (f_X3_allPoints pts), .ref h0]) (As := []) (rest := [.int (f_X3_allPoints pts), .ref h0]) E hw vc_X3_48 (c_X3_allPoints (cI := cI) (cZ := cZ) (cN := cN) (cC := cC) (h0 := h0) (h1 := h1) (h2 := h2) (h3 := h3)  (pts := pts) (wrk := wrk) (out := out) (mem := mem) (abv := abv)  rfl) 0 3 rfl rfl rfl rfl rfl ⟨Nat.le_of_ble_eq_true rfl, Nat.le_of_ble_eq_true rfl⟩ ⟨Nat.le_refl _, Nat.le_refl _⟩ hl.1 rfl rfl (Nat.le_of_ble_eq_true rfl) dX3_arcs_6 (fun H locs hw => ?_)
  obtain ⟨q1, hq1, hf⟩ := Option.bind_eq_some_iff.mp hf
  refine x_callVI (ws' := (wNet cI cZ cN cC h0 h1 h2 h3 pts wrk out mem abv)) (st1 := [.int q1]) (As := [.int (f_X3_allPoints pts), .int (f_X3_allPoints pts)]) (rest := []) E hw vc_X3_52 (c_X3_arcsBetween (cI := cI) (cZ := cZ) (cN := cN) (cC := cC) (h0 := h0) (h1 := h1) (h2 := h2) (h3 := h3)  (pts := pts) (wrk := wrk) (out := out) (mem := mem) (abv := abv) (x1 := (f_X3_allPoints pts)) (x2 := (f_X3_allPoints pts)) hq1) 0 3 rfl rfl rfl rfl rfl ⟨Nat.le_of_ble_eq_true rfl, Nat.le_of_ble_eq_true rfl⟩ ⟨Nat.le_refl _, Nat.le_refl _⟩ hl.1 rfl rfl (Nat.le_of_ble_eq_true rfl) dX3_arcs_9 (fun H locs hw => ?_)
  have hf := Option.some.inj hf; subst hf
  exact x_iret E hw dX3_arcs_12

def f_X3_comesTo (x1 : Int32) (x2 : Int32) (mem : (Nat → Int32)) : Option (Int32) :=
  if xin x1 10 then
  some (f_X6_has (mem (Int32.toNatClampNeg x1)) x2)
  else none
set_option maxHeartbeats 4000000 in
set_option maxRecDepth 100000 in
theorem c_X3_comesTo {l : Launch} {D : va_G} {cI cZ cN cC : ClassId} {h0 h1 h2 h3 : Nat} {pts : Int32} {wrk : Int32} {out : (Nat → Int32)} {mem : (Nat → Int32)} {abv : (Nat → Int32)} {x1 : Int32} {x2 : Int32} {res : Int32} (hf : f_X3_comesTo x1 x2 mem = some res) : xMet l D (xtys cI cZ cN cC) yX3_comesTo cX3_comesTo 3 (some .boolean) 1 21 [.ref h0, .int x1, .int x2] (wNet cI cZ cN cC h0 h1 h2 h3 pts wrk out mem abv) (wNet cI cZ cN cC h0 h1 h2 h3 pts wrk out mem abv) (some (.int res)) := by
  refine x_enter (by decide) (Nat.le_of_ble_eq_true rfl) ?_
  intro p e s m args below meth c E ls hl hw
  have E : xE p s m args meth c cX3_comesTo 3 (some .boolean) RX3 D (xtys cI cZ cN cC) (xA (wNet cI cZ cN cC h0 h1 h2 h3 pts wrk out mem abv)) := E
  obtain ⟨hx, hb, -⟩ := id E
  have hl : lv_has ls 3 [(0, .ref h0), (1, .int x1), (2, .int x2)] := hl
  unfold f_X3_comesTo at hf
  refine lv_aload_n hx hb dX3_comesTo_0 rfl (lv_at hl 0 rfl) ?_
  refine x_get E hw kin_X3 0 rfl rfl 3 (by decide) kF_X3_15 (v := .ref h2) rfl dX3_comesTo_1 ?_
  refine lv_iload_n hx hb dX3_comesTo_4 rfl (lv_at hl 1 rfl) ?_
  obtain ⟨g1, hf⟩ := xgd hf
  refine x_iald E hw 2 0 rfl rfl (xin_vp g1) dX3_comesTo_5 ?_
  refine lv_iload_n hx hb dX3_comesTo_6 rfl (lv_at hl 2 rfl) ?_
  refine x_callN (isC := []) (ws' := (wNet cI cZ cN cC h0 h1 h2 h3 pts wrk out mem abv)) (st1 := [.int (f_X6_has (mem (Int32.toNatClampNeg x1)) x2)]) (As := [.int (mem (Int32.toNatClampNeg x1)), .int x2]) (rest := []) E hw vc_X3_44 (c_X6_has (cI := cI) (cZ := cZ) (cN := cN) (cC := cC)    (x0 := (mem (Int32.toNatClampNeg x1))) (x1 := x2) rfl) rfl rfl rfl rfl rfl rfl ⟨Nat.le_of_ble_eq_true rfl, Nat.le_of_ble_eq_true rfl⟩ ⟨Nat.le_refl _, Nat.le_refl _⟩ hl.1 rfl rfl (Nat.le_of_ble_eq_true rfl) dX3_comesTo_7 (fun H locs hw => ?_)
  have hf := Option.some.inj hf; subst hf
  exact x_zret E hw (xz_n z_X6_has) dX3_comesTo_10

def f_X3_pairs_4 (pts : Int32) (mem : (Nat → Int32)) : Nat → Int32 → Int32 → Option (Int32)
  | 0, _, _ => none
  | n + 1, x1, x2 =>
    if pts ≤ x2 then
     some x1
    else
     if xin x2 10 then
     f_X3_pairs_4 pts mem n (x1 + ((f_J6_bitCount_0f7a4 (mem (Int32.toNatClampNeg x2))) - 1)) (x2 + 1)
     else none
set_option maxHeartbeats 4000000 in
set_option maxRecDepth 100000 in
theorem b_X3_pairs_4 {p : Program} {l : Launch} {e : Env} {s : State} {m : MethodId} {args : Array Value} {below : List Frame} {meth : Method} {c : Code} {D : va_G} {cI cZ cN cC : ClassId} {ws0 : va_W} {h0 h1 h2 h3 : Nat} {pts : Int32} {wrk : Int32} {out : (Nat → Int32)} {mem : (Nat → Int32)} {abv : (Nat → Int32)} {res : Int32} (E : xE p s m args meth c cX3_pairs 3 (some .int) RX3 D (xtys cI cZ cN cC) (xA ws0)) : ∀ (n : Nat) (x1 : Int32) (x2 : Int32), f_X3_pairs_4 pts mem n x1 x2 = some res → ∀ (H : Heap) (locs : List Loc) (ls : Array Slot), xw D (xA ws0) s.heap (wNet cI cZ cN cC h0 h1 h2 h3 pts wrk out mem abv) H locs → lv_has ls 3 [(0, .ref h0), (1, .int x1), (2, .int x2)] → xG p l e 1 20 s m args below meth c D ws0 (wNet cI cZ cN cC h0 h1 h2 h3 pts wrk out mem abv) (some (.int res)) H locs (F0 m 4 ls []) := by
  obtain ⟨hx, hb, -⟩ := id E
  intro n
  induction n with
  | zero =>
    intro _ _ hf
    rw [f_X3_pairs_4] at hf; cases hf
  | succ n ih =>
    intro x1 x2 hf H locs ls hw hl
    rw [f_X3_pairs_4] at hf
    refine lv_iload_n hx hb dX3_pairs_4 rfl (lv_at hl 2 rfl) ?_
    refine lv_aload_n hx hb dX3_pairs_5 rfl (lv_at hl 0 rfl) ?_
    refine x_get E hw kin_X3 0 rfl rfl 0 (by decide) kF_X3_25 (v := .int pts) rfl dX3_pairs_6 ?_
    refine lv_icmp_ge (tgt := 32) hx hb dX3_pairs_9 (by decide) (fun c1 => ?_) (fun c1 => ?_)
    · rw [if_pos c1] at hf
      refine lv_iload_n hx hb dX3_pairs_32 rfl (lv_at hl 1 rfl) ?_
      have hf := Option.some.inj hf; subst hf
      exact x_iret E hw dX3_pairs_33
    · rw [if_neg c1] at hf
      refine lv_iload_n hx hb dX3_pairs_12 rfl (lv_at hl 1 rfl) ?_
      refine lv_aload_n hx hb dX3_pairs_13 rfl (lv_at hl 0 rfl) ?_
      refine x_get E hw kin_X3 0 rfl rfl 3 (by decide) kF_X3_15 (v := .ref h2) rfl dX3_pairs_14 ?_
      refine lv_iload_n hx hb dX3_pairs_17 rfl (lv_at hl 2 rfl) ?_
      obtain ⟨g2, hf⟩ := xgd hf
      refine x_iald E hw 2 0 rfl rfl (xin_vp g2) dX3_pairs_18 ?_
      refine x_callS (isC := []) (ws' := (wNet cI cZ cN cC h0 h1 h2 h3 pts wrk out mem abv)) (st1 := [.int (f_J6_bitCount_0f7a4 (mem (Int32.toNatClampNeg x2))), .int x1]) (As := [.int (mem (Int32.toNatClampNeg x2))]) (rest := [.int x1]) E hw vc_X3_56 (c_J6_bitCount_0f7a4 (cI := cI) (cZ := cZ) (cN := cN) (cC := cC)    (x0 := (mem (Int32.toNatClampNeg x2))) rfl) rfl rfl rfl rfl rfl rfl ⟨Nat.le_of_ble_eq_true rfl, Nat.le_of_ble_eq_true rfl⟩ ⟨Nat.le_refl _, Nat.le_refl _⟩ hl.1 rfl rfl (Nat.le_of_ble_eq_true rfl) dX3_pairs_19 (fun H locs hw => ?_)
      refine lv_iconst (v := 1) hx hb dX3_pairs_22 (by decide) ?_
      refine lv_isub hx hb dX3_pairs_23 ?_
      refine lv_iadd hx hb dX3_pairs_24 ?_
      refine lv_istore_n (lv' := [(1, .int (x1 + ((f_J6_bitCount_0f7a4 (mem (Int32.toNatClampNeg x2))) - 1))), (0, .ref h0), (2, .int x2)]) hx hb dX3_pairs_25 rfl hl (by decide) rfl (fun ls hl => ?_)
      refine lv_iinc (v := (x2 + 1)) (lv' := [(2, .int (x2 + 1)), (1, .int (x1 + ((f_J6_bitCount_0f7a4 (mem (Int32.toNatClampNeg x2))) - 1))), (0, .ref h0)]) hx hb dX3_pairs_26 hl (k := 2) rfl rfl (by decide) rfl (fun ls hl => ?_)
      refine lv_goto (tgt := 4) hx hb dX3_pairs_29 (by decide) ?_
      exact ih _ _ hf _ _ _ hw (lv_sub hl [2, 1, 0] rfl)
def f_X3_pairs (N : Nat) (pts : Int32) (mem : (Nat → Int32)) : Option (Int32) :=
  f_X3_pairs_4 pts mem N 0 0
set_option maxHeartbeats 4000000 in
set_option maxRecDepth 100000 in
theorem c_X3_pairs {l : Launch} {D : va_G} {cI cZ cN cC : ClassId} {h0 h1 h2 h3 : Nat} {pts : Int32} {wrk : Int32} {out : (Nat → Int32)} {mem : (Nat → Int32)} {abv : (Nat → Int32)}  {N : Nat} {res : Int32} (hf : f_X3_pairs N pts mem = some res) : xMet l D (xtys cI cZ cN cC) yX3_pairs cX3_pairs 3 (some .int) 1 20 [.ref h0] (wNet cI cZ cN cC h0 h1 h2 h3 pts wrk out mem abv) (wNet cI cZ cN cC h0 h1 h2 h3 pts wrk out mem abv) (some (.int res)) := by
  refine x_enter (by decide) (Nat.le_of_ble_eq_true rfl) ?_
  intro p e s m args below meth c E ls hl hw
  have E : xE p s m args meth c cX3_pairs 3 (some .int) RX3 D (xtys cI cZ cN cC) (xA (wNet cI cZ cN cC h0 h1 h2 h3 pts wrk out mem abv)) := E
  obtain ⟨hx, hb, -⟩ := id E
  have hl : lv_has ls 3 [(0, .ref h0)] := hl
  unfold f_X3_pairs at hf
  refine lv_iconst (v := 0) hx hb dX3_pairs_0 (by decide) ?_
  refine lv_istore_n (lv' := [(1, .int 0), (0, .ref h0)]) hx hb dX3_pairs_1 rfl hl (by decide) rfl (fun ls hl => ?_)
  refine lv_iconst (v := 0) hx hb dX3_pairs_2 (by decide) ?_
  refine lv_istore_n (lv' := [(2, .int 0), (1, .int 0), (0, .ref h0)]) hx hb dX3_pairs_3 rfl hl (by decide) rfl (fun ls hl => ?_)
  exact b_X3_pairs_4 E N _ _ hf _ _ _ hw (lv_sub hl [2, 1, 0] rfl)

def f_X3_aboveOf (x1 : Int32) (x2 : Int32) (abv : (Nat → Int32)) : Option (Int32) :=
  if xin ((x1 * 10) + x2) 100 then
  some (abv (Int32.toNatClampNeg ((x1 * 10) + x2)))
  else none
set_option maxHeartbeats 4000000 in
set_option maxRecDepth 100000 in
theorem c_X3_aboveOf {l : Launch} {D : va_G} {cI cZ cN cC : ClassId} {h0 h1 h2 h3 : Nat} {pts : Int32} {wrk : Int32} {out : (Nat → Int32)} {mem : (Nat → Int32)} {abv : (Nat → Int32)} {x1 : Int32} {x2 : Int32} {res : Int32} (hf : f_X3_aboveOf x1 x2 abv = some res) : xMet l D (xtys cI cZ cN cC) yX3_aboveOf cX3_aboveOf 3 (some .int) 0 0 [.ref h0, .int x1, .int x2] (wNet cI cZ cN cC h0 h1 h2 h3 pts wrk out mem abv) (wNet cI cZ cN cC h0 h1 h2 h3 pts wrk out mem abv) (some (.int res)) := by
  refine x_enter (by decide) (Nat.le_of_ble_eq_true rfl) ?_
  intro p e s m args below meth c E ls hl hw
  have E : xE p s m args meth c cX3_aboveOf 3 (some .int) RX3 D (xtys cI cZ cN cC) (xA (wNet cI cZ cN cC h0 h1 h2 h3 pts wrk out mem abv)) := E
  obtain ⟨hx, hb, -⟩ := id E
  have hl : lv_has ls 3 [(0, .ref h0), (1, .int x1), (2, .int x2)] := hl
  unfold f_X3_aboveOf at hf
  refine lv_aload_n hx hb dX3_aboveOf_0 rfl (lv_at hl 0 rfl) ?_
  refine x_get E hw kin_X3 0 rfl rfl 4 (by decide) kF_X3_18 (v := .ref h3) rfl dX3_aboveOf_1 ?_
  refine lv_iload_n hx hb dX3_aboveOf_4 rfl (lv_at hl 1 rfl) ?_
  refine lv_bipush (v := 10) hx hb dX3_aboveOf_5 (by decide) ?_
  refine lv_imul hx hb dX3_aboveOf_7 ?_
  refine lv_iload_n hx hb dX3_aboveOf_8 rfl (lv_at hl 2 rfl) ?_
  refine lv_iadd hx hb dX3_aboveOf_9 ?_
  obtain ⟨g1, hf⟩ := xgd hf
  refine x_iald E hw 3 0 rfl rfl (xin_vp g1) dX3_aboveOf_10 ?_
  have hf := Option.some.inj hf; subst hf
  exact x_iret E hw dX3_aboveOf_11

def f_X3_depthOf_5 (x1 : Int32) (abv : (Nat → Int32)) : Nat → Int32 → Int32 → Option (Int32)
  | 0, _, _ => none
  | n + 1, x3, x4 =>
    if x4 = x1 then
     some x3
    else
     if x4 = (-1) then
      some x3
     else
      if 10 ≤ x3 then
       some x3
      else
       (f_X3_aboveOf x1 x4 abv).bind fun q4 =>
       f_X3_depthOf_5 x1 abv n (x3 + 1) q4
set_option maxHeartbeats 4000000 in
set_option maxRecDepth 100000 in
theorem b_X3_depthOf_5 {p : Program} {l : Launch} {e : Env} {s : State} {m : MethodId} {args : Array Value} {below : List Frame} {meth : Method} {c : Code} {D : va_G} {cI cZ cN cC : ClassId} {ws0 : va_W} {h0 h1 h2 h3 : Nat} {x1 : Int32} {pts : Int32} {wrk : Int32} {out : (Nat → Int32)} {mem : (Nat → Int32)} {abv : (Nat → Int32)} {res : Int32} (E : xE p s m args meth c cX3_depthOf 5 (some .int) RX3 D (xtys cI cZ cN cC) (xA ws0)) : ∀ (n : Nat) (x3 : Int32) (x4 : Int32), f_X3_depthOf_5 x1 abv n x3 x4 = some res → ∀ (H : Heap) (locs : List Loc) (ls : Array Slot), xw D (xA ws0) s.heap (wNet cI cZ cN cC h0 h1 h2 h3 pts wrk out mem abv) H locs → lv_has ls 5 [(0, .ref h0), (1, .int x1), (3, .int x3), (4, .int x4)] → xG p l e 1 22 s m args below meth c D ws0 (wNet cI cZ cN cC h0 h1 h2 h3 pts wrk out mem abv) (some (.int res)) H locs (F0 m 5 ls []) := by
  obtain ⟨hx, hb, -⟩ := id E
  intro n
  induction n with
  | zero =>
    intro _ _ hf
    rw [f_X3_depthOf_5] at hf; cases hf
  | succ n ih =>
    intro x3 x4 hf H locs ls hw hl
    rw [f_X3_depthOf_5] at hf
    refine lv_iload hx hb dX3_depthOf_5 (lv_at hl 3 rfl) ?_
    refine lv_iload_n hx hb dX3_depthOf_7 rfl (lv_at hl 1 rfl) ?_
    refine lv_icmp_eq (tgt := 38) hx hb dX3_depthOf_8 (by decide) (fun c1 => ?_) (fun c1 => ?_)
    · rw [if_pos c1] at hf
      refine lv_iload_n hx hb dX3_depthOf_38 rfl (lv_at hl 2 rfl) ?_
      have hf := Option.some.inj hf; subst hf
      exact x_iret E hw dX3_depthOf_39
    · rw [if_neg c1] at hf
      refine lv_iload hx hb dX3_depthOf_11 (lv_at hl 3 rfl) ?_
      refine lv_iconst (v := (-1)) hx hb dX3_depthOf_13 (by decide) ?_
      refine lv_icmp_eq (tgt := 38) hx hb dX3_depthOf_14 (by decide) (fun c2 => ?_) (fun c2 => ?_)
      · rw [if_pos c2] at hf
        refine lv_iload_n hx hb dX3_depthOf_38 rfl (lv_at hl 2 rfl) ?_
        have hf := Option.some.inj hf; subst hf
        exact x_iret E hw dX3_depthOf_39
      · rw [if_neg c2] at hf
        refine lv_iload_n hx hb dX3_depthOf_17 rfl (lv_at hl 2 rfl) ?_
        refine lv_bipush (v := 10) hx hb dX3_depthOf_18 (by decide) ?_
        refine lv_icmp_ge (tgt := 38) hx hb dX3_depthOf_20 (by decide) (fun c3 => ?_) (fun c3 => ?_)
        · rw [if_pos c3] at hf
          refine lv_iload_n hx hb dX3_depthOf_38 rfl (lv_at hl 2 rfl) ?_
          have hf := Option.some.inj hf; subst hf
          exact x_iret E hw dX3_depthOf_39
        · rw [if_neg c3] at hf
          refine lv_aload_n hx hb dX3_depthOf_23 rfl (lv_at hl 0 rfl) ?_
          refine lv_iload_n hx hb dX3_depthOf_24 rfl (lv_at hl 1 rfl) ?_
          refine lv_iload hx hb dX3_depthOf_25 (lv_at hl 3 rfl) ?_
          obtain ⟨q4, hq4, hf⟩ := Option.bind_eq_some_iff.mp hf
          refine x_callVI (ws' := (wNet cI cZ cN cC h0 h1 h2 h3 pts wrk out mem abv)) (st1 := [.int q4]) (As := [.int x1, .int x4]) (rest := []) E hw vc_X3_62 (c_X3_aboveOf (cI := cI) (cZ := cZ) (cN := cN) (cC := cC) (h0 := h0) (h1 := h1) (h2 := h2) (h3 := h3)  (pts := pts) (wrk := wrk) (out := out) (mem := mem) (abv := abv) (x1 := x1) (x2 := x4) hq4) 0 3 rfl rfl rfl rfl rfl ⟨Nat.le_of_ble_eq_true rfl, Nat.le_of_ble_eq_true rfl⟩ ⟨Nat.le_refl _, Nat.le_refl _⟩ hl.1 rfl rfl (Nat.le_of_ble_eq_true rfl) dX3_depthOf_27 (fun H locs hw => ?_)
          refine lv_istore (lv' := [(4, .int q4), (0, .ref h0), (1, .int x1), (3, .int x3)]) hx hb dX3_depthOf_30 hl (by decide) rfl (fun ls hl => ?_)
          refine lv_iinc (v := (x3 + 1)) (lv' := [(3, .int (x3 + 1)), (4, .int q4), (0, .ref h0), (1, .int x1)]) hx hb dX3_depthOf_32 hl (k := 3) rfl rfl (by decide) rfl (fun ls hl => ?_)
          refine lv_goto (tgt := 5) hx hb dX3_depthOf_35 (by decide) ?_
          exact ih _ _ hf _ _ _ hw (lv_sub hl [2, 3, 0, 1] rfl)
def f_X3_depthOf (N : Nat) (x1 : Int32) (x2 : Int32) (abv : (Nat → Int32)) : Option (Int32) :=
  f_X3_depthOf_5 x1 abv N 0 x2
set_option maxHeartbeats 4000000 in
set_option maxRecDepth 100000 in
theorem c_X3_depthOf {l : Launch} {D : va_G} {cI cZ cN cC : ClassId} {h0 h1 h2 h3 : Nat} {pts : Int32} {wrk : Int32} {out : (Nat → Int32)} {mem : (Nat → Int32)} {abv : (Nat → Int32)} {x1 : Int32} {x2 : Int32} {N : Nat} {res : Int32} (hf : f_X3_depthOf N x1 x2 abv = some res) : xMet l D (xtys cI cZ cN cC) yX3_depthOf cX3_depthOf 5 (some .int) 1 22 [.ref h0, .int x1, .int x2] (wNet cI cZ cN cC h0 h1 h2 h3 pts wrk out mem abv) (wNet cI cZ cN cC h0 h1 h2 h3 pts wrk out mem abv) (some (.int res)) := by
  refine x_enter (by decide) (Nat.le_of_ble_eq_true rfl) ?_
  intro p e s m args below meth c E ls hl hw
  have E : xE p s m args meth c cX3_depthOf 5 (some .int) RX3 D (xtys cI cZ cN cC) (xA (wNet cI cZ cN cC h0 h1 h2 h3 pts wrk out mem abv)) := E
  obtain ⟨hx, hb, -⟩ := id E
  have hl : lv_has ls 5 [(0, .ref h0), (1, .int x1), (2, .int x2)] := hl
  unfold f_X3_depthOf at hf
  refine lv_iconst (v := 0) hx hb dX3_depthOf_0 (by decide) ?_
  refine lv_istore_n (lv' := [(3, .int 0), (0, .ref h0), (1, .int x1), (2, .int x2)]) hx hb dX3_depthOf_1 rfl hl (by decide) rfl (fun ls hl => ?_)
  refine lv_iload_n hx hb dX3_depthOf_2 rfl (lv_at hl 3 rfl) ?_
  refine lv_istore (lv' := [(4, .int x2), (3, .int 0), (0, .ref h0), (1, .int x1), (2, .int x2)]) hx hb dX3_depthOf_3 hl (by decide) rfl (fun ls hl => ?_)
  exact b_X3_depthOf_5 E N _ _ hf _ _ _ hw (lv_sub hl [2, 3, 1, 0] rfl)

def f_X3_climb_6 (x1 : Int32) (x3 : Int32) (abv : (Nat → Int32)) : Nat → Int32 → Int32 → Option (Int32)
  | 0, _, _ => none
  | n + 1, x4, x5 =>
    if x3 ≤ x5 then
     some x4
    else
     if x4 = (-1) then
      some x4
     else
      (f_X3_aboveOf x1 x4 abv).bind fun q3 =>
      f_X3_climb_6 x1 x3 abv n q3 (x5 + 1)
set_option maxHeartbeats 4000000 in
set_option maxRecDepth 100000 in
theorem b_X3_climb_6 {p : Program} {l : Launch} {e : Env} {s : State} {m : MethodId} {args : Array Value} {below : List Frame} {meth : Method} {c : Code} {D : va_G} {cI cZ cN cC : ClassId} {ws0 : va_W} {h0 h1 h2 h3 : Nat} {x1 : Int32} {x3 : Int32} {pts : Int32} {wrk : Int32} {out : (Nat → Int32)} {mem : (Nat → Int32)} {abv : (Nat → Int32)} {res : Int32} (E : xE p s m args meth c cX3_climb 6 (some .int) RX3 D (xtys cI cZ cN cC) (xA ws0)) : ∀ (n : Nat) (x4 : Int32) (x5 : Int32), f_X3_climb_6 x1 x3 abv n x4 x5 = some res → ∀ (H : Heap) (locs : List Loc) (ls : Array Slot), xw D (xA ws0) s.heap (wNet cI cZ cN cC h0 h1 h2 h3 pts wrk out mem abv) H locs → lv_has ls 6 [(0, .ref h0), (1, .int x1), (3, .int x3), (4, .int x4), (5, .int x5)] → xG p l e 1 22 s m args below meth c D ws0 (wNet cI cZ cN cC h0 h1 h2 h3 pts wrk out mem abv) (some (.int res)) H locs (F0 m 6 ls []) := by
  obtain ⟨hx, hb, -⟩ := id E
  intro n
  induction n with
  | zero =>
    intro _ _ hf
    rw [f_X3_climb_6] at hf; cases hf
  | succ n ih =>
    intro x4 x5 hf H locs ls hw hl
    rw [f_X3_climb_6] at hf
    refine lv_iload hx hb dX3_climb_6 (lv_at hl 4 rfl) ?_
    refine lv_iload_n hx hb dX3_climb_8 rfl (lv_at hl 2 rfl) ?_
    refine lv_icmp_ge (tgt := 33) hx hb dX3_climb_9 (by decide) (fun c1 => ?_) (fun c1 => ?_)
    · rw [if_pos c1] at hf
      refine lv_iload hx hb dX3_climb_33 (lv_at hl 3 rfl) ?_
      have hf := Option.some.inj hf; subst hf
      exact x_iret E hw dX3_climb_35
    · rw [if_neg c1] at hf
      refine lv_iload hx hb dX3_climb_12 (lv_at hl 3 rfl) ?_
      refine lv_iconst (v := (-1)) hx hb dX3_climb_14 (by decide) ?_
      refine lv_icmp_eq (tgt := 33) hx hb dX3_climb_15 (by decide) (fun c2 => ?_) (fun c2 => ?_)
      · rw [if_pos c2] at hf
        refine lv_iload hx hb dX3_climb_33 (lv_at hl 3 rfl) ?_
        have hf := Option.some.inj hf; subst hf
        exact x_iret E hw dX3_climb_35
      · rw [if_neg c2] at hf
        refine lv_aload_n hx hb dX3_climb_18 rfl (lv_at hl 0 rfl) ?_
        refine lv_iload_n hx hb dX3_climb_19 rfl (lv_at hl 1 rfl) ?_
        refine lv_iload hx hb dX3_climb_20 (lv_at hl 3 rfl) ?_
        obtain ⟨q3, hq3, hf⟩ := Option.bind_eq_some_iff.mp hf
        refine x_callVI (ws' := (wNet cI cZ cN cC h0 h1 h2 h3 pts wrk out mem abv)) (st1 := [.int q3]) (As := [.int x1, .int x4]) (rest := []) E hw vc_X3_62 (c_X3_aboveOf (cI := cI) (cZ := cZ) (cN := cN) (cC := cC) (h0 := h0) (h1 := h1) (h2 := h2) (h3 := h3)  (pts := pts) (wrk := wrk) (out := out) (mem := mem) (abv := abv) (x1 := x1) (x2 := x4) hq3) 0 3 rfl rfl rfl rfl rfl ⟨Nat.le_of_ble_eq_true rfl, Nat.le_of_ble_eq_true rfl⟩ ⟨Nat.le_refl _, Nat.le_refl _⟩ hl.1 rfl rfl (Nat.le_of_ble_eq_true rfl) dX3_climb_22 (fun H locs hw => ?_)
        refine lv_istore (lv' := [(4, .int q3), (0, .ref h0), (1, .int x1), (3, .int x3), (5, .int x5)]) hx hb dX3_climb_25 hl (by decide) rfl (fun ls hl => ?_)
        refine lv_iinc (v := (x5 + 1)) (lv' := [(5, .int (x5 + 1)), (4, .int q3), (0, .ref h0), (1, .int x1), (3, .int x3)]) hx hb dX3_climb_27 hl (k := 4) rfl rfl (by decide) rfl (fun ls hl => ?_)
        refine lv_goto (tgt := 6) hx hb dX3_climb_30 (by decide) ?_
        exact ih _ _ hf _ _ _ hw (lv_sub hl [2, 3, 4, 1, 0] rfl)
def f_X3_climb (N : Nat) (x1 : Int32) (x2 : Int32) (x3 : Int32) (abv : (Nat → Int32)) : Option (Int32) :=
  f_X3_climb_6 x1 x3 abv N x2 0
set_option maxHeartbeats 4000000 in
set_option maxRecDepth 100000 in
theorem c_X3_climb {l : Launch} {D : va_G} {cI cZ cN cC : ClassId} {h0 h1 h2 h3 : Nat} {pts : Int32} {wrk : Int32} {out : (Nat → Int32)} {mem : (Nat → Int32)} {abv : (Nat → Int32)} {x1 : Int32} {x2 : Int32} {x3 : Int32} {N : Nat} {res : Int32} (hf : f_X3_climb N x1 x2 x3 abv = some res) : xMet l D (xtys cI cZ cN cC) yX3_climb cX3_climb 6 (some .int) 1 22 [.ref h0, .int x1, .int x2, .int x3] (wNet cI cZ cN cC h0 h1 h2 h3 pts wrk out mem abv) (wNet cI cZ cN cC h0 h1 h2 h3 pts wrk out mem abv) (some (.int res)) := by
  refine x_enter (by decide) (Nat.le_of_ble_eq_true rfl) ?_
  intro p e s m args below meth c E ls hl hw
  have E : xE p s m args meth c cX3_climb 6 (some .int) RX3 D (xtys cI cZ cN cC) (xA (wNet cI cZ cN cC h0 h1 h2 h3 pts wrk out mem abv)) := E
  obtain ⟨hx, hb, -⟩ := id E
  have hl : lv_has ls 6 [(0, .ref h0), (1, .int x1), (2, .int x2), (3, .int x3)] := hl
  unfold f_X3_climb at hf
  refine lv_iload_n hx hb dX3_climb_0 rfl (lv_at hl 2 rfl) ?_
  refine lv_istore (lv' := [(4, .int x2), (0, .ref h0), (1, .int x1), (2, .int x2), (3, .int x3)]) hx hb dX3_climb_1 hl (by decide) rfl (fun ls hl => ?_)
  refine lv_iconst (v := 0) hx hb dX3_climb_3 (by decide) ?_
  refine lv_istore (lv' := [(5, .int 0), (4, .int x2), (0, .ref h0), (1, .int x1), (2, .int x2), (3, .int x3)]) hx hb dX3_climb_4 hl (by decide) rfl (fun ls hl => ?_)
  exact b_X3_climb_6 E N _ _ hf _ _ _ hw (lv_sub hl [2, 3, 5, 1, 0] rfl)

def f_X3_stoodOn_3 (x1 : Int32) (x2 : Int32) (x3 : Int32) (pts : Int32) (abv : (Nat → Int32)) : Nat → Int32 → Option (Int32)
  | 0, _ => none
  | n + 1, x4 =>
    if pts ≤ x4 then
     some 0
    else
     (f_X3_aboveOf x1 x4 abv).bind fun q2 =>
     if q2 = (-1) then
      f_X3_stoodOn_3 x1 x2 x3 pts abv n (x4 + 1)
     else
      if (f_X6_has x2 q2) = 0 then
       f_X3_stoodOn_3 x1 x2 x3 pts abv n (x4 + 1)
      else
       if (f_X6_has x3 x4) = 0 then
        f_X3_stoodOn_3 x1 x2 x3 pts abv n (x4 + 1)
       else
        some 1
set_option maxHeartbeats 4000000 in
set_option maxRecDepth 100000 in
theorem b_X3_stoodOn_3 {p : Program} {l : Launch} {e : Env} {s : State} {m : MethodId} {args : Array Value} {below : List Frame} {meth : Method} {c : Code} {D : va_G} {cI cZ cN cC : ClassId} {ws0 : va_W} {h0 h1 h2 h3 : Nat} {x1 : Int32} {x2 : Int32} {x3 : Int32} {pts : Int32} {wrk : Int32} {out : (Nat → Int32)} {mem : (Nat → Int32)} {abv : (Nat → Int32)} {res : Int32} (E : xE p s m args meth c cX3_stoodOn 6 (some .boolean) RX3 D (xtys cI cZ cN cC) (xA ws0)) : ∀ (n : Nat) (x4 : Int32), f_X3_stoodOn_3 x1 x2 x3 pts abv n x4 = some res → ∀ (H : Heap) (locs : List Loc) (ls : Array Slot), xw D (xA ws0) s.heap (wNet cI cZ cN cC h0 h1 h2 h3 pts wrk out mem abv) H locs → lv_has ls 6 [(0, .ref h0), (1, .int x1), (2, .int x2), (3, .int x3), (4, .int x4)] → xG p l e 1 22 s m args below meth c D ws0 (wNet cI cZ cN cC h0 h1 h2 h3 pts wrk out mem abv) (some (.int res)) H locs (F0 m 3 ls []) := by
  obtain ⟨hx, hb, -⟩ := id E
  intro n
  induction n with
  | zero =>
    intro _ hf
    rw [f_X3_stoodOn_3] at hf; cases hf
  | succ n ih =>
    intro x4 hf H locs ls hw hl
    rw [f_X3_stoodOn_3] at hf
    refine lv_iload hx hb dX3_stoodOn_3 (lv_at hl 4 rfl) ?_
    refine lv_aload_n hx hb dX3_stoodOn_5 rfl (lv_at hl 0 rfl) ?_
    refine x_get E hw kin_X3 0 rfl rfl 0 (by decide) kF_X3_25 (v := .int pts) rfl dX3_stoodOn_6 ?_
    refine lv_icmp_ge (tgt := 53) hx hb dX3_stoodOn_9 (by decide) (fun c1 => ?_) (fun c1 => ?_)
    · rw [if_pos c1] at hf
      refine lv_iconst (v := 0) hx hb dX3_stoodOn_53 (by decide) ?_
      have hf := Option.some.inj hf; subst hf
      exact x_zret E hw (xz_n (v := 0) (by decide)) dX3_stoodOn_54
    · rw [if_neg c1] at hf
      refine lv_aload_n hx hb dX3_stoodOn_12 rfl (lv_at hl 0 rfl) ?_
      refine lv_iload_n hx hb dX3_stoodOn_13 rfl (lv_at hl 1 rfl) ?_
      refine lv_iload hx hb dX3_stoodOn_14 (lv_at hl 4 rfl) ?_
      obtain ⟨q2, hq2, hf⟩ := Option.bind_eq_some_iff.mp hf
      refine x_callVI (ws' := (wNet cI cZ cN cC h0 h1 h2 h3 pts wrk out mem abv)) (st1 := [.int q2]) (As := [.int x1, .int x4]) (rest := []) E hw vc_X3_62 (c_X3_aboveOf (cI := cI) (cZ := cZ) (cN := cN) (cC := cC) (h0 := h0) (h1 := h1) (h2 := h2) (h3 := h3)  (pts := pts) (wrk := wrk) (out := out) (mem := mem) (abv := abv) (x1 := x1) (x2 := x4) hq2) 0 3 rfl rfl rfl rfl rfl ⟨Nat.le_of_ble_eq_true rfl, Nat.le_of_ble_eq_true rfl⟩ ⟨Nat.le_refl _, Nat.le_refl _⟩ hl.1 rfl rfl (Nat.le_of_ble_eq_true rfl) dX3_stoodOn_16 (fun H locs hw => ?_)
      refine lv_istore (lv' := [(5, .int q2), (0, .ref h0), (1, .int x1), (2, .int x2), (3, .int x3), (4, .int x4)]) hx hb dX3_stoodOn_19 hl (by decide) rfl (fun ls hl => ?_)
      refine lv_iload hx hb dX3_stoodOn_21 (lv_at hl 0 rfl) ?_
      refine lv_iconst (v := (-1)) hx hb dX3_stoodOn_23 (by decide) ?_
      refine lv_icmp_eq (tgt := 47) hx hb dX3_stoodOn_24 (by decide) (fun c3 => ?_) (fun c3 => ?_)
      · rw [if_pos c3] at hf
        refine lv_iinc (v := (x4 + 1)) (lv' := [(4, .int (x4 + 1)), (5, .int q2), (0, .ref h0), (1, .int x1), (2, .int x2), (3, .int x3)]) hx hb dX3_stoodOn_47 hl (k := 5) rfl rfl (by decide) rfl (fun ls hl => ?_)
        refine lv_goto (tgt := 3) hx hb dX3_stoodOn_50 (by decide) ?_
        exact ih _ hf _ _ _ hw (lv_sub hl [2, 3, 4, 5, 0] rfl)
      · rw [if_neg c3] at hf
        refine lv_iload_n hx hb dX3_stoodOn_27 rfl (lv_at hl 3 rfl) ?_
        refine lv_iload hx hb dX3_stoodOn_28 (lv_at hl 0 rfl) ?_
        refine x_callN (isC := []) (ws' := (wNet cI cZ cN cC h0 h1 h2 h3 pts wrk out mem abv)) (st1 := [.int (f_X6_has x2 q2)]) (As := [.int x2, .int q2]) (rest := []) E hw vc_X3_44 (c_X6_has (cI := cI) (cZ := cZ) (cN := cN) (cC := cC)    (x0 := x2) (x1 := q2) rfl) rfl rfl rfl rfl rfl rfl ⟨Nat.le_of_ble_eq_true rfl, Nat.le_of_ble_eq_true rfl⟩ ⟨Nat.le_refl _, Nat.le_refl _⟩ hl.1 rfl rfl (Nat.le_of_ble_eq_true rfl) dX3_stoodOn_30 (fun H locs hw => ?_)
        refine lv_if_eq (tgt := 47) hx hb dX3_stoodOn_33 (by decide) (fun c4 => ?_) (fun c4 => ?_)
        · rw [if_pos c4] at hf
          refine lv_iinc (v := (x4 + 1)) (lv' := [(4, .int (x4 + 1)), (5, .int q2), (0, .ref h0), (1, .int x1), (2, .int x2), (3, .int x3)]) hx hb dX3_stoodOn_47 hl (k := 5) rfl rfl (by decide) rfl (fun ls hl => ?_)
          refine lv_goto (tgt := 3) hx hb dX3_stoodOn_50 (by decide) ?_
          exact ih _ hf _ _ _ hw (lv_sub hl [2, 3, 4, 5, 0] rfl)
        · rw [if_neg c4] at hf
          refine lv_iload_n hx hb dX3_stoodOn_36 rfl (lv_at hl 4 rfl) ?_
          refine lv_iload hx hb dX3_stoodOn_37 (lv_at hl 5 rfl) ?_
          refine x_callN (isC := []) (ws' := (wNet cI cZ cN cC h0 h1 h2 h3 pts wrk out mem abv)) (st1 := [.int (f_X6_has x3 x4)]) (As := [.int x3, .int x4]) (rest := []) E hw vc_X3_44 (c_X6_has (cI := cI) (cZ := cZ) (cN := cN) (cC := cC)    (x0 := x3) (x1 := x4) rfl) rfl rfl rfl rfl rfl rfl ⟨Nat.le_of_ble_eq_true rfl, Nat.le_of_ble_eq_true rfl⟩ ⟨Nat.le_refl _, Nat.le_refl _⟩ hl.1 rfl rfl (Nat.le_of_ble_eq_true rfl) dX3_stoodOn_39 (fun H locs hw => ?_)
          refine lv_if_eq (tgt := 47) hx hb dX3_stoodOn_42 (by decide) (fun c5 => ?_) (fun c5 => ?_)
          · rw [if_pos c5] at hf
            refine lv_iinc (v := (x4 + 1)) (lv' := [(4, .int (x4 + 1)), (5, .int q2), (0, .ref h0), (1, .int x1), (2, .int x2), (3, .int x3)]) hx hb dX3_stoodOn_47 hl (k := 5) rfl rfl (by decide) rfl (fun ls hl => ?_)
            refine lv_goto (tgt := 3) hx hb dX3_stoodOn_50 (by decide) ?_
            exact ih _ hf _ _ _ hw (lv_sub hl [2, 3, 4, 5, 0] rfl)
          · rw [if_neg c5] at hf
            refine lv_iconst (v := 1) hx hb dX3_stoodOn_45 (by decide) ?_
            have hf := Option.some.inj hf; subst hf
            exact x_zret E hw (xz_n (v := 1) (by decide)) dX3_stoodOn_46
def f_X3_stoodOn (N : Nat) (x1 : Int32) (x2 : Int32) (x3 : Int32) (pts : Int32) (abv : (Nat → Int32)) : Option (Int32) :=
  f_X3_stoodOn_3 x1 x2 x3 pts abv N 0
set_option maxHeartbeats 4000000 in
set_option maxRecDepth 100000 in
theorem c_X3_stoodOn {l : Launch} {D : va_G} {cI cZ cN cC : ClassId} {h0 h1 h2 h3 : Nat} {pts : Int32} {wrk : Int32} {out : (Nat → Int32)} {mem : (Nat → Int32)} {abv : (Nat → Int32)} {x1 : Int32} {x2 : Int32} {x3 : Int32} {N : Nat} {res : Int32} (hf : f_X3_stoodOn N x1 x2 x3 pts abv = some res) : xMet l D (xtys cI cZ cN cC) yX3_stoodOn cX3_stoodOn 6 (some .boolean) 1 22 [.ref h0, .int x1, .int x2, .int x3] (wNet cI cZ cN cC h0 h1 h2 h3 pts wrk out mem abv) (wNet cI cZ cN cC h0 h1 h2 h3 pts wrk out mem abv) (some (.int res)) := by
  refine x_enter (by decide) (Nat.le_of_ble_eq_true rfl) ?_
  intro p e s m args below meth c E ls hl hw
  have E : xE p s m args meth c cX3_stoodOn 6 (some .boolean) RX3 D (xtys cI cZ cN cC) (xA (wNet cI cZ cN cC h0 h1 h2 h3 pts wrk out mem abv)) := E
  obtain ⟨hx, hb, -⟩ := id E
  have hl : lv_has ls 6 [(0, .ref h0), (1, .int x1), (2, .int x2), (3, .int x3)] := hl
  unfold f_X3_stoodOn at hf
  refine lv_iconst (v := 0) hx hb dX3_stoodOn_0 (by decide) ?_
  refine lv_istore (lv' := [(4, .int 0), (0, .ref h0), (1, .int x1), (2, .int x2), (3, .int x3)]) hx hb dX3_stoodOn_1 hl (by decide) rfl (fun ls hl => ?_)
  exact b_X3_stoodOn_3 E N _ hf _ _ _ hw (lv_sub hl [1, 2, 3, 4, 0] rfl)

def f_X3_comersTo_4 (x1 : Int32) (pts : Int32) (mem : (Nat → Int32)) : Nat → Int32 → Int32 → Option (Int32)
  | 0, _, _ => none
  | n + 1, x2, x3 =>
    if pts ≤ x3 then
     some x2
    else
     (f_X3_comesTo x3 x1 mem).bind fun q2 =>
     if q2 = 0 then
      f_X3_comersTo_4 x1 pts mem n x2 (x3 + 1)
     else
      f_X3_comersTo_4 x1 pts mem n (x2 ||| (1 <<< (x3 &&& 31))) (x3 + 1)
set_option maxHeartbeats 4000000 in
set_option maxRecDepth 100000 in
theorem b_X3_comersTo_4 {p : Program} {l : Launch} {e : Env} {s : State} {m : MethodId} {args : Array Value} {below : List Frame} {meth : Method} {c : Code} {D : va_G} {cI cZ cN cC : ClassId} {ws0 : va_W} {h0 h1 h2 h3 : Nat} {x1 : Int32} {pts : Int32} {wrk : Int32} {out : (Nat → Int32)} {mem : (Nat → Int32)} {abv : (Nat → Int32)} {res : Int32} (E : xE p s m args meth c cX3_comersTo 4 (some .int) RX3 D (xtys cI cZ cN cC) (xA ws0)) : ∀ (n : Nat) (x2 : Int32) (x3 : Int32), f_X3_comersTo_4 x1 pts mem n x2 x3 = some res → ∀ (H : Heap) (locs : List Loc) (ls : Array Slot), xw D (xA ws0) s.heap (wNet cI cZ cN cC h0 h1 h2 h3 pts wrk out mem abv) H locs → lv_has ls 4 [(0, .ref h0), (1, .int x1), (2, .int x2), (3, .int x3)] → xG p l e 2 43 s m args below meth c D ws0 (wNet cI cZ cN cC h0 h1 h2 h3 pts wrk out mem abv) (some (.int res)) H locs (F0 m 4 ls []) := by
  obtain ⟨hx, hb, -⟩ := id E
  intro n
  induction n with
  | zero =>
    intro _ _ hf
    rw [f_X3_comersTo_4] at hf; cases hf
  | succ n ih =>
    intro x2 x3 hf H locs ls hw hl
    rw [f_X3_comersTo_4] at hf
    refine lv_iload_n hx hb dX3_comersTo_4 rfl (lv_at hl 3 rfl) ?_
    refine lv_aload_n hx hb dX3_comersTo_5 rfl (lv_at hl 0 rfl) ?_
    refine x_get E hw kin_X3 0 rfl rfl 0 (by decide) kF_X3_25 (v := .int pts) rfl dX3_comersTo_6 ?_
    refine lv_icmp_ge (tgt := 33) hx hb dX3_comersTo_9 (by decide) (fun c1 => ?_) (fun c1 => ?_)
    · rw [if_pos c1] at hf
      refine lv_iload_n hx hb dX3_comersTo_33 rfl (lv_at hl 2 rfl) ?_
      have hf := Option.some.inj hf; subst hf
      exact x_iret E hw dX3_comersTo_34
    · rw [if_neg c1] at hf
      refine lv_aload_n hx hb dX3_comersTo_12 rfl (lv_at hl 0 rfl) ?_
      refine lv_iload_n hx hb dX3_comersTo_13 rfl (lv_at hl 3 rfl) ?_
      refine lv_iload_n hx hb dX3_comersTo_14 rfl (lv_at hl 1 rfl) ?_
      obtain ⟨q2, hq2, hf⟩ := Option.bind_eq_some_iff.mp hf
      refine x_callVI (ws' := (wNet cI cZ cN cC h0 h1 h2 h3 pts wrk out mem abv)) (st1 := [.int q2]) (As := [.int x3, .int x1]) (rest := []) E hw vc_X3_65 (c_X3_comesTo (cI := cI) (cZ := cZ) (cN := cN) (cC := cC) (h0 := h0) (h1 := h1) (h2 := h2) (h3 := h3)  (pts := pts) (wrk := wrk) (out := out) (mem := mem) (abv := abv) (x1 := x3) (x2 := x1) hq2) 0 3 rfl rfl rfl rfl rfl ⟨Nat.le_of_ble_eq_true rfl, Nat.le_of_ble_eq_true rfl⟩ ⟨Nat.le_refl _, Nat.le_refl _⟩ hl.1 rfl rfl (Nat.le_of_ble_eq_true rfl) dX3_comersTo_15 (fun H locs hw => ?_)
      refine lv_if_eq (tgt := 27) hx hb dX3_comersTo_18 (by decide) (fun c3 => ?_) (fun c3 => ?_)
      · rw [if_pos c3] at hf
        refine lv_iinc (v := (x3 + 1)) (lv' := [(3, .int (x3 + 1)), (0, .ref h0), (1, .int x1), (2, .int x2)]) hx hb dX3_comersTo_27 hl (k := 3) rfl rfl (by decide) rfl (fun ls hl => ?_)
        refine lv_goto (tgt := 4) hx hb dX3_comersTo_30 (by decide) ?_
        exact ih _ _ hf _ _ _ hw (lv_sub hl [1, 2, 3, 0] rfl)
      · rw [if_neg c3] at hf
        refine lv_iload_n hx hb dX3_comersTo_21 rfl (lv_at hl 2 rfl) ?_
        refine lv_iconst (v := 1) hx hb dX3_comersTo_22 (by decide) ?_
        refine lv_iload_n hx hb dX3_comersTo_23 rfl (lv_at hl 3 rfl) ?_
        refine lv_ishl hx hb dX3_comersTo_24 ?_
        refine lv_ior hx hb dX3_comersTo_25 ?_
        refine lv_istore_n (lv' := [(2, .int (x2 ||| (1 <<< (x3 &&& 31)))), (0, .ref h0), (1, .int x1), (3, .int x3)]) hx hb dX3_comersTo_26 rfl hl (by decide) rfl (fun ls hl => ?_)
        refine lv_iinc (v := (x3 + 1)) (lv' := [(3, .int (x3 + 1)), (2, .int (x2 ||| (1 <<< (x3 &&& 31)))), (0, .ref h0), (1, .int x1)]) hx hb dX3_comersTo_27 hl (k := 3) rfl rfl (by decide) rfl (fun ls hl => ?_)
        refine lv_goto (tgt := 4) hx hb dX3_comersTo_30 (by decide) ?_
        exact ih _ _ hf _ _ _ hw (lv_sub hl [2, 3, 1, 0] rfl)
def f_X3_comersTo (N : Nat) (x1 : Int32) (pts : Int32) (mem : (Nat → Int32)) : Option (Int32) :=
  f_X3_comersTo_4 x1 pts mem N 0 0
set_option maxHeartbeats 4000000 in
set_option maxRecDepth 100000 in
theorem c_X3_comersTo {l : Launch} {D : va_G} {cI cZ cN cC : ClassId} {h0 h1 h2 h3 : Nat} {pts : Int32} {wrk : Int32} {out : (Nat → Int32)} {mem : (Nat → Int32)} {abv : (Nat → Int32)} {x1 : Int32} {N : Nat} {res : Int32} (hf : f_X3_comersTo N x1 pts mem = some res) : xMet l D (xtys cI cZ cN cC) yX3_comersTo cX3_comersTo 4 (some .int) 2 43 [.ref h0, .int x1] (wNet cI cZ cN cC h0 h1 h2 h3 pts wrk out mem abv) (wNet cI cZ cN cC h0 h1 h2 h3 pts wrk out mem abv) (some (.int res)) := by
  refine x_enter (by decide) (Nat.le_of_ble_eq_true rfl) ?_
  intro p e s m args below meth c E ls hl hw
  have E : xE p s m args meth c cX3_comersTo 4 (some .int) RX3 D (xtys cI cZ cN cC) (xA (wNet cI cZ cN cC h0 h1 h2 h3 pts wrk out mem abv)) := E
  obtain ⟨hx, hb, -⟩ := id E
  have hl : lv_has ls 4 [(0, .ref h0), (1, .int x1)] := hl
  unfold f_X3_comersTo at hf
  refine lv_iconst (v := 0) hx hb dX3_comersTo_0 (by decide) ?_
  refine lv_istore_n (lv' := [(2, .int 0), (0, .ref h0), (1, .int x1)]) hx hb dX3_comersTo_1 rfl hl (by decide) rfl (fun ls hl => ?_)
  refine lv_iconst (v := 0) hx hb dX3_comersTo_2 (by decide) ?_
  refine lv_istore_n (lv' := [(3, .int 0), (2, .int 0), (0, .ref h0), (1, .int x1)]) hx hb dX3_comersTo_3 rfl hl (by decide) rfl (fun ls hl => ?_)
  exact b_X3_comersTo_4 E N _ _ hf _ _ _ hw (lv_sub hl [2, 3, 1, 0] rfl)

def f_X3_ringOf (N : Nat) (x1 : Int32) (pts : Int32) (mem : (Nat → Int32)) : Option (Int32) :=
  if xin x1 10 then
  (f_X3_comersTo N x1 pts mem).bind fun q2 =>
  some ((mem (Int32.toNatClampNeg x1)) &&& q2)
  else none
set_option maxHeartbeats 4000000 in
set_option maxRecDepth 100000 in
theorem c_X3_ringOf {l : Launch} {D : va_G} {cI cZ cN cC : ClassId} {h0 h1 h2 h3 : Nat} {pts : Int32} {wrk : Int32} {out : (Nat → Int32)} {mem : (Nat → Int32)} {abv : (Nat → Int32)} {x1 : Int32} {N : Nat} {res : Int32} (hf : f_X3_ringOf N x1 pts mem = some res) : xMet l D (xtys cI cZ cN cC) yX3_ringOf cX3_ringOf 2 (some .int) 3 66 [.ref h0, .int x1] (wNet cI cZ cN cC h0 h1 h2 h3 pts wrk out mem abv) (wNet cI cZ cN cC h0 h1 h2 h3 pts wrk out mem abv) (some (.int res)) := by
  refine x_enter (by decide) (Nat.le_of_ble_eq_true rfl) ?_
  intro p e s m args below meth c E ls hl hw
  have E : xE p s m args meth c cX3_ringOf 2 (some .int) RX3 D (xtys cI cZ cN cC) (xA (wNet cI cZ cN cC h0 h1 h2 h3 pts wrk out mem abv)) := E
  obtain ⟨hx, hb, -⟩ := id E
  have hl : lv_has ls 2 [(0, .ref h0), (1, .int x1)] := hl
  unfold f_X3_ringOf at hf
  refine lv_aload_n hx hb dX3_ringOf_0 rfl (lv_at hl 0 rfl) ?_
  refine x_get E hw kin_X3 0 rfl rfl 3 (by decide) kF_X3_15 (v := .ref h2) rfl dX3_ringOf_1 ?_
  refine lv_iload_n hx hb dX3_ringOf_4 rfl (lv_at hl 1 rfl) ?_
  obtain ⟨g1, hf⟩ := xgd hf
  refine x_iald E hw 2 0 rfl rfl (xin_vp g1) dX3_ringOf_5 ?_
  refine lv_aload_n hx hb dX3_ringOf_6 rfl (lv_at hl 0 rfl) ?_
  refine lv_iload_n hx hb dX3_ringOf_7 rfl (lv_at hl 1 rfl) ?_
  obtain ⟨q2, hq2, hf⟩ := Option.bind_eq_some_iff.mp hf
  refine x_callVI (ws' := (wNet cI cZ cN cC h0 h1 h2 h3 pts wrk out mem abv)) (st1 := [.int q2, .int (mem (Int32.toNatClampNeg x1))]) (As := [.int x1]) (rest := [.int (mem (Int32.toNatClampNeg x1))]) E hw vc_X3_86 (c_X3_comersTo (cI := cI) (cZ := cZ) (cN := cN) (cC := cC) (h0 := h0) (h1 := h1) (h2 := h2) (h3 := h3)  (pts := pts) (wrk := wrk) (out := out) (mem := mem) (abv := abv) (x1 := x1) hq2) 0 3 rfl rfl rfl rfl rfl ⟨Nat.le_of_ble_eq_true rfl, Nat.le_of_ble_eq_true rfl⟩ ⟨Nat.le_refl _, Nat.le_refl _⟩ hl.1 rfl rfl (Nat.le_of_ble_eq_true rfl) dX3_ringOf_8 (fun H locs hw => ?_)
  refine lv_iand hx hb dX3_ringOf_11 ?_
  have hf := Option.some.inj hf; subst hf
  exact x_iret E hw dX3_ringOf_12

def f_X3_rings_4 (N : Nat) (pts : Int32) (mem : (Nat → Int32)) : Nat → Int32 → Int32 → Option (Int32)
  | 0, _, _ => none
  | n + 1, x1, x2 =>
    if pts ≤ x2 then
     some x1
    else
     (f_X3_ringOf N x2 pts mem).bind fun q2 =>
     if (f_X6_lowest q2) = x2 then
      f_X3_rings_4 N pts mem n (x1 + 1) (x2 + 1)
     else
      f_X3_rings_4 N pts mem n x1 (x2 + 1)
set_option maxHeartbeats 4000000 in
set_option maxRecDepth 100000 in
theorem b_X3_rings_4 {p : Program} {l : Launch} {e : Env} {s : State} {m : MethodId} {args : Array Value} {below : List Frame} {meth : Method} {c : Code} {D : va_G} {cI cZ cN cC : ClassId} {ws0 : va_W} {h0 h1 h2 h3 : Nat} {pts : Int32} {wrk : Int32} {out : (Nat → Int32)} {mem : (Nat → Int32)} {abv : (Nat → Int32)} {N : Nat} {res : Int32} (E : xE p s m args meth c cX3_rings 3 (some .int) RX3 D (xtys cI cZ cN cC) (xA ws0)) : ∀ (n : Nat) (x1 : Int32) (x2 : Int32), f_X3_rings_4 N pts mem n x1 x2 = some res → ∀ (H : Heap) (locs : List Loc) (ls : Array Slot), xw D (xA ws0) s.heap (wNet cI cZ cN cC h0 h1 h2 h3 pts wrk out mem abv) H locs → lv_has ls 3 [(0, .ref h0), (1, .int x1), (2, .int x2)] → xG p l e 4 87 s m args below meth c D ws0 (wNet cI cZ cN cC h0 h1 h2 h3 pts wrk out mem abv) (some (.int res)) H locs (F0 m 4 ls []) := by
  obtain ⟨hx, hb, -⟩ := id E
  intro n
  induction n with
  | zero =>
    intro _ _ hf
    rw [f_X3_rings_4] at hf; cases hf
  | succ n ih =>
    intro x1 x2 hf H locs ls hw hl
    rw [f_X3_rings_4] at hf
    refine lv_iload_n hx hb dX3_rings_4 rfl (lv_at hl 2 rfl) ?_
    refine lv_aload_n hx hb dX3_rings_5 rfl (lv_at hl 0 rfl) ?_
    refine x_get E hw kin_X3 0 rfl rfl 0 (by decide) kF_X3_25 (v := .int pts) rfl dX3_rings_6 ?_
    refine lv_icmp_ge (tgt := 33) hx hb dX3_rings_9 (by decide) (fun c1 => ?_) (fun c1 => ?_)
    · rw [if_pos c1] at hf
      refine lv_iload_n hx hb dX3_rings_33 rfl (lv_at hl 1 rfl) ?_
      have hf := Option.some.inj hf; subst hf
      exact x_iret E hw dX3_rings_34
    · rw [if_neg c1] at hf
      refine lv_aload_n hx hb dX3_rings_12 rfl (lv_at hl 0 rfl) ?_
      refine lv_iload_n hx hb dX3_rings_13 rfl (lv_at hl 2 rfl) ?_
      obtain ⟨q2, hq2, hf⟩ := Option.bind_eq_some_iff.mp hf
      refine x_callVI (ws' := (wNet cI cZ cN cC h0 h1 h2 h3 pts wrk out mem abv)) (st1 := [.int q2]) (As := [.int x2]) (rest := []) E hw vc_X3_89 (c_X3_ringOf (cI := cI) (cZ := cZ) (cN := cN) (cC := cC) (h0 := h0) (h1 := h1) (h2 := h2) (h3 := h3)  (pts := pts) (wrk := wrk) (out := out) (mem := mem) (abv := abv) (x1 := x2) hq2) 0 3 rfl rfl rfl rfl rfl ⟨Nat.le_of_ble_eq_true rfl, Nat.le_of_ble_eq_true rfl⟩ ⟨Nat.le_refl _, Nat.le_refl _⟩ hl.1 rfl rfl (Nat.le_of_ble_eq_true rfl) dX3_rings_14 (fun H locs hw => ?_)
      refine x_callN (isC := []) (ws' := (wNet cI cZ cN cC h0 h1 h2 h3 pts wrk out mem abv)) (st1 := [.int (f_X6_lowest q2)]) (As := [.int q2]) (rest := []) E hw vc_X3_92 (c_X6_lowest (cI := cI) (cZ := cZ) (cN := cN) (cC := cC)    (x0 := q2) rfl) rfl rfl rfl rfl rfl rfl ⟨Nat.le_of_ble_eq_true rfl, Nat.le_of_ble_eq_true rfl⟩ ⟨Nat.le_refl _, Nat.le_refl _⟩ hl.1 rfl rfl (Nat.le_of_ble_eq_true rfl) dX3_rings_17 (fun H locs hw => ?_)
      refine lv_iload_n hx hb dX3_rings_20 rfl (lv_at hl 2 rfl) ?_
      refine lv_icmp_ne (tgt := 27) hx hb dX3_rings_21 (by decide) (fun c3 => ?_) (fun c3 => ?_)
      · rw [if_neg c3] at hf
        refine lv_iinc (v := (x2 + 1)) (lv' := [(2, .int (x2 + 1)), (0, .ref h0), (1, .int x1)]) hx hb dX3_rings_27 hl (k := 2) rfl rfl (by decide) rfl (fun ls hl => ?_)
        refine lv_goto (tgt := 4) hx hb dX3_rings_30 (by decide) ?_
        exact ih _ _ hf _ _ _ hw (lv_sub hl [1, 2, 0] rfl)
      · rw [if_pos c3] at hf
        refine lv_iinc (v := (x1 + 1)) (lv' := [(1, .int (x1 + 1)), (0, .ref h0), (2, .int x2)]) hx hb dX3_rings_24 hl (k := 1) rfl rfl (by decide) rfl (fun ls hl => ?_)
        refine lv_iinc (v := (x2 + 1)) (lv' := [(2, .int (x2 + 1)), (1, .int (x1 + 1)), (0, .ref h0)]) hx hb dX3_rings_27 hl (k := 2) rfl rfl (by decide) rfl (fun ls hl => ?_)
        refine lv_goto (tgt := 4) hx hb dX3_rings_30 (by decide) ?_
        exact ih _ _ hf _ _ _ hw (lv_sub hl [2, 1, 0] rfl)
def f_X3_rings (N : Nat) (pts : Int32) (mem : (Nat → Int32)) : Option (Int32) :=
  f_X3_rings_4 N pts mem N 0 0
set_option maxHeartbeats 4000000 in
set_option maxRecDepth 100000 in
theorem c_X3_rings {l : Launch} {D : va_G} {cI cZ cN cC : ClassId} {h0 h1 h2 h3 : Nat} {pts : Int32} {wrk : Int32} {out : (Nat → Int32)} {mem : (Nat → Int32)} {abv : (Nat → Int32)}  {N : Nat} {res : Int32} (hf : f_X3_rings N pts mem = some res) : xMet l D (xtys cI cZ cN cC) yX3_rings cX3_rings 3 (some .int) 4 87 [.ref h0] (wNet cI cZ cN cC h0 h1 h2 h3 pts wrk out mem abv) (wNet cI cZ cN cC h0 h1 h2 h3 pts wrk out mem abv) (some (.int res)) := by
  refine x_enter (by decide) (Nat.le_of_ble_eq_true rfl) ?_
  intro p e s m args below meth c E ls hl hw
  have E : xE p s m args meth c cX3_rings 3 (some .int) RX3 D (xtys cI cZ cN cC) (xA (wNet cI cZ cN cC h0 h1 h2 h3 pts wrk out mem abv)) := E
  obtain ⟨hx, hb, -⟩ := id E
  have hl : lv_has ls 3 [(0, .ref h0)] := hl
  unfold f_X3_rings at hf
  refine lv_iconst (v := 0) hx hb dX3_rings_0 (by decide) ?_
  refine lv_istore_n (lv' := [(1, .int 0), (0, .ref h0)]) hx hb dX3_rings_1 rfl hl (by decide) rfl (fun ls hl => ?_)
  refine lv_iconst (v := 0) hx hb dX3_rings_2 (by decide) ?_
  refine lv_istore_n (lv' := [(2, .int 0), (1, .int 0), (0, .ref h0)]) hx hb dX3_rings_3 rfl hl (by decide) rfl (fun ls hl => ?_)
  exact b_X3_rings_4 E N _ _ hf _ _ _ hw (lv_sub hl [2, 1, 0] rfl)

def f_X3_membersWithout_60 (k12 : Int32 → Int32 → Int32 → Option (Int32)) (x4 : Int32) (x5 : Int32) (x6 : Int32) (x7 : Int32) (t0 : Int32) : Option (Int32) :=
  k12 (x4 ||| t0) ((x5 &&& ((1 <<< (x7 &&& 31)) ^^^ (-1))) ||| (t0 &&& (x4 ^^^ (-1)))) (x6 + 1)
set_option maxHeartbeats 4000000 in
set_option maxRecDepth 100000 in
theorem b_X3_membersWithout_60 {p : Program} {l : Launch} {e : Env} {s : State} {m : MethodId} {args : Array Value} {below : List Frame} {meth : Method} {c : Code} {D : va_G} {cI cZ cN cC : ClassId} {ws0 : va_W} {h0 h1 h2 h3 : Nat} {x2 : Int32} {x3 : Int32} {x4 : Int32} {x5 : Int32} {x6 : Int32} {x7 : Int32} {t0 : Int32} {pts : Int32} {wrk : Int32} {out : (Nat → Int32)} {mem : (Nat → Int32)} {abv : (Nat → Int32)} {res : Int32} (E : xE p s m args meth c cX3_membersWithout 9 (some .int) RX3 D (xtys cI cZ cN cC) (xA ws0)) {k12 : Int32 → Int32 → Int32 → Option (Int32)} (hk12 : ∀ (x4 : Int32) (x5 : Int32) (x6 : Int32), k12 x4 x5 x6 = some res → ∀ (H : Heap) (locs : List Loc) (ls : Array Slot), xw D (xA ws0) s.heap (wNet cI cZ cN cC h0 h1 h2 h3 pts wrk out mem abv) H locs → lv_has ls 9 [(0, .ref h0), (2, .int x2), (3, .int x3), (4, .int x4), (5, .int x5), (6, .int x6)] → xG p l e 2 40 s m args below meth c D ws0 (wNet cI cZ cN cC h0 h1 h2 h3 pts wrk out mem abv) (some (.int res)) H locs (F0 m 12 ls [])) : f_X3_membersWithout_60 k12 x4 x5 x6 x7 t0 = some res → ∀ (H : Heap) (locs : List Loc) (ls : Array Slot), xw D (xA ws0) s.heap (wNet cI cZ cN cC h0 h1 h2 h3 pts wrk out mem abv) H locs → lv_has ls 9 [(0, .ref h0), (2, .int x2), (3, .int x3), (4, .int x4), (5, .int x5), (6, .int x6), (7, .int x7)] → xG p l e 2 40 s m args below meth c D ws0 (wNet cI cZ cN cC h0 h1 h2 h3 pts wrk out mem abv) (some (.int res)) H locs (F0 m 60 ls [.int t0]) := by
  obtain ⟨hx, hb, -⟩ := id E
  intro hf H locs ls hw hl
  unfold f_X3_membersWithout_60 at hf
  refine lv_istore (lv' := [(8, .int t0), (0, .ref h0), (2, .int x2), (3, .int x3), (4, .int x4), (5, .int x5), (6, .int x6), (7, .int x7)]) hx hb dX3_membersWithout_60 hl (by decide) rfl (fun ls hl => ?_)
  refine lv_iload hx hb dX3_membersWithout_62 (lv_at hl 5 rfl) ?_
  refine lv_iconst (v := 1) hx hb dX3_membersWithout_64 (by decide) ?_
  refine lv_iload hx hb dX3_membersWithout_65 (lv_at hl 7 rfl) ?_
  refine lv_ishl hx hb dX3_membersWithout_67 ?_
  refine lv_iconst (v := (-1)) hx hb dX3_membersWithout_68 (by decide) ?_
  refine lv_ixor hx hb dX3_membersWithout_69 ?_
  refine lv_iand hx hb dX3_membersWithout_70 ?_
  refine lv_iload hx hb dX3_membersWithout_71 (lv_at hl 0 rfl) ?_
  refine lv_iload hx hb dX3_membersWithout_73 (lv_at hl 4 rfl) ?_
  refine lv_iconst (v := (-1)) hx hb dX3_membersWithout_75 (by decide) ?_
  refine lv_ixor hx hb dX3_membersWithout_76 ?_
  refine lv_iand hx hb dX3_membersWithout_77 ?_
  refine lv_ior hx hb dX3_membersWithout_78 ?_
  refine lv_istore (lv' := [(5, .int ((x5 &&& ((1 <<< (x7 &&& 31)) ^^^ (-1))) ||| (t0 &&& (x4 ^^^ (-1))))), (8, .int t0), (0, .ref h0), (2, .int x2), (3, .int x3), (4, .int x4), (6, .int x6), (7, .int x7)]) hx hb dX3_membersWithout_79 hl (by decide) rfl (fun ls hl => ?_)
  refine lv_iload hx hb dX3_membersWithout_81 (lv_at hl 5 rfl) ?_
  refine lv_iload hx hb dX3_membersWithout_83 (lv_at hl 1 rfl) ?_
  refine lv_ior hx hb dX3_membersWithout_85 ?_
  refine lv_istore (lv' := [(4, .int (x4 ||| t0)), (5, .int ((x5 &&& ((1 <<< (x7 &&& 31)) ^^^ (-1))) ||| (t0 &&& (x4 ^^^ (-1))))), (8, .int t0), (0, .ref h0), (2, .int x2), (3, .int x3), (6, .int x6), (7, .int x7)]) hx hb dX3_membersWithout_86 hl (by decide) rfl (fun ls hl => ?_)
  refine lv_iinc (v := (x6 + 1)) (lv' := [(6, .int (x6 + 1)), (4, .int (x4 ||| t0)), (5, .int ((x5 &&& ((1 <<< (x7 &&& 31)) ^^^ (-1))) ||| (t0 &&& (x4 ^^^ (-1))))), (8, .int t0), (0, .ref h0), (2, .int x2), (3, .int x3), (7, .int x7)]) hx hb dX3_membersWithout_88 hl (k := 6) rfl rfl (by decide) rfl (fun ls hl => ?_)
  refine lv_goto (tgt := 12) hx hb dX3_membersWithout_91 (by decide) ?_
  exact hk12 _ _ _ hf _ _ _ hw (lv_sub hl [4, 5, 6, 1, 2, 0] rfl)
def f_X3_membersWithout_12 (x2 : Int32) (x3 : Int32) (out : (Nat → Int32)) : Nat → Int32 → Int32 → Int32 → Option (Int32)
  | 0, _, _, _ => none
  | n + 1, x4, x5, x6 =>
    if 10 ≤ x6 then
     some x4
    else
     if x5 = 0 then
      some x4
     else
      if (f_X6_lowest x5) = x2 then
       if xin (f_X6_lowest x5) 10 then
       f_X3_membersWithout_60 (fun x4 x5 x6 => f_X3_membersWithout_12 x2 x3 out n x4 x5 x6) x4 x5 x6 (f_X6_lowest x5) ((out (Int32.toNatClampNeg (f_X6_lowest x5))) &&& ((1 <<< (x3 &&& 31)) ^^^ (-1)))
       else none
      else
       if xin (f_X6_lowest x5) 10 then
       f_X3_membersWithout_60 (fun x4 x5 x6 => f_X3_membersWithout_12 x2 x3 out n x4 x5 x6) x4 x5 x6 (f_X6_lowest x5) (out (Int32.toNatClampNeg (f_X6_lowest x5)))
       else none
set_option maxHeartbeats 4000000 in
set_option maxRecDepth 100000 in
theorem b_X3_membersWithout_12 {p : Program} {l : Launch} {e : Env} {s : State} {m : MethodId} {args : Array Value} {below : List Frame} {meth : Method} {c : Code} {D : va_G} {cI cZ cN cC : ClassId} {ws0 : va_W} {h0 h1 h2 h3 : Nat} {x2 : Int32} {x3 : Int32} {pts : Int32} {wrk : Int32} {out : (Nat → Int32)} {mem : (Nat → Int32)} {abv : (Nat → Int32)} {res : Int32} (E : xE p s m args meth c cX3_membersWithout 9 (some .int) RX3 D (xtys cI cZ cN cC) (xA ws0)) : ∀ (n : Nat) (x4 : Int32) (x5 : Int32) (x6 : Int32), f_X3_membersWithout_12 x2 x3 out n x4 x5 x6 = some res → ∀ (H : Heap) (locs : List Loc) (ls : Array Slot), xw D (xA ws0) s.heap (wNet cI cZ cN cC h0 h1 h2 h3 pts wrk out mem abv) H locs → lv_has ls 9 [(0, .ref h0), (2, .int x2), (3, .int x3), (4, .int x4), (5, .int x5), (6, .int x6)] → xG p l e 2 40 s m args below meth c D ws0 (wNet cI cZ cN cC h0 h1 h2 h3 pts wrk out mem abv) (some (.int res)) H locs (F0 m 12 ls []) := by
  obtain ⟨hx, hb, -⟩ := id E
  intro n
  induction n with
  | zero =>
    intro _ _ _ hf
    rw [f_X3_membersWithout_12] at hf; cases hf
  | succ n ih =>
    intro x4 x5 x6 hf H locs ls hw hl
    rw [f_X3_membersWithout_12] at hf
    refine lv_iload hx hb dX3_membersWithout_12 (lv_at hl 5 rfl) ?_
    refine lv_bipush (v := 10) hx hb dX3_membersWithout_14 (by decide) ?_
    refine lv_icmp_ge (tgt := 94) hx hb dX3_membersWithout_16 (by decide) (fun c1 => ?_) (fun c1 => ?_)
    · rw [if_pos c1] at hf
      refine lv_iload hx hb dX3_membersWithout_94 (lv_at hl 3 rfl) ?_
      have hf := Option.some.inj hf; subst hf
      exact x_iret E hw dX3_membersWithout_96
    · rw [if_neg c1] at hf
      refine lv_iload hx hb dX3_membersWithout_19 (lv_at hl 4 rfl) ?_
      refine lv_if_eq (tgt := 94) hx hb dX3_membersWithout_21 (by decide) (fun c2 => ?_) (fun c2 => ?_)
      · rw [if_pos c2] at hf
        refine lv_iload hx hb dX3_membersWithout_94 (lv_at hl 3 rfl) ?_
        have hf := Option.some.inj hf; subst hf
        exact x_iret E hw dX3_membersWithout_96
      · rw [if_neg c2] at hf
        refine lv_iload hx hb dX3_membersWithout_24 (lv_at hl 4 rfl) ?_
        refine x_callN (isC := []) (ws' := (wNet cI cZ cN cC h0 h1 h2 h3 pts wrk out mem abv)) (st1 := [.int (f_X6_lowest x5)]) (As := [.int x5]) (rest := []) E hw vc_X3_92 (c_X6_lowest (cI := cI) (cZ := cZ) (cN := cN) (cC := cC)    (x0 := x5) rfl) rfl rfl rfl rfl rfl rfl ⟨Nat.le_of_ble_eq_true rfl, Nat.le_of_ble_eq_true rfl⟩ ⟨Nat.le_refl _, Nat.le_refl _⟩ hl.1 rfl rfl (Nat.le_of_ble_eq_true rfl) dX3_membersWithout_26 (fun H locs hw => ?_)
        refine lv_istore (lv' := [(7, .int (f_X6_lowest x5)), (0, .ref h0), (2, .int x2), (3, .int x3), (4, .int x4), (5, .int x5), (6, .int x6)]) hx hb dX3_membersWithout_29 hl (by decide) rfl (fun ls hl => ?_)
        refine lv_iload hx hb dX3_membersWithout_31 (lv_at hl 0 rfl) ?_
        refine lv_iload_n hx hb dX3_membersWithout_33 rfl (lv_at hl 2 rfl) ?_
        refine lv_icmp_ne (tgt := 53) hx hb dX3_membersWithout_34 (by decide) (fun c3 => ?_) (fun c3 => ?_)
        · rw [if_neg c3] at hf
          refine lv_aload_n hx hb dX3_membersWithout_53 rfl (lv_at hl 1 rfl) ?_
          refine x_get E hw kin_X3 0 rfl rfl 2 (by decide) kF_X3_9 (v := .ref h1) rfl dX3_membersWithout_54 ?_
          refine lv_iload hx hb dX3_membersWithout_57 (lv_at hl 0 rfl) ?_
          obtain ⟨g4, hf⟩ := xgd hf
          refine x_iald E hw 1 0 rfl rfl (xin_vp g4) dX3_membersWithout_59 ?_
          exact b_X3_membersWithout_60 E ih  hf _ _ _ hw (lv_sub hl [1, 2, 3, 4, 5, 6, 0] rfl)
        · rw [if_pos c3] at hf
          refine lv_aload_n hx hb dX3_membersWithout_37 rfl (lv_at hl 1 rfl) ?_
          refine x_get E hw kin_X3 0 rfl rfl 2 (by decide) kF_X3_9 (v := .ref h1) rfl dX3_membersWithout_38 ?_
          refine lv_iload hx hb dX3_membersWithout_41 (lv_at hl 0 rfl) ?_
          obtain ⟨g5, hf⟩ := xgd hf
          refine x_iald E hw 1 0 rfl rfl (xin_vp g5) dX3_membersWithout_43 ?_
          refine lv_iconst (v := 1) hx hb dX3_membersWithout_44 (by decide) ?_
          refine lv_iload_n hx hb dX3_membersWithout_45 rfl (lv_at hl 3 rfl) ?_
          refine lv_ishl hx hb dX3_membersWithout_46 ?_
          refine lv_iconst (v := (-1)) hx hb dX3_membersWithout_47 (by decide) ?_
          refine lv_ixor hx hb dX3_membersWithout_48 ?_
          refine lv_iand hx hb dX3_membersWithout_49 ?_
          refine lv_goto (tgt := 60) hx hb dX3_membersWithout_50 (by decide) ?_
          exact b_X3_membersWithout_60 E ih  hf _ _ _ hw (lv_sub hl [1, 2, 3, 4, 5, 6, 0] rfl)
def f_X3_membersWithout (N : Nat) (x1 : Int32) (x2 : Int32) (x3 : Int32) (out : (Nat → Int32)) : Option (Int32) :=
  f_X3_membersWithout_12 x2 x3 out N (1 <<< (x1 &&& 31)) (1 <<< (x1 &&& 31)) 0
set_option maxHeartbeats 4000000 in
set_option maxRecDepth 100000 in
theorem c_X3_membersWithout {l : Launch} {D : va_G} {cI cZ cN cC : ClassId} {h0 h1 h2 h3 : Nat} {pts : Int32} {wrk : Int32} {out : (Nat → Int32)} {mem : (Nat → Int32)} {abv : (Nat → Int32)} {x1 : Int32} {x2 : Int32} {x3 : Int32} {N : Nat} {res : Int32} (hf : f_X3_membersWithout N x1 x2 x3 out = some res) : xMet l D (xtys cI cZ cN cC) yX3_membersWithout cX3_membersWithout 9 (some .int) 2 40 [.ref h0, .int x1, .int x2, .int x3] (wNet cI cZ cN cC h0 h1 h2 h3 pts wrk out mem abv) (wNet cI cZ cN cC h0 h1 h2 h3 pts wrk out mem abv) (some (.int res)) := by
  refine x_enter (by decide) (Nat.le_of_ble_eq_true rfl) ?_
  intro p e s m args below meth c E ls hl hw
  have E : xE p s m args meth c cX3_membersWithout 9 (some .int) RX3 D (xtys cI cZ cN cC) (xA (wNet cI cZ cN cC h0 h1 h2 h3 pts wrk out mem abv)) := E
  obtain ⟨hx, hb, -⟩ := id E
  have hl : lv_has ls 9 [(0, .ref h0), (1, .int x1), (2, .int x2), (3, .int x3)] := hl
  unfold f_X3_membersWithout at hf
  refine lv_iconst (v := 1) hx hb dX3_membersWithout_0 (by decide) ?_
  refine lv_iload_n hx hb dX3_membersWithout_1 rfl (lv_at hl 1 rfl) ?_
  refine lv_ishl hx hb dX3_membersWithout_2 ?_
  refine lv_istore (lv' := [(4, .int (1 <<< (x1 &&& 31))), (0, .ref h0), (1, .int x1), (2, .int x2), (3, .int x3)]) hx hb dX3_membersWithout_3 hl (by decide) rfl (fun ls hl => ?_)
  refine lv_iload hx hb dX3_membersWithout_5 (lv_at hl 0 rfl) ?_
  refine lv_istore (lv' := [(5, .int (1 <<< (x1 &&& 31))), (4, .int (1 <<< (x1 &&& 31))), (0, .ref h0), (1, .int x1), (2, .int x2), (3, .int x3)]) hx hb dX3_membersWithout_7 hl (by decide) rfl (fun ls hl => ?_)
  refine lv_iconst (v := 0) hx hb dX3_membersWithout_9 (by decide) ?_
  refine lv_istore (lv' := [(6, .int 0), (5, .int (1 <<< (x1 &&& 31))), (4, .int (1 <<< (x1 &&& 31))), (0, .ref h0), (1, .int x1), (2, .int x2), (3, .int x3)]) hx hb dX3_membersWithout_10 hl (by decide) rfl (fun ls hl => ?_)
  exact b_X3_membersWithout_12 E N _ _ _ hf _ _ _ hw (lv_sub hl [3, 5, 6, 2, 1, 0] rfl)

def f_X3_isNeedless (N : Nat) (x1 : Int32) (x2 : Int32) (out : (Nat → Int32)) : Option (Int32) :=
  (f_X3_membersWithout N x1 x1 x2 out).bind fun q1 =>
  some (f_X6_has q1 x2)
set_option maxHeartbeats 4000000 in
set_option maxRecDepth 100000 in
theorem c_X3_isNeedless {l : Launch} {D : va_G} {cI cZ cN cC : ClassId} {h0 h1 h2 h3 : Nat} {pts : Int32} {wrk : Int32} {out : (Nat → Int32)} {mem : (Nat → Int32)} {abv : (Nat → Int32)} {x1 : Int32} {x2 : Int32} {N : Nat} {res : Int32} (hf : f_X3_isNeedless N x1 x2 out = some res) : xMet l D (xtys cI cZ cN cC) yX3_isNeedless cX3_isNeedless 3 (some .boolean) 3 68 [.ref h0, .int x1, .int x2] (wNet cI cZ cN cC h0 h1 h2 h3 pts wrk out mem abv) (wNet cI cZ cN cC h0 h1 h2 h3 pts wrk out mem abv) (some (.int res)) := by
  refine x_enter (by decide) (Nat.le_of_ble_eq_true rfl) ?_
  intro p e s m args below meth c E ls hl hw
  have E : xE p s m args meth c cX3_isNeedless 3 (some .boolean) RX3 D (xtys cI cZ cN cC) (xA (wNet cI cZ cN cC h0 h1 h2 h3 pts wrk out mem abv)) := E
  obtain ⟨hx, hb, -⟩ := id E
  have hl : lv_has ls 3 [(0, .ref h0), (1, .int x1), (2, .int x2)] := hl
  unfold f_X3_isNeedless at hf
  refine lv_aload_n hx hb dX3_isNeedless_0 rfl (lv_at hl 0 rfl) ?_
  refine lv_iload_n hx hb dX3_isNeedless_1 rfl (lv_at hl 1 rfl) ?_
  refine lv_iload_n hx hb dX3_isNeedless_2 rfl (lv_at hl 1 rfl) ?_
  refine lv_iload_n hx hb dX3_isNeedless_3 rfl (lv_at hl 2 rfl) ?_
  obtain ⟨q1, hq1, hf⟩ := Option.bind_eq_some_iff.mp hf
  refine x_callVI (ws' := (wNet cI cZ cN cC h0 h1 h2 h3 pts wrk out mem abv)) (st1 := [.int q1]) (As := [.int x1, .int x1, .int x2]) (rest := []) E hw vc_X3_95 (c_X3_membersWithout (cI := cI) (cZ := cZ) (cN := cN) (cC := cC) (h0 := h0) (h1 := h1) (h2 := h2) (h3 := h3)  (pts := pts) (wrk := wrk) (out := out) (mem := mem) (abv := abv) (x1 := x1) (x2 := x1) (x3 := x2) hq1) 0 3 rfl rfl rfl rfl rfl ⟨Nat.le_of_ble_eq_true rfl, Nat.le_of_ble_eq_true rfl⟩ ⟨Nat.le_refl _, Nat.le_refl _⟩ hl.1 rfl rfl (Nat.le_of_ble_eq_true rfl) dX3_isNeedless_4 (fun H locs hw => ?_)
  refine lv_iload_n hx hb dX3_isNeedless_7 rfl (lv_at hl 2 rfl) ?_
  refine x_callN (isC := []) (ws' := (wNet cI cZ cN cC h0 h1 h2 h3 pts wrk out mem abv)) (st1 := [.int (f_X6_has q1 x2)]) (As := [.int q1, .int x2]) (rest := []) E hw vc_X3_44 (c_X6_has (cI := cI) (cZ := cZ) (cN := cN) (cC := cC)    (x0 := q1) (x1 := x2) rfl) rfl rfl rfl rfl rfl rfl ⟨Nat.le_of_ble_eq_true rfl, Nat.le_of_ble_eq_true rfl⟩ ⟨Nat.le_refl _, Nat.le_refl _⟩ hl.1 rfl rfl (Nat.le_of_ble_eq_true rfl) dX3_isNeedless_8 (fun H locs hw => ?_)
  have hf := Option.some.inj hf; subst hf
  exact x_zret E hw (xz_n z_X6_has) dX3_isNeedless_11

def f_X3_needlessArcs_14 (k4 : Int32 → Int32 → Option (Int32)) (N : Nat) (x2 : Int32) (pts : Int32) (out : (Nat → Int32)) : Nat → Int32 → Int32 → Option (Int32)
  | 0, _, _ => none
  | n + 1, x1, x3 =>
    if pts ≤ x3 then
     k4 x1 (x2 + 1)
    else
     (f_X3_hasArc x2 x3 out).bind fun q3 =>
     if q3 = 0 then
      f_X3_needlessArcs_14 k4 N x2 pts out n x1 (x3 + 1)
     else
      (f_X3_isNeedless N x2 x3 out).bind fun q5 =>
      if q5 = 0 then
       f_X3_needlessArcs_14 k4 N x2 pts out n x1 (x3 + 1)
      else
       f_X3_needlessArcs_14 k4 N x2 pts out n (x1 + 1) (x3 + 1)
set_option maxHeartbeats 4000000 in
set_option maxRecDepth 100000 in
theorem b_X3_needlessArcs_14 {p : Program} {l : Launch} {e : Env} {s : State} {m : MethodId} {args : Array Value} {below : List Frame} {meth : Method} {c : Code} {D : va_G} {cI cZ cN cC : ClassId} {ws0 : va_W} {h0 h1 h2 h3 : Nat} {x2 : Int32} {pts : Int32} {wrk : Int32} {out : (Nat → Int32)} {mem : (Nat → Int32)} {abv : (Nat → Int32)} {N : Nat} {res : Int32} (E : xE p s m args meth c cX3_needlessArcs 4 (some .int) RX3 D (xtys cI cZ cN cC) (xA ws0)) {k4 : Int32 → Int32 → Option (Int32)} (hk4 : ∀ (x1 : Int32) (x2 : Int32), k4 x1 x2 = some res → ∀ (H : Heap) (locs : List Loc) (ls : Array Slot), xw D (xA ws0) s.heap (wNet cI cZ cN cC h0 h1 h2 h3 pts wrk out mem abv) H locs → lv_has ls 4 [(0, .ref h0), (1, .int x1), (2, .int x2)] → xG p l e 4 90 s m args below meth c D ws0 (wNet cI cZ cN cC h0 h1 h2 h3 pts wrk out mem abv) (some (.int res)) H locs (F0 m 4 ls [])) : ∀ (n : Nat) (x1 : Int32) (x3 : Int32), f_X3_needlessArcs_14 k4 N x2 pts out n x1 x3 = some res → ∀ (H : Heap) (locs : List Loc) (ls : Array Slot), xw D (xA ws0) s.heap (wNet cI cZ cN cC h0 h1 h2 h3 pts wrk out mem abv) H locs → lv_has ls 4 [(0, .ref h0), (1, .int x1), (2, .int x2), (3, .int x3)] → xG p l e 4 90 s m args below meth c D ws0 (wNet cI cZ cN cC h0 h1 h2 h3 pts wrk out mem abv) (some (.int res)) H locs (F0 m 14 ls []) := by
  obtain ⟨hx, hb, -⟩ := id E
  intro n
  induction n with
  | zero =>
    intro _ _ hf
    rw [f_X3_needlessArcs_14] at hf; cases hf
  | succ n ih =>
    intro x1 x3 hf H locs ls hw hl
    rw [f_X3_needlessArcs_14] at hf
    refine lv_iload_n hx hb dX3_needlessArcs_14 rfl (lv_at hl 3 rfl) ?_
    refine lv_aload_n hx hb dX3_needlessArcs_15 rfl (lv_at hl 0 rfl) ?_
    refine x_get E hw kin_X3 0 rfl rfl 0 (by decide) kF_X3_25 (v := .int pts) rfl dX3_needlessArcs_16 ?_
    refine lv_icmp_ge (tgt := 49) hx hb dX3_needlessArcs_19 (by decide) (fun c2 => ?_) (fun c2 => ?_)
    · rw [if_pos c2] at hf
      refine lv_iinc (v := (x2 + 1)) (lv' := [(2, .int (x2 + 1)), (0, .ref h0), (1, .int x1), (3, .int x3)]) hx hb dX3_needlessArcs_49 hl (k := 2) rfl rfl (by decide) rfl (fun ls hl => ?_)
      refine lv_goto (tgt := 4) hx hb dX3_needlessArcs_52 (by decide) ?_
      exact hk4 _ _ hf _ _ _ hw (lv_sub hl [1, 2, 0] rfl)
    · rw [if_neg c2] at hf
      refine lv_aload_n hx hb dX3_needlessArcs_22 rfl (lv_at hl 0 rfl) ?_
      refine lv_iload_n hx hb dX3_needlessArcs_23 rfl (lv_at hl 2 rfl) ?_
      refine lv_iload_n hx hb dX3_needlessArcs_24 rfl (lv_at hl 3 rfl) ?_
      obtain ⟨q3, hq3, hf⟩ := Option.bind_eq_some_iff.mp hf
      refine x_callVI (ws' := (wNet cI cZ cN cC h0 h1 h2 h3 pts wrk out mem abv)) (st1 := [.int q3]) (As := [.int x2, .int x3]) (rest := []) E hw vc_X3_76 (c_X3_hasArc (cI := cI) (cZ := cZ) (cN := cN) (cC := cC) (h0 := h0) (h1 := h1) (h2 := h2) (h3 := h3)  (pts := pts) (wrk := wrk) (out := out) (mem := mem) (abv := abv) (x1 := x2) (x2 := x3) hq3) 0 3 rfl rfl rfl rfl rfl ⟨Nat.le_of_ble_eq_true rfl, Nat.le_of_ble_eq_true rfl⟩ ⟨Nat.le_refl _, Nat.le_refl _⟩ hl.1 rfl rfl (Nat.le_of_ble_eq_true rfl) dX3_needlessArcs_25 (fun H locs hw => ?_)
      refine lv_if_eq (tgt := 43) hx hb dX3_needlessArcs_28 (by decide) (fun c4 => ?_) (fun c4 => ?_)
      · rw [if_pos c4] at hf
        refine lv_iinc (v := (x3 + 1)) (lv' := [(3, .int (x3 + 1)), (0, .ref h0), (1, .int x1), (2, .int x2)]) hx hb dX3_needlessArcs_43 hl (k := 3) rfl rfl (by decide) rfl (fun ls hl => ?_)
        refine lv_goto (tgt := 14) hx hb dX3_needlessArcs_46 (by decide) ?_
        exact ih _ _ hf _ _ _ hw (lv_sub hl [1, 2, 3, 0] rfl)
      · rw [if_neg c4] at hf
        refine lv_aload_n hx hb dX3_needlessArcs_31 rfl (lv_at hl 0 rfl) ?_
        refine lv_iload_n hx hb dX3_needlessArcs_32 rfl (lv_at hl 2 rfl) ?_
        refine lv_iload_n hx hb dX3_needlessArcs_33 rfl (lv_at hl 3 rfl) ?_
        obtain ⟨q5, hq5, hf⟩ := Option.bind_eq_some_iff.mp hf
        refine x_callVI (ws' := (wNet cI cZ cN cC h0 h1 h2 h3 pts wrk out mem abv)) (st1 := [.int q5]) (As := [.int x2, .int x3]) (rest := []) E hw vc_X3_99 (c_X3_isNeedless (cI := cI) (cZ := cZ) (cN := cN) (cC := cC) (h0 := h0) (h1 := h1) (h2 := h2) (h3 := h3)  (pts := pts) (wrk := wrk) (out := out) (mem := mem) (abv := abv) (x1 := x2) (x2 := x3) hq5) 0 3 rfl rfl rfl rfl rfl ⟨Nat.le_of_ble_eq_true rfl, Nat.le_of_ble_eq_true rfl⟩ ⟨Nat.le_refl _, Nat.le_refl _⟩ hl.1 rfl rfl (Nat.le_of_ble_eq_true rfl) dX3_needlessArcs_34 (fun H locs hw => ?_)
        refine lv_if_eq (tgt := 43) hx hb dX3_needlessArcs_37 (by decide) (fun c6 => ?_) (fun c6 => ?_)
        · rw [if_pos c6] at hf
          refine lv_iinc (v := (x3 + 1)) (lv' := [(3, .int (x3 + 1)), (0, .ref h0), (1, .int x1), (2, .int x2)]) hx hb dX3_needlessArcs_43 hl (k := 3) rfl rfl (by decide) rfl (fun ls hl => ?_)
          refine lv_goto (tgt := 14) hx hb dX3_needlessArcs_46 (by decide) ?_
          exact ih _ _ hf _ _ _ hw (lv_sub hl [1, 2, 3, 0] rfl)
        · rw [if_neg c6] at hf
          refine lv_iinc (v := (x1 + 1)) (lv' := [(1, .int (x1 + 1)), (0, .ref h0), (2, .int x2), (3, .int x3)]) hx hb dX3_needlessArcs_40 hl (k := 1) rfl rfl (by decide) rfl (fun ls hl => ?_)
          refine lv_iinc (v := (x3 + 1)) (lv' := [(3, .int (x3 + 1)), (1, .int (x1 + 1)), (0, .ref h0), (2, .int x2)]) hx hb dX3_needlessArcs_43 hl (k := 3) rfl rfl (by decide) rfl (fun ls hl => ?_)
          refine lv_goto (tgt := 14) hx hb dX3_needlessArcs_46 (by decide) ?_
          exact ih _ _ hf _ _ _ hw (lv_sub hl [2, 1, 3, 0] rfl)
def f_X3_needlessArcs_4 (N : Nat) (pts : Int32) (out : (Nat → Int32)) : Nat → Int32 → Int32 → Option (Int32)
  | 0, _, _ => none
  | n + 1, x1, x2 =>
    if pts ≤ x2 then
     some x1
    else
     f_X3_needlessArcs_14 (fun x1 x2 => f_X3_needlessArcs_4 N pts out n x1 x2) N x2 pts out N x1 0
set_option maxHeartbeats 4000000 in
set_option maxRecDepth 100000 in
theorem b_X3_needlessArcs_4 {p : Program} {l : Launch} {e : Env} {s : State} {m : MethodId} {args : Array Value} {below : List Frame} {meth : Method} {c : Code} {D : va_G} {cI cZ cN cC : ClassId} {ws0 : va_W} {h0 h1 h2 h3 : Nat} {pts : Int32} {wrk : Int32} {out : (Nat → Int32)} {mem : (Nat → Int32)} {abv : (Nat → Int32)} {N : Nat} {res : Int32} (E : xE p s m args meth c cX3_needlessArcs 4 (some .int) RX3 D (xtys cI cZ cN cC) (xA ws0)) : ∀ (n : Nat) (x1 : Int32) (x2 : Int32), f_X3_needlessArcs_4 N pts out n x1 x2 = some res → ∀ (H : Heap) (locs : List Loc) (ls : Array Slot), xw D (xA ws0) s.heap (wNet cI cZ cN cC h0 h1 h2 h3 pts wrk out mem abv) H locs → lv_has ls 4 [(0, .ref h0), (1, .int x1), (2, .int x2)] → xG p l e 4 90 s m args below meth c D ws0 (wNet cI cZ cN cC h0 h1 h2 h3 pts wrk out mem abv) (some (.int res)) H locs (F0 m 4 ls []) := by
  obtain ⟨hx, hb, -⟩ := id E
  intro n
  induction n with
  | zero =>
    intro _ _ hf
    rw [f_X3_needlessArcs_4] at hf; cases hf
  | succ n ih =>
    intro x1 x2 hf H locs ls hw hl
    rw [f_X3_needlessArcs_4] at hf
    refine lv_iload_n hx hb dX3_needlessArcs_4 rfl (lv_at hl 2 rfl) ?_
    refine lv_aload_n hx hb dX3_needlessArcs_5 rfl (lv_at hl 0 rfl) ?_
    refine x_get E hw kin_X3 0 rfl rfl 0 (by decide) kF_X3_25 (v := .int pts) rfl dX3_needlessArcs_6 ?_
    refine lv_icmp_ge (tgt := 55) hx hb dX3_needlessArcs_9 (by decide) (fun c1 => ?_) (fun c1 => ?_)
    · rw [if_pos c1] at hf
      refine lv_iload_n hx hb dX3_needlessArcs_55 rfl (lv_at hl 1 rfl) ?_
      have hf := Option.some.inj hf; subst hf
      exact x_iret E hw dX3_needlessArcs_56
    · rw [if_neg c1] at hf
      refine lv_iconst (v := 0) hx hb dX3_needlessArcs_12 (by decide) ?_
      refine lv_istore_n (lv' := [(3, .int 0), (0, .ref h0), (1, .int x1), (2, .int x2)]) hx hb dX3_needlessArcs_13 rfl hl (by decide) rfl (fun ls hl => ?_)
      exact b_X3_needlessArcs_14 E ih N _ _ hf _ _ _ hw (lv_sub hl [1, 2, 3, 0] rfl)
def f_X3_needlessArcs (N : Nat) (pts : Int32) (out : (Nat → Int32)) : Option (Int32) :=
  f_X3_needlessArcs_4 N pts out N 0 0
set_option maxHeartbeats 4000000 in
set_option maxRecDepth 100000 in
theorem c_X3_needlessArcs {l : Launch} {D : va_G} {cI cZ cN cC : ClassId} {h0 h1 h2 h3 : Nat} {pts : Int32} {wrk : Int32} {out : (Nat → Int32)} {mem : (Nat → Int32)} {abv : (Nat → Int32)}  {N : Nat} {res : Int32} (hf : f_X3_needlessArcs N pts out = some res) : xMet l D (xtys cI cZ cN cC) yX3_needlessArcs cX3_needlessArcs 4 (some .int) 4 90 [.ref h0] (wNet cI cZ cN cC h0 h1 h2 h3 pts wrk out mem abv) (wNet cI cZ cN cC h0 h1 h2 h3 pts wrk out mem abv) (some (.int res)) := by
  refine x_enter (by decide) (Nat.le_of_ble_eq_true rfl) ?_
  intro p e s m args below meth c E ls hl hw
  have E : xE p s m args meth c cX3_needlessArcs 4 (some .int) RX3 D (xtys cI cZ cN cC) (xA (wNet cI cZ cN cC h0 h1 h2 h3 pts wrk out mem abv)) := E
  obtain ⟨hx, hb, -⟩ := id E
  have hl : lv_has ls 4 [(0, .ref h0)] := hl
  unfold f_X3_needlessArcs at hf
  refine lv_iconst (v := 0) hx hb dX3_needlessArcs_0 (by decide) ?_
  refine lv_istore_n (lv' := [(1, .int 0), (0, .ref h0)]) hx hb dX3_needlessArcs_1 rfl hl (by decide) rfl (fun ls hl => ?_)
  refine lv_iconst (v := 0) hx hb dX3_needlessArcs_2 (by decide) ?_
  refine lv_istore_n (lv' := [(2, .int 0), (1, .int 0), (0, .ref h0)]) hx hb dX3_needlessArcs_3 rfl hl (by decide) rfl (fun ls hl => ?_)
  exact b_X3_needlessArcs_4 E N _ _ hf _ _ _ hw (lv_sub hl [2, 1, 0] rfl)

def f_X3_pairsLost_5 (N : Nat) (x1 : Int32) (x2 : Int32) (pts : Int32) (out : (Nat → Int32)) (mem : (Nat → Int32)) (abv : (Nat → Int32)) : Nat → Int32 → Int32 → Option (Int32)
  | 0, _, _ => none
  | n + 1, x3, x4 =>
    if pts ≤ x4 then
     some x3
    else
     (f_X3_aboveOf x4 x2 abv).bind fun q2 =>
     if q2 = x1 then
      if xin x4 10 then
      (f_X3_membersWithout N x4 x1 x2 out).bind fun q5 =>
      f_X3_pairsLost_5 N x1 x2 pts out mem abv n (x3 + (f_J6_bitCount_0f7a4 ((mem (Int32.toNatClampNeg x4)) &&& (q5 ^^^ (-1))))) (x4 + 1)
      else none
     else
      f_X3_pairsLost_5 N x1 x2 pts out mem abv n x3 (x4 + 1)
set_option maxHeartbeats 4000000 in
set_option maxRecDepth 100000 in
theorem b_X3_pairsLost_5 {p : Program} {l : Launch} {e : Env} {s : State} {m : MethodId} {args : Array Value} {below : List Frame} {meth : Method} {c : Code} {D : va_G} {cI cZ cN cC : ClassId} {ws0 : va_W} {h0 h1 h2 h3 : Nat} {x1 : Int32} {x2 : Int32} {pts : Int32} {wrk : Int32} {out : (Nat → Int32)} {mem : (Nat → Int32)} {abv : (Nat → Int32)} {N : Nat} {res : Int32} (E : xE p s m args meth c cX3_pairsLost 5 (some .int) RX3 D (xtys cI cZ cN cC) (xA ws0)) : ∀ (n : Nat) (x3 : Int32) (x4 : Int32), f_X3_pairsLost_5 N x1 x2 pts out mem abv n x3 x4 = some res → ∀ (H : Heap) (locs : List Loc) (ls : Array Slot), xw D (xA ws0) s.heap (wNet cI cZ cN cC h0 h1 h2 h3 pts wrk out mem abv) H locs → lv_has ls 5 [(0, .ref h0), (1, .int x1), (2, .int x2), (3, .int x3), (4, .int x4)] → xG p l e 3 68 s m args below meth c D ws0 (wNet cI cZ cN cC h0 h1 h2 h3 pts wrk out mem abv) (some (.int res)) H locs (F0 m 5 ls []) := by
  obtain ⟨hx, hb, -⟩ := id E
  intro n
  induction n with
  | zero =>
    intro _ _ hf
    rw [f_X3_pairsLost_5] at hf; cases hf
  | succ n ih =>
    intro x3 x4 hf H locs ls hw hl
    rw [f_X3_pairsLost_5] at hf
    refine lv_iload hx hb dX3_pairsLost_5 (lv_at hl 4 rfl) ?_
    refine lv_aload_n hx hb dX3_pairsLost_7 rfl (lv_at hl 0 rfl) ?_
    refine x_get E hw kin_X3 0 rfl rfl 0 (by decide) kF_X3_25 (v := .int pts) rfl dX3_pairsLost_8 ?_
    refine lv_icmp_ge (tgt := 55) hx hb dX3_pairsLost_11 (by decide) (fun c1 => ?_) (fun c1 => ?_)
    · rw [if_pos c1] at hf
      refine lv_iload_n hx hb dX3_pairsLost_55 rfl (lv_at hl 3 rfl) ?_
      have hf := Option.some.inj hf; subst hf
      exact x_iret E hw dX3_pairsLost_56
    · rw [if_neg c1] at hf
      refine lv_aload_n hx hb dX3_pairsLost_14 rfl (lv_at hl 0 rfl) ?_
      refine lv_iload hx hb dX3_pairsLost_15 (lv_at hl 4 rfl) ?_
      refine lv_iload_n hx hb dX3_pairsLost_17 rfl (lv_at hl 2 rfl) ?_
      obtain ⟨q2, hq2, hf⟩ := Option.bind_eq_some_iff.mp hf
      refine x_callVI (ws' := (wNet cI cZ cN cC h0 h1 h2 h3 pts wrk out mem abv)) (st1 := [.int q2]) (As := [.int x4, .int x2]) (rest := []) E hw vc_X3_62 (c_X3_aboveOf (cI := cI) (cZ := cZ) (cN := cN) (cC := cC) (h0 := h0) (h1 := h1) (h2 := h2) (h3 := h3)  (pts := pts) (wrk := wrk) (out := out) (mem := mem) (abv := abv) (x1 := x4) (x2 := x2) hq2) 0 3 rfl rfl rfl rfl rfl ⟨Nat.le_of_ble_eq_true rfl, Nat.le_of_ble_eq_true rfl⟩ ⟨Nat.le_refl _, Nat.le_refl _⟩ hl.1 rfl rfl (Nat.le_of_ble_eq_true rfl) dX3_pairsLost_18 (fun H locs hw => ?_)
      refine lv_iload_n hx hb dX3_pairsLost_21 rfl (lv_at hl 1 rfl) ?_
      refine lv_icmp_ne (tgt := 49) hx hb dX3_pairsLost_22 (by decide) (fun c3 => ?_) (fun c3 => ?_)
      · rw [if_neg c3] at hf
        refine lv_iinc (v := (x4 + 1)) (lv' := [(4, .int (x4 + 1)), (0, .ref h0), (1, .int x1), (2, .int x2), (3, .int x3)]) hx hb dX3_pairsLost_49 hl (k := 4) rfl rfl (by decide) rfl (fun ls hl => ?_)
        refine lv_goto (tgt := 5) hx hb dX3_pairsLost_52 (by decide) ?_
        exact ih _ _ hf _ _ _ hw (lv_sub hl [1, 2, 3, 4, 0] rfl)
      · rw [if_pos c3] at hf
        refine lv_iload_n hx hb dX3_pairsLost_25 rfl (lv_at hl 3 rfl) ?_
        refine lv_aload_n hx hb dX3_pairsLost_26 rfl (lv_at hl 0 rfl) ?_
        refine x_get E hw kin_X3 0 rfl rfl 3 (by decide) kF_X3_15 (v := .ref h2) rfl dX3_pairsLost_27 ?_
        refine lv_iload hx hb dX3_pairsLost_30 (lv_at hl 4 rfl) ?_
        obtain ⟨g4, hf⟩ := xgd hf
        refine x_iald E hw 2 0 rfl rfl (xin_vp g4) dX3_pairsLost_32 ?_
        refine lv_aload_n hx hb dX3_pairsLost_33 rfl (lv_at hl 0 rfl) ?_
        refine lv_iload hx hb dX3_pairsLost_34 (lv_at hl 4 rfl) ?_
        refine lv_iload_n hx hb dX3_pairsLost_36 rfl (lv_at hl 1 rfl) ?_
        refine lv_iload_n hx hb dX3_pairsLost_37 rfl (lv_at hl 2 rfl) ?_
        obtain ⟨q5, hq5, hf⟩ := Option.bind_eq_some_iff.mp hf
        refine x_callVI (ws' := (wNet cI cZ cN cC h0 h1 h2 h3 pts wrk out mem abv)) (st1 := [.int q5, .int (mem (Int32.toNatClampNeg x4)), .int x3]) (As := [.int x4, .int x1, .int x2]) (rest := [.int (mem (Int32.toNatClampNeg x4)), .int x3]) E hw vc_X3_95 (c_X3_membersWithout (cI := cI) (cZ := cZ) (cN := cN) (cC := cC) (h0 := h0) (h1 := h1) (h2 := h2) (h3 := h3)  (pts := pts) (wrk := wrk) (out := out) (mem := mem) (abv := abv) (x1 := x4) (x2 := x1) (x3 := x2) hq5) 0 3 rfl rfl rfl rfl rfl ⟨Nat.le_of_ble_eq_true rfl, Nat.le_of_ble_eq_true rfl⟩ ⟨Nat.le_refl _, Nat.le_refl _⟩ hl.1 rfl rfl (Nat.le_of_ble_eq_true rfl) dX3_pairsLost_38 (fun H locs hw => ?_)
        refine lv_iconst (v := (-1)) hx hb dX3_pairsLost_41 (by decide) ?_
        refine lv_ixor hx hb dX3_pairsLost_42 ?_
        refine lv_iand hx hb dX3_pairsLost_43 ?_
        refine x_callS (isC := []) (ws' := (wNet cI cZ cN cC h0 h1 h2 h3 pts wrk out mem abv)) (st1 := [.int (f_J6_bitCount_0f7a4 ((mem (Int32.toNatClampNeg x4)) &&& (q5 ^^^ (-1)))), .int x3]) (As := [.int ((mem (Int32.toNatClampNeg x4)) &&& (q5 ^^^ (-1)))]) (rest := [.int x3]) E hw vc_X3_56 (c_J6_bitCount_0f7a4 (cI := cI) (cZ := cZ) (cN := cN) (cC := cC)    (x0 := ((mem (Int32.toNatClampNeg x4)) &&& (q5 ^^^ (-1)))) rfl) rfl rfl rfl rfl rfl rfl ⟨Nat.le_of_ble_eq_true rfl, Nat.le_of_ble_eq_true rfl⟩ ⟨Nat.le_refl _, Nat.le_refl _⟩ hl.1 rfl rfl (Nat.le_of_ble_eq_true rfl) dX3_pairsLost_44 (fun H locs hw => ?_)
        refine lv_iadd hx hb dX3_pairsLost_47 ?_
        refine lv_istore_n (lv' := [(3, .int (x3 + (f_J6_bitCount_0f7a4 ((mem (Int32.toNatClampNeg x4)) &&& (q5 ^^^ (-1)))))), (0, .ref h0), (1, .int x1), (2, .int x2), (4, .int x4)]) hx hb dX3_pairsLost_48 rfl hl (by decide) rfl (fun ls hl => ?_)
        refine lv_iinc (v := (x4 + 1)) (lv' := [(4, .int (x4 + 1)), (3, .int (x3 + (f_J6_bitCount_0f7a4 ((mem (Int32.toNatClampNeg x4)) &&& (q5 ^^^ (-1)))))), (0, .ref h0), (1, .int x1), (2, .int x2)]) hx hb dX3_pairsLost_49 hl (k := 4) rfl rfl (by decide) rfl (fun ls hl => ?_)
        refine lv_goto (tgt := 5) hx hb dX3_pairsLost_52 (by decide) ?_
        exact ih _ _ hf _ _ _ hw (lv_sub hl [2, 3, 4, 1, 0] rfl)
def f_X3_pairsLost (N : Nat) (x1 : Int32) (x2 : Int32) (pts : Int32) (out : (Nat → Int32)) (mem : (Nat → Int32)) (abv : (Nat → Int32)) : Option (Int32) :=
  f_X3_pairsLost_5 N x1 x2 pts out mem abv N 0 0
set_option maxHeartbeats 4000000 in
set_option maxRecDepth 100000 in
theorem c_X3_pairsLost {l : Launch} {D : va_G} {cI cZ cN cC : ClassId} {h0 h1 h2 h3 : Nat} {pts : Int32} {wrk : Int32} {out : (Nat → Int32)} {mem : (Nat → Int32)} {abv : (Nat → Int32)} {x1 : Int32} {x2 : Int32} {N : Nat} {res : Int32} (hf : f_X3_pairsLost N x1 x2 pts out mem abv = some res) : xMet l D (xtys cI cZ cN cC) yX3_pairsLost cX3_pairsLost 5 (some .int) 3 68 [.ref h0, .int x1, .int x2] (wNet cI cZ cN cC h0 h1 h2 h3 pts wrk out mem abv) (wNet cI cZ cN cC h0 h1 h2 h3 pts wrk out mem abv) (some (.int res)) := by
  refine x_enter (by decide) (Nat.le_of_ble_eq_true rfl) ?_
  intro p e s m args below meth c E ls hl hw
  have E : xE p s m args meth c cX3_pairsLost 5 (some .int) RX3 D (xtys cI cZ cN cC) (xA (wNet cI cZ cN cC h0 h1 h2 h3 pts wrk out mem abv)) := E
  obtain ⟨hx, hb, -⟩ := id E
  have hl : lv_has ls 5 [(0, .ref h0), (1, .int x1), (2, .int x2)] := hl
  unfold f_X3_pairsLost at hf
  refine lv_iconst (v := 0) hx hb dX3_pairsLost_0 (by decide) ?_
  refine lv_istore_n (lv' := [(3, .int 0), (0, .ref h0), (1, .int x1), (2, .int x2)]) hx hb dX3_pairsLost_1 rfl hl (by decide) rfl (fun ls hl => ?_)
  refine lv_iconst (v := 0) hx hb dX3_pairsLost_2 (by decide) ?_
  refine lv_istore (lv' := [(4, .int 0), (3, .int 0), (0, .ref h0), (1, .int x1), (2, .int x2)]) hx hb dX3_pairsLost_3 hl (by decide) rfl (fun ls hl => ?_)
  exact b_X3_pairsLost_5 E N _ _ hf _ _ _ hw (lv_sub hl [2, 3, 4, 1, 0] rfl)

def f_X3_newMembers (x1 : Int32) (x2 : Int32) (x3 : Int32) (mem : (Nat → Int32)) : Option (Int32) :=
  (f_X3_comesTo x1 x2 mem).bind fun q1 =>
  if q1 = 0 then
   some 0
  else
   if xin x3 10 then
   if xin x1 10 then
   some ((mem (Int32.toNatClampNeg x3)) &&& ((mem (Int32.toNatClampNeg x1)) ^^^ (-1)))
   else none
   else none
set_option maxHeartbeats 4000000 in
set_option maxRecDepth 100000 in
theorem c_X3_newMembers {l : Launch} {D : va_G} {cI cZ cN cC : ClassId} {h0 h1 h2 h3 : Nat} {pts : Int32} {wrk : Int32} {out : (Nat → Int32)} {mem : (Nat → Int32)} {abv : (Nat → Int32)} {x1 : Int32} {x2 : Int32} {x3 : Int32} {res : Int32} (hf : f_X3_newMembers x1 x2 x3 mem = some res) : xMet l D (xtys cI cZ cN cC) yX3_newMembers cX3_newMembers 4 (some .int) 2 43 [.ref h0, .int x1, .int x2, .int x3] (wNet cI cZ cN cC h0 h1 h2 h3 pts wrk out mem abv) (wNet cI cZ cN cC h0 h1 h2 h3 pts wrk out mem abv) (some (.int res)) := by
  refine x_enter (by decide) (Nat.le_of_ble_eq_true rfl) ?_
  intro p e s m args below meth c E ls hl hw
  have E : xE p s m args meth c cX3_newMembers 4 (some .int) RX3 D (xtys cI cZ cN cC) (xA (wNet cI cZ cN cC h0 h1 h2 h3 pts wrk out mem abv)) := E
  obtain ⟨hx, hb, -⟩ := id E
  have hl : lv_has ls 4 [(0, .ref h0), (1, .int x1), (2, .int x2), (3, .int x3)] := hl
  unfold f_X3_newMembers at hf
  refine lv_aload_n hx hb dX3_newMembers_0 rfl (lv_at hl 0 rfl) ?_
  refine lv_iload_n hx hb dX3_newMembers_1 rfl (lv_at hl 1 rfl) ?_
  refine lv_iload_n hx hb dX3_newMembers_2 rfl (lv_at hl 2 rfl) ?_
  obtain ⟨q1, hq1, hf⟩ := Option.bind_eq_some_iff.mp hf
  refine x_callVI (ws' := (wNet cI cZ cN cC h0 h1 h2 h3 pts wrk out mem abv)) (st1 := [.int q1]) (As := [.int x1, .int x2]) (rest := []) E hw vc_X3_65 (c_X3_comesTo (cI := cI) (cZ := cZ) (cN := cN) (cC := cC) (h0 := h0) (h1 := h1) (h2 := h2) (h3 := h3)  (pts := pts) (wrk := wrk) (out := out) (mem := mem) (abv := abv) (x1 := x1) (x2 := x2) hq1) 0 3 rfl rfl rfl rfl rfl ⟨Nat.le_of_ble_eq_true rfl, Nat.le_of_ble_eq_true rfl⟩ ⟨Nat.le_refl _, Nat.le_refl _⟩ hl.1 rfl rfl (Nat.le_of_ble_eq_true rfl) dX3_newMembers_3 (fun H locs hw => ?_)
  refine lv_if_eq (tgt := 27) hx hb dX3_newMembers_6 (by decide) (fun c2 => ?_) (fun c2 => ?_)
  · rw [if_pos c2] at hf
    refine lv_iconst (v := 0) hx hb dX3_newMembers_27 (by decide) ?_
    have hf := Option.some.inj hf; subst hf
    exact x_iret E hw dX3_newMembers_28
  · rw [if_neg c2] at hf
    refine lv_aload_n hx hb dX3_newMembers_9 rfl (lv_at hl 0 rfl) ?_
    refine x_get E hw kin_X3 0 rfl rfl 3 (by decide) kF_X3_15 (v := .ref h2) rfl dX3_newMembers_10 ?_
    refine lv_iload_n hx hb dX3_newMembers_13 rfl (lv_at hl 3 rfl) ?_
    obtain ⟨g3, hf⟩ := xgd hf
    refine x_iald E hw 2 0 rfl rfl (xin_vp g3) dX3_newMembers_14 ?_
    refine lv_aload_n hx hb dX3_newMembers_15 rfl (lv_at hl 0 rfl) ?_
    refine x_get E hw kin_X3 0 rfl rfl 3 (by decide) kF_X3_15 (v := .ref h2) rfl dX3_newMembers_16 ?_
    refine lv_iload_n hx hb dX3_newMembers_19 rfl (lv_at hl 1 rfl) ?_
    obtain ⟨g4, hf⟩ := xgd hf
    refine x_iald E hw 2 0 rfl rfl (xin_vp g4) dX3_newMembers_20 ?_
    refine lv_iconst (v := (-1)) hx hb dX3_newMembers_21 (by decide) ?_
    refine lv_ixor hx hb dX3_newMembers_22 ?_
    refine lv_iand hx hb dX3_newMembers_23 ?_
    refine lv_goto (tgt := 28) hx hb dX3_newMembers_24 (by decide) ?_
    have hf := Option.some.inj hf; subst hf
    exact x_iret E hw dX3_newMembers_28

def f_X3_pairsGained_5 (x1 : Int32) (x2 : Int32) (pts : Int32) (mem : (Nat → Int32)) : Nat → Int32 → Int32 → Option (Int32)
  | 0, _, _ => none
  | n + 1, x3, x4 =>
    if pts ≤ x4 then
     some x3
    else
     (f_X3_newMembers x4 x1 x2 mem).bind fun q2 =>
     f_X3_pairsGained_5 x1 x2 pts mem n (x3 + (f_J6_bitCount_0f7a4 q2)) (x4 + 1)
set_option maxHeartbeats 4000000 in
set_option maxRecDepth 100000 in
theorem b_X3_pairsGained_5 {p : Program} {l : Launch} {e : Env} {s : State} {m : MethodId} {args : Array Value} {below : List Frame} {meth : Method} {c : Code} {D : va_G} {cI cZ cN cC : ClassId} {ws0 : va_W} {h0 h1 h2 h3 : Nat} {x1 : Int32} {x2 : Int32} {pts : Int32} {wrk : Int32} {out : (Nat → Int32)} {mem : (Nat → Int32)} {abv : (Nat → Int32)} {res : Int32} (E : xE p s m args meth c cX3_pairsGained 5 (some .int) RX3 D (xtys cI cZ cN cC) (xA ws0)) : ∀ (n : Nat) (x3 : Int32) (x4 : Int32), f_X3_pairsGained_5 x1 x2 pts mem n x3 x4 = some res → ∀ (H : Heap) (locs : List Loc) (ls : Array Slot), xw D (xA ws0) s.heap (wNet cI cZ cN cC h0 h1 h2 h3 pts wrk out mem abv) H locs → lv_has ls 5 [(0, .ref h0), (1, .int x1), (2, .int x2), (3, .int x3), (4, .int x4)] → xG p l e 3 66 s m args below meth c D ws0 (wNet cI cZ cN cC h0 h1 h2 h3 pts wrk out mem abv) (some (.int res)) H locs (F0 m 5 ls []) := by
  obtain ⟨hx, hb, -⟩ := id E
  intro n
  induction n with
  | zero =>
    intro _ _ hf
    rw [f_X3_pairsGained_5] at hf; cases hf
  | succ n ih =>
    intro x3 x4 hf H locs ls hw hl
    rw [f_X3_pairsGained_5] at hf
    refine lv_iload hx hb dX3_pairsGained_5 (lv_at hl 4 rfl) ?_
    refine lv_aload_n hx hb dX3_pairsGained_7 rfl (lv_at hl 0 rfl) ?_
    refine x_get E hw kin_X3 0 rfl rfl 0 (by decide) kF_X3_25 (v := .int pts) rfl dX3_pairsGained_8 ?_
    refine lv_icmp_ge (tgt := 34) hx hb dX3_pairsGained_11 (by decide) (fun c1 => ?_) (fun c1 => ?_)
    · rw [if_pos c1] at hf
      refine lv_iload_n hx hb dX3_pairsGained_34 rfl (lv_at hl 3 rfl) ?_
      have hf := Option.some.inj hf; subst hf
      exact x_iret E hw dX3_pairsGained_35
    · rw [if_neg c1] at hf
      refine lv_iload_n hx hb dX3_pairsGained_14 rfl (lv_at hl 3 rfl) ?_
      refine lv_aload_n hx hb dX3_pairsGained_15 rfl (lv_at hl 0 rfl) ?_
      refine lv_iload hx hb dX3_pairsGained_16 (lv_at hl 4 rfl) ?_
      refine lv_iload_n hx hb dX3_pairsGained_18 rfl (lv_at hl 1 rfl) ?_
      refine lv_iload_n hx hb dX3_pairsGained_19 rfl (lv_at hl 2 rfl) ?_
      obtain ⟨q2, hq2, hf⟩ := Option.bind_eq_some_iff.mp hf
      refine x_callVI (ws' := (wNet cI cZ cN cC h0 h1 h2 h3 pts wrk out mem abv)) (st1 := [.int q2, .int x3]) (As := [.int x4, .int x1, .int x2]) (rest := [.int x3]) E hw vc_X3_102 (c_X3_newMembers (cI := cI) (cZ := cZ) (cN := cN) (cC := cC) (h0 := h0) (h1 := h1) (h2 := h2) (h3 := h3)  (pts := pts) (wrk := wrk) (out := out) (mem := mem) (abv := abv) (x1 := x4) (x2 := x1) (x3 := x2) hq2) 0 3 rfl rfl rfl rfl rfl ⟨Nat.le_of_ble_eq_true rfl, Nat.le_of_ble_eq_true rfl⟩ ⟨Nat.le_refl _, Nat.le_refl _⟩ hl.1 rfl rfl (Nat.le_of_ble_eq_true rfl) dX3_pairsGained_20 (fun H locs hw => ?_)
      refine x_callS (isC := []) (ws' := (wNet cI cZ cN cC h0 h1 h2 h3 pts wrk out mem abv)) (st1 := [.int (f_J6_bitCount_0f7a4 q2), .int x3]) (As := [.int q2]) (rest := [.int x3]) E hw vc_X3_56 (c_J6_bitCount_0f7a4 (cI := cI) (cZ := cZ) (cN := cN) (cC := cC)    (x0 := q2) rfl) rfl rfl rfl rfl rfl rfl ⟨Nat.le_of_ble_eq_true rfl, Nat.le_of_ble_eq_true rfl⟩ ⟨Nat.le_refl _, Nat.le_refl _⟩ hl.1 rfl rfl (Nat.le_of_ble_eq_true rfl) dX3_pairsGained_23 (fun H locs hw => ?_)
      refine lv_iadd hx hb dX3_pairsGained_26 ?_
      refine lv_istore_n (lv' := [(3, .int (x3 + (f_J6_bitCount_0f7a4 q2))), (0, .ref h0), (1, .int x1), (2, .int x2), (4, .int x4)]) hx hb dX3_pairsGained_27 rfl hl (by decide) rfl (fun ls hl => ?_)
      refine lv_iinc (v := (x4 + 1)) (lv' := [(4, .int (x4 + 1)), (3, .int (x3 + (f_J6_bitCount_0f7a4 q2))), (0, .ref h0), (1, .int x1), (2, .int x2)]) hx hb dX3_pairsGained_28 hl (k := 4) rfl rfl (by decide) rfl (fun ls hl => ?_)
      refine lv_goto (tgt := 5) hx hb dX3_pairsGained_31 (by decide) ?_
      exact ih _ _ hf _ _ _ hw (lv_sub hl [2, 3, 4, 1, 0] rfl)
def f_X3_pairsGained (N : Nat) (x1 : Int32) (x2 : Int32) (pts : Int32) (mem : (Nat → Int32)) : Option (Int32) :=
  f_X3_pairsGained_5 x1 x2 pts mem N 0 0
set_option maxHeartbeats 4000000 in
set_option maxRecDepth 100000 in
theorem c_X3_pairsGained {l : Launch} {D : va_G} {cI cZ cN cC : ClassId} {h0 h1 h2 h3 : Nat} {pts : Int32} {wrk : Int32} {out : (Nat → Int32)} {mem : (Nat → Int32)} {abv : (Nat → Int32)} {x1 : Int32} {x2 : Int32} {N : Nat} {res : Int32} (hf : f_X3_pairsGained N x1 x2 pts mem = some res) : xMet l D (xtys cI cZ cN cC) yX3_pairsGained cX3_pairsGained 5 (some .int) 3 66 [.ref h0, .int x1, .int x2] (wNet cI cZ cN cC h0 h1 h2 h3 pts wrk out mem abv) (wNet cI cZ cN cC h0 h1 h2 h3 pts wrk out mem abv) (some (.int res)) := by
  refine x_enter (by decide) (Nat.le_of_ble_eq_true rfl) ?_
  intro p e s m args below meth c E ls hl hw
  have E : xE p s m args meth c cX3_pairsGained 5 (some .int) RX3 D (xtys cI cZ cN cC) (xA (wNet cI cZ cN cC h0 h1 h2 h3 pts wrk out mem abv)) := E
  obtain ⟨hx, hb, -⟩ := id E
  have hl : lv_has ls 5 [(0, .ref h0), (1, .int x1), (2, .int x2)] := hl
  unfold f_X3_pairsGained at hf
  refine lv_iconst (v := 0) hx hb dX3_pairsGained_0 (by decide) ?_
  refine lv_istore_n (lv' := [(3, .int 0), (0, .ref h0), (1, .int x1), (2, .int x2)]) hx hb dX3_pairsGained_1 rfl hl (by decide) rfl (fun ls hl => ?_)
  refine lv_iconst (v := 0) hx hb dX3_pairsGained_2 (by decide) ?_
  refine lv_istore (lv' := [(4, .int 0), (3, .int 0), (0, .ref h0), (1, .int x1), (2, .int x2)]) hx hb dX3_pairsGained_3 hl (by decide) rfl (fun ls hl => ?_)
  exact b_X3_pairsGained_5 E N _ _ hf _ _ _ hw (lv_sub hl [2, 3, 4, 1, 0] rfl)

def f_X3_workGained_5 (N : Nat) (x1 : Int32) (x2 : Int32) (pts : Int32) (out : (Nat → Int32)) (mem : (Nat → Int32)) : Nat → Int32 → Int32 → Option (Int32)
  | 0, _, _ => none
  | n + 1, x3, x4 =>
    if pts ≤ x4 then
     some x3
    else
     (f_X3_comesTo x4 x1 mem).bind fun q2 =>
     if q2 = 0 then
      f_X3_workGained_5 N x1 x2 pts out mem n x3 (x4 + 1)
     else
      (f_X3_newMembers x4 x1 x2 mem).bind fun q4 =>
      (f_X3_arcsBetween N q4 (f_X3_allPoints pts) pts out).bind fun q5 =>
      f_X3_workGained_5 N x1 x2 pts out mem n (x3 + (1 + q5)) (x4 + 1)
set_option maxHeartbeats 4000000 in
set_option maxRecDepth 100000 in
theorem b_X3_workGained_5 {p : Program} {l : Launch} {e : Env} {s : State} {m : MethodId} {args : Array Value} {below : List Frame} {meth : Method} {c : Code} {D : va_G} {cI cZ cN cC : ClassId} {ws0 : va_W} {h0 h1 h2 h3 : Nat} {x1 : Int32} {x2 : Int32} {pts : Int32} {wrk : Int32} {out : (Nat → Int32)} {mem : (Nat → Int32)} {abv : (Nat → Int32)} {N : Nat} {res : Int32} (E : xE p s m args meth c cX3_workGained 5 (some .int) RX3 D (xtys cI cZ cN cC) (xA ws0)) : ∀ (n : Nat) (x3 : Int32) (x4 : Int32), f_X3_workGained_5 N x1 x2 pts out mem n x3 x4 = some res → ∀ (H : Heap) (locs : List Loc) (ls : Array Slot), xw D (xA ws0) s.heap (wNet cI cZ cN cC h0 h1 h2 h3 pts wrk out mem abv) H locs → lv_has ls 5 [(0, .ref h0), (1, .int x1), (2, .int x2), (3, .int x3), (4, .int x4)] → xG p l e 3 66 s m args below meth c D ws0 (wNet cI cZ cN cC h0 h1 h2 h3 pts wrk out mem abv) (some (.int res)) H locs (F0 m 5 ls []) := by
  obtain ⟨hx, hb, -⟩ := id E
  intro n
  induction n with
  | zero =>
    intro _ _ hf
    rw [f_X3_workGained_5] at hf; cases hf
  | succ n ih =>
    intro x3 x4 hf H locs ls hw hl
    rw [f_X3_workGained_5] at hf
    refine lv_iload hx hb dX3_workGained_5 (lv_at hl 4 rfl) ?_
    refine lv_aload_n hx hb dX3_workGained_7 rfl (lv_at hl 0 rfl) ?_
    refine x_get E hw kin_X3 0 rfl rfl 0 (by decide) kF_X3_25 (v := .int pts) rfl dX3_workGained_8 ?_
    refine lv_icmp_ge (tgt := 51) hx hb dX3_workGained_11 (by decide) (fun c1 => ?_) (fun c1 => ?_)
    · rw [if_pos c1] at hf
      refine lv_iload_n hx hb dX3_workGained_51 rfl (lv_at hl 3 rfl) ?_
      have hf := Option.some.inj hf; subst hf
      exact x_iret E hw dX3_workGained_52
    · rw [if_neg c1] at hf
      refine lv_aload_n hx hb dX3_workGained_14 rfl (lv_at hl 0 rfl) ?_
      refine lv_iload hx hb dX3_workGained_15 (lv_at hl 4 rfl) ?_
      refine lv_iload_n hx hb dX3_workGained_17 rfl (lv_at hl 1 rfl) ?_
      obtain ⟨q2, hq2, hf⟩ := Option.bind_eq_some_iff.mp hf
      refine x_callVI (ws' := (wNet cI cZ cN cC h0 h1 h2 h3 pts wrk out mem abv)) (st1 := [.int q2]) (As := [.int x4, .int x1]) (rest := []) E hw vc_X3_65 (c_X3_comesTo (cI := cI) (cZ := cZ) (cN := cN) (cC := cC) (h0 := h0) (h1 := h1) (h2 := h2) (h3 := h3)  (pts := pts) (wrk := wrk) (out := out) (mem := mem) (abv := abv) (x1 := x4) (x2 := x1) hq2) 0 3 rfl rfl rfl rfl rfl ⟨Nat.le_of_ble_eq_true rfl, Nat.le_of_ble_eq_true rfl⟩ ⟨Nat.le_refl _, Nat.le_refl _⟩ hl.1 rfl rfl (Nat.le_of_ble_eq_true rfl) dX3_workGained_18 (fun H locs hw => ?_)
      refine lv_if_eq (tgt := 45) hx hb dX3_workGained_21 (by decide) (fun c3 => ?_) (fun c3 => ?_)
      · rw [if_pos c3] at hf
        refine lv_iinc (v := (x4 + 1)) (lv' := [(4, .int (x4 + 1)), (0, .ref h0), (1, .int x1), (2, .int x2), (3, .int x3)]) hx hb dX3_workGained_45 hl (k := 4) rfl rfl (by decide) rfl (fun ls hl => ?_)
        refine lv_goto (tgt := 5) hx hb dX3_workGained_48 (by decide) ?_
        exact ih _ _ hf _ _ _ hw (lv_sub hl [1, 2, 3, 4, 0] rfl)
      · rw [if_neg c3] at hf
        refine lv_iload_n hx hb dX3_workGained_24 rfl (lv_at hl 3 rfl) ?_
        refine lv_iconst (v := 1) hx hb dX3_workGained_25 (by decide) ?_
        refine lv_aload_n hx hb dX3_workGained_26 rfl (lv_at hl 0 rfl) ?_
        refine lv_aload_n hx hb dX3_workGained_27 rfl (lv_at hl 0 rfl) ?_
        refine lv_iload hx hb dX3_workGained_28 (lv_at hl 4 rfl) ?_
        refine lv_iload_n hx hb dX3_workGained_30 rfl (lv_at hl 1 rfl) ?_
        refine lv_iload_n hx hb dX3_workGained_31 rfl (lv_at hl 2 rfl) ?_
        obtain ⟨q4, hq4, hf⟩ := Option.bind_eq_some_iff.mp hf
        refine x_callVI (ws' := (wNet cI cZ cN cC h0 h1 h2 h3 pts wrk out mem abv)) (st1 := [.int q4, .ref h0, .int 1, .int x3]) (As := [.int x4, .int x1, .int x2]) (rest := [.ref h0, .int 1, .int x3]) E hw vc_X3_102 (c_X3_newMembers (cI := cI) (cZ := cZ) (cN := cN) (cC := cC) (h0 := h0) (h1 := h1) (h2 := h2) (h3 := h3)  (pts := pts) (wrk := wrk) (out := out) (mem := mem) (abv := abv) (x1 := x4) (x2 := x1) (x3 := x2) hq4) 0 3 rfl rfl rfl rfl rfl ⟨Nat.le_of_ble_eq_true rfl, Nat.le_of_ble_eq_true rfl⟩ ⟨Nat.le_refl _, Nat.le_refl _⟩ hl.1 rfl rfl (Nat.le_of_ble_eq_true rfl) dX3_workGained_32 (fun H locs hw => ?_)
        refine lv_aload_n hx hb dX3_workGained_35 rfl (lv_at hl 0 rfl) ?_
        refine x_callVI (ws' := (wNet cI cZ cN cC h0 h1 h2 h3 pts wrk out mem abv)) (st1 := [.int (f_X3_allPoints pts), .int q4, .ref h0, .int 1, .int x3]) (As := []) (rest := [.int q4, .ref h0, .int 1, .int x3]) E hw vc_X3_48 (c_X3_allPoints (cI := cI) (cZ := cZ) (cN := cN) (cC := cC) (h0 := h0) (h1 := h1) (h2 := h2) (h3 := h3)  (pts := pts) (wrk := wrk) (out := out) (mem := mem) (abv := abv)  rfl) 0 3 rfl rfl rfl rfl rfl ⟨Nat.le_of_ble_eq_true rfl, Nat.le_of_ble_eq_true rfl⟩ ⟨Nat.le_refl _, Nat.le_refl _⟩ hl.1 rfl rfl (Nat.le_of_ble_eq_true rfl) dX3_workGained_36 (fun H locs hw => ?_)
        obtain ⟨q5, hq5, hf⟩ := Option.bind_eq_some_iff.mp hf
        refine x_callVI (ws' := (wNet cI cZ cN cC h0 h1 h2 h3 pts wrk out mem abv)) (st1 := [.int q5, .int 1, .int x3]) (As := [.int q4, .int (f_X3_allPoints pts)]) (rest := [.int 1, .int x3]) E hw vc_X3_52 (c_X3_arcsBetween (cI := cI) (cZ := cZ) (cN := cN) (cC := cC) (h0 := h0) (h1 := h1) (h2 := h2) (h3 := h3)  (pts := pts) (wrk := wrk) (out := out) (mem := mem) (abv := abv) (x1 := q4) (x2 := (f_X3_allPoints pts)) hq5) 0 3 rfl rfl rfl rfl rfl ⟨Nat.le_of_ble_eq_true rfl, Nat.le_of_ble_eq_true rfl⟩ ⟨Nat.le_refl _, Nat.le_refl _⟩ hl.1 rfl rfl (Nat.le_of_ble_eq_true rfl) dX3_workGained_39 (fun H locs hw => ?_)
        refine lv_iadd hx hb dX3_workGained_42 ?_
        refine lv_iadd hx hb dX3_workGained_43 ?_
        refine lv_istore_n (lv' := [(3, .int (x3 + (1 + q5))), (0, .ref h0), (1, .int x1), (2, .int x2), (4, .int x4)]) hx hb dX3_workGained_44 rfl hl (by decide) rfl (fun ls hl => ?_)
        refine lv_iinc (v := (x4 + 1)) (lv' := [(4, .int (x4 + 1)), (3, .int (x3 + (1 + q5))), (0, .ref h0), (1, .int x1), (2, .int x2)]) hx hb dX3_workGained_45 hl (k := 4) rfl rfl (by decide) rfl (fun ls hl => ?_)
        refine lv_goto (tgt := 5) hx hb dX3_workGained_48 (by decide) ?_
        exact ih _ _ hf _ _ _ hw (lv_sub hl [2, 3, 4, 1, 0] rfl)
def f_X3_workGained (N : Nat) (x1 : Int32) (x2 : Int32) (pts : Int32) (out : (Nat → Int32)) (mem : (Nat → Int32)) : Option (Int32) :=
  f_X3_workGained_5 N x1 x2 pts out mem N 0 0
set_option maxHeartbeats 4000000 in
set_option maxRecDepth 100000 in
theorem c_X3_workGained {l : Launch} {D : va_G} {cI cZ cN cC : ClassId} {h0 h1 h2 h3 : Nat} {pts : Int32} {wrk : Int32} {out : (Nat → Int32)} {mem : (Nat → Int32)} {abv : (Nat → Int32)} {x1 : Int32} {x2 : Int32} {N : Nat} {res : Int32} (hf : f_X3_workGained N x1 x2 pts out mem = some res) : xMet l D (xtys cI cZ cN cC) yX3_workGained cX3_workGained 5 (some .int) 3 66 [.ref h0, .int x1, .int x2] (wNet cI cZ cN cC h0 h1 h2 h3 pts wrk out mem abv) (wNet cI cZ cN cC h0 h1 h2 h3 pts wrk out mem abv) (some (.int res)) := by
  refine x_enter (by decide) (Nat.le_of_ble_eq_true rfl) ?_
  intro p e s m args below meth c E ls hl hw
  have E : xE p s m args meth c cX3_workGained 5 (some .int) RX3 D (xtys cI cZ cN cC) (xA (wNet cI cZ cN cC h0 h1 h2 h3 pts wrk out mem abv)) := E
  obtain ⟨hx, hb, -⟩ := id E
  have hl : lv_has ls 5 [(0, .ref h0), (1, .int x1), (2, .int x2)] := hl
  unfold f_X3_workGained at hf
  refine lv_iconst (v := 0) hx hb dX3_workGained_0 (by decide) ?_
  refine lv_istore_n (lv' := [(3, .int 0), (0, .ref h0), (1, .int x1), (2, .int x2)]) hx hb dX3_workGained_1 rfl hl (by decide) rfl (fun ls hl => ?_)
  refine lv_iconst (v := 0) hx hb dX3_workGained_2 (by decide) ?_
  refine lv_istore (lv' := [(4, .int 0), (3, .int 0), (0, .ref h0), (1, .int x1), (2, .int x2)]) hx hb dX3_workGained_3 hl (by decide) rfl (fun ls hl => ?_)
  exact b_X3_workGained_5 E N _ _ hf _ _ _ hw (lv_sub hl [2, 3, 4, 1, 0] rfl)

def f_X3_makeEmpty_28 (pts : Int32) (wrk : Int32) (out : (Nat → Int32)) (abv : (Nat → Int32)) : Nat → Int32 → (Nat → Int32) → Option (Int32 × Int32 × (Nat → Int32) × (Nat → Int32) × (Nat → Int32))
  | 0, _, _ => none
  | n + 1, x2, mem =>
    if 10 ≤ x2 then
     some (pts, wrk, out, mem, abv)
    else
     if xin x2 10 then
     f_X3_makeEmpty_28 pts wrk out abv n (x2 + 1) (upd mem (Int32.toNatClampNeg x2) (1 <<< (x2 &&& 31)))
     else none
set_option maxHeartbeats 4000000 in
set_option maxRecDepth 100000 in
theorem b_X3_makeEmpty_28 {p : Program} {l : Launch} {e : Env} {s : State} {m : MethodId} {args : Array Value} {below : List Frame} {meth : Method} {c : Code} {D : va_G} {cI cZ cN cC : ClassId} {ws0 : va_W} {h0 h1 h2 h3 : Nat} {pts : Int32} {wrk : Int32} {out : (Nat → Int32)} {abv : (Nat → Int32)} {res : Int32 × Int32 × (Nat → Int32) × (Nat → Int32) × (Nat → Int32)} (E : xE p s m args meth c cX3_makeEmpty 3 none RX3 D (xtys cI cZ cN cC) (xA ws0)) : ∀ (n : Nat) (x2 : Int32) (mem : (Nat → Int32)), f_X3_makeEmpty_28 pts wrk out abv n x2 mem = some res → ∀ (H : Heap) (locs : List Loc) (ls : Array Slot), xw D (xA ws0) s.heap (wNet cI cZ cN cC h0 h1 h2 h3 pts wrk out mem abv) H locs → lv_has ls 3 [(0, .ref h0), (2, .int x2)] → xG p l e 1 23 s m args below meth c D ws0 (wNet cI cZ cN cC h0 h1 h2 h3 res.1 res.2.1 res.2.2.1 res.2.2.2.1 res.2.2.2.2) none H locs (F0 m 28 ls []) := by
  obtain ⟨hx, hb, -⟩ := id E
  intro n
  induction n with
  | zero =>
    intro _ _ hf
    rw [f_X3_makeEmpty_28] at hf; cases hf
  | succ n ih =>
    intro x2 mem hf H locs ls hw hl
    rw [f_X3_makeEmpty_28] at hf
    refine lv_iload_n hx hb dX3_makeEmpty_28 rfl (lv_at hl 1 rfl) ?_
    refine lv_bipush (v := 10) hx hb dX3_makeEmpty_29 (by decide) ?_
    refine lv_icmp_ge (tgt := 49) hx hb dX3_makeEmpty_31 (by decide) (fun c3 => ?_) (fun c3 => ?_)
    · rw [if_pos c3] at hf
      have hf := Option.some.inj hf; subst hf
      exact x_vret E hw dX3_makeEmpty_49
    · rw [if_neg c3] at hf
      refine lv_aload_n hx hb dX3_makeEmpty_34 rfl (lv_at hl 0 rfl) ?_
      refine x_get E hw kin_X3 0 rfl rfl 3 (by decide) kF_X3_15 (v := .ref h2) rfl dX3_makeEmpty_35 ?_
      refine lv_iload_n hx hb dX3_makeEmpty_38 rfl (lv_at hl 1 rfl) ?_
      refine lv_iconst (v := 1) hx hb dX3_makeEmpty_39 (by decide) ?_
      refine lv_iload_n hx hb dX3_makeEmpty_40 rfl (lv_at hl 1 rfl) ?_
      refine lv_ishl hx hb dX3_makeEmpty_41 ?_
      obtain ⟨g4, hf⟩ := xgd hf
      refine x_iast (ws' := (wNet cI cZ cN cC h0 h1 h2 h3 pts wrk out (upd mem (Int32.toNatClampNeg x2) (1 <<< (x2 &&& 31))) abv)) E hw 2 0 rfl rfl (xin_vp g4) rfl dX3_makeEmpty_42 (fun H locs hw => ?_)
      refine lv_iinc (v := (x2 + 1)) (lv' := [(2, .int (x2 + 1)), (0, .ref h0)]) hx hb dX3_makeEmpty_43 hl (k := 1) rfl rfl (by decide) rfl (fun ls hl => ?_)
      refine lv_goto (tgt := 28) hx hb dX3_makeEmpty_46 (by decide) ?_
      exact ih _ _ hf _ _ _ hw (lv_sub hl [1, 0] rfl)
def f_X3_makeEmpty (N : Nat) (x1 : Int32) (out : (Nat → Int32)) (mem : (Nat → Int32)) (abv : (Nat → Int32)) : Option (Int32 × Int32 × (Nat → Int32) × (Nat → Int32) × (Nat → Int32)) :=
  (f_J7_fill_53178 N 0 out 10).bind fun q1 =>
  (f_J7_fill_53178 N (-1) abv 100).bind fun q2 =>
  f_X3_makeEmpty_28 x1 0 q1 q2 N 0 mem
set_option maxHeartbeats 4000000 in
set_option maxRecDepth 100000 in
theorem c_X3_makeEmpty {l : Launch} {D : va_G} {cI cZ cN cC : ClassId} {h0 h1 h2 h3 : Nat} {pts : Int32} {wrk : Int32} {out : (Nat → Int32)} {mem : (Nat → Int32)} {abv : (Nat → Int32)} {x1 : Int32} {N : Nat} {res : Int32 × Int32 × (Nat → Int32) × (Nat → Int32) × (Nat → Int32)} (hf : f_X3_makeEmpty N x1 out mem abv = some res) : xMet l D (xtys cI cZ cN cC) yX3_makeEmpty cX3_makeEmpty 3 none 1 23 [.ref h0, .int x1] (wNet cI cZ cN cC h0 h1 h2 h3 pts wrk out mem abv) (wNet cI cZ cN cC h0 h1 h2 h3 res.1 res.2.1 res.2.2.1 res.2.2.2.1 res.2.2.2.2) none := by
  refine x_enter (by decide) (Nat.le_of_ble_eq_true rfl) ?_
  intro p e s m args below meth c E ls hl hw
  have E : xE p s m args meth c cX3_makeEmpty 3 none RX3 D (xtys cI cZ cN cC) (xA (wNet cI cZ cN cC h0 h1 h2 h3 pts wrk out mem abv)) := E
  obtain ⟨hx, hb, -⟩ := id E
  have hl : lv_has ls 3 [(0, .ref h0), (1, .int x1)] := hl
  unfold f_X3_makeEmpty at hf
  refine lv_aload_n hx hb dX3_makeEmpty_0 rfl (lv_at hl 0 rfl) ?_
  refine lv_iload_n hx hb dX3_makeEmpty_1 rfl (lv_at hl 1 rfl) ?_
  refine x_put (ws' := (wNet cI cZ cN cC h0 h1 h2 h3 x1 wrk out mem abv)) E hw kin_X3 tyX3 tyX3_ok nmX3 0 rfl rfl 0 (by decide) kF_X3_25 rfl (v := .int x1) rfl rfl (Nat.le_of_ble_eq_true rfl) rfl dX3_makeEmpty_2 (fun H locs hw => ?_)
  refine lv_aload_n hx hb dX3_makeEmpty_5 rfl (lv_at hl 0 rfl) ?_
  refine lv_iconst (v := 0) hx hb dX3_makeEmpty_6 (by decide) ?_
  refine x_put (ws' := (wNet cI cZ cN cC h0 h1 h2 h3 x1 0 out mem abv)) E hw kin_X3 tyX3 tyX3_ok nmX3 0 rfl rfl 1 (by decide) kF_X3_29 rfl (v := .int 0) rfl rfl (Nat.le_of_ble_eq_true rfl) rfl dX3_makeEmpty_7 (fun H locs hw => ?_)
  refine lv_aload_n hx hb dX3_makeEmpty_10 rfl (lv_at hl 0 rfl) ?_
  refine x_get E hw kin_X3 0 rfl rfl 2 (by decide) kF_X3_9 (v := .ref h1) rfl dX3_makeEmpty_11 ?_
  refine lv_iconst (v := 0) hx hb dX3_makeEmpty_14 (by decide) ?_
  obtain ⟨q1, hq1, hf⟩ := Option.bind_eq_some_iff.mp hf
  refine x_callS (isC := [1]) (ws' := (wNet cI cZ cN cC h0 h1 h2 h3 x1 0 q1 mem abv)) (st1 := []) (As := [.ref h1, .int 0]) (rest := []) E hw vc_X3_32 (c_J7_fill_53178 (cI := cI) (cZ := cZ) (cN := cN) (cC := cC) (h0 := h1) (nn := 10) (arr := out) (x1 := 0) hq1) rfl rfl rfl rfl rfl rfl ⟨Nat.le_of_ble_eq_true rfl, Nat.le_of_ble_eq_true rfl⟩ ⟨Nat.le_refl _, Nat.le_refl _⟩ hl.1 rfl rfl (Nat.le_of_ble_eq_true rfl) dX3_makeEmpty_15 (fun H locs hw => ?_)
  refine lv_aload_n hx hb dX3_makeEmpty_18 rfl (lv_at hl 0 rfl) ?_
  refine x_get E hw kin_X3 0 rfl rfl 4 (by decide) kF_X3_18 (v := .ref h3) rfl dX3_makeEmpty_19 ?_
  refine lv_iconst (v := (-1)) hx hb dX3_makeEmpty_22 (by decide) ?_
  obtain ⟨q2, hq2, hf⟩ := Option.bind_eq_some_iff.mp hf
  refine x_callS (isC := [3]) (ws' := (wNet cI cZ cN cC h0 h1 h2 h3 x1 0 q1 mem q2)) (st1 := []) (As := [.ref h3, .int (-1)]) (rest := []) E hw vc_X3_32 (c_J7_fill_53178 (cI := cI) (cZ := cZ) (cN := cN) (cC := cC) (h0 := h3) (nn := 100) (arr := abv) (x1 := (-1)) hq2) rfl rfl rfl rfl rfl rfl ⟨Nat.le_of_ble_eq_true rfl, Nat.le_of_ble_eq_true rfl⟩ ⟨Nat.le_refl _, Nat.le_refl _⟩ hl.1 rfl rfl (Nat.le_of_ble_eq_true rfl) dX3_makeEmpty_23 (fun H locs hw => ?_)
  refine lv_iconst (v := 0) hx hb dX3_makeEmpty_26 (by decide) ?_
  refine lv_istore_n (lv' := [(2, .int 0), (0, .ref h0), (1, .int x1)]) hx hb dX3_makeEmpty_27 rfl hl (by decide) rfl (fun ls hl => ?_)
  exact b_X3_makeEmpty_28 E N _ _ hf _ _ _ hw (lv_sub hl [1, 0] rfl)

abbrev wNet2 (cI cZ cN cC : ClassId) (h0 h1 h2 h3 k0 k1 k2 k3 : Nat) (pts : Int32) (wrk : Int32) (out : Nat → Int32) (mem : Nat → Int32) (abv : Nat → Int32) (pts2 : Int32) (wrk2 : Int32) (out2 : Nat → Int32) (mem2 : Nat → Int32) (abv2 : Nat → Int32) : va_W := [(h0, .inr (3, [.int pts, .int wrk, .ref h1, .ref h2, .ref h3])), (h1, .inl (cI, 10, .inl out)), (h2, .inl (cI, 10, .inl mem)), (h3, .inl (cI, 100, .inl abv)), (k0, .inr (3, [.int pts2, .int wrk2, .ref k1, .ref k2, .ref k3])), (k1, .inl (cI, 10, .inl out2)), (k2, .inl (cI, 10, .inl mem2)), (k3, .inl (cI, 100, .inl abv2))]
def f_X3_copyFrom (out : (Nat → Int32)) (mem : (Nat → Int32)) (abv : (Nat → Int32)) (pts2 : Int32) (wrk2 : Int32) (out2 : (Nat → Int32)) (mem2 : (Nat → Int32)) (abv2 : (Nat → Int32)) : (Int32 × Int32 × (Nat → Int32) × (Nat → Int32) × (Nat → Int32)) :=
  (pts2, wrk2, (va_cpy out2 out (Int32.toNatClampNeg 0) (Int32.toNatClampNeg 0) (Int32.toNatClampNeg 10)), (va_cpy mem2 mem (Int32.toNatClampNeg 0) (Int32.toNatClampNeg 0) (Int32.toNatClampNeg 10)), (va_cpy abv2 abv (Int32.toNatClampNeg 0) (Int32.toNatClampNeg 0) (Int32.toNatClampNeg 100)))
set_option maxHeartbeats 4000000 in
set_option maxRecDepth 100000 in
theorem c_X3_copyFrom {l : Launch} {D : va_G} {cI cZ cN cC : ClassId} {h0 h1 h2 h3 k0 k1 k2 k3 : Nat} {pts : Int32} {wrk : Int32} {out : (Nat → Int32)} {mem : (Nat → Int32)} {abv : (Nat → Int32)} {pts2 : Int32} {wrk2 : Int32} {out2 : (Nat → Int32)} {mem2 : (Nat → Int32)} {abv2 : (Nat → Int32)}  {res : Int32 × Int32 × (Nat → Int32) × (Nat → Int32) × (Nat → Int32)} (hf : f_X3_copyFrom out mem abv pts2 wrk2 out2 mem2 abv2 = res) : xMet l D (xtys cI cZ cN cC) yX3_copyFrom cX3_copyFrom 2 none 1 60 [.ref h0, .ref k0] (wNet2 cI cZ cN cC h0 h1 h2 h3 k0 k1 k2 k3 pts wrk out mem abv pts2 wrk2 out2 mem2 abv2) (wNet2 cI cZ cN cC h0 h1 h2 h3 k0 k1 k2 k3 res.1 res.2.1 res.2.2.1 res.2.2.2.1 res.2.2.2.2 pts2 wrk2 out2 mem2 abv2) none := by
  refine x_enter (by decide) (Nat.le_of_ble_eq_true rfl) ?_
  intro p e s m args below meth c E ls hl hw
  have E : xE p s m args meth c cX3_copyFrom 2 none RX3 D (xtys cI cZ cN cC) (xA (wNet2 cI cZ cN cC h0 h1 h2 h3 k0 k1 k2 k3 pts wrk out mem abv pts2 wrk2 out2 mem2 abv2)) := E
  obtain ⟨hx, hb, -⟩ := id E
  have hl : lv_has ls 2 [(0, .ref h0), (1, .ref k0)] := hl
  unfold f_X3_copyFrom at hf
  refine lv_aload_n hx hb dX3_copyFrom_0 rfl (lv_at hl 0 rfl) ?_
  refine lv_aload_n hx hb dX3_copyFrom_1 rfl (lv_at hl 1 rfl) ?_
  refine x_get E hw kin_X3 4 rfl rfl 0 (by decide) kF_X3_25 (v := .int pts2) rfl dX3_copyFrom_2 ?_
  refine x_put (ws' := (wNet2 cI cZ cN cC h0 h1 h2 h3 k0 k1 k2 k3 pts2 wrk out mem abv pts2 wrk2 out2 mem2 abv2)) E hw kin_X3 tyX3 tyX3_ok nmX3 0 rfl rfl 0 (by decide) kF_X3_25 rfl (v := .int pts2) rfl rfl (Nat.le_of_ble_eq_true rfl) rfl dX3_copyFrom_5 (fun H locs hw => ?_)
  refine lv_aload_n hx hb dX3_copyFrom_8 rfl (lv_at hl 0 rfl) ?_
  refine lv_aload_n hx hb dX3_copyFrom_9 rfl (lv_at hl 1 rfl) ?_
  refine x_get E hw kin_X3 4 rfl rfl 1 (by decide) kF_X3_29 (v := .int wrk2) rfl dX3_copyFrom_10 ?_
  refine x_put (ws' := (wNet2 cI cZ cN cC h0 h1 h2 h3 k0 k1 k2 k3 pts2 wrk2 out mem abv pts2 wrk2 out2 mem2 abv2)) E hw kin_X3 tyX3 tyX3_ok nmX3 0 rfl rfl 1 (by decide) kF_X3_29 rfl (v := .int wrk2) rfl rfl (Nat.le_of_ble_eq_true rfl) rfl dX3_copyFrom_13 (fun H locs hw => ?_)
  refine lv_aload_n hx hb dX3_copyFrom_16 rfl (lv_at hl 1 rfl) ?_
  refine x_get E hw kin_X3 4 rfl rfl 2 (by decide) kF_X3_9 (v := .ref k1) rfl dX3_copyFrom_17 ?_
  refine lv_iconst (v := 0) hx hb dX3_copyFrom_20 (by decide) ?_
  refine lv_aload_n hx hb dX3_copyFrom_21 rfl (lv_at hl 0 rfl) ?_
  refine x_get E hw kin_X3 0 rfl rfl 2 (by decide) kF_X3_9 (v := .ref h1) rfl dX3_copyFrom_22 ?_
  refine lv_iconst (v := 0) hx hb dX3_copyFrom_25 (by decide) ?_
  refine lv_bipush (v := 10) hx hb dX3_copyFrom_26 (by decide) ?_
  refine x_copy (ws' := (wNet2 cI cZ cN cC h0 h1 h2 h3 k0 k1 k2 k3 pts2 wrk2 (va_cpy out2 out (Int32.toNatClampNeg 0) (Int32.toNatClampNeg 0) (Int32.toNatClampNeg 10)) mem abv pts2 wrk2 out2 mem2 abv2)) E hw (hl.1) kM_X3_38 5 1 rfl rfl rfl (by decide) (by decide) (by decide) (by decide) (by decide) (Nat.le_of_ble_eq_true rfl) (Nat.le_of_ble_eq_true rfl) rfl dX3_copyFrom_28 (fun H locs hw => ?_)
  refine lv_aload_n hx hb dX3_copyFrom_31 rfl (lv_at hl 1 rfl) ?_
  refine x_get E hw kin_X3 4 rfl rfl 3 (by decide) kF_X3_15 (v := .ref k2) rfl dX3_copyFrom_32 ?_
  refine lv_iconst (v := 0) hx hb dX3_copyFrom_35 (by decide) ?_
  refine lv_aload_n hx hb dX3_copyFrom_36 rfl (lv_at hl 0 rfl) ?_
  refine x_get E hw kin_X3 0 rfl rfl 3 (by decide) kF_X3_15 (v := .ref h2) rfl dX3_copyFrom_37 ?_
  refine lv_iconst (v := 0) hx hb dX3_copyFrom_40 (by decide) ?_
  refine lv_bipush (v := 10) hx hb dX3_copyFrom_41 (by decide) ?_
  refine x_copy (ws' := (wNet2 cI cZ cN cC h0 h1 h2 h3 k0 k1 k2 k3 pts2 wrk2 (va_cpy out2 out (Int32.toNatClampNeg 0) (Int32.toNatClampNeg 0) (Int32.toNatClampNeg 10)) (va_cpy mem2 mem (Int32.toNatClampNeg 0) (Int32.toNatClampNeg 0) (Int32.toNatClampNeg 10)) abv pts2 wrk2 out2 mem2 abv2)) E hw (hl.1) kM_X3_38 6 2 rfl rfl rfl (by decide) (by decide) (by decide) (by decide) (by decide) (Nat.le_of_ble_eq_true rfl) (Nat.le_of_ble_eq_true rfl) rfl dX3_copyFrom_43 (fun H locs hw => ?_)
  refine lv_aload_n hx hb dX3_copyFrom_46 rfl (lv_at hl 1 rfl) ?_
  refine x_get E hw kin_X3 4 rfl rfl 4 (by decide) kF_X3_18 (v := .ref k3) rfl dX3_copyFrom_47 ?_
  refine lv_iconst (v := 0) hx hb dX3_copyFrom_50 (by decide) ?_
  refine lv_aload_n hx hb dX3_copyFrom_51 rfl (lv_at hl 0 rfl) ?_
  refine x_get E hw kin_X3 0 rfl rfl 4 (by decide) kF_X3_18 (v := .ref h3) rfl dX3_copyFrom_52 ?_
  refine lv_iconst (v := 0) hx hb dX3_copyFrom_55 (by decide) ?_
  refine lv_bipush (v := 100) hx hb dX3_copyFrom_56 (by decide) ?_
  refine x_copy (ws' := (wNet2 cI cZ cN cC h0 h1 h2 h3 k0 k1 k2 k3 pts2 wrk2 (va_cpy out2 out (Int32.toNatClampNeg 0) (Int32.toNatClampNeg 0) (Int32.toNatClampNeg 10)) (va_cpy mem2 mem (Int32.toNatClampNeg 0) (Int32.toNatClampNeg 0) (Int32.toNatClampNeg 10)) (va_cpy abv2 abv (Int32.toNatClampNeg 0) (Int32.toNatClampNeg 0) (Int32.toNatClampNeg 100)) pts2 wrk2 out2 mem2 abv2)) E hw (hl.1) kM_X3_38 7 3 rfl rfl rfl (by decide) (by decide) (by decide) (by decide) (by decide) (Nat.le_of_ble_eq_true rfl) (Nat.le_of_ble_eq_true rfl) rfl dX3_copyFrom_58 (fun H locs hw => ?_)
  subst hf
  exact x_vret E hw dX3_copyFrom_61

