abbrev wCut (cI cZ cN cC : ClassId) (h0 h1 h2 h3 : Nat) (usd : Nat → Int32) (usi : Nat → Int32) (cam : Nat → Int32) : va_W := [(h0, .inr (1, [.ref h1, .ref h2, .ref h3])), (h1, .inl (cI, 10, .inl usd)), (h2, .inl (cI, 10, .inl usi)), (h3, .inl (cI, 10, .inl cam))]
abbrev wCutN (cI cZ cN cC : ClassId) (h0 h1 h2 h3 k0 k1 k2 k3 : Nat) (usd : Nat → Int32) (usi : Nat → Int32) (cam : Nat → Int32) (pts : Int32) (wrk : Int32) (out : Nat → Int32) (mem : Nat → Int32) (abv : Nat → Int32) : va_W := [(h0, .inr (1, [.ref h1, .ref h2, .ref h3])), (h1, .inl (cI, 10, .inl usd)), (h2, .inl (cI, 10, .inl usi)), (h3, .inl (cI, 10, .inl cam)), (k0, .inr (3, [.int pts, .int wrk, .ref k1, .ref k2, .ref k3])), (k1, .inl (cI, 10, .inl out)), (k2, .inl (cI, 10, .inl mem)), (k3, .inl (cI, 100, .inl abv))]
def f_X1_useStep (x1 : Int32) (x2 : Int32) (usd : (Nat → Int32)) (usi : (Nat → Int32)) : Option ((Nat → Int32) × (Nat → Int32)) :=
  if xin x1 10 then
  if (f_X6_has (usi (Int32.toNatClampNeg x1)) x2) = 0 then
   if xin x1 10 then
   if xin x1 10 then
   if xin x2 10 then
   if xin x2 10 then
   some ((upd usd (Int32.toNatClampNeg x1) ((usd (Int32.toNatClampNeg x1)) ||| (1 <<< (x2 &&& 31)))), (upd usi (Int32.toNatClampNeg x2) ((usi (Int32.toNatClampNeg x2)) ||| (1 <<< (x1 &&& 31)))))
   else none
   else none
   else none
   else none
  else
   if xin x2 10 then
   if xin x2 10 then
   if xin x1 10 then
   if xin x1 10 then
   some ((upd usd (Int32.toNatClampNeg x2) ((usd (Int32.toNatClampNeg x2)) &&& ((1 <<< (x1 &&& 31)) ^^^ (-1)))), (upd usi (Int32.toNatClampNeg x1) ((usi (Int32.toNatClampNeg x1)) &&& ((1 <<< (x2 &&& 31)) ^^^ (-1)))))
   else none
   else none
   else none
   else none
  else none
set_option maxHeartbeats 4000000 in
set_option maxRecDepth 100000 in
theorem c_X1_useStep {l : Launch} {D : va_G} {cI cZ cN cC : ClassId} {h0 h1 h2 h3 : Nat} {usd : (Nat → Int32)} {usi : (Nat → Int32)} {cam : (Nat → Int32)} {x1 : Int32} {x2 : Int32} {res : (Nat → Int32) × (Nat → Int32)} (hf : f_X1_useStep x1 x2 usd usi = some res) : xMet l D (xtys cI cZ cN cC) yX1_useStep cX1_useStep 3 none 1 21 [.ref h0, .int x1, .int x2] (wCut cI cZ cN cC h0 h1 h2 h3 usd usi cam) (wCut cI cZ cN cC h0 h1 h2 h3 res.1 res.2 cam) none := by
  refine x_enter (by decide) (Nat.le_of_ble_eq_true rfl) ?_
  intro p e s m args below meth c E ls hl hw
  have E : xE p s m args meth c cX1_useStep 3 none RX1 D (xtys cI cZ cN cC) (xA (wCut cI cZ cN cC h0 h1 h2 h3 usd usi cam)) := E
  obtain ⟨hx, hb, -⟩ := id E
  have hl : lv_has ls 3 [(0, .ref h0), (1, .int x1), (2, .int x2)] := hl
  unfold f_X1_useStep at hf
  refine lv_aload_n hx hb dX1_useStep_0 rfl (lv_at hl 0 rfl) ?_
  refine x_get E hw kin_X1 0 rfl rfl 1 (by decide) kF_X1_15 (v := .ref h2) rfl dX1_useStep_1 ?_
  refine lv_iload_n hx hb dX1_useStep_4 rfl (lv_at hl 1 rfl) ?_
  obtain ⟨g1, hf⟩ := xgd hf
  refine x_iald E hw 2 0 rfl rfl (xin_vp g1) dX1_useStep_5 ?_
  refine lv_iload_n hx hb dX1_useStep_6 rfl (lv_at hl 2 rfl) ?_
  refine x_callN (isC := []) (ws' := (wCut cI cZ cN cC h0 h1 h2 h3 usd usi cam)) (st1 := [.int (f_X6_has (usi (Int32.toNatClampNeg x1)) x2)]) (As := [.int (usi (Int32.toNatClampNeg x1)), .int x2]) (rest := []) E hw vc_X1_35 (c_X6_has (cI := cI) (cZ := cZ) (cN := cN) (cC := cC)    (x0 := (usi (Int32.toNatClampNeg x1))) (x1 := x2) rfl) rfl rfl rfl rfl rfl rfl ⟨Nat.le_of_ble_eq_true rfl, Nat.le_of_ble_eq_true rfl⟩ ⟨Nat.le_refl _, Nat.le_refl _⟩ hl.1 rfl rfl (Nat.le_of_ble_eq_true rfl) dX1_useStep_7 (fun H locs hw => ?_)
  refine lv_if_eq (tgt := 44) hx hb dX1_useStep_10 (by decide) (fun c2 => ?_) (fun c2 => ?_)
  · rw [if_pos c2] at hf
    refine lv_aload_n hx hb dX1_useStep_44 rfl (lv_at hl 0 rfl) ?_
    refine x_get E hw kin_X1 0 rfl rfl 0 (by decide) kF_X1_9 (v := .ref h1) rfl dX1_useStep_45 ?_
    refine lv_iload_n hx hb dX1_useStep_48 rfl (lv_at hl 1 rfl) ?_
    refine lv_dup2_11 hx hb dX1_useStep_49 rfl rfl ?_
    obtain ⟨g3, hf⟩ := xgd hf
    refine x_iald E hw 1 0 rfl rfl (xin_vp g3) dX1_useStep_50 ?_
    refine lv_iconst (v := 1) hx hb dX1_useStep_51 (by decide) ?_
    refine lv_iload_n hx hb dX1_useStep_52 rfl (lv_at hl 2 rfl) ?_
    refine lv_ishl hx hb dX1_useStep_53 ?_
    refine lv_ior hx hb dX1_useStep_54 ?_
    obtain ⟨g4, hf⟩ := xgd hf
    refine x_iast (ws' := (wCut cI cZ cN cC h0 h1 h2 h3 (upd usd (Int32.toNatClampNeg x1) ((usd (Int32.toNatClampNeg x1)) ||| (1 <<< (x2 &&& 31)))) usi cam)) E hw 1 0 rfl rfl (xin_vp g4) rfl dX1_useStep_55 (fun H locs hw => ?_)
    refine lv_aload_n hx hb dX1_useStep_56 rfl (lv_at hl 0 rfl) ?_
    refine x_get E hw kin_X1 0 rfl rfl 1 (by decide) kF_X1_15 (v := .ref h2) rfl dX1_useStep_57 ?_
    refine lv_iload_n hx hb dX1_useStep_60 rfl (lv_at hl 2 rfl) ?_
    refine lv_dup2_11 hx hb dX1_useStep_61 rfl rfl ?_
    obtain ⟨g5, hf⟩ := xgd hf
    refine x_iald E hw 2 0 rfl rfl (xin_vp g5) dX1_useStep_62 ?_
    refine lv_iconst (v := 1) hx hb dX1_useStep_63 (by decide) ?_
    refine lv_iload_n hx hb dX1_useStep_64 rfl (lv_at hl 1 rfl) ?_
    refine lv_ishl hx hb dX1_useStep_65 ?_
    refine lv_ior hx hb dX1_useStep_66 ?_
    obtain ⟨g6, hf⟩ := xgd hf
    refine x_iast (ws' := (wCut cI cZ cN cC h0 h1 h2 h3 (upd usd (Int32.toNatClampNeg x1) ((usd (Int32.toNatClampNeg x1)) ||| (1 <<< (x2 &&& 31)))) (upd usi (Int32.toNatClampNeg x2) ((usi (Int32.toNatClampNeg x2)) ||| (1 <<< (x1 &&& 31)))) cam)) E hw 2 0 rfl rfl (xin_vp g6) rfl dX1_useStep_67 (fun H locs hw => ?_)
    have hf := Option.some.inj hf; subst hf
    exact x_vret E hw dX1_useStep_68
  · rw [if_neg c2] at hf
    refine lv_aload_n hx hb dX1_useStep_13 rfl (lv_at hl 0 rfl) ?_
    refine x_get E hw kin_X1 0 rfl rfl 0 (by decide) kF_X1_9 (v := .ref h1) rfl dX1_useStep_14 ?_
    refine lv_iload_n hx hb dX1_useStep_17 rfl (lv_at hl 2 rfl) ?_
    refine lv_dup2_11 hx hb dX1_useStep_18 rfl rfl ?_
    obtain ⟨g7, hf⟩ := xgd hf
    refine x_iald E hw 1 0 rfl rfl (xin_vp g7) dX1_useStep_19 ?_
    refine lv_iconst (v := 1) hx hb dX1_useStep_20 (by decide) ?_
    refine lv_iload_n hx hb dX1_useStep_21 rfl (lv_at hl 1 rfl) ?_
    refine lv_ishl hx hb dX1_useStep_22 ?_
    refine lv_iconst (v := (-1)) hx hb dX1_useStep_23 (by decide) ?_
    refine lv_ixor hx hb dX1_useStep_24 ?_
    refine lv_iand hx hb dX1_useStep_25 ?_
    obtain ⟨g8, hf⟩ := xgd hf
    refine x_iast (ws' := (wCut cI cZ cN cC h0 h1 h2 h3 (upd usd (Int32.toNatClampNeg x2) ((usd (Int32.toNatClampNeg x2)) &&& ((1 <<< (x1 &&& 31)) ^^^ (-1)))) usi cam)) E hw 1 0 rfl rfl (xin_vp g8) rfl dX1_useStep_26 (fun H locs hw => ?_)
    refine lv_aload_n hx hb dX1_useStep_27 rfl (lv_at hl 0 rfl) ?_
    refine x_get E hw kin_X1 0 rfl rfl 1 (by decide) kF_X1_15 (v := .ref h2) rfl dX1_useStep_28 ?_
    refine lv_iload_n hx hb dX1_useStep_31 rfl (lv_at hl 1 rfl) ?_
    refine lv_dup2_11 hx hb dX1_useStep_32 rfl rfl ?_
    obtain ⟨g9, hf⟩ := xgd hf
    refine x_iald E hw 2 0 rfl rfl (xin_vp g9) dX1_useStep_33 ?_
    refine lv_iconst (v := 1) hx hb dX1_useStep_34 (by decide) ?_
    refine lv_iload_n hx hb dX1_useStep_35 rfl (lv_at hl 2 rfl) ?_
    refine lv_ishl hx hb dX1_useStep_36 ?_
    refine lv_iconst (v := (-1)) hx hb dX1_useStep_37 (by decide) ?_
    refine lv_ixor hx hb dX1_useStep_38 ?_
    refine lv_iand hx hb dX1_useStep_39 ?_
    obtain ⟨g10, hf⟩ := xgd hf
    refine x_iast (ws' := (wCut cI cZ cN cC h0 h1 h2 h3 (upd usd (Int32.toNatClampNeg x2) ((usd (Int32.toNatClampNeg x2)) &&& ((1 <<< (x1 &&& 31)) ^^^ (-1)))) (upd usi (Int32.toNatClampNeg x1) ((usi (Int32.toNatClampNeg x1)) &&& ((1 <<< (x2 &&& 31)) ^^^ (-1)))) cam)) E hw 2 0 rfl rfl (xin_vp g10) rfl dX1_useStep_40 (fun H locs hw => ?_)
    refine lv_goto (tgt := 68) hx hb dX1_useStep_41 (by decide) ?_
    have hf := Option.some.inj hf; subst hf
    exact x_vret E hw dX1_useStep_68

def f_X1_useWay_5 (x1 : Int32) (cam : (Nat → Int32)) : Nat → Int32 → Int32 → (Nat → Int32) → (Nat → Int32) → Option ((Nat → Int32) × (Nat → Int32))
  | 0, _, _, _, _ => none
  | n + 1, x3, x4, usd, usi =>
    if 10 ≤ x4 then
     some (usd, usi)
    else
     if x3 = x1 then
      some (usd, usi)
     else
      if xin x3 10 then
      (f_X1_useStep (cam (Int32.toNatClampNeg x3)) x3 usd usi).bind fun q4 =>
      f_X1_useWay_5 x1 cam n (cam (Int32.toNatClampNeg x3)) (x4 + 1) q4.1 q4.2
      else none
set_option maxHeartbeats 4000000 in
set_option maxRecDepth 100000 in
theorem b_X1_useWay_5 {p : Program} {l : Launch} {e : Env} {s : State} {m : MethodId} {args : Array Value} {below : List Frame} {meth : Method} {c : Code} {D : va_G} {cI cZ cN cC : ClassId} {ws0 : va_W} {h0 h1 h2 h3 : Nat} {x1 : Int32} {cam : (Nat → Int32)} {res : (Nat → Int32) × (Nat → Int32)} (E : xE p s m args meth c cX1_useWay 6 none RX1 D (xtys cI cZ cN cC) (xA ws0)) : ∀ (n : Nat) (x3 : Int32) (x4 : Int32) (usd : (Nat → Int32)) (usi : (Nat → Int32)), f_X1_useWay_5 x1 cam n x3 x4 usd usi = some res → ∀ (H : Heap) (locs : List Loc) (ls : Array Slot), xw D (xA ws0) s.heap (wCut cI cZ cN cC h0 h1 h2 h3 usd usi cam) H locs → lv_has ls 6 [(0, .ref h0), (1, .int x1), (3, .int x3), (4, .int x4)] → xG p l e 2 43 s m args below meth c D ws0 (wCut cI cZ cN cC h0 h1 h2 h3 res.1 res.2 cam) none H locs (F0 m 5 ls []) := by
  obtain ⟨hx, hb, -⟩ := id E
  intro n
  induction n with
  | zero =>
    intro _ _ _ _ hf
    rw [f_X1_useWay_5] at hf; cases hf
  | succ n ih =>
    intro x3 x4 usd usi hf H locs ls hw hl
    rw [f_X1_useWay_5] at hf
    refine lv_iload hx hb dX1_useWay_5 (lv_at hl 3 rfl) ?_
    refine lv_bipush (v := 10) hx hb dX1_useWay_7 (by decide) ?_
    refine lv_icmp_ge (tgt := 41) hx hb dX1_useWay_9 (by decide) (fun c1 => ?_) (fun c1 => ?_)
    · rw [if_pos c1] at hf
      have hf := Option.some.inj hf; subst hf
      exact x_vret E hw dX1_useWay_41
    · rw [if_neg c1] at hf
      refine lv_iload_n hx hb dX1_useWay_12 rfl (lv_at hl 2 rfl) ?_
      refine lv_iload_n hx hb dX1_useWay_13 rfl (lv_at hl 1 rfl) ?_
      refine lv_icmp_eq (tgt := 41) hx hb dX1_useWay_14 (by decide) (fun c2 => ?_) (fun c2 => ?_)
      · rw [if_pos c2] at hf
        have hf := Option.some.inj hf; subst hf
        exact x_vret E hw dX1_useWay_41
      · rw [if_neg c2] at hf
        refine lv_aload_n hx hb dX1_useWay_17 rfl (lv_at hl 0 rfl) ?_
        refine x_get E hw kin_X1 0 rfl rfl 2 (by decide) kF_X1_18 (v := .ref h3) rfl dX1_useWay_18 ?_
        refine lv_iload_n hx hb dX1_useWay_21 rfl (lv_at hl 2 rfl) ?_
        obtain ⟨g3, hf⟩ := xgd hf
        refine x_iald E hw 3 0 rfl rfl (xin_vp g3) dX1_useWay_22 ?_
        refine lv_istore (lv' := [(5, .int (cam (Int32.toNatClampNeg x3))), (0, .ref h0), (1, .int x1), (3, .int x3), (4, .int x4)]) hx hb dX1_useWay_23 hl (by decide) rfl (fun ls hl => ?_)
        refine lv_aload_n hx hb dX1_useWay_25 rfl (lv_at hl 1 rfl) ?_
        refine lv_iload hx hb dX1_useWay_26 (lv_at hl 0 rfl) ?_
        refine lv_iload_n hx hb dX1_useWay_28 rfl (lv_at hl 3 rfl) ?_
        obtain ⟨q4, hq4, hf⟩ := Option.bind_eq_some_iff.mp hf
        refine x_callVI (ws' := (wCut cI cZ cN cC h0 h1 h2 h3 q4.1 q4.2 cam)) (st1 := []) (As := [.int (cam (Int32.toNatClampNeg x3)), .int x3]) (rest := []) E hw vc_X1_52 (c_X1_useStep (cI := cI) (cZ := cZ) (cN := cN) (cC := cC) (h0 := h0) (h1 := h1) (h2 := h2) (h3 := h3)  (usd := usd) (usi := usi) (cam := cam) (x1 := (cam (Int32.toNatClampNeg x3))) (x2 := x3) hq4) 0 1 rfl rfl rfl rfl rfl ⟨Nat.le_of_ble_eq_true rfl, Nat.le_of_ble_eq_true rfl⟩ ⟨Nat.le_refl _, Nat.le_refl _⟩ hl.1 rfl rfl (Nat.le_of_ble_eq_true rfl) dX1_useWay_29 (fun H locs hw => ?_)
        refine lv_iload hx hb dX1_useWay_32 (lv_at hl 0 rfl) ?_
        refine lv_istore_n (lv' := [(3, .int (cam (Int32.toNatClampNeg x3))), (5, .int (cam (Int32.toNatClampNeg x3))), (0, .ref h0), (1, .int x1), (4, .int x4)]) hx hb dX1_useWay_34 rfl hl (by decide) rfl (fun ls hl => ?_)
        refine lv_iinc (v := (x4 + 1)) (lv' := [(4, .int (x4 + 1)), (3, .int (cam (Int32.toNatClampNeg x3))), (5, .int (cam (Int32.toNatClampNeg x3))), (0, .ref h0), (1, .int x1)]) hx hb dX1_useWay_35 hl (k := 4) rfl rfl (by decide) rfl (fun ls hl => ?_)
        refine lv_goto (tgt := 5) hx hb dX1_useWay_38 (by decide) ?_
        exact ih _ _ _ _ hf _ _ _ hw (lv_sub hl [3, 4, 1, 0] rfl)
def f_X1_useWay (N : Nat) (x1 : Int32) (x2 : Int32) (usd : (Nat → Int32)) (usi : (Nat → Int32)) (cam : (Nat → Int32)) : Option ((Nat → Int32) × (Nat → Int32)) :=
  f_X1_useWay_5 x1 cam N x2 0 usd usi
set_option maxHeartbeats 4000000 in
set_option maxRecDepth 100000 in
theorem c_X1_useWay {l : Launch} {D : va_G} {cI cZ cN cC : ClassId} {h0 h1 h2 h3 : Nat} {usd : (Nat → Int32)} {usi : (Nat → Int32)} {cam : (Nat → Int32)} {x1 : Int32} {x2 : Int32} {N : Nat} {res : (Nat → Int32) × (Nat → Int32)} (hf : f_X1_useWay N x1 x2 usd usi cam = some res) : xMet l D (xtys cI cZ cN cC) yX1_useWay cX1_useWay 6 none 2 43 [.ref h0, .int x1, .int x2] (wCut cI cZ cN cC h0 h1 h2 h3 usd usi cam) (wCut cI cZ cN cC h0 h1 h2 h3 res.1 res.2 cam) none := by
  refine x_enter (by decide) (Nat.le_of_ble_eq_true rfl) ?_
  intro p e s m args below meth c E ls hl hw
  have E : xE p s m args meth c cX1_useWay 6 none RX1 D (xtys cI cZ cN cC) (xA (wCut cI cZ cN cC h0 h1 h2 h3 usd usi cam)) := E
  obtain ⟨hx, hb, -⟩ := id E
  have hl : lv_has ls 6 [(0, .ref h0), (1, .int x1), (2, .int x2)] := hl
  unfold f_X1_useWay at hf
  refine lv_iload_n hx hb dX1_useWay_0 rfl (lv_at hl 2 rfl) ?_
  refine lv_istore_n (lv' := [(3, .int x2), (0, .ref h0), (1, .int x1), (2, .int x2)]) hx hb dX1_useWay_1 rfl hl (by decide) rfl (fun ls hl => ?_)
  refine lv_iconst (v := 0) hx hb dX1_useWay_2 (by decide) ?_
  refine lv_istore (lv' := [(4, .int 0), (3, .int x2), (0, .ref h0), (1, .int x1), (2, .int x2)]) hx hb dX1_useWay_3 hl (by decide) rfl (fun ls hl => ?_)
  exact b_X1_useWay_5 E N _ _ _ _ hf _ _ _ hw (lv_sub hl [2, 3, 1, 0] rfl)

def f_X1_findWay_75 (k12 : Int32 → Int32 → Int32 → (Nat → Int32) → Option (Int32 × (Nat → Int32))) (x4 : Int32) (x5 : Int32) (x6 : Int32) (x7 : Int32) (x8 : Int32) (pts : Int32) : Nat → Int32 → (Nat → Int32) → Option (Int32 × (Nat → Int32))
  | 0, _, _ => none
  | n + 1, x9, cam =>
    if pts ≤ x9 then
     k12 (x4 ||| x8) ((x5 &&& ((1 <<< (x7 &&& 31)) ^^^ (-1))) ||| x8) (x6 + 1) cam
    else
     if (f_X6_has x8 x9) = 0 then
      f_X1_findWay_75 k12 x4 x5 x6 x7 x8 pts n (x9 + 1) cam
     else
      if xin x9 10 then
      f_X1_findWay_75 k12 x4 x5 x6 x7 x8 pts n (x9 + 1) (upd cam (Int32.toNatClampNeg x9) x7)
      else none
set_option maxHeartbeats 4000000 in
set_option maxRecDepth 100000 in
theorem b_X1_findWay_75 {p : Program} {l : Launch} {e : Env} {s : State} {m : MethodId} {args : Array Value} {below : List Frame} {meth : Method} {c : Code} {D : va_G} {cI cZ cN cC : ClassId} {ws0 : va_W} {h0 h1 h2 h3 k0 k1 k2 k3 : Nat} {x3 : Int32} {x4 : Int32} {x5 : Int32} {x6 : Int32} {x7 : Int32} {x8 : Int32} {usd : (Nat → Int32)} {usi : (Nat → Int32)} {pts : Int32} {wrk : Int32} {out : (Nat → Int32)} {mem : (Nat → Int32)} {abv : (Nat → Int32)} {res : Int32 × (Nat → Int32)} (E : xE p s m args meth c cX1_findWay 10 (some .boolean) RX1 D (xtys cI cZ cN cC) (xA ws0)) {k12 : Int32 → Int32 → Int32 → (Nat → Int32) → Option (Int32 × (Nat → Int32))} (hk12 : ∀ (x4 : Int32) (x5 : Int32) (x6 : Int32) (cam : (Nat → Int32)), k12 x4 x5 x6 cam = some res → ∀ (H : Heap) (locs : List Loc) (ls : Array Slot), xw D (xA ws0) s.heap (wCutN cI cZ cN cC h0 h1 h2 h3 k0 k1 k2 k3 usd usi cam pts wrk out mem abv) H locs → lv_has ls 10 [(0, .ref h0), (1, .ref k0), (3, .int x3), (4, .int x4), (5, .int x5), (6, .int x6)] → xG p l e 2 40 s m args below meth c D ws0 (wCutN cI cZ cN cC h0 h1 h2 h3 k0 k1 k2 k3 usd usi res.2 pts wrk out mem abv) (some (.int res.1)) H locs (F0 m 12 ls [])) : ∀ (n : Nat) (x9 : Int32) (cam : (Nat → Int32)), f_X1_findWay_75 k12 x4 x5 x6 x7 x8 pts n x9 cam = some res → ∀ (H : Heap) (locs : List Loc) (ls : Array Slot), xw D (xA ws0) s.heap (wCutN cI cZ cN cC h0 h1 h2 h3 k0 k1 k2 k3 usd usi cam pts wrk out mem abv) H locs → lv_has ls 10 [(0, .ref h0), (1, .ref k0), (3, .int x3), (4, .int x4), (5, .int x5), (6, .int x6), (7, .int x7), (8, .int x8), (9, .int x9)] → xG p l e 2 40 s m args below meth c D ws0 (wCutN cI cZ cN cC h0 h1 h2 h3 k0 k1 k2 k3 usd usi res.2 pts wrk out mem abv) (some (.int res.1)) H locs (F0 m 75 ls []) := by
  obtain ⟨hx, hb, -⟩ := id E
  intro n
  induction n with
  | zero =>
    intro _ _ hf
    rw [f_X1_findWay_75] at hf; cases hf
  | succ n ih =>
    intro x9 cam hf H locs ls hw hl
    rw [f_X1_findWay_75] at hf
    refine lv_iload hx hb dX1_findWay_75 (lv_at hl 8 rfl) ?_
    refine lv_aload_n hx hb dX1_findWay_77 rfl (lv_at hl 1 rfl) ?_
    refine x_get E hw kin_X3 4 rfl rfl 0 (by decide) kF_X1_48 (v := .int pts) rfl dX1_findWay_78 ?_
    refine lv_icmp_ge (tgt := 109) hx hb dX1_findWay_81 (by decide) (fun c7 => ?_) (fun c7 => ?_)
    · rw [if_pos c7] at hf
      refine lv_iload hx hb dX1_findWay_109 (lv_at hl 3 rfl) ?_
      refine lv_iload hx hb dX1_findWay_111 (lv_at hl 7 rfl) ?_
      refine lv_ior hx hb dX1_findWay_113 ?_
      refine lv_istore (lv' := [(4, .int (x4 ||| x8)), (0, .ref h0), (1, .ref k0), (3, .int x3), (5, .int x5), (6, .int x6), (7, .int x7), (8, .int x8), (9, .int x9)]) hx hb dX1_findWay_114 hl (by decide) rfl (fun ls hl => ?_)
      refine lv_iload hx hb dX1_findWay_116 (lv_at hl 4 rfl) ?_
      refine lv_iconst (v := 1) hx hb dX1_findWay_118 (by decide) ?_
      refine lv_iload hx hb dX1_findWay_119 (lv_at hl 6 rfl) ?_
      refine lv_ishl hx hb dX1_findWay_121 ?_
      refine lv_iconst (v := (-1)) hx hb dX1_findWay_122 (by decide) ?_
      refine lv_ixor hx hb dX1_findWay_123 ?_
      refine lv_iand hx hb dX1_findWay_124 ?_
      refine lv_iload hx hb dX1_findWay_125 (lv_at hl 7 rfl) ?_
      refine lv_ior hx hb dX1_findWay_127 ?_
      refine lv_istore (lv' := [(5, .int ((x5 &&& ((1 <<< (x7 &&& 31)) ^^^ (-1))) ||| x8)), (4, .int (x4 ||| x8)), (0, .ref h0), (1, .ref k0), (3, .int x3), (6, .int x6), (7, .int x7), (8, .int x8), (9, .int x9)]) hx hb dX1_findWay_128 hl (by decide) rfl (fun ls hl => ?_)
      refine lv_iinc (v := (x6 + 1)) (lv' := [(6, .int (x6 + 1)), (5, .int ((x5 &&& ((1 <<< (x7 &&& 31)) ^^^ (-1))) ||| x8)), (4, .int (x4 ||| x8)), (0, .ref h0), (1, .ref k0), (3, .int x3), (7, .int x7), (8, .int x8), (9, .int x9)]) hx hb dX1_findWay_130 hl (k := 5) rfl rfl (by decide) rfl (fun ls hl => ?_)
      refine lv_goto (tgt := 12) hx hb dX1_findWay_133 (by decide) ?_
      exact hk12 _ _ _ _ hf _ _ _ hw (lv_sub hl [3, 4, 5, 2, 1, 0] rfl)
    · rw [if_neg c7] at hf
      refine lv_iload hx hb dX1_findWay_84 (lv_at hl 7 rfl) ?_
      refine lv_iload hx hb dX1_findWay_86 (lv_at hl 8 rfl) ?_
      refine x_callN (isC := []) (ws' := (wCutN cI cZ cN cC h0 h1 h2 h3 k0 k1 k2 k3 usd usi cam pts wrk out mem abv)) (st1 := [.int (f_X6_has x8 x9)]) (As := [.int x8, .int x9]) (rest := []) E hw vc_X1_35 (c_X6_has (cI := cI) (cZ := cZ) (cN := cN) (cC := cC)    (x0 := x8) (x1 := x9) rfl) rfl rfl rfl rfl rfl rfl ⟨Nat.le_of_ble_eq_true rfl, Nat.le_of_ble_eq_true rfl⟩ ⟨Nat.le_refl _, Nat.le_refl _⟩ hl.1 rfl rfl (Nat.le_of_ble_eq_true rfl) dX1_findWay_88 (fun H locs hw => ?_)
      refine lv_if_eq (tgt := 103) hx hb dX1_findWay_91 (by decide) (fun c8 => ?_) (fun c8 => ?_)
      · rw [if_pos c8] at hf
        refine lv_iinc (v := (x9 + 1)) (lv' := [(9, .int (x9 + 1)), (0, .ref h0), (1, .ref k0), (3, .int x3), (4, .int x4), (5, .int x5), (6, .int x6), (7, .int x7), (8, .int x8)]) hx hb dX1_findWay_103 hl (k := 8) rfl rfl (by decide) rfl (fun ls hl => ?_)
        refine lv_goto (tgt := 75) hx hb dX1_findWay_106 (by decide) ?_
        exact ih _ _ hf _ _ _ hw (lv_sub hl [1, 2, 3, 4, 5, 6, 7, 8, 0] rfl)
      · rw [if_neg c8] at hf
        refine lv_aload_n hx hb dX1_findWay_94 rfl (lv_at hl 0 rfl) ?_
        refine x_get E hw kin_X1 0 rfl rfl 2 (by decide) kF_X1_18 (v := .ref h3) rfl dX1_findWay_95 ?_
        refine lv_iload hx hb dX1_findWay_98 (lv_at hl 8 rfl) ?_
        refine lv_iload hx hb dX1_findWay_100 (lv_at hl 6 rfl) ?_
        obtain ⟨g9, hf⟩ := xgd hf
        refine x_iast (ws' := (wCutN cI cZ cN cC h0 h1 h2 h3 k0 k1 k2 k3 usd usi (upd cam (Int32.toNatClampNeg x9) x7) pts wrk out mem abv)) E hw 3 0 rfl rfl (xin_vp g9) rfl dX1_findWay_102 (fun H locs hw => ?_)
        refine lv_iinc (v := (x9 + 1)) (lv' := [(9, .int (x9 + 1)), (0, .ref h0), (1, .ref k0), (3, .int x3), (4, .int x4), (5, .int x5), (6, .int x6), (7, .int x7), (8, .int x8)]) hx hb dX1_findWay_103 hl (k := 8) rfl rfl (by decide) rfl (fun ls hl => ?_)
        refine lv_goto (tgt := 75) hx hb dX1_findWay_106 (by decide) ?_
        exact ih _ _ hf _ _ _ hw (lv_sub hl [1, 2, 3, 4, 5, 6, 7, 8, 0] rfl)
def f_X1_findWay_12 (N : Nat) (x3 : Int32) (usd : (Nat → Int32)) (usi : (Nat → Int32)) (pts : Int32) (out : (Nat → Int32)) : Nat → Int32 → Int32 → Int32 → (Nat → Int32) → Option (Int32 × (Nat → Int32))
  | 0, _, _, _, _ => none
  | n + 1, x4, x5, x6, cam =>
    if 10 ≤ x6 then
     some ((f_X6_has x4 x3), cam)
    else
     if x5 = 0 then
      some ((f_X6_has x4 x3), cam)
     else
      if (f_X6_has x4 x3) = 0 then
       if xin (f_X6_lowest x5) 10 then
       if xin (f_X6_lowest x5) 10 then
       if xin (f_X6_lowest x5) 10 then
       f_X1_findWay_75 (fun x4 x5 x6 cam => f_X1_findWay_12 N x3 usd usi pts out n x4 x5 x6 cam) x4 x5 x6 (f_X6_lowest x5) ((((out (Int32.toNatClampNeg (f_X6_lowest x5))) &&& ((usd (Int32.toNatClampNeg (f_X6_lowest x5))) ^^^ (-1))) ||| (usi (Int32.toNatClampNeg (f_X6_lowest x5)))) &&& (x4 ^^^ (-1))) pts N 0 cam
       else none
       else none
       else none
      else
       some ((f_X6_has x4 x3), cam)
set_option maxHeartbeats 4000000 in
set_option maxRecDepth 100000 in
theorem b_X1_findWay_12 {p : Program} {l : Launch} {e : Env} {s : State} {m : MethodId} {args : Array Value} {below : List Frame} {meth : Method} {c : Code} {D : va_G} {cI cZ cN cC : ClassId} {ws0 : va_W} {h0 h1 h2 h3 k0 k1 k2 k3 : Nat} {x3 : Int32} {usd : (Nat → Int32)} {usi : (Nat → Int32)} {pts : Int32} {wrk : Int32} {out : (Nat → Int32)} {mem : (Nat → Int32)} {abv : (Nat → Int32)} {N : Nat} {res : Int32 × (Nat → Int32)} (E : xE p s m args meth c cX1_findWay 10 (some .boolean) RX1 D (xtys cI cZ cN cC) (xA ws0)) : ∀ (n : Nat) (x4 : Int32) (x5 : Int32) (x6 : Int32) (cam : (Nat → Int32)), f_X1_findWay_12 N x3 usd usi pts out n x4 x5 x6 cam = some res → ∀ (H : Heap) (locs : List Loc) (ls : Array Slot), xw D (xA ws0) s.heap (wCutN cI cZ cN cC h0 h1 h2 h3 k0 k1 k2 k3 usd usi cam pts wrk out mem abv) H locs → lv_has ls 10 [(0, .ref h0), (1, .ref k0), (3, .int x3), (4, .int x4), (5, .int x5), (6, .int x6)] → xG p l e 2 40 s m args below meth c D ws0 (wCutN cI cZ cN cC h0 h1 h2 h3 k0 k1 k2 k3 usd usi res.2 pts wrk out mem abv) (some (.int res.1)) H locs (F0 m 12 ls []) := by
  obtain ⟨hx, hb, -⟩ := id E
  intro n
  induction n with
  | zero =>
    intro _ _ _ _ hf
    rw [f_X1_findWay_12] at hf; cases hf
  | succ n ih =>
    intro x4 x5 x6 cam hf H locs ls hw hl
    rw [f_X1_findWay_12] at hf
    refine lv_iload hx hb dX1_findWay_12 (lv_at hl 5 rfl) ?_
    refine lv_bipush (v := 10) hx hb dX1_findWay_14 (by decide) ?_
    refine lv_icmp_ge (tgt := 136) hx hb dX1_findWay_16 (by decide) (fun c1 => ?_) (fun c1 => ?_)
    · rw [if_pos c1] at hf
      refine lv_iload hx hb dX1_findWay_136 (lv_at hl 3 rfl) ?_
      refine lv_iload_n hx hb dX1_findWay_138 rfl (lv_at hl 2 rfl) ?_
      refine x_callN (isC := []) (ws' := (wCutN cI cZ cN cC h0 h1 h2 h3 k0 k1 k2 k3 usd usi cam pts wrk out mem abv)) (st1 := [.int (f_X6_has x4 x3)]) (As := [.int x4, .int x3]) (rest := []) E hw vc_X1_35 (c_X6_has (cI := cI) (cZ := cZ) (cN := cN) (cC := cC)    (x0 := x4) (x1 := x3) rfl) rfl rfl rfl rfl rfl rfl ⟨Nat.le_of_ble_eq_true rfl, Nat.le_of_ble_eq_true rfl⟩ ⟨Nat.le_refl _, Nat.le_refl _⟩ hl.1 rfl rfl (Nat.le_of_ble_eq_true rfl) dX1_findWay_139 (fun H locs hw => ?_)
      have hf := Option.some.inj hf; subst hf
      exact x_zret E hw (xz_n z_X6_has) dX1_findWay_142
    · rw [if_neg c1] at hf
      refine lv_iload hx hb dX1_findWay_19 (lv_at hl 4 rfl) ?_
      refine lv_if_eq (tgt := 136) hx hb dX1_findWay_21 (by decide) (fun c2 => ?_) (fun c2 => ?_)
      · rw [if_pos c2] at hf
        refine lv_iload hx hb dX1_findWay_136 (lv_at hl 3 rfl) ?_
        refine lv_iload_n hx hb dX1_findWay_138 rfl (lv_at hl 2 rfl) ?_
        refine x_callN (isC := []) (ws' := (wCutN cI cZ cN cC h0 h1 h2 h3 k0 k1 k2 k3 usd usi cam pts wrk out mem abv)) (st1 := [.int (f_X6_has x4 x3)]) (As := [.int x4, .int x3]) (rest := []) E hw vc_X1_35 (c_X6_has (cI := cI) (cZ := cZ) (cN := cN) (cC := cC)    (x0 := x4) (x1 := x3) rfl) rfl rfl rfl rfl rfl rfl ⟨Nat.le_of_ble_eq_true rfl, Nat.le_of_ble_eq_true rfl⟩ ⟨Nat.le_refl _, Nat.le_refl _⟩ hl.1 rfl rfl (Nat.le_of_ble_eq_true rfl) dX1_findWay_139 (fun H locs hw => ?_)
        have hf := Option.some.inj hf; subst hf
        exact x_zret E hw (xz_n z_X6_has) dX1_findWay_142
      · rw [if_neg c2] at hf
        refine lv_iload hx hb dX1_findWay_24 (lv_at hl 3 rfl) ?_
        refine lv_iload_n hx hb dX1_findWay_26 rfl (lv_at hl 2 rfl) ?_
        refine x_callN (isC := []) (ws' := (wCutN cI cZ cN cC h0 h1 h2 h3 k0 k1 k2 k3 usd usi cam pts wrk out mem abv)) (st1 := [.int (f_X6_has x4 x3)]) (As := [.int x4, .int x3]) (rest := []) E hw vc_X1_35 (c_X6_has (cI := cI) (cZ := cZ) (cN := cN) (cC := cC)    (x0 := x4) (x1 := x3) rfl) rfl rfl rfl rfl rfl rfl ⟨Nat.le_of_ble_eq_true rfl, Nat.le_of_ble_eq_true rfl⟩ ⟨Nat.le_refl _, Nat.le_refl _⟩ hl.1 rfl rfl (Nat.le_of_ble_eq_true rfl) dX1_findWay_27 (fun H locs hw => ?_)
        refine lv_if_ne (tgt := 136) hx hb dX1_findWay_30 (by decide) (fun c3 => ?_) (fun c3 => ?_)
        · rw [if_neg c3] at hf
          refine lv_iload hx hb dX1_findWay_136 (lv_at hl 3 rfl) ?_
          refine lv_iload_n hx hb dX1_findWay_138 rfl (lv_at hl 2 rfl) ?_
          refine x_callN (isC := []) (ws' := (wCutN cI cZ cN cC h0 h1 h2 h3 k0 k1 k2 k3 usd usi cam pts wrk out mem abv)) (st1 := [.int (f_X6_has x4 x3)]) (As := [.int x4, .int x3]) (rest := []) E hw vc_X1_35 (c_X6_has (cI := cI) (cZ := cZ) (cN := cN) (cC := cC)    (x0 := x4) (x1 := x3) rfl) rfl rfl rfl rfl rfl rfl ⟨Nat.le_of_ble_eq_true rfl, Nat.le_of_ble_eq_true rfl⟩ ⟨Nat.le_refl _, Nat.le_refl _⟩ hl.1 rfl rfl (Nat.le_of_ble_eq_true rfl) dX1_findWay_139 (fun H locs hw => ?_)
          have hf := Option.some.inj hf; subst hf
          exact x_zret E hw (xz_n z_X6_has) dX1_findWay_142
        · rw [if_pos c3] at hf
          refine lv_iload hx hb dX1_findWay_33 (lv_at hl 4 rfl) ?_
          refine x_callN (isC := []) (ws' := (wCutN cI cZ cN cC h0 h1 h2 h3 k0 k1 k2 k3 usd usi cam pts wrk out mem abv)) (st1 := [.int (f_X6_lowest x5)]) (As := [.int x5]) (rest := []) E hw vc_X1_39 (c_X6_lowest (cI := cI) (cZ := cZ) (cN := cN) (cC := cC)    (x0 := x5) rfl) rfl rfl rfl rfl rfl rfl ⟨Nat.le_of_ble_eq_true rfl, Nat.le_of_ble_eq_true rfl⟩ ⟨Nat.le_refl _, Nat.le_refl _⟩ hl.1 rfl rfl (Nat.le_of_ble_eq_true rfl) dX1_findWay_35 (fun H locs hw => ?_)
          refine lv_istore (lv' := [(7, .int (f_X6_lowest x5)), (0, .ref h0), (1, .ref k0), (3, .int x3), (4, .int x4), (5, .int x5), (6, .int x6)]) hx hb dX1_findWay_38 hl (by decide) rfl (fun ls hl => ?_)
          refine lv_aload_n hx hb dX1_findWay_40 rfl (lv_at hl 2 rfl) ?_
          refine x_get E hw kin_X3 4 rfl rfl 2 (by decide) kF_X1_43 (v := .ref k1) rfl dX1_findWay_41 ?_
          refine lv_iload hx hb dX1_findWay_44 (lv_at hl 0 rfl) ?_
          obtain ⟨g4, hf⟩ := xgd hf
          refine x_iald E hw 5 0 rfl rfl (xin_vp g4) dX1_findWay_46 ?_
          refine lv_aload_n hx hb dX1_findWay_47 rfl (lv_at hl 1 rfl) ?_
          refine x_get E hw kin_X1 0 rfl rfl 0 (by decide) kF_X1_9 (v := .ref h1) rfl dX1_findWay_48 ?_
          refine lv_iload hx hb dX1_findWay_51 (lv_at hl 0 rfl) ?_
          obtain ⟨g5, hf⟩ := xgd hf
          refine x_iald E hw 1 0 rfl rfl (xin_vp g5) dX1_findWay_53 ?_
          refine lv_iconst (v := (-1)) hx hb dX1_findWay_54 (by decide) ?_
          refine lv_ixor hx hb dX1_findWay_55 ?_
          refine lv_iand hx hb dX1_findWay_56 ?_
          refine lv_aload_n hx hb dX1_findWay_57 rfl (lv_at hl 1 rfl) ?_
          refine x_get E hw kin_X1 0 rfl rfl 1 (by decide) kF_X1_15 (v := .ref h2) rfl dX1_findWay_58 ?_
          refine lv_iload hx hb dX1_findWay_61 (lv_at hl 0 rfl) ?_
          obtain ⟨g6, hf⟩ := xgd hf
          refine x_iald E hw 2 0 rfl rfl (xin_vp g6) dX1_findWay_63 ?_
          refine lv_ior hx hb dX1_findWay_64 ?_
          refine lv_iload hx hb dX1_findWay_65 (lv_at hl 4 rfl) ?_
          refine lv_iconst (v := (-1)) hx hb dX1_findWay_67 (by decide) ?_
          refine lv_ixor hx hb dX1_findWay_68 ?_
          refine lv_iand hx hb dX1_findWay_69 ?_
          refine lv_istore (lv' := [(8, .int ((((out (Int32.toNatClampNeg (f_X6_lowest x5))) &&& ((usd (Int32.toNatClampNeg (f_X6_lowest x5))) ^^^ (-1))) ||| (usi (Int32.toNatClampNeg (f_X6_lowest x5)))) &&& (x4 ^^^ (-1)))), (7, .int (f_X6_lowest x5)), (0, .ref h0), (1, .ref k0), (3, .int x3), (4, .int x4), (5, .int x5), (6, .int x6)]) hx hb dX1_findWay_70 hl (by decide) rfl (fun ls hl => ?_)
          refine lv_iconst (v := 0) hx hb dX1_findWay_72 (by decide) ?_
          refine lv_istore (lv' := [(9, .int 0), (8, .int ((((out (Int32.toNatClampNeg (f_X6_lowest x5))) &&& ((usd (Int32.toNatClampNeg (f_X6_lowest x5))) ^^^ (-1))) ||| (usi (Int32.toNatClampNeg (f_X6_lowest x5)))) &&& (x4 ^^^ (-1)))), (7, .int (f_X6_lowest x5)), (0, .ref h0), (1, .ref k0), (3, .int x3), (4, .int x4), (5, .int x5), (6, .int x6)]) hx hb dX1_findWay_73 hl (by decide) rfl (fun ls hl => ?_)
          exact b_X1_findWay_75 E ih N _ _ hf _ _ _ hw (lv_sub hl [3, 4, 5, 6, 7, 8, 2, 1, 0] rfl)
def f_X1_findWay (N : Nat) (x2 : Int32) (x3 : Int32) (usd : (Nat → Int32)) (usi : (Nat → Int32)) (cam : (Nat → Int32)) (pts : Int32) (out : (Nat → Int32)) : Option (Int32 × (Nat → Int32)) :=
  f_X1_findWay_12 N x3 usd usi pts out N (1 <<< (x2 &&& 31)) (1 <<< (x2 &&& 31)) 0 cam
set_option maxHeartbeats 4000000 in
set_option maxRecDepth 100000 in
theorem c_X1_findWay {l : Launch} {D : va_G} {cI cZ cN cC : ClassId} {h0 h1 h2 h3 k0 k1 k2 k3 : Nat} {usd : (Nat → Int32)} {usi : (Nat → Int32)} {cam : (Nat → Int32)} {pts : Int32} {wrk : Int32} {out : (Nat → Int32)} {mem : (Nat → Int32)} {abv : (Nat → Int32)} {x2 : Int32} {x3 : Int32} {N : Nat} {res : Int32 × (Nat → Int32)} (hf : f_X1_findWay N x2 x3 usd usi cam pts out = some res) : xMet l D (xtys cI cZ cN cC) yX1_findWay cX1_findWay 10 (some .boolean) 2 40 [.ref h0, .ref k0, .int x2, .int x3] (wCutN cI cZ cN cC h0 h1 h2 h3 k0 k1 k2 k3 usd usi cam pts wrk out mem abv) (wCutN cI cZ cN cC h0 h1 h2 h3 k0 k1 k2 k3 usd usi res.2 pts wrk out mem abv) (some (.int res.1)) := by
  refine x_enter (by decide) (Nat.le_of_ble_eq_true rfl) ?_
  intro p e s m args below meth c E ls hl hw
  have E : xE p s m args meth c cX1_findWay 10 (some .boolean) RX1 D (xtys cI cZ cN cC) (xA (wCutN cI cZ cN cC h0 h1 h2 h3 k0 k1 k2 k3 usd usi cam pts wrk out mem abv)) := E
  obtain ⟨hx, hb, -⟩ := id E
  have hl : lv_has ls 10 [(0, .ref h0), (1, .ref k0), (2, .int x2), (3, .int x3)] := hl
  unfold f_X1_findWay at hf
  refine lv_iconst (v := 1) hx hb dX1_findWay_0 (by decide) ?_
  refine lv_iload_n hx hb dX1_findWay_1 rfl (lv_at hl 2 rfl) ?_
  refine lv_ishl hx hb dX1_findWay_2 ?_
  refine lv_istore (lv' := [(4, .int (1 <<< (x2 &&& 31))), (0, .ref h0), (1, .ref k0), (2, .int x2), (3, .int x3)]) hx hb dX1_findWay_3 hl (by decide) rfl (fun ls hl => ?_)
  refine lv_iload hx hb dX1_findWay_5 (lv_at hl 0 rfl) ?_
  refine lv_istore (lv' := [(5, .int (1 <<< (x2 &&& 31))), (4, .int (1 <<< (x2 &&& 31))), (0, .ref h0), (1, .ref k0), (2, .int x2), (3, .int x3)]) hx hb dX1_findWay_7 hl (by decide) rfl (fun ls hl => ?_)
  refine lv_iconst (v := 0) hx hb dX1_findWay_9 (by decide) ?_
  refine lv_istore (lv' := [(6, .int 0), (5, .int (1 <<< (x2 &&& 31))), (4, .int (1 <<< (x2 &&& 31))), (0, .ref h0), (1, .ref k0), (2, .int x2), (3, .int x3)]) hx hb dX1_findWay_10 hl (by decide) rfl (fun ls hl => ?_)
  exact b_X1_findWay_12 E N _ _ _ _ hf _ _ _ hw (lv_sub hl [3, 4, 6, 2, 1, 0] rfl)

def f_X1_fewestArcs_19 (N : Nat) (x2 : Int32) (x3 : Int32) (pts : Int32) (out : (Nat → Int32)) : Nat → Int32 → (Nat → Int32) → (Nat → Int32) → (Nat → Int32) → Option (Int32 × (Nat → Int32) × (Nat → Int32) × (Nat → Int32))
  | 0, _, _, _, _ => none
  | n + 1, x4, usd, usi, cam =>
    if 10 ≤ x4 then
     some (x4, usd, usi, cam)
    else
     (f_X1_findWay N x2 x3 usd usi cam pts out).bind fun q4 =>
     if q4.1 = 0 then
      some (x4, usd, usi, q4.2)
     else
      (f_X1_useWay N x2 x3 usd usi q4.2).bind fun q6 =>
      f_X1_fewestArcs_19 N x2 x3 pts out n (x4 + 1) q6.1 q6.2 q4.2
set_option maxHeartbeats 4000000 in
set_option maxRecDepth 100000 in
theorem b_X1_fewestArcs_19 {p : Program} {l : Launch} {e : Env} {s : State} {m : MethodId} {args : Array Value} {below : List Frame} {meth : Method} {c : Code} {D : va_G} {cI cZ cN cC : ClassId} {ws0 : va_W} {h0 h1 h2 h3 k0 k1 k2 k3 : Nat} {x2 : Int32} {x3 : Int32} {pts : Int32} {wrk : Int32} {out : (Nat → Int32)} {mem : (Nat → Int32)} {abv : (Nat → Int32)} {N : Nat} {res : Int32 × (Nat → Int32) × (Nat → Int32) × (Nat → Int32)} (E : xE p s m args meth c cX1_fewestArcs 5 (some .int) RX1 D (xtys cI cZ cN cC) (xA ws0)) : ∀ (n : Nat) (x4 : Int32) (usd : (Nat → Int32)) (usi : (Nat → Int32)) (cam : (Nat → Int32)), f_X1_fewestArcs_19 N x2 x3 pts out n x4 usd usi cam = some res → ∀ (H : Heap) (locs : List Loc) (ls : Array Slot), xw D (xA ws0) s.heap (wCutN cI cZ cN cC h0 h1 h2 h3 k0 k1 k2 k3 usd usi cam pts wrk out mem abv) H locs → lv_has ls 5 [(0, .ref h0), (1, .ref k0), (2, .int x2), (3, .int x3), (4, .int x4)] → xG p l e 3 69 s m args below meth c D ws0 (wCutN cI cZ cN cC h0 h1 h2 h3 k0 k1 k2 k3 res.2.1 res.2.2.1 res.2.2.2 pts wrk out mem abv) (some (.int res.1)) H locs (F0 m 19 ls []) := by
  obtain ⟨hx, hb, -⟩ := id E
  intro n
  induction n with
  | zero =>
    intro _ _ _ _ hf
    rw [f_X1_fewestArcs_19] at hf; cases hf
  | succ n ih =>
    intro x4 usd usi cam hf H locs ls hw hl
    rw [f_X1_fewestArcs_19] at hf
    refine lv_iload hx hb dX1_fewestArcs_19 (lv_at hl 4 rfl) ?_
    refine lv_bipush (v := 10) hx hb dX1_fewestArcs_21 (by decide) ?_
    refine lv_icmp_ge (tgt := 48) hx hb dX1_fewestArcs_23 (by decide) (fun c3 => ?_) (fun c3 => ?_)
    · rw [if_pos c3] at hf
      refine lv_iload hx hb dX1_fewestArcs_48 (lv_at hl 4 rfl) ?_
      have hf := Option.some.inj hf; subst hf
      exact x_iret E hw dX1_fewestArcs_50
    · rw [if_neg c3] at hf
      refine lv_aload_n hx hb dX1_fewestArcs_26 rfl (lv_at hl 0 rfl) ?_
      refine lv_aload_n hx hb dX1_fewestArcs_27 rfl (lv_at hl 1 rfl) ?_
      refine lv_iload_n hx hb dX1_fewestArcs_28 rfl (lv_at hl 2 rfl) ?_
      refine lv_iload_n hx hb dX1_fewestArcs_29 rfl (lv_at hl 3 rfl) ?_
      obtain ⟨q4, hq4, hf⟩ := Option.bind_eq_some_iff.mp hf
      refine x_callVI (ws' := (wCutN cI cZ cN cC h0 h1 h2 h3 k0 k1 k2 k3 usd usi q4.2 pts wrk out mem abv)) (st1 := [.int q4.1]) (As := [.ref k0, .int x2, .int x3]) (rest := []) E hw vc_X1_27 (c_X1_findWay (cI := cI) (cZ := cZ) (cN := cN) (cC := cC) (h0 := h0) (h1 := h1) (h2 := h2) (h3 := h3) (k0 := k0) (k1 := k1) (k2 := k2) (k3 := k3)  (usd := usd) (usi := usi) (cam := cam) (pts := pts) (wrk := wrk) (out := out) (mem := mem) (abv := abv) (x2 := x2) (x3 := x3) hq4) 0 1 rfl rfl rfl rfl rfl ⟨Nat.le_of_ble_eq_true rfl, Nat.le_of_ble_eq_true rfl⟩ ⟨Nat.le_refl _, Nat.le_refl _⟩ hl.1 rfl rfl (Nat.le_of_ble_eq_true rfl) dX1_fewestArcs_30 (fun H locs hw => ?_)
      refine lv_if_eq (tgt := 48) hx hb dX1_fewestArcs_33 (by decide) (fun c5 => ?_) (fun c5 => ?_)
      · rw [if_pos c5] at hf
        refine lv_iload hx hb dX1_fewestArcs_48 (lv_at hl 4 rfl) ?_
        have hf := Option.some.inj hf; subst hf
        exact x_iret E hw dX1_fewestArcs_50
      · rw [if_neg c5] at hf
        refine lv_aload_n hx hb dX1_fewestArcs_36 rfl (lv_at hl 0 rfl) ?_
        refine lv_iload_n hx hb dX1_fewestArcs_37 rfl (lv_at hl 2 rfl) ?_
        refine lv_iload_n hx hb dX1_fewestArcs_38 rfl (lv_at hl 3 rfl) ?_
        obtain ⟨q6, hq6, hf⟩ := Option.bind_eq_some_iff.mp hf
        refine x_callV (isC := [0, 1, 2, 3]) (ws' := (wCutN cI cZ cN cC h0 h1 h2 h3 k0 k1 k2 k3 q6.1 q6.2 q4.2 pts wrk out mem abv)) (st1 := []) (As := [.int x2, .int x3]) (rest := []) E hw vc_X1_31 (c_X1_useWay (cI := cI) (cZ := cZ) (cN := cN) (cC := cC) (h0 := h0) (h1 := h1) (h2 := h2) (h3 := h3)  (usd := usd) (usi := usi) (cam := q4.2) (x1 := x2) (x2 := x3) hq6) 0 1 rfl rfl rfl rfl rfl rfl rfl rfl rfl ⟨Nat.le_of_ble_eq_true rfl, Nat.le_of_ble_eq_true rfl⟩ ⟨Nat.le_refl _, Nat.le_refl _⟩ hl.1 rfl rfl (Nat.le_of_ble_eq_true rfl) dX1_fewestArcs_39 (fun H locs hw => ?_)
        refine lv_iinc (v := (x4 + 1)) (lv' := [(4, .int (x4 + 1)), (0, .ref h0), (1, .ref k0), (2, .int x2), (3, .int x3)]) hx hb dX1_fewestArcs_42 hl (k := 4) rfl rfl (by decide) rfl (fun ls hl => ?_)
        refine lv_goto (tgt := 19) hx hb dX1_fewestArcs_45 (by decide) ?_
        exact ih _ _ _ _ hf _ _ _ hw (lv_sub hl [1, 2, 3, 4, 0] rfl)
def f_X1_fewestArcs (N : Nat) (x2 : Int32) (x3 : Int32) (usd : (Nat → Int32)) (usi : (Nat → Int32)) (cam : (Nat → Int32)) (pts : Int32) (out : (Nat → Int32)) : Option (Int32 × (Nat → Int32) × (Nat → Int32) × (Nat → Int32)) :=
  (f_J7_fill_53178 N 0 usd 10).bind fun q1 =>
  (f_J7_fill_53178 N 0 usi 10).bind fun q2 =>
  f_X1_fewestArcs_19 N x2 x3 pts out N 0 q1 q2 cam
set_option maxHeartbeats 4000000 in
set_option maxRecDepth 100000 in
theorem c_X1_fewestArcs {l : Launch} {D : va_G} {cI cZ cN cC : ClassId} {h0 h1 h2 h3 k0 k1 k2 k3 : Nat} {usd : (Nat → Int32)} {usi : (Nat → Int32)} {cam : (Nat → Int32)} {pts : Int32} {wrk : Int32} {out : (Nat → Int32)} {mem : (Nat → Int32)} {abv : (Nat → Int32)} {x2 : Int32} {x3 : Int32} {N : Nat} {res : Int32 × (Nat → Int32) × (Nat → Int32) × (Nat → Int32)} (hf : f_X1_fewestArcs N x2 x3 usd usi cam pts out = some res) : xMet l D (xtys cI cZ cN cC) yX1_fewestArcs cX1_fewestArcs 5 (some .int) 3 69 [.ref h0, .ref k0, .int x2, .int x3] (wCutN cI cZ cN cC h0 h1 h2 h3 k0 k1 k2 k3 usd usi cam pts wrk out mem abv) (wCutN cI cZ cN cC h0 h1 h2 h3 k0 k1 k2 k3 res.2.1 res.2.2.1 res.2.2.2 pts wrk out mem abv) (some (.int res.1)) := by
  refine x_enter (by decide) (Nat.le_of_ble_eq_true rfl) ?_
  intro p e s m args below meth c E ls hl hw
  have E : xE p s m args meth c cX1_fewestArcs 5 (some .int) RX1 D (xtys cI cZ cN cC) (xA (wCutN cI cZ cN cC h0 h1 h2 h3 k0 k1 k2 k3 usd usi cam pts wrk out mem abv)) := E
  obtain ⟨hx, hb, -⟩ := id E
  have hl : lv_has ls 5 [(0, .ref h0), (1, .ref k0), (2, .int x2), (3, .int x3)] := hl
  unfold f_X1_fewestArcs at hf
  refine lv_aload_n hx hb dX1_fewestArcs_0 rfl (lv_at hl 0 rfl) ?_
  refine x_get E hw kin_X1 0 rfl rfl 0 (by decide) kF_X1_9 (v := .ref h1) rfl dX1_fewestArcs_1 ?_
  refine lv_iconst (v := 0) hx hb dX1_fewestArcs_4 (by decide) ?_
  obtain ⟨q1, hq1, hf⟩ := Option.bind_eq_some_iff.mp hf
  refine x_callS (isC := [1]) (ws' := (wCutN cI cZ cN cC h0 h1 h2 h3 k0 k1 k2 k3 q1 usi cam pts wrk out mem abv)) (st1 := []) (As := [.ref h1, .int 0]) (rest := []) E hw vc_X1_21 (c_J7_fill_53178 (cI := cI) (cZ := cZ) (cN := cN) (cC := cC) (h0 := h1) (nn := 10) (arr := usd) (x1 := 0) hq1) rfl rfl rfl rfl rfl rfl ⟨Nat.le_of_ble_eq_true rfl, Nat.le_of_ble_eq_true rfl⟩ ⟨Nat.le_refl _, Nat.le_refl _⟩ hl.1 rfl rfl (Nat.le_of_ble_eq_true rfl) dX1_fewestArcs_5 (fun H locs hw => ?_)
  refine lv_aload_n hx hb dX1_fewestArcs_8 rfl (lv_at hl 0 rfl) ?_
  refine x_get E hw kin_X1 0 rfl rfl 1 (by decide) kF_X1_15 (v := .ref h2) rfl dX1_fewestArcs_9 ?_
  refine lv_iconst (v := 0) hx hb dX1_fewestArcs_12 (by decide) ?_
  obtain ⟨q2, hq2, hf⟩ := Option.bind_eq_some_iff.mp hf
  refine x_callS (isC := [2]) (ws' := (wCutN cI cZ cN cC h0 h1 h2 h3 k0 k1 k2 k3 q1 q2 cam pts wrk out mem abv)) (st1 := []) (As := [.ref h2, .int 0]) (rest := []) E hw vc_X1_21 (c_J7_fill_53178 (cI := cI) (cZ := cZ) (cN := cN) (cC := cC) (h0 := h2) (nn := 10) (arr := usi) (x1 := 0) hq2) rfl rfl rfl rfl rfl rfl ⟨Nat.le_of_ble_eq_true rfl, Nat.le_of_ble_eq_true rfl⟩ ⟨Nat.le_refl _, Nat.le_refl _⟩ hl.1 rfl rfl (Nat.le_of_ble_eq_true rfl) dX1_fewestArcs_13 (fun H locs hw => ?_)
  refine lv_iconst (v := 0) hx hb dX1_fewestArcs_16 (by decide) ?_
  refine lv_istore (lv' := [(4, .int 0), (0, .ref h0), (1, .ref k0), (2, .int x2), (3, .int x3)]) hx hb dX1_fewestArcs_17 hl (by decide) rfl (fun ls hl => ?_)
  exact b_X1_fewestArcs_19 E N _ _ _ _ hf _ _ _ hw (lv_sub hl [1, 2, 3, 4, 0] rfl)

