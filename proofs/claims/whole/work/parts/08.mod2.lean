def f_X7_putIfNew (N : Nat) (x1 : Int32) (x2 : Int32) (mn : Int32) (st : (Nat → Int32)) (pil : (Nat → Int32)) (nxs : (Nat → Int32)) : Option ((Nat → Int32) × (Nat → Int32) × (Nat → Int32)) :=
  if xin (0 + x1) 111 then
  if (f_X7_has (st (Int32.toNatClampNeg (0 + x1))) x2) = 0 then
   (f_X7_arcs N mn st).bind fun q3 =>
   if 40 ≤ q3 then
    some (st, pil, nxs)
   else
    (f_X7_putIn N x1 x2 mn st pil nxs).bind fun q5 =>
    some (q5.1, q5.2.1, q5.2.2)
  else
   some (st, pil, nxs)
  else none
set_option maxHeartbeats 4000000 in
set_option maxRecDepth 100000 in
theorem c_X7_putIfNew {l : Launch} {D : va_G} {cI cZ cN cC : ClassId} {h0 h1 h2 h3 h4 h5 h6 h7 h8 h9 h10 h11 h12 h13 h14 h15 : Nat} {mn : Int32} {um : Int32} {len : Int32} {plc : Int32} {srt : Int32} {frm : Int32} {num : Int32} {wrg : Int32} {cm : Int32} {mpt : Int32} {st : (Nat → Int32)} {pst : (Nat → Int32)} {kep : (Nat → Int32)} {isk : (Nat → Int32)} {pil : (Nat → Int32)} {nxs : (Nat → Int32)} {txt : (Nat → Int32)} {cls : (Nat → Int32)} {asd : (Nat → Int32)} {opn : (Nat → Int32)} {byy : (Nat → Int32)} {twc : (Nat → Int32)} {szs : (Nat → Int32)} {sos : (Nat → Int32)} {ths : (Nat → Int32)} {x1 : Int32} {x2 : Int32} {N : Nat} {res : (Nat → Int32) × (Nat → Int32) × (Nat → Int32)} (hf : f_X7_putIfNew N x1 x2 mn st pil nxs = some res) : xMet l D (xtys cI cZ cN cC) yX7_putIfNew cX7_putIfNew 3 none 3 70 [.ref h0, .int x1, .int x2] (wMod cI cZ cN cC h0 h1 h2 h3 h4 h5 h6 h7 h8 h9 h10 h11 h12 h13 h14 h15 mn um len plc srt frm num wrg cm mpt st pst kep isk pil nxs txt cls asd opn byy twc szs sos ths) (wMod cI cZ cN cC h0 h1 h2 h3 h4 h5 h6 h7 h8 h9 h10 h11 h12 h13 h14 h15 mn um len plc srt frm num wrg cm mpt res.1 pst kep isk res.2.1 res.2.2 txt cls asd opn byy twc szs sos ths) none := by
  refine x_enter (by decide) (Nat.le_of_ble_eq_true rfl) ?_
  intro p e s m args below meth c E ls hl hw
  have E : xE p s m args meth c cX7_putIfNew 3 none RX7 D (xtys cI cZ cN cC) (xA (wMod cI cZ cN cC h0 h1 h2 h3 h4 h5 h6 h7 h8 h9 h10 h11 h12 h13 h14 h15 mn um len plc srt frm num wrg cm mpt st pst kep isk pil nxs txt cls asd opn byy twc szs sos ths)) := E
  obtain ⟨hx, hb, -⟩ := id E
  have hl : lv_has ls 3 [(0, .ref h0), (1, .int x1), (2, .int x2)] := hl
  unfold f_X7_putIfNew at hf
  refine lv_aload_n hx hb dX7_putIfNew_0 rfl (lv_at hl 0 rfl) ?_
  refine x_get E hw kin_X7 0 rfl rfl 1 (by decide) kF_X7_13 (v := .ref h1) rfl dX7_putIfNew_1 ?_
  refine lv_iconst (v := 0) hx hb dX7_putIfNew_4 (by decide) ?_
  refine lv_iload_n hx hb dX7_putIfNew_5 rfl (lv_at hl 1 rfl) ?_
  refine lv_iadd hx hb dX7_putIfNew_6 ?_
  obtain ⟨g1, hf⟩ := xgd hf
  refine x_iald E hw 1 0 rfl rfl (xin_vp g1) dX7_putIfNew_7 ?_
  refine lv_iload_n hx hb dX7_putIfNew_8 rfl (lv_at hl 2 rfl) ?_
  refine x_callS (isC := []) (ws' := (wMod cI cZ cN cC h0 h1 h2 h3 h4 h5 h6 h7 h8 h9 h10 h11 h12 h13 h14 h15 mn um len plc srt frm num wrg cm mpt st pst kep isk pil nxs txt cls asd opn byy twc szs sos ths)) (st1 := [.int (f_X7_has (st (Int32.toNatClampNeg (0 + x1))) x2)]) (As := [.int (st (Int32.toNatClampNeg (0 + x1))), .int x2]) (rest := []) E hw vc_X7_78 (c_X7_has (cI := cI) (cZ := cZ) (cN := cN) (cC := cC)    (x0 := (st (Int32.toNatClampNeg (0 + x1)))) (x1 := x2) rfl) rfl rfl rfl rfl rfl rfl ⟨Nat.le_of_ble_eq_true rfl, Nat.le_of_ble_eq_true rfl⟩ ⟨Nat.le_refl _, Nat.le_refl _⟩ hl.1 rfl rfl (Nat.le_of_ble_eq_true rfl) dX7_putIfNew_9 (fun H locs hw => ?_)
  refine lv_if_ne (tgt := 30) hx hb dX7_putIfNew_12 (by decide) (fun c2 => ?_) (fun c2 => ?_)
  · rw [if_neg c2] at hf
    have hf := Option.some.inj hf; subst hf
    exact x_vret E hw dX7_putIfNew_30
  · rw [if_pos c2] at hf
    refine lv_aload_n hx hb dX7_putIfNew_15 rfl (lv_at hl 0 rfl) ?_
    obtain ⟨q3, hq3, hf⟩ := Option.bind_eq_some_iff.mp hf
    refine x_callVI (ws' := (wMod cI cZ cN cC h0 h1 h2 h3 h4 h5 h6 h7 h8 h9 h10 h11 h12 h13 h14 h15 mn um len plc srt frm num wrg cm mpt st pst kep isk pil nxs txt cls asd opn byy twc szs sos ths)) (st1 := [.int q3]) (As := []) (rest := []) E hw vc_X7_159 (c_X7_arcs (cI := cI) (cZ := cZ) (cN := cN) (cC := cC) (h0 := h0) (h1 := h1) (h2 := h2) (h3 := h3) (h4 := h4) (h5 := h5) (h6 := h6) (h7 := h7) (h8 := h8) (h9 := h9) (h10 := h10) (h11 := h11) (h12 := h12) (h13 := h13) (h14 := h14) (h15 := h15)  (mn := mn) (um := um) (len := len) (plc := plc) (srt := srt) (frm := frm) (num := num) (wrg := wrg) (cm := cm) (mpt := mpt) (st := st) (pst := pst) (kep := kep) (isk := isk) (pil := pil) (nxs := nxs) (txt := txt) (cls := cls) (asd := asd) (opn := opn) (byy := byy) (twc := twc) (szs := szs) (sos := sos) (ths := ths)  hq3) 0 7 rfl rfl rfl rfl rfl ⟨Nat.le_of_ble_eq_true rfl, Nat.le_of_ble_eq_true rfl⟩ ⟨Nat.le_refl _, Nat.le_refl _⟩ hl.1 rfl rfl (Nat.le_of_ble_eq_true rfl) dX7_putIfNew_16 (fun H locs hw => ?_)
    refine lv_bipush (v := 40) hx hb dX7_putIfNew_19 (by decide) ?_
    refine lv_icmp_ge (tgt := 30) hx hb dX7_putIfNew_21 (by decide) (fun c4 => ?_) (fun c4 => ?_)
    · rw [if_pos c4] at hf
      have hf := Option.some.inj hf; subst hf
      exact x_vret E hw dX7_putIfNew_30
    · rw [if_neg c4] at hf
      refine lv_aload_n hx hb dX7_putIfNew_24 rfl (lv_at hl 0 rfl) ?_
      refine lv_iload_n hx hb dX7_putIfNew_25 rfl (lv_at hl 1 rfl) ?_
      refine lv_iload_n hx hb dX7_putIfNew_26 rfl (lv_at hl 2 rfl) ?_
      obtain ⟨q5, hq5, hf⟩ := Option.bind_eq_some_iff.mp hf
      refine x_callVI (ws' := (wMod cI cZ cN cC h0 h1 h2 h3 h4 h5 h6 h7 h8 h9 h10 h11 h12 h13 h14 h15 mn um len plc srt frm num wrg cm mpt q5.1 pst kep isk q5.2.1 q5.2.2 txt cls asd opn byy twc szs sos ths)) (st1 := []) (As := [.int x1, .int x2]) (rest := []) E hw vc_X7_162 (c_X7_putIn (cI := cI) (cZ := cZ) (cN := cN) (cC := cC) (h0 := h0) (h1 := h1) (h2 := h2) (h3 := h3) (h4 := h4) (h5 := h5) (h6 := h6) (h7 := h7) (h8 := h8) (h9 := h9) (h10 := h10) (h11 := h11) (h12 := h12) (h13 := h13) (h14 := h14) (h15 := h15)  (mn := mn) (um := um) (len := len) (plc := plc) (srt := srt) (frm := frm) (num := num) (wrg := wrg) (cm := cm) (mpt := mpt) (st := st) (pst := pst) (kep := kep) (isk := isk) (pil := pil) (nxs := nxs) (txt := txt) (cls := cls) (asd := asd) (opn := opn) (byy := byy) (twc := twc) (szs := szs) (sos := sos) (ths := ths) (x1 := x1) (x2 := x2) hq5) 0 7 rfl rfl rfl rfl rfl ⟨Nat.le_of_ble_eq_true rfl, Nat.le_of_ble_eq_true rfl⟩ ⟨Nat.le_refl _, Nat.le_refl _⟩ hl.1 rfl rfl (Nat.le_of_ble_eq_true rfl) dX7_putIfNew_27 (fun H locs hw => ?_)
      have hf := Option.some.inj hf; subst hf
      exact x_vret E hw dX7_putIfNew_30

def f_X7_doClause (N : Nat) (x1 : Int32) (mn : Int32) (st : (Nat → Int32)) (pil : (Nat → Int32)) (nxs : (Nat → Int32)) (cls : (Nat → Int32)) : Option (Int32 × (Nat → Int32) × (Nat → Int32) × (Nat → Int32)) :=
  if xin (x1 + 1) 96 then
  if xin (x1 + 2) 96 then
  if xin (x1 + 3) 96 then
  if xin x1 96 then
  if Int32.toInt (cls (Int32.toNatClampNeg x1)) < 0 ∨ 4 < Int32.toInt (cls (Int32.toNatClampNeg x1)) then
   (f_X7_putIfNew N (cls (Int32.toNatClampNeg (x1 + 1))) (cls (Int32.toNatClampNeg (x1 + 2))) mn st pil nxs).bind fun q5 =>
   (f_X7_putIfNew N (cls (Int32.toNatClampNeg (x1 + 2))) (cls (Int32.toNatClampNeg (x1 + 3))) mn q5.1 q5.2.1 q5.2.2).bind fun q6 =>
   if xin x1 96 then
   if (cls (Int32.toNatClampNeg x1)) = 2 then
    (f_X7_putIfNew N (cls (Int32.toNatClampNeg (x1 + 3))) (cls (Int32.toNatClampNeg (x1 + 1))) mn q6.1 q6.2.1 q6.2.2).bind fun q9 =>
    some (mn, q9.1, q9.2.1, q9.2.2)
   else
    some (mn, q6.1, q6.2.1, q6.2.2)
   else none
  else if (cls (Int32.toNatClampNeg x1)) = 0 then
   (f_X7_begin N (cls (Int32.toNatClampNeg (x1 + 1))) st).bind fun q10 =>
   some (q10.1, q10.2, pil, nxs)
  else if (cls (Int32.toNatClampNeg x1)) = 1 then
   (f_X7_putIfNew N (cls (Int32.toNatClampNeg (x1 + 1))) (cls (Int32.toNatClampNeg (x1 + 2))) mn st pil nxs).bind fun q11 =>
   some (mn, q11.1, q11.2.1, q11.2.2)
  else if (cls (Int32.toNatClampNeg x1)) = 2 then
   (f_X7_putIfNew N (cls (Int32.toNatClampNeg (x1 + 1))) (cls (Int32.toNatClampNeg (x1 + 2))) mn st pil nxs).bind fun q12 =>
   (f_X7_putIfNew N (cls (Int32.toNatClampNeg (x1 + 2))) (cls (Int32.toNatClampNeg (x1 + 3))) mn q12.1 q12.2.1 q12.2.2).bind fun q13 =>
   if xin x1 96 then
   if (cls (Int32.toNatClampNeg x1)) = 2 then
    (f_X7_putIfNew N (cls (Int32.toNatClampNeg (x1 + 3))) (cls (Int32.toNatClampNeg (x1 + 1))) mn q13.1 q13.2.1 q13.2.2).bind fun q16 =>
    some (mn, q16.1, q16.2.1, q16.2.2)
   else
    some (mn, q13.1, q13.2.1, q13.2.2)
   else none
  else if (cls (Int32.toNatClampNeg x1)) = 3 then
   (f_X7_putIfNew N (cls (Int32.toNatClampNeg (x1 + 1))) (cls (Int32.toNatClampNeg (x1 + 2))) mn st pil nxs).bind fun q17 =>
   (f_X7_putIfNew N (cls (Int32.toNatClampNeg (x1 + 2))) (cls (Int32.toNatClampNeg (x1 + 3))) mn q17.1 q17.2.1 q17.2.2).bind fun q18 =>
   if xin x1 96 then
   if (cls (Int32.toNatClampNeg x1)) = 2 then
    (f_X7_putIfNew N (cls (Int32.toNatClampNeg (x1 + 3))) (cls (Int32.toNatClampNeg (x1 + 1))) mn q18.1 q18.2.1 q18.2.2).bind fun q21 =>
    some (mn, q21.1, q21.2.1, q21.2.2)
   else
    some (mn, q18.1, q18.2.1, q18.2.2)
   else none
  else
   (f_X7_putIfNew N (cls (Int32.toNatClampNeg (x1 + 1))) (cls (Int32.toNatClampNeg (x1 + 2))) mn st pil nxs).bind fun q22 =>
   (f_X7_putIfNew N (cls (Int32.toNatClampNeg (x1 + 1))) (cls (Int32.toNatClampNeg (x1 + 3))) mn q22.1 q22.2.1 q22.2.2).bind fun q23 =>
   some (mn, q23.1, q23.2.1, q23.2.2)
  else none
  else none
  else none
  else none
set_option maxHeartbeats 4000000 in
set_option maxRecDepth 100000 in
theorem c_X7_doClause {l : Launch} {D : va_G} {cI cZ cN cC : ClassId} {h0 h1 h2 h3 h4 h5 h6 h7 h8 h9 h10 h11 h12 h13 h14 h15 : Nat} {mn : Int32} {um : Int32} {len : Int32} {plc : Int32} {srt : Int32} {frm : Int32} {num : Int32} {wrg : Int32} {cm : Int32} {mpt : Int32} {st : (Nat → Int32)} {pst : (Nat → Int32)} {kep : (Nat → Int32)} {isk : (Nat → Int32)} {pil : (Nat → Int32)} {nxs : (Nat → Int32)} {txt : (Nat → Int32)} {cls : (Nat → Int32)} {asd : (Nat → Int32)} {opn : (Nat → Int32)} {byy : (Nat → Int32)} {twc : (Nat → Int32)} {szs : (Nat → Int32)} {sos : (Nat → Int32)} {ths : (Nat → Int32)} {x1 : Int32} {N : Nat} {res : Int32 × (Nat → Int32) × (Nat → Int32) × (Nat → Int32)} (hf : f_X7_doClause N x1 mn st pil nxs cls = some res) : xMet l D (xtys cI cZ cN cC) yX7_doClause cX7_doClause 5 none 4 92 [.ref h0, .int x1] (wMod cI cZ cN cC h0 h1 h2 h3 h4 h5 h6 h7 h8 h9 h10 h11 h12 h13 h14 h15 mn um len plc srt frm num wrg cm mpt st pst kep isk pil nxs txt cls asd opn byy twc szs sos ths) (wMod cI cZ cN cC h0 h1 h2 h3 h4 h5 h6 h7 h8 h9 h10 h11 h12 h13 h14 h15 res.1 um len plc srt frm num wrg cm mpt res.2.1 pst kep isk res.2.2.1 res.2.2.2 txt cls asd opn byy twc szs sos ths) none := by
  refine x_enter (by decide) (Nat.le_of_ble_eq_true rfl) ?_
  intro p e s m args below meth c E ls hl hw
  have E : xE p s m args meth c cX7_doClause 5 none RX7 D (xtys cI cZ cN cC) (xA (wMod cI cZ cN cC h0 h1 h2 h3 h4 h5 h6 h7 h8 h9 h10 h11 h12 h13 h14 h15 mn um len plc srt frm num wrg cm mpt st pst kep isk pil nxs txt cls asd opn byy twc szs sos ths)) := E
  obtain ⟨hx, hb, -⟩ := id E
  have hl : lv_has ls 5 [(0, .ref h0), (1, .int x1)] := hl
  unfold f_X7_doClause at hf
  refine lv_aload_n hx hb dX7_doClause_0 rfl (lv_at hl 0 rfl) ?_
  refine x_get E hw kin_X7 0 rfl rfl 15 (by decide) kF_X7_35 (v := .ref h8) rfl dX7_doClause_1 ?_
  refine lv_iload_n hx hb dX7_doClause_4 rfl (lv_at hl 1 rfl) ?_
  refine lv_iconst (v := 1) hx hb dX7_doClause_5 (by decide) ?_
  refine lv_iadd hx hb dX7_doClause_6 ?_
  obtain ⟨g1, hf⟩ := xgd hf
  refine x_iald E hw 8 0 rfl rfl (xin_vp g1) dX7_doClause_7 ?_
  refine lv_istore_n (lv' := [(2, .int (cls (Int32.toNatClampNeg (x1 + 1)))), (0, .ref h0), (1, .int x1)]) hx hb dX7_doClause_8 rfl hl (by decide) rfl (fun ls hl => ?_)
  refine lv_aload_n hx hb dX7_doClause_9 rfl (lv_at hl 1 rfl) ?_
  refine x_get E hw kin_X7 0 rfl rfl 15 (by decide) kF_X7_35 (v := .ref h8) rfl dX7_doClause_10 ?_
  refine lv_iload_n hx hb dX7_doClause_13 rfl (lv_at hl 2 rfl) ?_
  refine lv_iconst (v := 2) hx hb dX7_doClause_14 (by decide) ?_
  refine lv_iadd hx hb dX7_doClause_15 ?_
  obtain ⟨g2, hf⟩ := xgd hf
  refine x_iald E hw 8 0 rfl rfl (xin_vp g2) dX7_doClause_16 ?_
  refine lv_istore_n (lv' := [(3, .int (cls (Int32.toNatClampNeg (x1 + 2)))), (2, .int (cls (Int32.toNatClampNeg (x1 + 1)))), (0, .ref h0), (1, .int x1)]) hx hb dX7_doClause_17 rfl hl (by decide) rfl (fun ls hl => ?_)
  refine lv_aload_n hx hb dX7_doClause_18 rfl (lv_at hl 2 rfl) ?_
  refine x_get E hw kin_X7 0 rfl rfl 15 (by decide) kF_X7_35 (v := .ref h8) rfl dX7_doClause_19 ?_
  refine lv_iload_n hx hb dX7_doClause_22 rfl (lv_at hl 3 rfl) ?_
  refine lv_iconst (v := 3) hx hb dX7_doClause_23 (by decide) ?_
  refine lv_iadd hx hb dX7_doClause_24 ?_
  obtain ⟨g3, hf⟩ := xgd hf
  refine x_iald E hw 8 0 rfl rfl (xin_vp g3) dX7_doClause_25 ?_
  refine lv_istore (lv' := [(4, .int (cls (Int32.toNatClampNeg (x1 + 3)))), (3, .int (cls (Int32.toNatClampNeg (x1 + 2)))), (2, .int (cls (Int32.toNatClampNeg (x1 + 1)))), (0, .ref h0), (1, .int x1)]) hx hb dX7_doClause_26 hl (by decide) rfl (fun ls hl => ?_)
  refine lv_aload_n hx hb dX7_doClause_28 rfl (lv_at hl 3 rfl) ?_
  refine x_get E hw kin_X7 0 rfl rfl 15 (by decide) kF_X7_35 (v := .ref h8) rfl dX7_doClause_29 ?_
  refine lv_iload_n hx hb dX7_doClause_32 rfl (lv_at hl 4 rfl) ?_
  obtain ⟨g4, hf⟩ := xgd hf
  refine x_iald E hw 8 0 rfl rfl (xin_vp g4) dX7_doClause_33 ?_
  by_cases c0 : Int32.toInt (cls (Int32.toNatClampNeg x1)) < 0 ∨ 4 < Int32.toInt (cls (Int32.toNatClampNeg x1))
  · rw [if_pos c0] at hf
    refine lv_tableOut (tgt := 101) hx hb dX7_doClause_34 c0 (by decide) ?_
    refine lv_aload_n hx hb dX7_doClause_101 rfl (lv_at hl 3 rfl) ?_
    refine lv_iload_n hx hb dX7_doClause_102 rfl (lv_at hl 2 rfl) ?_
    refine lv_iload_n hx hb dX7_doClause_103 rfl (lv_at hl 1 rfl) ?_
    obtain ⟨q5, hq5, hf⟩ := Option.bind_eq_some_iff.mp hf
    refine x_callVI (ws' := (wMod cI cZ cN cC h0 h1 h2 h3 h4 h5 h6 h7 h8 h9 h10 h11 h12 h13 h14 h15 mn um len plc srt frm num wrg cm mpt q5.1 pst kep isk q5.2.1 q5.2.2 txt cls asd opn byy twc szs sos ths)) (st1 := []) (As := [.int (cls (Int32.toNatClampNeg (x1 + 1))), .int (cls (Int32.toNatClampNeg (x1 + 2)))]) (rest := []) E hw vc_X7_165 (c_X7_putIfNew (cI := cI) (cZ := cZ) (cN := cN) (cC := cC) (h0 := h0) (h1 := h1) (h2 := h2) (h3 := h3) (h4 := h4) (h5 := h5) (h6 := h6) (h7 := h7) (h8 := h8) (h9 := h9) (h10 := h10) (h11 := h11) (h12 := h12) (h13 := h13) (h14 := h14) (h15 := h15)  (mn := mn) (um := um) (len := len) (plc := plc) (srt := srt) (frm := frm) (num := num) (wrg := wrg) (cm := cm) (mpt := mpt) (st := st) (pst := pst) (kep := kep) (isk := isk) (pil := pil) (nxs := nxs) (txt := txt) (cls := cls) (asd := asd) (opn := opn) (byy := byy) (twc := twc) (szs := szs) (sos := sos) (ths := ths) (x1 := (cls (Int32.toNatClampNeg (x1 + 1)))) (x2 := (cls (Int32.toNatClampNeg (x1 + 2)))) hq5) 0 7 rfl rfl rfl rfl rfl ⟨Nat.le_of_ble_eq_true rfl, Nat.le_of_ble_eq_true rfl⟩ ⟨Nat.le_refl _, Nat.le_refl _⟩ hl.1 rfl rfl (Nat.le_of_ble_eq_true rfl) dX7_doClause_104 (fun H locs hw => ?_)
    refine lv_aload_n hx hb dX7_doClause_107 rfl (lv_at hl 3 rfl) ?_
    refine lv_iload_n hx hb dX7_doClause_108 rfl (lv_at hl 1 rfl) ?_
    refine lv_iload hx hb dX7_doClause_109 (lv_at hl 0 rfl) ?_
    obtain ⟨q6, hq6, hf⟩ := Option.bind_eq_some_iff.mp hf
    refine x_callVI (ws' := (wMod cI cZ cN cC h0 h1 h2 h3 h4 h5 h6 h7 h8 h9 h10 h11 h12 h13 h14 h15 mn um len plc srt frm num wrg cm mpt q6.1 pst kep isk q6.2.1 q6.2.2 txt cls asd opn byy twc szs sos ths)) (st1 := []) (As := [.int (cls (Int32.toNatClampNeg (x1 + 2))), .int (cls (Int32.toNatClampNeg (x1 + 3)))]) (rest := []) E hw vc_X7_165 (c_X7_putIfNew (cI := cI) (cZ := cZ) (cN := cN) (cC := cC) (h0 := h0) (h1 := h1) (h2 := h2) (h3 := h3) (h4 := h4) (h5 := h5) (h6 := h6) (h7 := h7) (h8 := h8) (h9 := h9) (h10 := h10) (h11 := h11) (h12 := h12) (h13 := h13) (h14 := h14) (h15 := h15)  (mn := mn) (um := um) (len := len) (plc := plc) (srt := srt) (frm := frm) (num := num) (wrg := wrg) (cm := cm) (mpt := mpt) (st := q5.1) (pst := pst) (kep := kep) (isk := isk) (pil := q5.2.1) (nxs := q5.2.2) (txt := txt) (cls := cls) (asd := asd) (opn := opn) (byy := byy) (twc := twc) (szs := szs) (sos := sos) (ths := ths) (x1 := (cls (Int32.toNatClampNeg (x1 + 2)))) (x2 := (cls (Int32.toNatClampNeg (x1 + 3)))) hq6) 0 7 rfl rfl rfl rfl rfl ⟨Nat.le_of_ble_eq_true rfl, Nat.le_of_ble_eq_true rfl⟩ ⟨Nat.le_refl _, Nat.le_refl _⟩ hl.1 rfl rfl (Nat.le_of_ble_eq_true rfl) dX7_doClause_111 (fun H locs hw => ?_)
    refine lv_aload_n hx hb dX7_doClause_114 rfl (lv_at hl 3 rfl) ?_
    refine x_get E hw kin_X7 0 rfl rfl 15 (by decide) kF_X7_35 (v := .ref h8) rfl dX7_doClause_115 ?_
    refine lv_iload_n hx hb dX7_doClause_118 rfl (lv_at hl 4 rfl) ?_
    obtain ⟨g7, hf⟩ := xgd hf
    refine x_iald E hw 8 0 rfl rfl (xin_vp g7) dX7_doClause_119 ?_
    refine lv_iconst (v := 2) hx hb dX7_doClause_120 (by decide) ?_
    refine lv_icmp_ne (tgt := 131) hx hb dX7_doClause_121 (by decide) (fun c8 => ?_) (fun c8 => ?_)
    · rw [if_neg c8] at hf
      have hf := Option.some.inj hf; subst hf
      exact x_vret E hw dX7_doClause_131
    · rw [if_pos c8] at hf
      refine lv_aload_n hx hb dX7_doClause_124 rfl (lv_at hl 3 rfl) ?_
      refine lv_iload hx hb dX7_doClause_125 (lv_at hl 0 rfl) ?_
      refine lv_iload_n hx hb dX7_doClause_127 rfl (lv_at hl 2 rfl) ?_
      obtain ⟨q9, hq9, hf⟩ := Option.bind_eq_some_iff.mp hf
      refine x_callVI (ws' := (wMod cI cZ cN cC h0 h1 h2 h3 h4 h5 h6 h7 h8 h9 h10 h11 h12 h13 h14 h15 mn um len plc srt frm num wrg cm mpt q9.1 pst kep isk q9.2.1 q9.2.2 txt cls asd opn byy twc szs sos ths)) (st1 := []) (As := [.int (cls (Int32.toNatClampNeg (x1 + 3))), .int (cls (Int32.toNatClampNeg (x1 + 1)))]) (rest := []) E hw vc_X7_165 (c_X7_putIfNew (cI := cI) (cZ := cZ) (cN := cN) (cC := cC) (h0 := h0) (h1 := h1) (h2 := h2) (h3 := h3) (h4 := h4) (h5 := h5) (h6 := h6) (h7 := h7) (h8 := h8) (h9 := h9) (h10 := h10) (h11 := h11) (h12 := h12) (h13 := h13) (h14 := h14) (h15 := h15)  (mn := mn) (um := um) (len := len) (plc := plc) (srt := srt) (frm := frm) (num := num) (wrg := wrg) (cm := cm) (mpt := mpt) (st := q6.1) (pst := pst) (kep := kep) (isk := isk) (pil := q6.2.1) (nxs := q6.2.2) (txt := txt) (cls := cls) (asd := asd) (opn := opn) (byy := byy) (twc := twc) (szs := szs) (sos := sos) (ths := ths) (x1 := (cls (Int32.toNatClampNeg (x1 + 3)))) (x2 := (cls (Int32.toNatClampNeg (x1 + 1)))) hq9) 0 7 rfl rfl rfl rfl rfl ⟨Nat.le_of_ble_eq_true rfl, Nat.le_of_ble_eq_true rfl⟩ ⟨Nat.le_refl _, Nat.le_refl _⟩ hl.1 rfl rfl (Nat.le_of_ble_eq_true rfl) dX7_doClause_128 (fun H locs hw => ?_)
      have hf := Option.some.inj hf; subst hf
      exact x_vret E hw dX7_doClause_131
  rw [if_neg c0] at hf
  by_cases c1 : (cls (Int32.toNatClampNeg x1)) = 0
  · rw [if_pos c1] at hf
    refine lv_tableIn (tgt := 68) hx hb dX7_doClause_34 (by rw [c1]; decide) (by rw [c1]; decide) (by rw [c1]; rfl) (by decide) ?_
    refine lv_aload_n hx hb dX7_doClause_68 rfl (lv_at hl 3 rfl) ?_
    refine lv_iload_n hx hb dX7_doClause_69 rfl (lv_at hl 2 rfl) ?_
    obtain ⟨q10, hq10, hf⟩ := Option.bind_eq_some_iff.mp hf
    refine x_callVI (ws' := (wMod cI cZ cN cC h0 h1 h2 h3 h4 h5 h6 h7 h8 h9 h10 h11 h12 h13 h14 h15 q10.1 um len plc srt frm num wrg cm mpt q10.2 pst kep isk pil nxs txt cls asd opn byy twc szs sos ths)) (st1 := []) (As := [.int (cls (Int32.toNatClampNeg (x1 + 1)))]) (rest := []) E hw vc_X7_59 (c_X7_begin (cI := cI) (cZ := cZ) (cN := cN) (cC := cC) (h0 := h0) (h1 := h1) (h2 := h2) (h3 := h3) (h4 := h4) (h5 := h5) (h6 := h6) (h7 := h7) (h8 := h8) (h9 := h9) (h10 := h10) (h11 := h11) (h12 := h12) (h13 := h13) (h14 := h14) (h15 := h15)  (mn := mn) (um := um) (len := len) (plc := plc) (srt := srt) (frm := frm) (num := num) (wrg := wrg) (cm := cm) (mpt := mpt) (st := st) (pst := pst) (kep := kep) (isk := isk) (pil := pil) (nxs := nxs) (txt := txt) (cls := cls) (asd := asd) (opn := opn) (byy := byy) (twc := twc) (szs := szs) (sos := sos) (ths := ths) (x1 := (cls (Int32.toNatClampNeg (x1 + 1)))) hq10) 0 7 rfl rfl rfl rfl rfl ⟨Nat.le_of_ble_eq_true rfl, Nat.le_of_ble_eq_true rfl⟩ ⟨Nat.le_refl _, Nat.le_refl _⟩ hl.1 rfl rfl (Nat.le_of_ble_eq_true rfl) dX7_doClause_70 (fun H locs hw => ?_)
    refine lv_goto (tgt := 131) hx hb dX7_doClause_73 (by decide) ?_
    have hf := Option.some.inj hf; subst hf
    exact x_vret E hw dX7_doClause_131
  rw [if_neg c1] at hf
  by_cases c2 : (cls (Int32.toNatClampNeg x1)) = 1
  · rw [if_pos c2] at hf
    refine lv_tableIn (tgt := 76) hx hb dX7_doClause_34 (by rw [c2]; decide) (by rw [c2]; decide) (by rw [c2]; rfl) (by decide) ?_
    refine lv_aload_n hx hb dX7_doClause_76 rfl (lv_at hl 3 rfl) ?_
    refine lv_iload_n hx hb dX7_doClause_77 rfl (lv_at hl 2 rfl) ?_
    refine lv_iload_n hx hb dX7_doClause_78 rfl (lv_at hl 1 rfl) ?_
    obtain ⟨q11, hq11, hf⟩ := Option.bind_eq_some_iff.mp hf
    refine x_callVI (ws' := (wMod cI cZ cN cC h0 h1 h2 h3 h4 h5 h6 h7 h8 h9 h10 h11 h12 h13 h14 h15 mn um len plc srt frm num wrg cm mpt q11.1 pst kep isk q11.2.1 q11.2.2 txt cls asd opn byy twc szs sos ths)) (st1 := []) (As := [.int (cls (Int32.toNatClampNeg (x1 + 1))), .int (cls (Int32.toNatClampNeg (x1 + 2)))]) (rest := []) E hw vc_X7_165 (c_X7_putIfNew (cI := cI) (cZ := cZ) (cN := cN) (cC := cC) (h0 := h0) (h1 := h1) (h2 := h2) (h3 := h3) (h4 := h4) (h5 := h5) (h6 := h6) (h7 := h7) (h8 := h8) (h9 := h9) (h10 := h10) (h11 := h11) (h12 := h12) (h13 := h13) (h14 := h14) (h15 := h15)  (mn := mn) (um := um) (len := len) (plc := plc) (srt := srt) (frm := frm) (num := num) (wrg := wrg) (cm := cm) (mpt := mpt) (st := st) (pst := pst) (kep := kep) (isk := isk) (pil := pil) (nxs := nxs) (txt := txt) (cls := cls) (asd := asd) (opn := opn) (byy := byy) (twc := twc) (szs := szs) (sos := sos) (ths := ths) (x1 := (cls (Int32.toNatClampNeg (x1 + 1)))) (x2 := (cls (Int32.toNatClampNeg (x1 + 2)))) hq11) 0 7 rfl rfl rfl rfl rfl ⟨Nat.le_of_ble_eq_true rfl, Nat.le_of_ble_eq_true rfl⟩ ⟨Nat.le_refl _, Nat.le_refl _⟩ hl.1 rfl rfl (Nat.le_of_ble_eq_true rfl) dX7_doClause_79 (fun H locs hw => ?_)
    refine lv_goto (tgt := 131) hx hb dX7_doClause_82 (by decide) ?_
    have hf := Option.some.inj hf; subst hf
    exact x_vret E hw dX7_doClause_131
  rw [if_neg c2] at hf
  by_cases c3 : (cls (Int32.toNatClampNeg x1)) = 2
  · rw [if_pos c3] at hf
    refine lv_tableIn (tgt := 101) hx hb dX7_doClause_34 (by rw [c3]; decide) (by rw [c3]; decide) (by rw [c3]; rfl) (by decide) ?_
    refine lv_aload_n hx hb dX7_doClause_101 rfl (lv_at hl 3 rfl) ?_
    refine lv_iload_n hx hb dX7_doClause_102 rfl (lv_at hl 2 rfl) ?_
    refine lv_iload_n hx hb dX7_doClause_103 rfl (lv_at hl 1 rfl) ?_
    obtain ⟨q12, hq12, hf⟩ := Option.bind_eq_some_iff.mp hf
    refine x_callVI (ws' := (wMod cI cZ cN cC h0 h1 h2 h3 h4 h5 h6 h7 h8 h9 h10 h11 h12 h13 h14 h15 mn um len plc srt frm num wrg cm mpt q12.1 pst kep isk q12.2.1 q12.2.2 txt cls asd opn byy twc szs sos ths)) (st1 := []) (As := [.int (cls (Int32.toNatClampNeg (x1 + 1))), .int (cls (Int32.toNatClampNeg (x1 + 2)))]) (rest := []) E hw vc_X7_165 (c_X7_putIfNew (cI := cI) (cZ := cZ) (cN := cN) (cC := cC) (h0 := h0) (h1 := h1) (h2 := h2) (h3 := h3) (h4 := h4) (h5 := h5) (h6 := h6) (h7 := h7) (h8 := h8) (h9 := h9) (h10 := h10) (h11 := h11) (h12 := h12) (h13 := h13) (h14 := h14) (h15 := h15)  (mn := mn) (um := um) (len := len) (plc := plc) (srt := srt) (frm := frm) (num := num) (wrg := wrg) (cm := cm) (mpt := mpt) (st := st) (pst := pst) (kep := kep) (isk := isk) (pil := pil) (nxs := nxs) (txt := txt) (cls := cls) (asd := asd) (opn := opn) (byy := byy) (twc := twc) (szs := szs) (sos := sos) (ths := ths) (x1 := (cls (Int32.toNatClampNeg (x1 + 1)))) (x2 := (cls (Int32.toNatClampNeg (x1 + 2)))) hq12) 0 7 rfl rfl rfl rfl rfl ⟨Nat.le_of_ble_eq_true rfl, Nat.le_of_ble_eq_true rfl⟩ ⟨Nat.le_refl _, Nat.le_refl _⟩ hl.1 rfl rfl (Nat.le_of_ble_eq_true rfl) dX7_doClause_104 (fun H locs hw => ?_)
    refine lv_aload_n hx hb dX7_doClause_107 rfl (lv_at hl 3 rfl) ?_
    refine lv_iload_n hx hb dX7_doClause_108 rfl (lv_at hl 1 rfl) ?_
    refine lv_iload hx hb dX7_doClause_109 (lv_at hl 0 rfl) ?_
    obtain ⟨q13, hq13, hf⟩ := Option.bind_eq_some_iff.mp hf
    refine x_callVI (ws' := (wMod cI cZ cN cC h0 h1 h2 h3 h4 h5 h6 h7 h8 h9 h10 h11 h12 h13 h14 h15 mn um len plc srt frm num wrg cm mpt q13.1 pst kep isk q13.2.1 q13.2.2 txt cls asd opn byy twc szs sos ths)) (st1 := []) (As := [.int (cls (Int32.toNatClampNeg (x1 + 2))), .int (cls (Int32.toNatClampNeg (x1 + 3)))]) (rest := []) E hw vc_X7_165 (c_X7_putIfNew (cI := cI) (cZ := cZ) (cN := cN) (cC := cC) (h0 := h0) (h1 := h1) (h2 := h2) (h3 := h3) (h4 := h4) (h5 := h5) (h6 := h6) (h7 := h7) (h8 := h8) (h9 := h9) (h10 := h10) (h11 := h11) (h12 := h12) (h13 := h13) (h14 := h14) (h15 := h15)  (mn := mn) (um := um) (len := len) (plc := plc) (srt := srt) (frm := frm) (num := num) (wrg := wrg) (cm := cm) (mpt := mpt) (st := q12.1) (pst := pst) (kep := kep) (isk := isk) (pil := q12.2.1) (nxs := q12.2.2) (txt := txt) (cls := cls) (asd := asd) (opn := opn) (byy := byy) (twc := twc) (szs := szs) (sos := sos) (ths := ths) (x1 := (cls (Int32.toNatClampNeg (x1 + 2)))) (x2 := (cls (Int32.toNatClampNeg (x1 + 3)))) hq13) 0 7 rfl rfl rfl rfl rfl ⟨Nat.le_of_ble_eq_true rfl, Nat.le_of_ble_eq_true rfl⟩ ⟨Nat.le_refl _, Nat.le_refl _⟩ hl.1 rfl rfl (Nat.le_of_ble_eq_true rfl) dX7_doClause_111 (fun H locs hw => ?_)
    refine lv_aload_n hx hb dX7_doClause_114 rfl (lv_at hl 3 rfl) ?_
    refine x_get E hw kin_X7 0 rfl rfl 15 (by decide) kF_X7_35 (v := .ref h8) rfl dX7_doClause_115 ?_
    refine lv_iload_n hx hb dX7_doClause_118 rfl (lv_at hl 4 rfl) ?_
    obtain ⟨g14, hf⟩ := xgd hf
    refine x_iald E hw 8 0 rfl rfl (xin_vp g14) dX7_doClause_119 ?_
    refine lv_iconst (v := 2) hx hb dX7_doClause_120 (by decide) ?_
    refine lv_icmp_ne (tgt := 131) hx hb dX7_doClause_121 (by decide) (fun c15 => ?_) (fun c15 => ?_)
    · rw [if_neg c15] at hf
      have hf := Option.some.inj hf; subst hf
      exact x_vret E hw dX7_doClause_131
    · rw [if_pos c15] at hf
      refine lv_aload_n hx hb dX7_doClause_124 rfl (lv_at hl 3 rfl) ?_
      refine lv_iload hx hb dX7_doClause_125 (lv_at hl 0 rfl) ?_
      refine lv_iload_n hx hb dX7_doClause_127 rfl (lv_at hl 2 rfl) ?_
      obtain ⟨q16, hq16, hf⟩ := Option.bind_eq_some_iff.mp hf
      refine x_callVI (ws' := (wMod cI cZ cN cC h0 h1 h2 h3 h4 h5 h6 h7 h8 h9 h10 h11 h12 h13 h14 h15 mn um len plc srt frm num wrg cm mpt q16.1 pst kep isk q16.2.1 q16.2.2 txt cls asd opn byy twc szs sos ths)) (st1 := []) (As := [.int (cls (Int32.toNatClampNeg (x1 + 3))), .int (cls (Int32.toNatClampNeg (x1 + 1)))]) (rest := []) E hw vc_X7_165 (c_X7_putIfNew (cI := cI) (cZ := cZ) (cN := cN) (cC := cC) (h0 := h0) (h1 := h1) (h2 := h2) (h3 := h3) (h4 := h4) (h5 := h5) (h6 := h6) (h7 := h7) (h8 := h8) (h9 := h9) (h10 := h10) (h11 := h11) (h12 := h12) (h13 := h13) (h14 := h14) (h15 := h15)  (mn := mn) (um := um) (len := len) (plc := plc) (srt := srt) (frm := frm) (num := num) (wrg := wrg) (cm := cm) (mpt := mpt) (st := q13.1) (pst := pst) (kep := kep) (isk := isk) (pil := q13.2.1) (nxs := q13.2.2) (txt := txt) (cls := cls) (asd := asd) (opn := opn) (byy := byy) (twc := twc) (szs := szs) (sos := sos) (ths := ths) (x1 := (cls (Int32.toNatClampNeg (x1 + 3)))) (x2 := (cls (Int32.toNatClampNeg (x1 + 1)))) hq16) 0 7 rfl rfl rfl rfl rfl ⟨Nat.le_of_ble_eq_true rfl, Nat.le_of_ble_eq_true rfl⟩ ⟨Nat.le_refl _, Nat.le_refl _⟩ hl.1 rfl rfl (Nat.le_of_ble_eq_true rfl) dX7_doClause_128 (fun H locs hw => ?_)
      have hf := Option.some.inj hf; subst hf
      exact x_vret E hw dX7_doClause_131
  rw [if_neg c3] at hf
  by_cases c4 : (cls (Int32.toNatClampNeg x1)) = 3
  · rw [if_pos c4] at hf
    refine lv_tableIn (tgt := 101) hx hb dX7_doClause_34 (by rw [c4]; decide) (by rw [c4]; decide) (by rw [c4]; rfl) (by decide) ?_
    refine lv_aload_n hx hb dX7_doClause_101 rfl (lv_at hl 3 rfl) ?_
    refine lv_iload_n hx hb dX7_doClause_102 rfl (lv_at hl 2 rfl) ?_
    refine lv_iload_n hx hb dX7_doClause_103 rfl (lv_at hl 1 rfl) ?_
    obtain ⟨q17, hq17, hf⟩ := Option.bind_eq_some_iff.mp hf
    refine x_callVI (ws' := (wMod cI cZ cN cC h0 h1 h2 h3 h4 h5 h6 h7 h8 h9 h10 h11 h12 h13 h14 h15 mn um len plc srt frm num wrg cm mpt q17.1 pst kep isk q17.2.1 q17.2.2 txt cls asd opn byy twc szs sos ths)) (st1 := []) (As := [.int (cls (Int32.toNatClampNeg (x1 + 1))), .int (cls (Int32.toNatClampNeg (x1 + 2)))]) (rest := []) E hw vc_X7_165 (c_X7_putIfNew (cI := cI) (cZ := cZ) (cN := cN) (cC := cC) (h0 := h0) (h1 := h1) (h2 := h2) (h3 := h3) (h4 := h4) (h5 := h5) (h6 := h6) (h7 := h7) (h8 := h8) (h9 := h9) (h10 := h10) (h11 := h11) (h12 := h12) (h13 := h13) (h14 := h14) (h15 := h15)  (mn := mn) (um := um) (len := len) (plc := plc) (srt := srt) (frm := frm) (num := num) (wrg := wrg) (cm := cm) (mpt := mpt) (st := st) (pst := pst) (kep := kep) (isk := isk) (pil := pil) (nxs := nxs) (txt := txt) (cls := cls) (asd := asd) (opn := opn) (byy := byy) (twc := twc) (szs := szs) (sos := sos) (ths := ths) (x1 := (cls (Int32.toNatClampNeg (x1 + 1)))) (x2 := (cls (Int32.toNatClampNeg (x1 + 2)))) hq17) 0 7 rfl rfl rfl rfl rfl ⟨Nat.le_of_ble_eq_true rfl, Nat.le_of_ble_eq_true rfl⟩ ⟨Nat.le_refl _, Nat.le_refl _⟩ hl.1 rfl rfl (Nat.le_of_ble_eq_true rfl) dX7_doClause_104 (fun H locs hw => ?_)
    refine lv_aload_n hx hb dX7_doClause_107 rfl (lv_at hl 3 rfl) ?_
    refine lv_iload_n hx hb dX7_doClause_108 rfl (lv_at hl 1 rfl) ?_
    refine lv_iload hx hb dX7_doClause_109 (lv_at hl 0 rfl) ?_
    obtain ⟨q18, hq18, hf⟩ := Option.bind_eq_some_iff.mp hf
    refine x_callVI (ws' := (wMod cI cZ cN cC h0 h1 h2 h3 h4 h5 h6 h7 h8 h9 h10 h11 h12 h13 h14 h15 mn um len plc srt frm num wrg cm mpt q18.1 pst kep isk q18.2.1 q18.2.2 txt cls asd opn byy twc szs sos ths)) (st1 := []) (As := [.int (cls (Int32.toNatClampNeg (x1 + 2))), .int (cls (Int32.toNatClampNeg (x1 + 3)))]) (rest := []) E hw vc_X7_165 (c_X7_putIfNew (cI := cI) (cZ := cZ) (cN := cN) (cC := cC) (h0 := h0) (h1 := h1) (h2 := h2) (h3 := h3) (h4 := h4) (h5 := h5) (h6 := h6) (h7 := h7) (h8 := h8) (h9 := h9) (h10 := h10) (h11 := h11) (h12 := h12) (h13 := h13) (h14 := h14) (h15 := h15)  (mn := mn) (um := um) (len := len) (plc := plc) (srt := srt) (frm := frm) (num := num) (wrg := wrg) (cm := cm) (mpt := mpt) (st := q17.1) (pst := pst) (kep := kep) (isk := isk) (pil := q17.2.1) (nxs := q17.2.2) (txt := txt) (cls := cls) (asd := asd) (opn := opn) (byy := byy) (twc := twc) (szs := szs) (sos := sos) (ths := ths) (x1 := (cls (Int32.toNatClampNeg (x1 + 2)))) (x2 := (cls (Int32.toNatClampNeg (x1 + 3)))) hq18) 0 7 rfl rfl rfl rfl rfl ⟨Nat.le_of_ble_eq_true rfl, Nat.le_of_ble_eq_true rfl⟩ ⟨Nat.le_refl _, Nat.le_refl _⟩ hl.1 rfl rfl (Nat.le_of_ble_eq_true rfl) dX7_doClause_111 (fun H locs hw => ?_)
    refine lv_aload_n hx hb dX7_doClause_114 rfl (lv_at hl 3 rfl) ?_
    refine x_get E hw kin_X7 0 rfl rfl 15 (by decide) kF_X7_35 (v := .ref h8) rfl dX7_doClause_115 ?_
    refine lv_iload_n hx hb dX7_doClause_118 rfl (lv_at hl 4 rfl) ?_
    obtain ⟨g19, hf⟩ := xgd hf
    refine x_iald E hw 8 0 rfl rfl (xin_vp g19) dX7_doClause_119 ?_
    refine lv_iconst (v := 2) hx hb dX7_doClause_120 (by decide) ?_
    refine lv_icmp_ne (tgt := 131) hx hb dX7_doClause_121 (by decide) (fun c20 => ?_) (fun c20 => ?_)
    · rw [if_neg c20] at hf
      have hf := Option.some.inj hf; subst hf
      exact x_vret E hw dX7_doClause_131
    · rw [if_pos c20] at hf
      refine lv_aload_n hx hb dX7_doClause_124 rfl (lv_at hl 3 rfl) ?_
      refine lv_iload hx hb dX7_doClause_125 (lv_at hl 0 rfl) ?_
      refine lv_iload_n hx hb dX7_doClause_127 rfl (lv_at hl 2 rfl) ?_
      obtain ⟨q21, hq21, hf⟩ := Option.bind_eq_some_iff.mp hf
      refine x_callVI (ws' := (wMod cI cZ cN cC h0 h1 h2 h3 h4 h5 h6 h7 h8 h9 h10 h11 h12 h13 h14 h15 mn um len plc srt frm num wrg cm mpt q21.1 pst kep isk q21.2.1 q21.2.2 txt cls asd opn byy twc szs sos ths)) (st1 := []) (As := [.int (cls (Int32.toNatClampNeg (x1 + 3))), .int (cls (Int32.toNatClampNeg (x1 + 1)))]) (rest := []) E hw vc_X7_165 (c_X7_putIfNew (cI := cI) (cZ := cZ) (cN := cN) (cC := cC) (h0 := h0) (h1 := h1) (h2 := h2) (h3 := h3) (h4 := h4) (h5 := h5) (h6 := h6) (h7 := h7) (h8 := h8) (h9 := h9) (h10 := h10) (h11 := h11) (h12 := h12) (h13 := h13) (h14 := h14) (h15 := h15)  (mn := mn) (um := um) (len := len) (plc := plc) (srt := srt) (frm := frm) (num := num) (wrg := wrg) (cm := cm) (mpt := mpt) (st := q18.1) (pst := pst) (kep := kep) (isk := isk) (pil := q18.2.1) (nxs := q18.2.2) (txt := txt) (cls := cls) (asd := asd) (opn := opn) (byy := byy) (twc := twc) (szs := szs) (sos := sos) (ths := ths) (x1 := (cls (Int32.toNatClampNeg (x1 + 3)))) (x2 := (cls (Int32.toNatClampNeg (x1 + 1)))) hq21) 0 7 rfl rfl rfl rfl rfl ⟨Nat.le_of_ble_eq_true rfl, Nat.le_of_ble_eq_true rfl⟩ ⟨Nat.le_refl _, Nat.le_refl _⟩ hl.1 rfl rfl (Nat.le_of_ble_eq_true rfl) dX7_doClause_128 (fun H locs hw => ?_)
      have hf := Option.some.inj hf; subst hf
      exact x_vret E hw dX7_doClause_131
  rw [if_neg c4] at hf
  have c5 : (cls (Int32.toNatClampNeg x1)) = 4 := Int32.toInt_inj.mp (by
    have e1 := x_neL (k := 0) (by decide) c1
    have e2 := x_neL (k := 1) (by decide) c2
    have e3 := x_neL (k := 2) (by decide) c3
    have e4 := x_neL (k := 3) (by decide) c4
    show Int32.toInt (cls (Int32.toNatClampNeg x1)) = 4
    omega)
  refine lv_tableIn (tgt := 85) hx hb dX7_doClause_34 (by rw [c5]; decide) (by rw [c5]; decide) (by rw [c5]; rfl) (by decide) ?_
  refine lv_aload_n hx hb dX7_doClause_85 rfl (lv_at hl 3 rfl) ?_
  refine lv_iload_n hx hb dX7_doClause_86 rfl (lv_at hl 2 rfl) ?_
  refine lv_iload_n hx hb dX7_doClause_87 rfl (lv_at hl 1 rfl) ?_
  obtain ⟨q22, hq22, hf⟩ := Option.bind_eq_some_iff.mp hf
  refine x_callVI (ws' := (wMod cI cZ cN cC h0 h1 h2 h3 h4 h5 h6 h7 h8 h9 h10 h11 h12 h13 h14 h15 mn um len plc srt frm num wrg cm mpt q22.1 pst kep isk q22.2.1 q22.2.2 txt cls asd opn byy twc szs sos ths)) (st1 := []) (As := [.int (cls (Int32.toNatClampNeg (x1 + 1))), .int (cls (Int32.toNatClampNeg (x1 + 2)))]) (rest := []) E hw vc_X7_165 (c_X7_putIfNew (cI := cI) (cZ := cZ) (cN := cN) (cC := cC) (h0 := h0) (h1 := h1) (h2 := h2) (h3 := h3) (h4 := h4) (h5 := h5) (h6 := h6) (h7 := h7) (h8 := h8) (h9 := h9) (h10 := h10) (h11 := h11) (h12 := h12) (h13 := h13) (h14 := h14) (h15 := h15)  (mn := mn) (um := um) (len := len) (plc := plc) (srt := srt) (frm := frm) (num := num) (wrg := wrg) (cm := cm) (mpt := mpt) (st := st) (pst := pst) (kep := kep) (isk := isk) (pil := pil) (nxs := nxs) (txt := txt) (cls := cls) (asd := asd) (opn := opn) (byy := byy) (twc := twc) (szs := szs) (sos := sos) (ths := ths) (x1 := (cls (Int32.toNatClampNeg (x1 + 1)))) (x2 := (cls (Int32.toNatClampNeg (x1 + 2)))) hq22) 0 7 rfl rfl rfl rfl rfl ⟨Nat.le_of_ble_eq_true rfl, Nat.le_of_ble_eq_true rfl⟩ ⟨Nat.le_refl _, Nat.le_refl _⟩ hl.1 rfl rfl (Nat.le_of_ble_eq_true rfl) dX7_doClause_88 (fun H locs hw => ?_)
  refine lv_aload_n hx hb dX7_doClause_91 rfl (lv_at hl 3 rfl) ?_
  refine lv_iload_n hx hb dX7_doClause_92 rfl (lv_at hl 2 rfl) ?_
  refine lv_iload hx hb dX7_doClause_93 (lv_at hl 0 rfl) ?_
  obtain ⟨q23, hq23, hf⟩ := Option.bind_eq_some_iff.mp hf
  refine x_callVI (ws' := (wMod cI cZ cN cC h0 h1 h2 h3 h4 h5 h6 h7 h8 h9 h10 h11 h12 h13 h14 h15 mn um len plc srt frm num wrg cm mpt q23.1 pst kep isk q23.2.1 q23.2.2 txt cls asd opn byy twc szs sos ths)) (st1 := []) (As := [.int (cls (Int32.toNatClampNeg (x1 + 1))), .int (cls (Int32.toNatClampNeg (x1 + 3)))]) (rest := []) E hw vc_X7_165 (c_X7_putIfNew (cI := cI) (cZ := cZ) (cN := cN) (cC := cC) (h0 := h0) (h1 := h1) (h2 := h2) (h3 := h3) (h4 := h4) (h5 := h5) (h6 := h6) (h7 := h7) (h8 := h8) (h9 := h9) (h10 := h10) (h11 := h11) (h12 := h12) (h13 := h13) (h14 := h14) (h15 := h15)  (mn := mn) (um := um) (len := len) (plc := plc) (srt := srt) (frm := frm) (num := num) (wrg := wrg) (cm := cm) (mpt := mpt) (st := q22.1) (pst := pst) (kep := kep) (isk := isk) (pil := q22.2.1) (nxs := q22.2.2) (txt := txt) (cls := cls) (asd := asd) (opn := opn) (byy := byy) (twc := twc) (szs := szs) (sos := sos) (ths := ths) (x1 := (cls (Int32.toNatClampNeg (x1 + 1)))) (x2 := (cls (Int32.toNatClampNeg (x1 + 3)))) hq23) 0 7 rfl rfl rfl rfl rfl ⟨Nat.le_of_ble_eq_true rfl, Nat.le_of_ble_eq_true rfl⟩ ⟨Nat.le_refl _, Nat.le_refl _⟩ hl.1 rfl rfl (Nat.le_of_ble_eq_true rfl) dX7_doClause_95 (fun H locs hw => ?_)
  refine lv_goto (tgt := 131) hx hb dX7_doClause_98 (by decide) ?_
  have hf := Option.some.inj hf; subst hf
  exact x_vret E hw dX7_doClause_131

def f_X7_loseChains_2 : Nat → Int32 → (Nat → Int32) → Option ((Nat → Int32))
  | 0, _, _ => none
  | n + 1, x1, szs =>
    if 3 ≤ x1 then
     some szs
    else
     if xin x1 3 then
     f_X7_loseChains_2 n (x1 + 1) (upd szs (Int32.toNatClampNeg x1) (-1))
     else none
set_option maxHeartbeats 4000000 in
set_option maxRecDepth 100000 in
theorem b_X7_loseChains_2 {p : Program} {l : Launch} {e : Env} {s : State} {m : MethodId} {args : Array Value} {below : List Frame} {meth : Method} {c : Code} {D : va_G} {cI cZ cN cC : ClassId} {ws0 : va_W} {h0 h1 h2 h3 h4 h5 h6 h7 h8 h9 h10 h11 h12 h13 h14 h15 : Nat} {mn : Int32} {um : Int32} {len : Int32} {plc : Int32} {srt : Int32} {frm : Int32} {num : Int32} {wrg : Int32} {cm : Int32} {mpt : Int32} {st : (Nat → Int32)} {pst : (Nat → Int32)} {kep : (Nat → Int32)} {isk : (Nat → Int32)} {pil : (Nat → Int32)} {nxs : (Nat → Int32)} {txt : (Nat → Int32)} {cls : (Nat → Int32)} {asd : (Nat → Int32)} {opn : (Nat → Int32)} {byy : (Nat → Int32)} {twc : (Nat → Int32)} {sos : (Nat → Int32)} {ths : (Nat → Int32)} {res : (Nat → Int32)} (E : xE p s m args meth c cX7_loseChains 2 none RX7 D (xtys cI cZ cN cC) (xA ws0)) : ∀ (n : Nat) (x1 : Int32) (szs : (Nat → Int32)), f_X7_loseChains_2 n x1 szs = some res → ∀ (H : Heap) (locs : List Loc) (ls : Array Slot), xw D (xA ws0) s.heap (wMod cI cZ cN cC h0 h1 h2 h3 h4 h5 h6 h7 h8 h9 h10 h11 h12 h13 h14 h15 mn um len plc srt frm num wrg cm mpt st pst kep isk pil nxs txt cls asd opn byy twc szs sos ths) H locs → lv_has ls 2 [(0, .ref h0), (1, .int x1)] → xG p l e 0 0 s m args below meth c D ws0 (wMod cI cZ cN cC h0 h1 h2 h3 h4 h5 h6 h7 h8 h9 h10 h11 h12 h13 h14 h15 mn um len plc srt frm num wrg cm mpt st pst kep isk pil nxs txt cls asd opn byy twc res sos ths) none H locs (F0 m 2 ls []) := by
  obtain ⟨hx, hb, -⟩ := id E
  intro n
  induction n with
  | zero =>
    intro _ _ hf
    rw [f_X7_loseChains_2] at hf; cases hf
  | succ n ih =>
    intro x1 szs hf H locs ls hw hl
    rw [f_X7_loseChains_2] at hf
    refine lv_iload_n hx hb dX7_loseChains_2 rfl (lv_at hl 1 rfl) ?_
    refine lv_iconst (v := 3) hx hb dX7_loseChains_3 (by decide) ?_
    refine lv_icmp_ge (tgt := 20) hx hb dX7_loseChains_4 (by decide) (fun c1 => ?_) (fun c1 => ?_)
    · rw [if_pos c1] at hf
      have hf := Option.some.inj hf; subst hf
      exact x_vret E hw dX7_loseChains_20
    · rw [if_neg c1] at hf
      refine lv_aload_n hx hb dX7_loseChains_7 rfl (lv_at hl 0 rfl) ?_
      refine x_get E hw kin_X7 0 rfl rfl 22 (by decide) kF_X7_50 (v := .ref h13) rfl dX7_loseChains_8 ?_
      refine lv_iload_n hx hb dX7_loseChains_11 rfl (lv_at hl 1 rfl) ?_
      refine lv_iconst (v := (-1)) hx hb dX7_loseChains_12 (by decide) ?_
      obtain ⟨g2, hf⟩ := xgd hf
      refine x_iast (ws' := (wMod cI cZ cN cC h0 h1 h2 h3 h4 h5 h6 h7 h8 h9 h10 h11 h12 h13 h14 h15 mn um len plc srt frm num wrg cm mpt st pst kep isk pil nxs txt cls asd opn byy twc (upd szs (Int32.toNatClampNeg x1) (-1)) sos ths)) E hw 13 0 rfl rfl (xin_vp g2) rfl dX7_loseChains_13 (fun H locs hw => ?_)
      refine lv_iinc (v := (x1 + 1)) (lv' := [(1, .int (x1 + 1)), (0, .ref h0)]) hx hb dX7_loseChains_14 hl (k := 1) rfl rfl (by decide) rfl (fun ls hl => ?_)
      refine lv_goto (tgt := 2) hx hb dX7_loseChains_17 (by decide) ?_
      exact ih _ _ hf _ _ _ hw (lv_sub hl [1, 0] rfl)
def f_X7_loseChains (N : Nat) (szs : (Nat → Int32)) : Option ((Nat → Int32)) :=
  f_X7_loseChains_2 N 0 szs
set_option maxHeartbeats 4000000 in
set_option maxRecDepth 100000 in
theorem c_X7_loseChains {l : Launch} {D : va_G} {cI cZ cN cC : ClassId} {h0 h1 h2 h3 h4 h5 h6 h7 h8 h9 h10 h11 h12 h13 h14 h15 : Nat} {mn : Int32} {um : Int32} {len : Int32} {plc : Int32} {srt : Int32} {frm : Int32} {num : Int32} {wrg : Int32} {cm : Int32} {mpt : Int32} {st : (Nat → Int32)} {pst : (Nat → Int32)} {kep : (Nat → Int32)} {isk : (Nat → Int32)} {pil : (Nat → Int32)} {nxs : (Nat → Int32)} {txt : (Nat → Int32)} {cls : (Nat → Int32)} {asd : (Nat → Int32)} {opn : (Nat → Int32)} {byy : (Nat → Int32)} {twc : (Nat → Int32)} {szs : (Nat → Int32)} {sos : (Nat → Int32)} {ths : (Nat → Int32)}  {N : Nat} {res : (Nat → Int32)} (hf : f_X7_loseChains N szs = some res) : xMet l D (xtys cI cZ cN cC) yX7_loseChains cX7_loseChains 2 none 0 0 [.ref h0] (wMod cI cZ cN cC h0 h1 h2 h3 h4 h5 h6 h7 h8 h9 h10 h11 h12 h13 h14 h15 mn um len plc srt frm num wrg cm mpt st pst kep isk pil nxs txt cls asd opn byy twc szs sos ths) (wMod cI cZ cN cC h0 h1 h2 h3 h4 h5 h6 h7 h8 h9 h10 h11 h12 h13 h14 h15 mn um len plc srt frm num wrg cm mpt st pst kep isk pil nxs txt cls asd opn byy twc res sos ths) none := by
  refine x_enter (by decide) (Nat.le_of_ble_eq_true rfl) ?_
  intro p e s m args below meth c E ls hl hw
  have E : xE p s m args meth c cX7_loseChains 2 none RX7 D (xtys cI cZ cN cC) (xA (wMod cI cZ cN cC h0 h1 h2 h3 h4 h5 h6 h7 h8 h9 h10 h11 h12 h13 h14 h15 mn um len plc srt frm num wrg cm mpt st pst kep isk pil nxs txt cls asd opn byy twc szs sos ths)) := E
  obtain ⟨hx, hb, -⟩ := id E
  have hl : lv_has ls 2 [(0, .ref h0)] := hl
  unfold f_X7_loseChains at hf
  refine lv_iconst (v := 0) hx hb dX7_loseChains_0 (by decide) ?_
  refine lv_istore_n (lv' := [(1, .int 0), (0, .ref h0)]) hx hb dX7_loseChains_1 rfl hl (by decide) rfl (fun ls hl => ?_)
  exact b_X7_loseChains_2 E N _ _ hf _ _ _ hw (lv_sub hl [1, 0] rfl)

def f_X7_net_12 (N : Nat) (plc : Int32) (srt : Int32) (frm : Int32) (num : Int32) (wrg : Int32) (cm : Int32) (mpt : Int32) (isk : (Nat → Int32)) (cls : (Nat → Int32)) (szs : (Nat → Int32)) : Nat → Int32 → Int32 → (Nat → Int32) → (Nat → Int32) → (Nat → Int32) → Option (Int32 × Int32 × Int32 × Int32 × Int32 × Int32 × Int32 × Int32 × Int32 × Int32 × Int32 × (Nat → Int32) × (Nat → Int32) × (Nat → Int32) × (Nat → Int32) × (Nat → Int32) × (Nat → Int32))
  | 0, _, _, _, _, _ => none
  | n + 1, x1, mn, st, pil, nxs =>
    if cm ≤ x1 then
     (f_X7_loseChains N szs).bind fun q4 =>
     some (cm, mn, 0, 0, plc, srt, frm, num, wrg, cm, mpt, st, (upd (upd isk (Int32.toNatClampNeg 0) 0) (Int32.toNatClampNeg 1) 0), pil, nxs, cls, q4)
    else
     (f_X7_doClause N (4 * x1) mn st pil nxs cls).bind fun q5 =>
     f_X7_net_12 N plc srt frm num wrg cm mpt isk cls szs n (x1 + 1) q5.1 q5.2.1 q5.2.2.1 q5.2.2.2
set_option maxHeartbeats 4000000 in
set_option maxRecDepth 100000 in
theorem b_X7_net_12 {p : Program} {l : Launch} {e : Env} {s : State} {m : MethodId} {args : Array Value} {below : List Frame} {meth : Method} {c : Code} {D : va_G} {cI cZ cN cC : ClassId} {ws0 : va_W} {h0 h1 h2 h3 h4 h5 h6 h7 h8 h9 h10 h11 h12 h13 h14 h15 : Nat} {um : Int32} {len : Int32} {plc : Int32} {srt : Int32} {frm : Int32} {num : Int32} {wrg : Int32} {cm : Int32} {mpt : Int32} {pst : (Nat → Int32)} {kep : (Nat → Int32)} {isk : (Nat → Int32)} {txt : (Nat → Int32)} {cls : (Nat → Int32)} {asd : (Nat → Int32)} {opn : (Nat → Int32)} {byy : (Nat → Int32)} {twc : (Nat → Int32)} {szs : (Nat → Int32)} {sos : (Nat → Int32)} {ths : (Nat → Int32)} {N : Nat} {res : Int32 × Int32 × Int32 × Int32 × Int32 × Int32 × Int32 × Int32 × Int32 × Int32 × Int32 × (Nat → Int32) × (Nat → Int32) × (Nat → Int32) × (Nat → Int32) × (Nat → Int32) × (Nat → Int32)} (E : xE p s m args meth c cX7_net 2 (some .int) RX7 D (xtys cI cZ cN cC) (xA ws0)) : ∀ (n : Nat) (x1 : Int32) (mn : Int32) (st : (Nat → Int32)) (pil : (Nat → Int32)) (nxs : (Nat → Int32)), f_X7_net_12 N plc srt frm num wrg cm mpt isk cls szs n x1 mn st pil nxs = some res → ∀ (H : Heap) (locs : List Loc) (ls : Array Slot), xw D (xA ws0) s.heap (wMod cI cZ cN cC h0 h1 h2 h3 h4 h5 h6 h7 h8 h9 h10 h11 h12 h13 h14 h15 mn um len plc srt frm num wrg cm mpt st pst kep isk pil nxs txt cls asd opn byy twc szs sos ths) H locs → lv_has ls 2 [(0, .ref h0), (1, .int x1)] → xG p l e 6 134 s m args below meth c D ws0 (wMod cI cZ cN cC h0 h1 h2 h3 h4 h5 h6 h7 h8 h9 h10 h11 h12 h13 h14 h15 res.2.1 res.2.2.1 res.2.2.2.1 res.2.2.2.2.1 res.2.2.2.2.2.1 res.2.2.2.2.2.2.1 res.2.2.2.2.2.2.2.1 res.2.2.2.2.2.2.2.2.1 res.2.2.2.2.2.2.2.2.2.1 res.2.2.2.2.2.2.2.2.2.2.1 res.2.2.2.2.2.2.2.2.2.2.2.1 pst kep res.2.2.2.2.2.2.2.2.2.2.2.2.1 res.2.2.2.2.2.2.2.2.2.2.2.2.2.1 res.2.2.2.2.2.2.2.2.2.2.2.2.2.2.1 txt res.2.2.2.2.2.2.2.2.2.2.2.2.2.2.2.1 asd opn byy twc res.2.2.2.2.2.2.2.2.2.2.2.2.2.2.2.2 sos ths) (some (.int res.1)) H locs (F0 m 12 ls []) := by
  obtain ⟨hx, hb, -⟩ := id E
  intro n
  induction n with
  | zero =>
    intro _ _ _ _ _ hf
    rw [f_X7_net_12] at hf; cases hf
  | succ n ih =>
    intro x1 mn st pil nxs hf H locs ls hw hl
    rw [f_X7_net_12] at hf
    refine lv_iload_n hx hb dX7_net_12 rfl (lv_at hl 1 rfl) ?_
    refine lv_aload_n hx hb dX7_net_13 rfl (lv_at hl 0 rfl) ?_
    refine x_get E hw kin_X7 0 rfl rfl 16 (by decide) kF_X7_147 (v := .int cm) rfl dX7_net_14 ?_
    refine lv_icmp_ge (tgt := 33) hx hb dX7_net_17 (by decide) (fun c3 => ?_) (fun c3 => ?_)
    · rw [if_pos c3] at hf
      refine lv_aload_n hx hb dX7_net_33 rfl (lv_at hl 0 rfl) ?_
      refine lv_iconst (v := 0) hx hb dX7_net_34 (by decide) ?_
      refine x_put (ws' := (wMod cI cZ cN cC h0 h1 h2 h3 h4 h5 h6 h7 h8 h9 h10 h11 h12 h13 h14 h15 mn um 0 plc srt frm num wrg cm mpt st pst kep isk pil nxs txt cls asd opn byy twc szs sos ths)) E hw kin_X7 tyX7 tyX7_ok nmX7 0 rfl rfl 9 (by decide) kF_X7_97 rfl (v := .int 0) rfl rfl (Nat.le_of_ble_eq_true rfl) rfl dX7_net_35 (fun H locs hw => ?_)
      refine lv_aload_n hx hb dX7_net_38 rfl (lv_at hl 0 rfl) ?_
      refine lv_iconst (v := 0) hx hb dX7_net_39 (by decide) ?_
      refine x_put (ws' := (wMod cI cZ cN cC h0 h1 h2 h3 h4 h5 h6 h7 h8 h9 h10 h11 h12 h13 h14 h15 mn 0 0 plc srt frm num wrg cm mpt st pst kep isk pil nxs txt cls asd opn byy twc szs sos ths)) E hw kin_X7 tyX7 tyX7_ok nmX7 0 rfl rfl 3 (by decide) kF_X7_92 rfl (v := .int 0) rfl rfl (Nat.le_of_ble_eq_true rfl) rfl dX7_net_40 (fun H locs hw => ?_)
      refine lv_aload_n hx hb dX7_net_43 rfl (lv_at hl 0 rfl) ?_
      refine x_get E hw kin_X7 0 rfl rfl 5 (by decide) kF_X7_23 (v := .ref h4) rfl dX7_net_44 ?_
      refine lv_iconst (v := 0) hx hb dX7_net_47 (by decide) ?_
      refine lv_iconst (v := 0) hx hb dX7_net_48 (by decide) ?_
      refine x_iast (ws' := (wMod cI cZ cN cC h0 h1 h2 h3 h4 h5 h6 h7 h8 h9 h10 h11 h12 h13 h14 h15 mn 0 0 plc srt frm num wrg cm mpt st pst kep (upd isk (Int32.toNatClampNeg 0) 0) pil nxs txt cls asd opn byy twc szs sos ths)) E hw 4 0 rfl rfl (xin_vp (by decide)) rfl dX7_net_49 (fun H locs hw => ?_)
      refine lv_aload_n hx hb dX7_net_50 rfl (lv_at hl 0 rfl) ?_
      refine x_get E hw kin_X7 0 rfl rfl 5 (by decide) kF_X7_23 (v := .ref h4) rfl dX7_net_51 ?_
      refine lv_iconst (v := 1) hx hb dX7_net_54 (by decide) ?_
      refine lv_iconst (v := 0) hx hb dX7_net_55 (by decide) ?_
      refine x_iast (ws' := (wMod cI cZ cN cC h0 h1 h2 h3 h4 h5 h6 h7 h8 h9 h10 h11 h12 h13 h14 h15 mn 0 0 plc srt frm num wrg cm mpt st pst kep (upd (upd isk (Int32.toNatClampNeg 0) 0) (Int32.toNatClampNeg 1) 0) pil nxs txt cls asd opn byy twc szs sos ths)) E hw 4 0 rfl rfl (xin_vp (by decide)) rfl dX7_net_56 (fun H locs hw => ?_)
      refine lv_aload_n hx hb dX7_net_57 rfl (lv_at hl 0 rfl) ?_
      obtain ⟨q4, hq4, hf⟩ := Option.bind_eq_some_iff.mp hf
      refine x_callVI (ws' := (wMod cI cZ cN cC h0 h1 h2 h3 h4 h5 h6 h7 h8 h9 h10 h11 h12 h13 h14 h15 mn 0 0 plc srt frm num wrg cm mpt st pst kep (upd (upd isk (Int32.toNatClampNeg 0) 0) (Int32.toNatClampNeg 1) 0) pil nxs txt cls asd opn byy twc q4 sos ths)) (st1 := []) (As := []) (rest := []) E hw vc_X7_63 (c_X7_loseChains (cI := cI) (cZ := cZ) (cN := cN) (cC := cC) (h0 := h0) (h1 := h1) (h2 := h2) (h3 := h3) (h4 := h4) (h5 := h5) (h6 := h6) (h7 := h7) (h8 := h8) (h9 := h9) (h10 := h10) (h11 := h11) (h12 := h12) (h13 := h13) (h14 := h14) (h15 := h15)  (mn := mn) (um := 0) (len := 0) (plc := plc) (srt := srt) (frm := frm) (num := num) (wrg := wrg) (cm := cm) (mpt := mpt) (st := st) (pst := pst) (kep := kep) (isk := (upd (upd isk (Int32.toNatClampNeg 0) 0) (Int32.toNatClampNeg 1) 0)) (pil := pil) (nxs := nxs) (txt := txt) (cls := cls) (asd := asd) (opn := opn) (byy := byy) (twc := twc) (szs := szs) (sos := sos) (ths := ths)  hq4) 0 7 rfl rfl rfl rfl rfl ⟨Nat.le_of_ble_eq_true rfl, Nat.le_of_ble_eq_true rfl⟩ ⟨Nat.le_refl _, Nat.le_refl _⟩ hl.1 rfl rfl (Nat.le_of_ble_eq_true rfl) dX7_net_58 (fun H locs hw => ?_)
      refine lv_aload_n hx hb dX7_net_61 rfl (lv_at hl 0 rfl) ?_
      refine x_get E hw kin_X7 0 rfl rfl 16 (by decide) kF_X7_147 (v := .int cm) rfl dX7_net_62 ?_
      have hf := Option.some.inj hf; subst hf
      exact x_iret E hw dX7_net_65
    · rw [if_neg c3] at hf
      refine lv_aload_n hx hb dX7_net_20 rfl (lv_at hl 0 rfl) ?_
      refine lv_iconst (v := 4) hx hb dX7_net_21 (by decide) ?_
      refine lv_iload_n hx hb dX7_net_22 rfl (lv_at hl 1 rfl) ?_
      refine lv_imul hx hb dX7_net_23 ?_
      obtain ⟨q5, hq5, hf⟩ := Option.bind_eq_some_iff.mp hf
      refine x_callVI (ws' := (wMod cI cZ cN cC h0 h1 h2 h3 h4 h5 h6 h7 h8 h9 h10 h11 h12 h13 h14 h15 q5.1 um len plc srt frm num wrg cm mpt q5.2.1 pst kep isk q5.2.2.1 q5.2.2.2 txt cls asd opn byy twc szs sos ths)) (st1 := []) (As := [.int (4 * x1)]) (rest := []) E hw vc_X7_168 (c_X7_doClause (cI := cI) (cZ := cZ) (cN := cN) (cC := cC) (h0 := h0) (h1 := h1) (h2 := h2) (h3 := h3) (h4 := h4) (h5 := h5) (h6 := h6) (h7 := h7) (h8 := h8) (h9 := h9) (h10 := h10) (h11 := h11) (h12 := h12) (h13 := h13) (h14 := h14) (h15 := h15)  (mn := mn) (um := um) (len := len) (plc := plc) (srt := srt) (frm := frm) (num := num) (wrg := wrg) (cm := cm) (mpt := mpt) (st := st) (pst := pst) (kep := kep) (isk := isk) (pil := pil) (nxs := nxs) (txt := txt) (cls := cls) (asd := asd) (opn := opn) (byy := byy) (twc := twc) (szs := szs) (sos := sos) (ths := ths) (x1 := (4 * x1)) hq5) 0 7 rfl rfl rfl rfl rfl ⟨Nat.le_of_ble_eq_true rfl, Nat.le_of_ble_eq_true rfl⟩ ⟨Nat.le_refl _, Nat.le_refl _⟩ hl.1 rfl rfl (Nat.le_of_ble_eq_true rfl) dX7_net_24 (fun H locs hw => ?_)
      refine lv_iinc (v := (x1 + 1)) (lv' := [(1, .int (x1 + 1)), (0, .ref h0)]) hx hb dX7_net_27 hl (k := 1) rfl rfl (by decide) rfl (fun ls hl => ?_)
      refine lv_goto (tgt := 12) hx hb dX7_net_30 (by decide) ?_
      exact ih _ _ _ _ _ hf _ _ _ hw (lv_sub hl [1, 0] rfl)
def f_X7_net (N : Nat) (mn : Int32) (um : Int32) (len : Int32) (wrg : Int32) (st : (Nat → Int32)) (isk : (Nat → Int32)) (pil : (Nat → Int32)) (nxs : (Nat → Int32)) (txt : (Nat → Int32)) (cls : (Nat → Int32)) (szs : (Nat → Int32)) : Option (Int32 × Int32 × Int32 × Int32 × Int32 × Int32 × Int32 × Int32 × Int32 × Int32 × Int32 × (Nat → Int32) × (Nat → Int32) × (Nat → Int32) × (Nat → Int32) × (Nat → Int32) × (Nat → Int32)) :=
  (f_X7_readAll N mn len wrg txt cls).bind fun q1 =>
  if q1.1 = 0 then
   some ((-4), mn, um, len, q1.2.1, q1.2.2.1, q1.2.2.2.1, q1.2.2.2.2.1, q1.2.2.2.2.2.1, q1.2.2.2.2.2.2.1, q1.2.2.2.2.2.2.2.1, st, isk, pil, nxs, q1.2.2.2.2.2.2.2.2, szs)
  else
   f_X7_net_12 N q1.2.1 q1.2.2.1 q1.2.2.2.1 q1.2.2.2.2.1 q1.2.2.2.2.2.1 q1.2.2.2.2.2.2.1 q1.2.2.2.2.2.2.2.1 isk q1.2.2.2.2.2.2.2.2 szs N 0 mn st pil nxs
set_option maxHeartbeats 4000000 in
set_option maxRecDepth 100000 in
theorem c_X7_net {l : Launch} {D : va_G} {cI cZ cN cC : ClassId} {h0 h1 h2 h3 h4 h5 h6 h7 h8 h9 h10 h11 h12 h13 h14 h15 : Nat} {mn : Int32} {um : Int32} {len : Int32} {plc : Int32} {srt : Int32} {frm : Int32} {num : Int32} {wrg : Int32} {cm : Int32} {mpt : Int32} {st : (Nat → Int32)} {pst : (Nat → Int32)} {kep : (Nat → Int32)} {isk : (Nat → Int32)} {pil : (Nat → Int32)} {nxs : (Nat → Int32)} {txt : (Nat → Int32)} {cls : (Nat → Int32)} {asd : (Nat → Int32)} {opn : (Nat → Int32)} {byy : (Nat → Int32)} {twc : (Nat → Int32)} {szs : (Nat → Int32)} {sos : (Nat → Int32)} {ths : (Nat → Int32)}  {N : Nat} {res : Int32 × Int32 × Int32 × Int32 × Int32 × Int32 × Int32 × Int32 × Int32 × Int32 × Int32 × (Nat → Int32) × (Nat → Int32) × (Nat → Int32) × (Nat → Int32) × (Nat → Int32) × (Nat → Int32)} (hf : f_X7_net N mn um len wrg st isk pil nxs txt cls szs = some res) : xMet l D (xtys cI cZ cN cC) yX7_net cX7_net 2 (some .int) 6 134 [.ref h0] (wMod cI cZ cN cC h0 h1 h2 h3 h4 h5 h6 h7 h8 h9 h10 h11 h12 h13 h14 h15 mn um len plc srt frm num wrg cm mpt st pst kep isk pil nxs txt cls asd opn byy twc szs sos ths) (wMod cI cZ cN cC h0 h1 h2 h3 h4 h5 h6 h7 h8 h9 h10 h11 h12 h13 h14 h15 res.2.1 res.2.2.1 res.2.2.2.1 res.2.2.2.2.1 res.2.2.2.2.2.1 res.2.2.2.2.2.2.1 res.2.2.2.2.2.2.2.1 res.2.2.2.2.2.2.2.2.1 res.2.2.2.2.2.2.2.2.2.1 res.2.2.2.2.2.2.2.2.2.2.1 res.2.2.2.2.2.2.2.2.2.2.2.1 pst kep res.2.2.2.2.2.2.2.2.2.2.2.2.1 res.2.2.2.2.2.2.2.2.2.2.2.2.2.1 res.2.2.2.2.2.2.2.2.2.2.2.2.2.2.1 txt res.2.2.2.2.2.2.2.2.2.2.2.2.2.2.2.1 asd opn byy twc res.2.2.2.2.2.2.2.2.2.2.2.2.2.2.2.2 sos ths) (some (.int res.1)) := by
  refine x_enter (by decide) (Nat.le_of_ble_eq_true rfl) ?_
  intro p e s m args below meth c E ls hl hw
  have E : xE p s m args meth c cX7_net 2 (some .int) RX7 D (xtys cI cZ cN cC) (xA (wMod cI cZ cN cC h0 h1 h2 h3 h4 h5 h6 h7 h8 h9 h10 h11 h12 h13 h14 h15 mn um len plc srt frm num wrg cm mpt st pst kep isk pil nxs txt cls asd opn byy twc szs sos ths)) := E
  obtain ⟨hx, hb, -⟩ := id E
  have hl : lv_has ls 2 [(0, .ref h0)] := hl
  unfold f_X7_net at hf
  refine lv_aload_n hx hb dX7_net_0 rfl (lv_at hl 0 rfl) ?_
  obtain ⟨q1, hq1, hf⟩ := Option.bind_eq_some_iff.mp hf
  refine x_callVI (ws' := (wMod cI cZ cN cC h0 h1 h2 h3 h4 h5 h6 h7 h8 h9 h10 h11 h12 h13 h14 h15 mn um len q1.2.1 q1.2.2.1 q1.2.2.2.1 q1.2.2.2.2.1 q1.2.2.2.2.2.1 q1.2.2.2.2.2.2.1 q1.2.2.2.2.2.2.2.1 st pst kep isk pil nxs txt q1.2.2.2.2.2.2.2.2 asd opn byy twc szs sos ths)) (st1 := [.int q1.1]) (As := []) (rest := []) E hw vc_X7_156 (c_X7_readAll (cI := cI) (cZ := cZ) (cN := cN) (cC := cC) (h0 := h0) (h1 := h1) (h2 := h2) (h3 := h3) (h4 := h4) (h5 := h5) (h6 := h6) (h7 := h7) (h8 := h8) (h9 := h9) (h10 := h10) (h11 := h11) (h12 := h12) (h13 := h13) (h14 := h14) (h15 := h15)  (mn := mn) (um := um) (len := len) (plc := plc) (srt := srt) (frm := frm) (num := num) (wrg := wrg) (cm := cm) (mpt := mpt) (st := st) (pst := pst) (kep := kep) (isk := isk) (pil := pil) (nxs := nxs) (txt := txt) (cls := cls) (asd := asd) (opn := opn) (byy := byy) (twc := twc) (szs := szs) (sos := sos) (ths := ths)  hq1) 0 7 rfl rfl rfl rfl rfl ⟨Nat.le_of_ble_eq_true rfl, Nat.le_of_ble_eq_true rfl⟩ ⟨Nat.le_refl _, Nat.le_refl _⟩ hl.1 rfl rfl (Nat.le_of_ble_eq_true rfl) dX7_net_1 (fun H locs hw => ?_)
  refine lv_if_ne (tgt := 10) hx hb dX7_net_4 (by decide) (fun c2 => ?_) (fun c2 => ?_)
  · rw [if_neg c2] at hf
    refine lv_iconst (v := 0) hx hb dX7_net_10 (by decide) ?_
    refine lv_istore_n (lv' := [(1, .int 0), (0, .ref h0)]) hx hb dX7_net_11 rfl hl (by decide) rfl (fun ls hl => ?_)
    exact b_X7_net_12 E N _ _ _ _ _ hf _ _ _ hw (lv_sub hl [1, 0] rfl)
  · rw [if_pos c2] at hf
    refine lv_bipush (v := (-4)) hx hb dX7_net_7 (by decide) ?_
    have hf := Option.some.inj hf; subst hf
    exact x_iret E hw dX7_net_9

def f_X7_put (N : Nat) (x1 : Int32) (x2 : Int32) (mn : Int32) (um : Int32) (st : (Nat → Int32)) (pst : (Nat → Int32)) (pil : (Nat → Int32)) (nxs : (Nat → Int32)) : Option (Int32 × Int32 × (Nat → Int32) × (Nat → Int32) × (Nat → Int32) × (Nat → Int32)) :=
  if (f_X7_areTwo x1 x2 mn) = 0 then
   some ((-2), um, st, pst, pil, nxs)
  else
   (f_X7_isArc x1 x2 mn st).bind fun q2 =>
   if q2 = 0 then
    (f_X7_arcs N mn st).bind fun q4 =>
    if q4 = 40 then
     some ((-5), um, st, pst, pil, nxs)
    else
     (f_X7_pairs N mn st).bind fun q6 =>
     (f_X7_note N um st pst).bind fun q7 =>
     (f_X7_putIn N x1 x2 mn st pil nxs).bind fun q8 =>
     (f_X7_pairs N mn q8.1).bind fun q9 =>
     some ((q9 - q6), q7.1, q8.1, q7.2, q8.2.1, q8.2.2)
   else
    some ((-4), um, st, pst, pil, nxs)
set_option maxHeartbeats 4000000 in
set_option maxRecDepth 100000 in
theorem c_X7_put {l : Launch} {D : va_G} {cI cZ cN cC : ClassId} {h0 h1 h2 h3 h4 h5 h6 h7 h8 h9 h10 h11 h12 h13 h14 h15 : Nat} {mn : Int32} {um : Int32} {len : Int32} {plc : Int32} {srt : Int32} {frm : Int32} {num : Int32} {wrg : Int32} {cm : Int32} {mpt : Int32} {st : (Nat → Int32)} {pst : (Nat → Int32)} {kep : (Nat → Int32)} {isk : (Nat → Int32)} {pil : (Nat → Int32)} {nxs : (Nat → Int32)} {txt : (Nat → Int32)} {cls : (Nat → Int32)} {asd : (Nat → Int32)} {opn : (Nat → Int32)} {byy : (Nat → Int32)} {twc : (Nat → Int32)} {szs : (Nat → Int32)} {sos : (Nat → Int32)} {ths : (Nat → Int32)} {x1 : Int32} {x2 : Int32} {N : Nat} {res : Int32 × Int32 × (Nat → Int32) × (Nat → Int32) × (Nat → Int32) × (Nat → Int32)} (hf : f_X7_put N x1 x2 mn um st pst pil nxs = some res) : xMet l D (xtys cI cZ cN cC) yX7_put cX7_put 4 (some .int) 4 90 [.ref h0, .int x1, .int x2] (wMod cI cZ cN cC h0 h1 h2 h3 h4 h5 h6 h7 h8 h9 h10 h11 h12 h13 h14 h15 mn um len plc srt frm num wrg cm mpt st pst kep isk pil nxs txt cls asd opn byy twc szs sos ths) (wMod cI cZ cN cC h0 h1 h2 h3 h4 h5 h6 h7 h8 h9 h10 h11 h12 h13 h14 h15 mn res.2.1 len plc srt frm num wrg cm mpt res.2.2.1 res.2.2.2.1 kep isk res.2.2.2.2.1 res.2.2.2.2.2 txt cls asd opn byy twc szs sos ths) (some (.int res.1)) := by
  refine x_enter (by decide) (Nat.le_of_ble_eq_true rfl) ?_
  intro p e s m args below meth c E ls hl hw
  have E : xE p s m args meth c cX7_put 4 (some .int) RX7 D (xtys cI cZ cN cC) (xA (wMod cI cZ cN cC h0 h1 h2 h3 h4 h5 h6 h7 h8 h9 h10 h11 h12 h13 h14 h15 mn um len plc srt frm num wrg cm mpt st pst kep isk pil nxs txt cls asd opn byy twc szs sos ths)) := E
  obtain ⟨hx, hb, -⟩ := id E
  have hl : lv_has ls 4 [(0, .ref h0), (1, .int x1), (2, .int x2)] := hl
  unfold f_X7_put at hf
  refine lv_aload_n hx hb dX7_put_0 rfl (lv_at hl 0 rfl) ?_
  refine lv_iload_n hx hb dX7_put_1 rfl (lv_at hl 1 rfl) ?_
  refine lv_iload_n hx hb dX7_put_2 rfl (lv_at hl 2 rfl) ?_
  refine x_callVI (ws' := (wMod cI cZ cN cC h0 h1 h2 h3 h4 h5 h6 h7 h8 h9 h10 h11 h12 h13 h14 h15 mn um len plc srt frm num wrg cm mpt st pst kep isk pil nxs txt cls asd opn byy twc szs sos ths)) (st1 := [.int (f_X7_areTwo x1 x2 mn)]) (As := [.int x1, .int x2]) (rest := []) E hw vc_X7_74 (c_X7_areTwo (cI := cI) (cZ := cZ) (cN := cN) (cC := cC) (h0 := h0) (h1 := h1) (h2 := h2) (h3 := h3) (h4 := h4) (h5 := h5) (h6 := h6) (h7 := h7) (h8 := h8) (h9 := h9) (h10 := h10) (h11 := h11) (h12 := h12) (h13 := h13) (h14 := h14) (h15 := h15)  (mn := mn) (um := um) (len := len) (plc := plc) (srt := srt) (frm := frm) (num := num) (wrg := wrg) (cm := cm) (mpt := mpt) (st := st) (pst := pst) (kep := kep) (isk := isk) (pil := pil) (nxs := nxs) (txt := txt) (cls := cls) (asd := asd) (opn := opn) (byy := byy) (twc := twc) (szs := szs) (sos := sos) (ths := ths) (x1 := x1) (x2 := x2) rfl) 0 7 rfl rfl rfl rfl rfl ⟨Nat.le_of_ble_eq_true rfl, Nat.le_of_ble_eq_true rfl⟩ ⟨Nat.le_refl _, Nat.le_refl _⟩ hl.1 rfl rfl (Nat.le_of_ble_eq_true rfl) dX7_put_3 (fun H locs hw => ?_)
  refine lv_if_ne (tgt := 12) hx hb dX7_put_6 (by decide) (fun c1 => ?_) (fun c1 => ?_)
  · rw [if_neg c1] at hf
    refine lv_aload_n hx hb dX7_put_12 rfl (lv_at hl 0 rfl) ?_
    refine lv_iload_n hx hb dX7_put_13 rfl (lv_at hl 1 rfl) ?_
    refine lv_iload_n hx hb dX7_put_14 rfl (lv_at hl 2 rfl) ?_
    obtain ⟨q2, hq2, hf⟩ := Option.bind_eq_some_iff.mp hf
    refine x_callVI (ws' := (wMod cI cZ cN cC h0 h1 h2 h3 h4 h5 h6 h7 h8 h9 h10 h11 h12 h13 h14 h15 mn um len plc srt frm num wrg cm mpt st pst kep isk pil nxs txt cls asd opn byy twc szs sos ths)) (st1 := [.int q2]) (As := [.int x1, .int x2]) (rest := []) E hw vc_X7_171 (c_X7_isArc (cI := cI) (cZ := cZ) (cN := cN) (cC := cC) (h0 := h0) (h1 := h1) (h2 := h2) (h3 := h3) (h4 := h4) (h5 := h5) (h6 := h6) (h7 := h7) (h8 := h8) (h9 := h9) (h10 := h10) (h11 := h11) (h12 := h12) (h13 := h13) (h14 := h14) (h15 := h15)  (mn := mn) (um := um) (len := len) (plc := plc) (srt := srt) (frm := frm) (num := num) (wrg := wrg) (cm := cm) (mpt := mpt) (st := st) (pst := pst) (kep := kep) (isk := isk) (pil := pil) (nxs := nxs) (txt := txt) (cls := cls) (asd := asd) (opn := opn) (byy := byy) (twc := twc) (szs := szs) (sos := sos) (ths := ths) (x1 := x1) (x2 := x2) hq2) 0 7 rfl rfl rfl rfl rfl ⟨Nat.le_of_ble_eq_true rfl, Nat.le_of_ble_eq_true rfl⟩ ⟨Nat.le_refl _, Nat.le_refl _⟩ hl.1 rfl rfl (Nat.le_of_ble_eq_true rfl) dX7_put_15 (fun H locs hw => ?_)
    refine lv_if_eq (tgt := 24) hx hb dX7_put_18 (by decide) (fun c3 => ?_) (fun c3 => ?_)
    · rw [if_pos c3] at hf
      refine lv_aload_n hx hb dX7_put_24 rfl (lv_at hl 0 rfl) ?_
      obtain ⟨q4, hq4, hf⟩ := Option.bind_eq_some_iff.mp hf
      refine x_callVI (ws' := (wMod cI cZ cN cC h0 h1 h2 h3 h4 h5 h6 h7 h8 h9 h10 h11 h12 h13 h14 h15 mn um len plc srt frm num wrg cm mpt st pst kep isk pil nxs txt cls asd opn byy twc szs sos ths)) (st1 := [.int q4]) (As := []) (rest := []) E hw vc_X7_159 (c_X7_arcs (cI := cI) (cZ := cZ) (cN := cN) (cC := cC) (h0 := h0) (h1 := h1) (h2 := h2) (h3 := h3) (h4 := h4) (h5 := h5) (h6 := h6) (h7 := h7) (h8 := h8) (h9 := h9) (h10 := h10) (h11 := h11) (h12 := h12) (h13 := h13) (h14 := h14) (h15 := h15)  (mn := mn) (um := um) (len := len) (plc := plc) (srt := srt) (frm := frm) (num := num) (wrg := wrg) (cm := cm) (mpt := mpt) (st := st) (pst := pst) (kep := kep) (isk := isk) (pil := pil) (nxs := nxs) (txt := txt) (cls := cls) (asd := asd) (opn := opn) (byy := byy) (twc := twc) (szs := szs) (sos := sos) (ths := ths)  hq4) 0 7 rfl rfl rfl rfl rfl ⟨Nat.le_of_ble_eq_true rfl, Nat.le_of_ble_eq_true rfl⟩ ⟨Nat.le_refl _, Nat.le_refl _⟩ hl.1 rfl rfl (Nat.le_of_ble_eq_true rfl) dX7_put_25 (fun H locs hw => ?_)
      refine lv_bipush (v := 40) hx hb dX7_put_28 (by decide) ?_
      refine lv_icmp_ne (tgt := 36) hx hb dX7_put_30 (by decide) (fun c5 => ?_) (fun c5 => ?_)
      · rw [if_neg c5] at hf
        refine lv_aload_n hx hb dX7_put_36 rfl (lv_at hl 0 rfl) ?_
        obtain ⟨q6, hq6, hf⟩ := Option.bind_eq_some_iff.mp hf
        refine x_callVI (ws' := (wMod cI cZ cN cC h0 h1 h2 h3 h4 h5 h6 h7 h8 h9 h10 h11 h12 h13 h14 h15 mn um len plc srt frm num wrg cm mpt st pst kep isk pil nxs txt cls asd opn byy twc szs sos ths)) (st1 := [.int q6]) (As := []) (rest := []) E hw vc_X7_174 (c_X7_pairs (cI := cI) (cZ := cZ) (cN := cN) (cC := cC) (h0 := h0) (h1 := h1) (h2 := h2) (h3 := h3) (h4 := h4) (h5 := h5) (h6 := h6) (h7 := h7) (h8 := h8) (h9 := h9) (h10 := h10) (h11 := h11) (h12 := h12) (h13 := h13) (h14 := h14) (h15 := h15)  (mn := mn) (um := um) (len := len) (plc := plc) (srt := srt) (frm := frm) (num := num) (wrg := wrg) (cm := cm) (mpt := mpt) (st := st) (pst := pst) (kep := kep) (isk := isk) (pil := pil) (nxs := nxs) (txt := txt) (cls := cls) (asd := asd) (opn := opn) (byy := byy) (twc := twc) (szs := szs) (sos := sos) (ths := ths)  hq6) 0 7 rfl rfl rfl rfl rfl ⟨Nat.le_of_ble_eq_true rfl, Nat.le_of_ble_eq_true rfl⟩ ⟨Nat.le_refl _, Nat.le_refl _⟩ hl.1 rfl rfl (Nat.le_of_ble_eq_true rfl) dX7_put_37 (fun H locs hw => ?_)
        refine lv_istore_n (lv' := [(3, .int q6), (0, .ref h0), (1, .int x1), (2, .int x2)]) hx hb dX7_put_40 rfl hl (by decide) rfl (fun ls hl => ?_)
        refine lv_aload_n hx hb dX7_put_41 rfl (lv_at hl 1 rfl) ?_
        obtain ⟨q7, hq7, hf⟩ := Option.bind_eq_some_iff.mp hf
        refine x_callVI (ws' := (wMod cI cZ cN cC h0 h1 h2 h3 h4 h5 h6 h7 h8 h9 h10 h11 h12 h13 h14 h15 mn q7.1 len plc srt frm num wrg cm mpt st q7.2 kep isk pil nxs txt cls asd opn byy twc szs sos ths)) (st1 := []) (As := []) (rest := []) E hw vc_X7_177 (c_X7_note (cI := cI) (cZ := cZ) (cN := cN) (cC := cC) (h0 := h0) (h1 := h1) (h2 := h2) (h3 := h3) (h4 := h4) (h5 := h5) (h6 := h6) (h7 := h7) (h8 := h8) (h9 := h9) (h10 := h10) (h11 := h11) (h12 := h12) (h13 := h13) (h14 := h14) (h15 := h15)  (mn := mn) (um := um) (len := len) (plc := plc) (srt := srt) (frm := frm) (num := num) (wrg := wrg) (cm := cm) (mpt := mpt) (st := st) (pst := pst) (kep := kep) (isk := isk) (pil := pil) (nxs := nxs) (txt := txt) (cls := cls) (asd := asd) (opn := opn) (byy := byy) (twc := twc) (szs := szs) (sos := sos) (ths := ths)  hq7) 0 7 rfl rfl rfl rfl rfl ⟨Nat.le_of_ble_eq_true rfl, Nat.le_of_ble_eq_true rfl⟩ ⟨Nat.le_refl _, Nat.le_refl _⟩ hl.1 rfl rfl (Nat.le_of_ble_eq_true rfl) dX7_put_42 (fun H locs hw => ?_)
        refine lv_aload_n hx hb dX7_put_45 rfl (lv_at hl 1 rfl) ?_
        refine lv_iload_n hx hb dX7_put_46 rfl (lv_at hl 2 rfl) ?_
        refine lv_iload_n hx hb dX7_put_47 rfl (lv_at hl 3 rfl) ?_
        obtain ⟨q8, hq8, hf⟩ := Option.bind_eq_some_iff.mp hf
        refine x_callVI (ws' := (wMod cI cZ cN cC h0 h1 h2 h3 h4 h5 h6 h7 h8 h9 h10 h11 h12 h13 h14 h15 mn q7.1 len plc srt frm num wrg cm mpt q8.1 q7.2 kep isk q8.2.1 q8.2.2 txt cls asd opn byy twc szs sos ths)) (st1 := []) (As := [.int x1, .int x2]) (rest := []) E hw vc_X7_162 (c_X7_putIn (cI := cI) (cZ := cZ) (cN := cN) (cC := cC) (h0 := h0) (h1 := h1) (h2 := h2) (h3 := h3) (h4 := h4) (h5 := h5) (h6 := h6) (h7 := h7) (h8 := h8) (h9 := h9) (h10 := h10) (h11 := h11) (h12 := h12) (h13 := h13) (h14 := h14) (h15 := h15)  (mn := mn) (um := q7.1) (len := len) (plc := plc) (srt := srt) (frm := frm) (num := num) (wrg := wrg) (cm := cm) (mpt := mpt) (st := st) (pst := q7.2) (kep := kep) (isk := isk) (pil := pil) (nxs := nxs) (txt := txt) (cls := cls) (asd := asd) (opn := opn) (byy := byy) (twc := twc) (szs := szs) (sos := sos) (ths := ths) (x1 := x1) (x2 := x2) hq8) 0 7 rfl rfl rfl rfl rfl ⟨Nat.le_of_ble_eq_true rfl, Nat.le_of_ble_eq_true rfl⟩ ⟨Nat.le_refl _, Nat.le_refl _⟩ hl.1 rfl rfl (Nat.le_of_ble_eq_true rfl) dX7_put_48 (fun H locs hw => ?_)
        refine lv_aload_n hx hb dX7_put_51 rfl (lv_at hl 1 rfl) ?_
        obtain ⟨q9, hq9, hf⟩ := Option.bind_eq_some_iff.mp hf
        refine x_callVI (ws' := (wMod cI cZ cN cC h0 h1 h2 h3 h4 h5 h6 h7 h8 h9 h10 h11 h12 h13 h14 h15 mn q7.1 len plc srt frm num wrg cm mpt q8.1 q7.2 kep isk q8.2.1 q8.2.2 txt cls asd opn byy twc szs sos ths)) (st1 := [.int q9]) (As := []) (rest := []) E hw vc_X7_174 (c_X7_pairs (cI := cI) (cZ := cZ) (cN := cN) (cC := cC) (h0 := h0) (h1 := h1) (h2 := h2) (h3 := h3) (h4 := h4) (h5 := h5) (h6 := h6) (h7 := h7) (h8 := h8) (h9 := h9) (h10 := h10) (h11 := h11) (h12 := h12) (h13 := h13) (h14 := h14) (h15 := h15)  (mn := mn) (um := q7.1) (len := len) (plc := plc) (srt := srt) (frm := frm) (num := num) (wrg := wrg) (cm := cm) (mpt := mpt) (st := q8.1) (pst := q7.2) (kep := kep) (isk := isk) (pil := q8.2.1) (nxs := q8.2.2) (txt := txt) (cls := cls) (asd := asd) (opn := opn) (byy := byy) (twc := twc) (szs := szs) (sos := sos) (ths := ths)  hq9) 0 7 rfl rfl rfl rfl rfl ⟨Nat.le_of_ble_eq_true rfl, Nat.le_of_ble_eq_true rfl⟩ ⟨Nat.le_refl _, Nat.le_refl _⟩ hl.1 rfl rfl (Nat.le_of_ble_eq_true rfl) dX7_put_52 (fun H locs hw => ?_)
        refine lv_iload_n hx hb dX7_put_55 rfl (lv_at hl 0 rfl) ?_
        refine lv_isub hx hb dX7_put_56 ?_
        have hf := Option.some.inj hf; subst hf
        exact x_iret E hw dX7_put_57
      · rw [if_pos c5] at hf
        refine lv_bipush (v := (-5)) hx hb dX7_put_33 (by decide) ?_
        have hf := Option.some.inj hf; subst hf
        exact x_iret E hw dX7_put_35
    · rw [if_neg c3] at hf
      refine lv_bipush (v := (-4)) hx hb dX7_put_21 (by decide) ?_
      have hf := Option.some.inj hf; subst hf
      exact x_iret E hw dX7_put_23
  · rw [if_pos c1] at hf
    refine lv_bipush (v := (-2)) hx hb dX7_put_9 (by decide) ?_
    have hf := Option.some.inj hf; subst hf
    exact x_iret E hw dX7_put_11

def f_X7_stoodOn_6 (x1 : Int32) (x2 : Int32) (x3 : Int32) (mn : Int32) (st : (Nat → Int32)) : Nat → Int32 → Int32 → Option (Int32)
  | 0, _, _ => none
  | n + 1, x4, x5 =>
    if mn ≤ x5 then
     if xz x4 then
     some x4
     else none
    else
     if xin ((10 + (10 * x1)) + x5) 111 then
     if x4 = 0 then
      if ((st (Int32.toNatClampNeg ((10 + (10 * x1)) + x5))) - 2) < 0 then
       f_X7_stoodOn_6 x1 x2 x3 mn st n 0 (x5 + 1)
      else
       if (f_X7_has x3 x5) = 0 then
        f_X7_stoodOn_6 x1 x2 x3 mn st n 0 (x5 + 1)
       else
        if (f_X7_has x2 ((st (Int32.toNatClampNeg ((10 + (10 * x1)) + x5))) - 2)) = 0 then
         f_X7_stoodOn_6 x1 x2 x3 mn st n 0 (x5 + 1)
        else
         f_X7_stoodOn_6 x1 x2 x3 mn st n 1 (x5 + 1)
     else
      f_X7_stoodOn_6 x1 x2 x3 mn st n 1 (x5 + 1)
     else none
set_option maxHeartbeats 4000000 in
set_option maxRecDepth 100000 in
theorem b_X7_stoodOn_6 {p : Program} {l : Launch} {e : Env} {s : State} {m : MethodId} {args : Array Value} {below : List Frame} {meth : Method} {c : Code} {D : va_G} {cI cZ cN cC : ClassId} {ws0 : va_W} {h0 h1 h2 h3 h4 h5 h6 h7 h8 h9 h10 h11 h12 h13 h14 h15 : Nat} {x1 : Int32} {x2 : Int32} {x3 : Int32} {mn : Int32} {um : Int32} {len : Int32} {plc : Int32} {srt : Int32} {frm : Int32} {num : Int32} {wrg : Int32} {cm : Int32} {mpt : Int32} {st : (Nat → Int32)} {pst : (Nat → Int32)} {kep : (Nat → Int32)} {isk : (Nat → Int32)} {pil : (Nat → Int32)} {nxs : (Nat → Int32)} {txt : (Nat → Int32)} {cls : (Nat → Int32)} {asd : (Nat → Int32)} {opn : (Nat → Int32)} {byy : (Nat → Int32)} {twc : (Nat → Int32)} {szs : (Nat → Int32)} {sos : (Nat → Int32)} {ths : (Nat → Int32)} {res : Int32} (E : xE p s m args meth c cX7_stoodOn 7 (some .boolean) RX7 D (xtys cI cZ cN cC) (xA ws0)) : ∀ (n : Nat) (x4 : Int32) (x5 : Int32), f_X7_stoodOn_6 x1 x2 x3 mn st n x4 x5 = some res → ∀ (H : Heap) (locs : List Loc) (ls : Array Slot), xw D (xA ws0) s.heap (wMod cI cZ cN cC h0 h1 h2 h3 h4 h5 h6 h7 h8 h9 h10 h11 h12 h13 h14 h15 mn um len plc srt frm num wrg cm mpt st pst kep isk pil nxs txt cls asd opn byy twc szs sos ths) H locs → lv_has ls 7 [(0, .ref h0), (1, .int x1), (2, .int x2), (3, .int x3), (4, .int x4), (5, .int x5)] → xG p l e 1 21 s m args below meth c D ws0 (wMod cI cZ cN cC h0 h1 h2 h3 h4 h5 h6 h7 h8 h9 h10 h11 h12 h13 h14 h15 mn um len plc srt frm num wrg cm mpt st pst kep isk pil nxs txt cls asd opn byy twc szs sos ths) (some (.int res)) H locs (F0 m 6 ls []) := by
  obtain ⟨hx, hb, -⟩ := id E
  intro n
  induction n with
  | zero =>
    intro _ _ hf
    rw [f_X7_stoodOn_6] at hf; cases hf
  | succ n ih =>
    intro x4 x5 hf H locs ls hw hl
    rw [f_X7_stoodOn_6] at hf
    refine lv_iload hx hb dX7_stoodOn_6 (lv_at hl 5 rfl) ?_
    refine lv_aload_n hx hb dX7_stoodOn_8 rfl (lv_at hl 0 rfl) ?_
    refine x_get E hw kin_X7 0 rfl rfl 0 (by decide) kF_X7_7 (v := .int mn) rfl dX7_stoodOn_9 ?_
    refine lv_icmp_ge (tgt := 75) hx hb dX7_stoodOn_12 (by decide) (fun c1 => ?_) (fun c1 => ?_)
    · rw [if_pos c1] at hf
      refine lv_iload hx hb dX7_stoodOn_75 (lv_at hl 4 rfl) ?_
      obtain ⟨g2, hf⟩ := xgd hf
      have hf := Option.some.inj hf; subst hf
      exact x_zret E hw (xz_n g2) dX7_stoodOn_77
    · rw [if_neg c1] at hf
      refine lv_aload_n hx hb dX7_stoodOn_15 rfl (lv_at hl 0 rfl) ?_
      refine x_get E hw kin_X7 0 rfl rfl 1 (by decide) kF_X7_13 (v := .ref h1) rfl dX7_stoodOn_16 ?_
      refine lv_bipush (v := 10) hx hb dX7_stoodOn_19 (by decide) ?_
      refine lv_bipush (v := 10) hx hb dX7_stoodOn_21 (by decide) ?_
      refine lv_iload_n hx hb dX7_stoodOn_23 rfl (lv_at hl 1 rfl) ?_
      refine lv_imul hx hb dX7_stoodOn_24 ?_
      refine lv_iadd hx hb dX7_stoodOn_25 ?_
      refine lv_iload hx hb dX7_stoodOn_26 (lv_at hl 5 rfl) ?_
      refine lv_iadd hx hb dX7_stoodOn_28 ?_
      obtain ⟨g3, hf⟩ := xgd hf
      refine x_iald E hw 1 0 rfl rfl (xin_vp g3) dX7_stoodOn_29 ?_
      refine lv_iconst (v := 2) hx hb dX7_stoodOn_30 (by decide) ?_
      refine lv_isub hx hb dX7_stoodOn_31 ?_
      refine lv_istore (lv' := [(6, .int ((st (Int32.toNatClampNeg ((10 + (10 * x1)) + x5))) - 2)), (0, .ref h0), (1, .int x1), (2, .int x2), (3, .int x3), (4, .int x4), (5, .int x5)]) hx hb dX7_stoodOn_32 hl (by decide) rfl (fun ls hl => ?_)
      refine lv_iload hx hb dX7_stoodOn_34 (lv_at hl 5 rfl) ?_
      refine lv_if_ne (tgt := 62) hx hb dX7_stoodOn_36 (by decide) (fun c4 => ?_) (fun c4 => ?_)
      · rw [if_neg c4] at hf
        refine lv_iconst (v := 1) hx hb dX7_stoodOn_62 (by decide) ?_
        refine lv_goto (tgt := 67) hx hb dX7_stoodOn_63 (by decide) ?_
        refine lv_istore (lv' := [(4, .int 1), (6, .int ((st (Int32.toNatClampNeg ((10 + (10 * x1)) + x5))) - 2)), (0, .ref h0), (1, .int x1), (2, .int x2), (3, .int x3), (5, .int x5)]) hx hb dX7_stoodOn_67 hl (by decide) rfl (fun ls hl => ?_)
        refine lv_iinc (v := (x5 + 1)) (lv' := [(5, .int (x5 + 1)), (4, .int 1), (6, .int ((st (Int32.toNatClampNeg ((10 + (10 * x1)) + x5))) - 2)), (0, .ref h0), (1, .int x1), (2, .int x2), (3, .int x3)]) hx hb dX7_stoodOn_69 hl (k := 6) rfl rfl (by decide) rfl (fun ls hl => ?_)
        refine lv_goto (tgt := 6) hx hb dX7_stoodOn_72 (by decide) ?_
        exact ih _ _ hf _ _ _ hw (lv_sub hl [3, 4, 5, 6, 1, 0] rfl)
      · rw [if_pos c4] at hf
        refine lv_iload hx hb dX7_stoodOn_39 (lv_at hl 0 rfl) ?_
        refine lv_if_lt (tgt := 66) hx hb dX7_stoodOn_41 (by decide) (fun c5 => ?_) (fun c5 => ?_)
        · rw [if_pos c5] at hf
          refine lv_iconst (v := 0) hx hb dX7_stoodOn_66 (by decide) ?_
          refine lv_istore (lv' := [(4, .int 0), (6, .int ((st (Int32.toNatClampNeg ((10 + (10 * x1)) + x5))) - 2)), (0, .ref h0), (1, .int x1), (2, .int x2), (3, .int x3), (5, .int x5)]) hx hb dX7_stoodOn_67 hl (by decide) rfl (fun ls hl => ?_)
          refine lv_iinc (v := (x5 + 1)) (lv' := [(5, .int (x5 + 1)), (4, .int 0), (6, .int ((st (Int32.toNatClampNeg ((10 + (10 * x1)) + x5))) - 2)), (0, .ref h0), (1, .int x1), (2, .int x2), (3, .int x3)]) hx hb dX7_stoodOn_69 hl (k := 6) rfl rfl (by decide) rfl (fun ls hl => ?_)
          refine lv_goto (tgt := 6) hx hb dX7_stoodOn_72 (by decide) ?_
          exact ih _ _ hf _ _ _ hw (lv_sub hl [3, 4, 5, 6, 1, 0] rfl)
        · rw [if_neg c5] at hf
          refine lv_iload_n hx hb dX7_stoodOn_44 rfl (lv_at hl 4 rfl) ?_
          refine lv_iload hx hb dX7_stoodOn_45 (lv_at hl 6 rfl) ?_
          refine x_callS (isC := []) (ws' := (wMod cI cZ cN cC h0 h1 h2 h3 h4 h5 h6 h7 h8 h9 h10 h11 h12 h13 h14 h15 mn um len plc srt frm num wrg cm mpt st pst kep isk pil nxs txt cls asd opn byy twc szs sos ths)) (st1 := [.int (f_X7_has x3 x5)]) (As := [.int x3, .int x5]) (rest := []) E hw vc_X7_78 (c_X7_has (cI := cI) (cZ := cZ) (cN := cN) (cC := cC)    (x0 := x3) (x1 := x5) rfl) rfl rfl rfl rfl rfl rfl ⟨Nat.le_of_ble_eq_true rfl, Nat.le_of_ble_eq_true rfl⟩ ⟨Nat.le_refl _, Nat.le_refl _⟩ hl.1 rfl rfl (Nat.le_of_ble_eq_true rfl) dX7_stoodOn_47 (fun H locs hw => ?_)
          refine lv_if_eq (tgt := 66) hx hb dX7_stoodOn_50 (by decide) (fun c6 => ?_) (fun c6 => ?_)
          · rw [if_pos c6] at hf
            refine lv_iconst (v := 0) hx hb dX7_stoodOn_66 (by decide) ?_
            refine lv_istore (lv' := [(4, .int 0), (6, .int ((st (Int32.toNatClampNeg ((10 + (10 * x1)) + x5))) - 2)), (0, .ref h0), (1, .int x1), (2, .int x2), (3, .int x3), (5, .int x5)]) hx hb dX7_stoodOn_67 hl (by decide) rfl (fun ls hl => ?_)
            refine lv_iinc (v := (x5 + 1)) (lv' := [(5, .int (x5 + 1)), (4, .int 0), (6, .int ((st (Int32.toNatClampNeg ((10 + (10 * x1)) + x5))) - 2)), (0, .ref h0), (1, .int x1), (2, .int x2), (3, .int x3)]) hx hb dX7_stoodOn_69 hl (k := 6) rfl rfl (by decide) rfl (fun ls hl => ?_)
            refine lv_goto (tgt := 6) hx hb dX7_stoodOn_72 (by decide) ?_
            exact ih _ _ hf _ _ _ hw (lv_sub hl [3, 4, 5, 6, 1, 0] rfl)
          · rw [if_neg c6] at hf
            refine lv_iload_n hx hb dX7_stoodOn_53 rfl (lv_at hl 3 rfl) ?_
            refine lv_iload hx hb dX7_stoodOn_54 (lv_at hl 0 rfl) ?_
            refine x_callS (isC := []) (ws' := (wMod cI cZ cN cC h0 h1 h2 h3 h4 h5 h6 h7 h8 h9 h10 h11 h12 h13 h14 h15 mn um len plc srt frm num wrg cm mpt st pst kep isk pil nxs txt cls asd opn byy twc szs sos ths)) (st1 := [.int (f_X7_has x2 ((st (Int32.toNatClampNeg ((10 + (10 * x1)) + x5))) - 2))]) (As := [.int x2, .int ((st (Int32.toNatClampNeg ((10 + (10 * x1)) + x5))) - 2)]) (rest := []) E hw vc_X7_78 (c_X7_has (cI := cI) (cZ := cZ) (cN := cN) (cC := cC)    (x0 := x2) (x1 := ((st (Int32.toNatClampNeg ((10 + (10 * x1)) + x5))) - 2)) rfl) rfl rfl rfl rfl rfl rfl ⟨Nat.le_of_ble_eq_true rfl, Nat.le_of_ble_eq_true rfl⟩ ⟨Nat.le_refl _, Nat.le_refl _⟩ hl.1 rfl rfl (Nat.le_of_ble_eq_true rfl) dX7_stoodOn_56 (fun H locs hw => ?_)
            refine lv_if_eq (tgt := 66) hx hb dX7_stoodOn_59 (by decide) (fun c7 => ?_) (fun c7 => ?_)
            · rw [if_pos c7] at hf
              refine lv_iconst (v := 0) hx hb dX7_stoodOn_66 (by decide) ?_
              refine lv_istore (lv' := [(4, .int 0), (6, .int ((st (Int32.toNatClampNeg ((10 + (10 * x1)) + x5))) - 2)), (0, .ref h0), (1, .int x1), (2, .int x2), (3, .int x3), (5, .int x5)]) hx hb dX7_stoodOn_67 hl (by decide) rfl (fun ls hl => ?_)
              refine lv_iinc (v := (x5 + 1)) (lv' := [(5, .int (x5 + 1)), (4, .int 0), (6, .int ((st (Int32.toNatClampNeg ((10 + (10 * x1)) + x5))) - 2)), (0, .ref h0), (1, .int x1), (2, .int x2), (3, .int x3)]) hx hb dX7_stoodOn_69 hl (k := 6) rfl rfl (by decide) rfl (fun ls hl => ?_)
              refine lv_goto (tgt := 6) hx hb dX7_stoodOn_72 (by decide) ?_
              exact ih _ _ hf _ _ _ hw (lv_sub hl [3, 4, 5, 6, 1, 0] rfl)
            · rw [if_neg c7] at hf
              refine lv_iconst (v := 1) hx hb dX7_stoodOn_62 (by decide) ?_
              refine lv_goto (tgt := 67) hx hb dX7_stoodOn_63 (by decide) ?_
              refine lv_istore (lv' := [(4, .int 1), (6, .int ((st (Int32.toNatClampNeg ((10 + (10 * x1)) + x5))) - 2)), (0, .ref h0), (1, .int x1), (2, .int x2), (3, .int x3), (5, .int x5)]) hx hb dX7_stoodOn_67 hl (by decide) rfl (fun ls hl => ?_)
              refine lv_iinc (v := (x5 + 1)) (lv' := [(5, .int (x5 + 1)), (4, .int 1), (6, .int ((st (Int32.toNatClampNeg ((10 + (10 * x1)) + x5))) - 2)), (0, .ref h0), (1, .int x1), (2, .int x2), (3, .int x3)]) hx hb dX7_stoodOn_69 hl (k := 6) rfl rfl (by decide) rfl (fun ls hl => ?_)
              refine lv_goto (tgt := 6) hx hb dX7_stoodOn_72 (by decide) ?_
              exact ih _ _ hf _ _ _ hw (lv_sub hl [3, 4, 5, 6, 1, 0] rfl)
def f_X7_stoodOn (N : Nat) (x1 : Int32) (x2 : Int32) (x3 : Int32) (mn : Int32) (st : (Nat → Int32)) : Option (Int32) :=
  f_X7_stoodOn_6 x1 x2 x3 mn st N 0 0
set_option maxHeartbeats 4000000 in
set_option maxRecDepth 100000 in
theorem c_X7_stoodOn {l : Launch} {D : va_G} {cI cZ cN cC : ClassId} {h0 h1 h2 h3 h4 h5 h6 h7 h8 h9 h10 h11 h12 h13 h14 h15 : Nat} {mn : Int32} {um : Int32} {len : Int32} {plc : Int32} {srt : Int32} {frm : Int32} {num : Int32} {wrg : Int32} {cm : Int32} {mpt : Int32} {st : (Nat → Int32)} {pst : (Nat → Int32)} {kep : (Nat → Int32)} {isk : (Nat → Int32)} {pil : (Nat → Int32)} {nxs : (Nat → Int32)} {txt : (Nat → Int32)} {cls : (Nat → Int32)} {asd : (Nat → Int32)} {opn : (Nat → Int32)} {byy : (Nat → Int32)} {twc : (Nat → Int32)} {szs : (Nat → Int32)} {sos : (Nat → Int32)} {ths : (Nat → Int32)} {x1 : Int32} {x2 : Int32} {x3 : Int32} {N : Nat} {res : Int32} (hf : f_X7_stoodOn N x1 x2 x3 mn st = some res) : xMet l D (xtys cI cZ cN cC) yX7_stoodOn cX7_stoodOn 7 (some .boolean) 1 21 [.ref h0, .int x1, .int x2, .int x3] (wMod cI cZ cN cC h0 h1 h2 h3 h4 h5 h6 h7 h8 h9 h10 h11 h12 h13 h14 h15 mn um len plc srt frm num wrg cm mpt st pst kep isk pil nxs txt cls asd opn byy twc szs sos ths) (wMod cI cZ cN cC h0 h1 h2 h3 h4 h5 h6 h7 h8 h9 h10 h11 h12 h13 h14 h15 mn um len plc srt frm num wrg cm mpt st pst kep isk pil nxs txt cls asd opn byy twc szs sos ths) (some (.int res)) := by
  refine x_enter (by decide) (Nat.le_of_ble_eq_true rfl) ?_
  intro p e s m args below meth c E ls hl hw
  have E : xE p s m args meth c cX7_stoodOn 7 (some .boolean) RX7 D (xtys cI cZ cN cC) (xA (wMod cI cZ cN cC h0 h1 h2 h3 h4 h5 h6 h7 h8 h9 h10 h11 h12 h13 h14 h15 mn um len plc srt frm num wrg cm mpt st pst kep isk pil nxs txt cls asd opn byy twc szs sos ths)) := E
  obtain ⟨hx, hb, -⟩ := id E
  have hl : lv_has ls 7 [(0, .ref h0), (1, .int x1), (2, .int x2), (3, .int x3)] := hl
  unfold f_X7_stoodOn at hf
  refine lv_iconst (v := 0) hx hb dX7_stoodOn_0 (by decide) ?_
  refine lv_istore (lv' := [(4, .int 0), (0, .ref h0), (1, .int x1), (2, .int x2), (3, .int x3)]) hx hb dX7_stoodOn_1 hl (by decide) rfl (fun ls hl => ?_)
  refine lv_iconst (v := 0) hx hb dX7_stoodOn_3 (by decide) ?_
  refine lv_istore (lv' := [(5, .int 0), (4, .int 0), (0, .ref h0), (1, .int x1), (2, .int x2), (3, .int x3)]) hx hb dX7_stoodOn_4 hl (by decide) rfl (fun ls hl => ?_)
  exact b_X7_stoodOn_6 E N _ _ hf _ _ _ hw (lv_sub hl [2, 3, 4, 5, 1, 0] rfl)

def f_X7_take_148 (N : Nat) (x1 : Int32) (x2 : Int32) (x4 : Int32) (mn : Int32) (um : Int32) (pst : (Nat → Int32)) : Nat → Int32 → (Nat → Int32) → (Nat → Int32) → (Nat → Int32) → Option (Int32 × Int32 × (Nat → Int32) × (Nat → Int32) × (Nat → Int32) × (Nat → Int32))
  | 0, _, _, _, _ => none
  | n + 1, x6, st, pil, nxs =>
    if mn ≤ x6 then
     (f_X7_arcs N mn st).bind fun q16 =>
     some ((x4 - q16), um, st, pst, pil, nxs)
    else
     (f_X7_stoodOn N x6 x1 x2 mn st).bind fun q17 =>
     if q17 = 0 then
      f_X7_take_148 N x1 x2 x4 mn um pst n (x6 + 1) st pil nxs
     else
      (f_X7_grow N x6 mn st pil nxs).bind fun q19 =>
      f_X7_take_148 N x1 x2 x4 mn um pst n (x6 + 1) q19.1 q19.2.1 q19.2.2
set_option maxHeartbeats 4000000 in
set_option maxRecDepth 100000 in
theorem b_X7_take_148 {p : Program} {l : Launch} {e : Env} {s : State} {m : MethodId} {args : Array Value} {below : List Frame} {meth : Method} {c : Code} {D : va_G} {cI cZ cN cC : ClassId} {ws0 : va_W} {h0 h1 h2 h3 h4 h5 h6 h7 h8 h9 h10 h11 h12 h13 h14 h15 : Nat} {x1 : Int32} {x2 : Int32} {x4 : Int32} {mn : Int32} {um : Int32} {len : Int32} {plc : Int32} {srt : Int32} {frm : Int32} {num : Int32} {wrg : Int32} {cm : Int32} {mpt : Int32} {pst : (Nat → Int32)} {kep : (Nat → Int32)} {isk : (Nat → Int32)} {txt : (Nat → Int32)} {cls : (Nat → Int32)} {asd : (Nat → Int32)} {opn : (Nat → Int32)} {byy : (Nat → Int32)} {twc : (Nat → Int32)} {szs : (Nat → Int32)} {sos : (Nat → Int32)} {ths : (Nat → Int32)} {N : Nat} {res : Int32 × Int32 × (Nat → Int32) × (Nat → Int32) × (Nat → Int32) × (Nat → Int32)} (E : xE p s m args meth c cX7_take 7 (some .int) RX7 D (xtys cI cZ cN cC) (xA ws0)) : ∀ (n : Nat) (x6 : Int32) (st : (Nat → Int32)) (pil : (Nat → Int32)) (nxs : (Nat → Int32)), f_X7_take_148 N x1 x2 x4 mn um pst n x6 st pil nxs = some res → ∀ (H : Heap) (locs : List Loc) (ls : Array Slot), xw D (xA ws0) s.heap (wMod cI cZ cN cC h0 h1 h2 h3 h4 h5 h6 h7 h8 h9 h10 h11 h12 h13 h14 h15 mn um len plc srt frm num wrg cm mpt st pst kep isk pil nxs txt cls asd opn byy twc szs sos ths) H locs → lv_has ls 7 [(0, .ref h0), (1, .int x1), (2, .int x2), (4, .int x4), (6, .int x6)] → xG p l e 3 69 s m args below meth c D ws0 (wMod cI cZ cN cC h0 h1 h2 h3 h4 h5 h6 h7 h8 h9 h10 h11 h12 h13 h14 h15 mn res.2.1 len plc srt frm num wrg cm mpt res.2.2.1 res.2.2.2.1 kep isk res.2.2.2.2.1 res.2.2.2.2.2 txt cls asd opn byy twc szs sos ths) (some (.int res.1)) H locs (F0 m 148 ls []) := by
  obtain ⟨hx, hb, -⟩ := id E
  intro n
  induction n with
  | zero =>
    intro _ _ _ _ hf
    rw [f_X7_take_148] at hf; cases hf
  | succ n ih =>
    intro x6 st pil nxs hf H locs ls hw hl
    rw [f_X7_take_148] at hf
    refine lv_iload hx hb dX7_take_148 (lv_at hl 4 rfl) ?_
    refine lv_aload_n hx hb dX7_take_150 rfl (lv_at hl 0 rfl) ?_
    refine x_get E hw kin_X7 0 rfl rfl 0 (by decide) kF_X7_7 (v := .int mn) rfl dX7_take_151 ?_
    refine lv_icmp_ge (tgt := 180) hx hb dX7_take_154 (by decide) (fun c15 => ?_) (fun c15 => ?_)
    · rw [if_pos c15] at hf
      refine lv_iload hx hb dX7_take_180 (lv_at hl 3 rfl) ?_
      refine lv_aload_n hx hb dX7_take_182 rfl (lv_at hl 0 rfl) ?_
      obtain ⟨q16, hq16, hf⟩ := Option.bind_eq_some_iff.mp hf
      refine x_callVI (ws' := (wMod cI cZ cN cC h0 h1 h2 h3 h4 h5 h6 h7 h8 h9 h10 h11 h12 h13 h14 h15 mn um len plc srt frm num wrg cm mpt st pst kep isk pil nxs txt cls asd opn byy twc szs sos ths)) (st1 := [.int q16, .int x4]) (As := []) (rest := [.int x4]) E hw vc_X7_159 (c_X7_arcs (cI := cI) (cZ := cZ) (cN := cN) (cC := cC) (h0 := h0) (h1 := h1) (h2 := h2) (h3 := h3) (h4 := h4) (h5 := h5) (h6 := h6) (h7 := h7) (h8 := h8) (h9 := h9) (h10 := h10) (h11 := h11) (h12 := h12) (h13 := h13) (h14 := h14) (h15 := h15)  (mn := mn) (um := um) (len := len) (plc := plc) (srt := srt) (frm := frm) (num := num) (wrg := wrg) (cm := cm) (mpt := mpt) (st := st) (pst := pst) (kep := kep) (isk := isk) (pil := pil) (nxs := nxs) (txt := txt) (cls := cls) (asd := asd) (opn := opn) (byy := byy) (twc := twc) (szs := szs) (sos := sos) (ths := ths)  hq16) 0 7 rfl rfl rfl rfl rfl ⟨Nat.le_of_ble_eq_true rfl, Nat.le_of_ble_eq_true rfl⟩ ⟨Nat.le_refl _, Nat.le_refl _⟩ hl.1 rfl rfl (Nat.le_of_ble_eq_true rfl) dX7_take_183 (fun H locs hw => ?_)
      refine lv_isub hx hb dX7_take_186 ?_
      have hf := Option.some.inj hf; subst hf
      exact x_iret E hw dX7_take_187
    · rw [if_neg c15] at hf
      refine lv_aload_n hx hb dX7_take_157 rfl (lv_at hl 0 rfl) ?_
      refine lv_iload hx hb dX7_take_158 (lv_at hl 4 rfl) ?_
      refine lv_iload_n hx hb dX7_take_160 rfl (lv_at hl 1 rfl) ?_
      refine lv_iload_n hx hb dX7_take_161 rfl (lv_at hl 2 rfl) ?_
      obtain ⟨q17, hq17, hf⟩ := Option.bind_eq_some_iff.mp hf
      refine x_callVI (ws' := (wMod cI cZ cN cC h0 h1 h2 h3 h4 h5 h6 h7 h8 h9 h10 h11 h12 h13 h14 h15 mn um len plc srt frm num wrg cm mpt st pst kep isk pil nxs txt cls asd opn byy twc szs sos ths)) (st1 := [.int q17]) (As := [.int x6, .int x1, .int x2]) (rest := []) E hw vc_X7_180 (c_X7_stoodOn (cI := cI) (cZ := cZ) (cN := cN) (cC := cC) (h0 := h0) (h1 := h1) (h2 := h2) (h3 := h3) (h4 := h4) (h5 := h5) (h6 := h6) (h7 := h7) (h8 := h8) (h9 := h9) (h10 := h10) (h11 := h11) (h12 := h12) (h13 := h13) (h14 := h14) (h15 := h15)  (mn := mn) (um := um) (len := len) (plc := plc) (srt := srt) (frm := frm) (num := num) (wrg := wrg) (cm := cm) (mpt := mpt) (st := st) (pst := pst) (kep := kep) (isk := isk) (pil := pil) (nxs := nxs) (txt := txt) (cls := cls) (asd := asd) (opn := opn) (byy := byy) (twc := twc) (szs := szs) (sos := sos) (ths := ths) (x1 := x6) (x2 := x1) (x3 := x2) hq17) 0 7 rfl rfl rfl rfl rfl ⟨Nat.le_of_ble_eq_true rfl, Nat.le_of_ble_eq_true rfl⟩ ⟨Nat.le_refl _, Nat.le_refl _⟩ hl.1 rfl rfl (Nat.le_of_ble_eq_true rfl) dX7_take_162 (fun H locs hw => ?_)
      refine lv_if_eq (tgt := 174) hx hb dX7_take_165 (by decide) (fun c18 => ?_) (fun c18 => ?_)
      · rw [if_pos c18] at hf
        refine lv_iinc (v := (x6 + 1)) (lv' := [(6, .int (x6 + 1)), (0, .ref h0), (1, .int x1), (2, .int x2), (4, .int x4)]) hx hb dX7_take_174 hl (k := 4) rfl rfl (by decide) rfl (fun ls hl => ?_)
        refine lv_goto (tgt := 148) hx hb dX7_take_177 (by decide) ?_
        exact ih _ _ _ _ hf _ _ _ hw (lv_sub hl [1, 2, 3, 4, 0] rfl)
      · rw [if_neg c18] at hf
        refine lv_aload_n hx hb dX7_take_168 rfl (lv_at hl 0 rfl) ?_
        refine lv_iload hx hb dX7_take_169 (lv_at hl 4 rfl) ?_
        obtain ⟨q19, hq19, hf⟩ := Option.bind_eq_some_iff.mp hf
        refine x_callVI (ws' := (wMod cI cZ cN cC h0 h1 h2 h3 h4 h5 h6 h7 h8 h9 h10 h11 h12 h13 h14 h15 mn um len plc srt frm num wrg cm mpt q19.1 pst kep isk q19.2.1 q19.2.2 txt cls asd opn byy twc szs sos ths)) (st1 := []) (As := [.int x6]) (rest := []) E hw vc_X7_184 (c_X7_grow (cI := cI) (cZ := cZ) (cN := cN) (cC := cC) (h0 := h0) (h1 := h1) (h2 := h2) (h3 := h3) (h4 := h4) (h5 := h5) (h6 := h6) (h7 := h7) (h8 := h8) (h9 := h9) (h10 := h10) (h11 := h11) (h12 := h12) (h13 := h13) (h14 := h14) (h15 := h15)  (mn := mn) (um := um) (len := len) (plc := plc) (srt := srt) (frm := frm) (num := num) (wrg := wrg) (cm := cm) (mpt := mpt) (st := st) (pst := pst) (kep := kep) (isk := isk) (pil := pil) (nxs := nxs) (txt := txt) (cls := cls) (asd := asd) (opn := opn) (byy := byy) (twc := twc) (szs := szs) (sos := sos) (ths := ths) (x1 := x6) hq19) 0 7 rfl rfl rfl rfl rfl ⟨Nat.le_of_ble_eq_true rfl, Nat.le_of_ble_eq_true rfl⟩ ⟨Nat.le_refl _, Nat.le_refl _⟩ hl.1 rfl rfl (Nat.le_of_ble_eq_true rfl) dX7_take_171 (fun H locs hw => ?_)
        refine lv_iinc (v := (x6 + 1)) (lv' := [(6, .int (x6 + 1)), (0, .ref h0), (1, .int x1), (2, .int x2), (4, .int x4)]) hx hb dX7_take_174 hl (k := 4) rfl rfl (by decide) rfl (fun ls hl => ?_)
        refine lv_goto (tgt := 148) hx hb dX7_take_177 (by decide) ?_
        exact ih _ _ _ _ hf _ _ _ hw (lv_sub hl [1, 2, 3, 4, 0] rfl)
def f_X7_take_102 (N : Nat) (x1 : Int32) (x2 : Int32) (x3 : Int32) (x4 : Int32) (mn : Int32) (um : Int32) (pst : (Nat → Int32)) (pil : (Nat → Int32)) (nxs : (Nat → Int32)) : Nat → Int32 → (Nat → Int32) → Option (Int32 × Int32 × (Nat → Int32) × (Nat → Int32) × (Nat → Int32) × (Nat → Int32))
  | 0, _, _ => none
  | n + 1, x6, st =>
    if mn ≤ x6 then
     f_X7_take_148 N x1 x2 x4 mn um pst N 0 st pil nxs
    else
     if xin (0 + x6) 111 then
     if (f_X7_has x1 x6) = 0 then
      if xin (0 + x6) 111 then
      f_X7_take_102 N x1 x2 x3 x4 mn um pst pil nxs n (x6 + 1) (upd st (Int32.toNatClampNeg (0 + x6)) ((st (Int32.toNatClampNeg (0 + x6))) &&& x3))
      else none
     else
      if xin (0 + x6) 111 then
      f_X7_take_102 N x1 x2 x3 x4 mn um pst pil nxs n (x6 + 1) (upd st (Int32.toNatClampNeg (0 + x6)) ((st (Int32.toNatClampNeg (0 + x6))) &&& (x2 ^^^ (-1))))
      else none
     else none
set_option maxHeartbeats 4000000 in
set_option maxRecDepth 100000 in
theorem b_X7_take_102 {p : Program} {l : Launch} {e : Env} {s : State} {m : MethodId} {args : Array Value} {below : List Frame} {meth : Method} {c : Code} {D : va_G} {cI cZ cN cC : ClassId} {ws0 : va_W} {h0 h1 h2 h3 h4 h5 h6 h7 h8 h9 h10 h11 h12 h13 h14 h15 : Nat} {x1 : Int32} {x2 : Int32} {x3 : Int32} {x4 : Int32} {mn : Int32} {um : Int32} {len : Int32} {plc : Int32} {srt : Int32} {frm : Int32} {num : Int32} {wrg : Int32} {cm : Int32} {mpt : Int32} {pst : (Nat → Int32)} {kep : (Nat → Int32)} {isk : (Nat → Int32)} {pil : (Nat → Int32)} {nxs : (Nat → Int32)} {txt : (Nat → Int32)} {cls : (Nat → Int32)} {asd : (Nat → Int32)} {opn : (Nat → Int32)} {byy : (Nat → Int32)} {twc : (Nat → Int32)} {szs : (Nat → Int32)} {sos : (Nat → Int32)} {ths : (Nat → Int32)} {N : Nat} {res : Int32 × Int32 × (Nat → Int32) × (Nat → Int32) × (Nat → Int32) × (Nat → Int32)} (E : xE p s m args meth c cX7_take 7 (some .int) RX7 D (xtys cI cZ cN cC) (xA ws0)) : ∀ (n : Nat) (x6 : Int32) (st : (Nat → Int32)), f_X7_take_102 N x1 x2 x3 x4 mn um pst pil nxs n x6 st = some res → ∀ (H : Heap) (locs : List Loc) (ls : Array Slot), xw D (xA ws0) s.heap (wMod cI cZ cN cC h0 h1 h2 h3 h4 h5 h6 h7 h8 h9 h10 h11 h12 h13 h14 h15 mn um len plc srt frm num wrg cm mpt st pst kep isk pil nxs txt cls asd opn byy twc szs sos ths) H locs → lv_has ls 7 [(0, .ref h0), (1, .int x1), (2, .int x2), (3, .int x3), (4, .int x4), (6, .int x6)] → xG p l e 3 69 s m args below meth c D ws0 (wMod cI cZ cN cC h0 h1 h2 h3 h4 h5 h6 h7 h8 h9 h10 h11 h12 h13 h14 h15 mn res.2.1 len plc srt frm num wrg cm mpt res.2.2.1 res.2.2.2.1 kep isk res.2.2.2.2.1 res.2.2.2.2.2 txt cls asd opn byy twc szs sos ths) (some (.int res.1)) H locs (F0 m 102 ls []) := by
  obtain ⟨hx, hb, -⟩ := id E
  intro n
  induction n with
  | zero =>
    intro _ _ hf
    rw [f_X7_take_102] at hf; cases hf
  | succ n ih =>
    intro x6 st hf H locs ls hw hl
    rw [f_X7_take_102] at hf
    refine lv_iload hx hb dX7_take_102 (lv_at hl 5 rfl) ?_
    refine lv_aload_n hx hb dX7_take_104 rfl (lv_at hl 0 rfl) ?_
    refine x_get E hw kin_X7 0 rfl rfl 0 (by decide) kF_X7_7 (v := .int mn) rfl dX7_take_105 ?_
    refine lv_icmp_ge (tgt := 145) hx hb dX7_take_108 (by decide) (fun c10 => ?_) (fun c10 => ?_)
    · rw [if_pos c10] at hf
      refine lv_iconst (v := 0) hx hb dX7_take_145 (by decide) ?_
      refine lv_istore (lv' := [(6, .int 0), (0, .ref h0), (1, .int x1), (2, .int x2), (3, .int x3), (4, .int x4)]) hx hb dX7_take_146 hl (by decide) rfl (fun ls hl => ?_)
      exact b_X7_take_148 E N _ _ _ _ hf _ _ _ hw (lv_sub hl [1, 2, 3, 5, 0] rfl)
    · rw [if_neg c10] at hf
      refine lv_aload_n hx hb dX7_take_111 rfl (lv_at hl 0 rfl) ?_
      refine x_get E hw kin_X7 0 rfl rfl 1 (by decide) kF_X7_13 (v := .ref h1) rfl dX7_take_112 ?_
      refine lv_iconst (v := 0) hx hb dX7_take_115 (by decide) ?_
      refine lv_iload hx hb dX7_take_116 (lv_at hl 5 rfl) ?_
      refine lv_iadd hx hb dX7_take_118 ?_
      refine lv_dup2_11 hx hb dX7_take_119 rfl rfl ?_
      obtain ⟨g11, hf⟩ := xgd hf
      refine x_iald E hw 1 0 rfl rfl (xin_vp g11) dX7_take_120 ?_
      refine lv_iload_n hx hb dX7_take_121 rfl (lv_at hl 1 rfl) ?_
      refine lv_iload hx hb dX7_take_122 (lv_at hl 5 rfl) ?_
      refine x_callS (isC := []) (ws' := (wMod cI cZ cN cC h0 h1 h2 h3 h4 h5 h6 h7 h8 h9 h10 h11 h12 h13 h14 h15 mn um len plc srt frm num wrg cm mpt st pst kep isk pil nxs txt cls asd opn byy twc szs sos ths)) (st1 := [.int (f_X7_has x1 x6), .int (st (Int32.toNatClampNeg (0 + x6))), .int (0 + x6), .ref h1]) (As := [.int x1, .int x6]) (rest := [.int (st (Int32.toNatClampNeg (0 + x6))), .int (0 + x6), .ref h1]) E hw vc_X7_78 (c_X7_has (cI := cI) (cZ := cZ) (cN := cN) (cC := cC)    (x0 := x1) (x1 := x6) rfl) rfl rfl rfl rfl rfl rfl ⟨Nat.le_of_ble_eq_true rfl, Nat.le_of_ble_eq_true rfl⟩ ⟨Nat.le_refl _, Nat.le_refl _⟩ hl.1 rfl rfl (Nat.le_of_ble_eq_true rfl) dX7_take_124 (fun H locs hw => ?_)
      refine lv_if_eq (tgt := 136) hx hb dX7_take_127 (by decide) (fun c12 => ?_) (fun c12 => ?_)
      · rw [if_pos c12] at hf
        refine lv_iload_n hx hb dX7_take_136 rfl (lv_at hl 3 rfl) ?_
        refine lv_iand hx hb dX7_take_137 ?_
        obtain ⟨g13, hf⟩ := xgd hf
        refine x_iast (ws' := (wMod cI cZ cN cC h0 h1 h2 h3 h4 h5 h6 h7 h8 h9 h10 h11 h12 h13 h14 h15 mn um len plc srt frm num wrg cm mpt (upd st (Int32.toNatClampNeg (0 + x6)) ((st (Int32.toNatClampNeg (0 + x6))) &&& x3)) pst kep isk pil nxs txt cls asd opn byy twc szs sos ths)) E hw 1 0 rfl rfl (xin_vp g13) rfl dX7_take_138 (fun H locs hw => ?_)
        refine lv_iinc (v := (x6 + 1)) (lv' := [(6, .int (x6 + 1)), (0, .ref h0), (1, .int x1), (2, .int x2), (3, .int x3), (4, .int x4)]) hx hb dX7_take_139 hl (k := 5) rfl rfl (by decide) rfl (fun ls hl => ?_)
        refine lv_goto (tgt := 102) hx hb dX7_take_142 (by decide) ?_
        exact ih _ _ hf _ _ _ hw (lv_sub hl [1, 2, 3, 4, 5, 0] rfl)
      · rw [if_neg c12] at hf
        refine lv_iload_n hx hb dX7_take_130 rfl (lv_at hl 2 rfl) ?_
        refine lv_iconst (v := (-1)) hx hb dX7_take_131 (by decide) ?_
        refine lv_ixor hx hb dX7_take_132 ?_
        refine lv_goto (tgt := 137) hx hb dX7_take_133 (by decide) ?_
        refine lv_iand hx hb dX7_take_137 ?_
        obtain ⟨g14, hf⟩ := xgd hf
        refine x_iast (ws' := (wMod cI cZ cN cC h0 h1 h2 h3 h4 h5 h6 h7 h8 h9 h10 h11 h12 h13 h14 h15 mn um len plc srt frm num wrg cm mpt (upd st (Int32.toNatClampNeg (0 + x6)) ((st (Int32.toNatClampNeg (0 + x6))) &&& (x2 ^^^ (-1)))) pst kep isk pil nxs txt cls asd opn byy twc szs sos ths)) E hw 1 0 rfl rfl (xin_vp g14) rfl dX7_take_138 (fun H locs hw => ?_)
        refine lv_iinc (v := (x6 + 1)) (lv' := [(6, .int (x6 + 1)), (0, .ref h0), (1, .int x1), (2, .int x2), (3, .int x3), (4, .int x4)]) hx hb dX7_take_139 hl (k := 5) rfl rfl (by decide) rfl (fun ls hl => ?_)
        refine lv_goto (tgt := 102) hx hb dX7_take_142 (by decide) ?_
        exact ih _ _ hf _ _ _ hw (lv_sub hl [1, 2, 3, 4, 5, 0] rfl)
def f_X7_take_40 (N : Nat) (x1 : Int32) (x2 : Int32) (x3 : Int32) (x4 : Int32) (mn : Int32) (um : Int32) (st : (Nat → Int32)) (pst : (Nat → Int32)) (pil : (Nat → Int32)) (nxs : (Nat → Int32)) : Nat → Int32 → Int32 → Option (Int32 × Int32 × (Nat → Int32) × (Nat → Int32) × (Nat → Int32) × (Nat → Int32))
  | 0, _, _ => none
  | n + 1, x5, x6 =>
    if mn ≤ x6 then
     if x5 = 0 then
      some ((-4), um, st, pst, pil, nxs)
     else
      (f_X7_note N um st pst).bind fun q6 =>
      f_X7_take_102 N x1 x2 x3 x4 mn q6.1 q6.2 pil nxs N 0 st
    else
     if (f_X7_has x1 x6) = 0 then
      f_X7_take_40 N x1 x2 x3 x4 mn um st pst pil nxs n (x5 + 0) (x6 + 1)
     else
      if xin (0 + x6) 111 then
      (f_X7_ones N ((st (Int32.toNatClampNeg (0 + x6))) &&& x2)).bind fun q9 =>
      f_X7_take_40 N x1 x2 x3 x4 mn um st pst pil nxs n (x5 + q9) (x6 + 1)
      else none
set_option maxHeartbeats 4000000 in
set_option maxRecDepth 100000 in
theorem b_X7_take_40 {p : Program} {l : Launch} {e : Env} {s : State} {m : MethodId} {args : Array Value} {below : List Frame} {meth : Method} {c : Code} {D : va_G} {cI cZ cN cC : ClassId} {ws0 : va_W} {h0 h1 h2 h3 h4 h5 h6 h7 h8 h9 h10 h11 h12 h13 h14 h15 : Nat} {x1 : Int32} {x2 : Int32} {x3 : Int32} {x4 : Int32} {mn : Int32} {um : Int32} {len : Int32} {plc : Int32} {srt : Int32} {frm : Int32} {num : Int32} {wrg : Int32} {cm : Int32} {mpt : Int32} {st : (Nat → Int32)} {pst : (Nat → Int32)} {kep : (Nat → Int32)} {isk : (Nat → Int32)} {pil : (Nat → Int32)} {nxs : (Nat → Int32)} {txt : (Nat → Int32)} {cls : (Nat → Int32)} {asd : (Nat → Int32)} {opn : (Nat → Int32)} {byy : (Nat → Int32)} {twc : (Nat → Int32)} {szs : (Nat → Int32)} {sos : (Nat → Int32)} {ths : (Nat → Int32)} {N : Nat} {res : Int32 × Int32 × (Nat → Int32) × (Nat → Int32) × (Nat → Int32) × (Nat → Int32)} (E : xE p s m args meth c cX7_take 7 (some .int) RX7 D (xtys cI cZ cN cC) (xA ws0)) : ∀ (n : Nat) (x5 : Int32) (x6 : Int32), f_X7_take_40 N x1 x2 x3 x4 mn um st pst pil nxs n x5 x6 = some res → ∀ (H : Heap) (locs : List Loc) (ls : Array Slot), xw D (xA ws0) s.heap (wMod cI cZ cN cC h0 h1 h2 h3 h4 h5 h6 h7 h8 h9 h10 h11 h12 h13 h14 h15 mn um len plc srt frm num wrg cm mpt st pst kep isk pil nxs txt cls asd opn byy twc szs sos ths) H locs → lv_has ls 7 [(0, .ref h0), (1, .int x1), (2, .int x2), (3, .int x3), (4, .int x4), (5, .int x5), (6, .int x6)] → xG p l e 3 69 s m args below meth c D ws0 (wMod cI cZ cN cC h0 h1 h2 h3 h4 h5 h6 h7 h8 h9 h10 h11 h12 h13 h14 h15 mn res.2.1 len plc srt frm num wrg cm mpt res.2.2.1 res.2.2.2.1 kep isk res.2.2.2.2.1 res.2.2.2.2.2 txt cls asd opn byy twc szs sos ths) (some (.int res.1)) H locs (F0 m 40 ls []) := by
  obtain ⟨hx, hb, -⟩ := id E
  intro n
  induction n with
  | zero =>
    intro _ _ hf
    rw [f_X7_take_40] at hf; cases hf
  | succ n ih =>
    intro x5 x6 hf H locs ls hw hl
    rw [f_X7_take_40] at hf
    refine lv_iload hx hb dX7_take_40 (lv_at hl 6 rfl) ?_
    refine lv_aload_n hx hb dX7_take_42 rfl (lv_at hl 0 rfl) ?_
    refine x_get E hw kin_X7 0 rfl rfl 0 (by decide) kF_X7_7 (v := .int mn) rfl dX7_take_43 ?_
    refine lv_icmp_ge (tgt := 87) hx hb dX7_take_46 (by decide) (fun c4 => ?_) (fun c4 => ?_)
    · rw [if_pos c4] at hf
      refine lv_iload hx hb dX7_take_87 (lv_at hl 5 rfl) ?_
      refine lv_if_ne (tgt := 95) hx hb dX7_take_89 (by decide) (fun c5 => ?_) (fun c5 => ?_)
      · rw [if_neg c5] at hf
        refine lv_aload_n hx hb dX7_take_95 rfl (lv_at hl 0 rfl) ?_
        obtain ⟨q6, hq6, hf⟩ := Option.bind_eq_some_iff.mp hf
        refine x_callVI (ws' := (wMod cI cZ cN cC h0 h1 h2 h3 h4 h5 h6 h7 h8 h9 h10 h11 h12 h13 h14 h15 mn q6.1 len plc srt frm num wrg cm mpt st q6.2 kep isk pil nxs txt cls asd opn byy twc szs sos ths)) (st1 := []) (As := []) (rest := []) E hw vc_X7_177 (c_X7_note (cI := cI) (cZ := cZ) (cN := cN) (cC := cC) (h0 := h0) (h1 := h1) (h2 := h2) (h3 := h3) (h4 := h4) (h5 := h5) (h6 := h6) (h7 := h7) (h8 := h8) (h9 := h9) (h10 := h10) (h11 := h11) (h12 := h12) (h13 := h13) (h14 := h14) (h15 := h15)  (mn := mn) (um := um) (len := len) (plc := plc) (srt := srt) (frm := frm) (num := num) (wrg := wrg) (cm := cm) (mpt := mpt) (st := st) (pst := pst) (kep := kep) (isk := isk) (pil := pil) (nxs := nxs) (txt := txt) (cls := cls) (asd := asd) (opn := opn) (byy := byy) (twc := twc) (szs := szs) (sos := sos) (ths := ths)  hq6) 0 7 rfl rfl rfl rfl rfl ⟨Nat.le_of_ble_eq_true rfl, Nat.le_of_ble_eq_true rfl⟩ ⟨Nat.le_refl _, Nat.le_refl _⟩ hl.1 rfl rfl (Nat.le_of_ble_eq_true rfl) dX7_take_96 (fun H locs hw => ?_)
        refine lv_iconst (v := 0) hx hb dX7_take_99 (by decide) ?_
        refine lv_istore (lv' := [(6, .int 0), (0, .ref h0), (1, .int x1), (2, .int x2), (3, .int x3), (4, .int x4), (5, .int x5)]) hx hb dX7_take_100 hl (by decide) rfl (fun ls hl => ?_)
        exact b_X7_take_102 E N _ _ hf _ _ _ hw (lv_sub hl [1, 2, 3, 4, 5, 0] rfl)
      · rw [if_pos c5] at hf
        refine lv_bipush (v := (-4)) hx hb dX7_take_92 (by decide) ?_
        have hf := Option.some.inj hf; subst hf
        exact x_iret E hw dX7_take_94
    · rw [if_neg c4] at hf
      refine lv_iload hx hb dX7_take_49 (lv_at hl 5 rfl) ?_
      refine lv_iload_n hx hb dX7_take_51 rfl (lv_at hl 1 rfl) ?_
      refine lv_iload hx hb dX7_take_52 (lv_at hl 6 rfl) ?_
      refine x_callS (isC := []) (ws' := (wMod cI cZ cN cC h0 h1 h2 h3 h4 h5 h6 h7 h8 h9 h10 h11 h12 h13 h14 h15 mn um len plc srt frm num wrg cm mpt st pst kep isk pil nxs txt cls asd opn byy twc szs sos ths)) (st1 := [.int (f_X7_has x1 x6), .int x5]) (As := [.int x1, .int x6]) (rest := [.int x5]) E hw vc_X7_78 (c_X7_has (cI := cI) (cZ := cZ) (cN := cN) (cC := cC)    (x0 := x1) (x1 := x6) rfl) rfl rfl rfl rfl rfl rfl ⟨Nat.le_of_ble_eq_true rfl, Nat.le_of_ble_eq_true rfl⟩ ⟨Nat.le_refl _, Nat.le_refl _⟩ hl.1 rfl rfl (Nat.le_of_ble_eq_true rfl) dX7_take_54 (fun H locs hw => ?_)
      refine lv_if_eq (tgt := 77) hx hb dX7_take_57 (by decide) (fun c7 => ?_) (fun c7 => ?_)
      · rw [if_pos c7] at hf
        refine lv_iconst (v := 0) hx hb dX7_take_77 (by decide) ?_
        refine lv_iadd hx hb dX7_take_78 ?_
        refine lv_istore (lv' := [(5, .int (x5 + 0)), (0, .ref h0), (1, .int x1), (2, .int x2), (3, .int x3), (4, .int x4), (6, .int x6)]) hx hb dX7_take_79 hl (by decide) rfl (fun ls hl => ?_)
        refine lv_iinc (v := (x6 + 1)) (lv' := [(6, .int (x6 + 1)), (5, .int (x5 + 0)), (0, .ref h0), (1, .int x1), (2, .int x2), (3, .int x3), (4, .int x4)]) hx hb dX7_take_81 hl (k := 6) rfl rfl (by decide) rfl (fun ls hl => ?_)
        refine lv_goto (tgt := 40) hx hb dX7_take_84 (by decide) ?_
        exact ih _ _ hf _ _ _ hw (lv_sub hl [2, 3, 4, 5, 6, 1, 0] rfl)
      · rw [if_neg c7] at hf
        refine lv_aload_n hx hb dX7_take_60 rfl (lv_at hl 0 rfl) ?_
        refine x_get E hw kin_X7 0 rfl rfl 1 (by decide) kF_X7_13 (v := .ref h1) rfl dX7_take_61 ?_
        refine lv_iconst (v := 0) hx hb dX7_take_64 (by decide) ?_
        refine lv_iload hx hb dX7_take_65 (lv_at hl 6 rfl) ?_
        refine lv_iadd hx hb dX7_take_67 ?_
        obtain ⟨g8, hf⟩ := xgd hf
        refine x_iald E hw 1 0 rfl rfl (xin_vp g8) dX7_take_68 ?_
        refine lv_iload_n hx hb dX7_take_69 rfl (lv_at hl 2 rfl) ?_
        refine lv_iand hx hb dX7_take_70 ?_
        obtain ⟨q9, hq9, hf⟩ := Option.bind_eq_some_iff.mp hf
        refine x_callS (isC := []) (ws' := (wMod cI cZ cN cC h0 h1 h2 h3 h4 h5 h6 h7 h8 h9 h10 h11 h12 h13 h14 h15 mn um len plc srt frm num wrg cm mpt st pst kep isk pil nxs txt cls asd opn byy twc szs sos ths)) (st1 := [.int q9, .int x5]) (As := [.int ((st (Int32.toNatClampNeg (0 + x6))) &&& x2)]) (rest := [.int x5]) E hw vc_X7_81 (c_X7_ones (cI := cI) (cZ := cZ) (cN := cN) (cC := cC)    (x0 := ((st (Int32.toNatClampNeg (0 + x6))) &&& x2)) hq9) rfl rfl rfl rfl rfl rfl ⟨Nat.le_of_ble_eq_true rfl, Nat.le_of_ble_eq_true rfl⟩ ⟨Nat.le_refl _, Nat.le_refl _⟩ hl.1 rfl rfl (Nat.le_of_ble_eq_true rfl) dX7_take_71 (fun H locs hw => ?_)
        refine lv_goto (tgt := 78) hx hb dX7_take_74 (by decide) ?_
        refine lv_iadd hx hb dX7_take_78 ?_
        refine lv_istore (lv' := [(5, .int (x5 + q9)), (0, .ref h0), (1, .int x1), (2, .int x2), (3, .int x3), (4, .int x4), (6, .int x6)]) hx hb dX7_take_79 hl (by decide) rfl (fun ls hl => ?_)
        refine lv_iinc (v := (x6 + 1)) (lv' := [(6, .int (x6 + 1)), (5, .int (x5 + q9)), (0, .ref h0), (1, .int x1), (2, .int x2), (3, .int x3), (4, .int x4)]) hx hb dX7_take_81 hl (k := 6) rfl rfl (by decide) rfl (fun ls hl => ?_)
        refine lv_goto (tgt := 40) hx hb dX7_take_84 (by decide) ?_
        exact ih _ _ hf _ _ _ hw (lv_sub hl [2, 3, 4, 5, 6, 1, 0] rfl)
def f_X7_take (N : Nat) (x1 : Int32) (x2 : Int32) (mn : Int32) (um : Int32) (st : (Nat → Int32)) (pst : (Nat → Int32)) (pil : (Nat → Int32)) (nxs : (Nat → Int32)) : Option (Int32 × Int32 × (Nat → Int32) × (Nat → Int32) × (Nat → Int32) × (Nat → Int32)) :=
  if (x1 &&& (((1 <<< (mn &&& 31)) - 1) ^^^ (-1))) = 0 then
   if (x2 &&& (((1 <<< (mn &&& 31)) - 1) ^^^ (-1))) = 0 then
    (f_X7_arcs N mn st).bind fun q3 =>
    f_X7_take_40 N x1 x2 ((1 <<< (mn &&& 31)) - 1) q3 mn um st pst pil nxs N 0 0
   else
    some ((-3), um, st, pst, pil, nxs)
  else
   some ((-3), um, st, pst, pil, nxs)
set_option maxHeartbeats 4000000 in
set_option maxRecDepth 100000 in
theorem c_X7_take {l : Launch} {D : va_G} {cI cZ cN cC : ClassId} {h0 h1 h2 h3 h4 h5 h6 h7 h8 h9 h10 h11 h12 h13 h14 h15 : Nat} {mn : Int32} {um : Int32} {len : Int32} {plc : Int32} {srt : Int32} {frm : Int32} {num : Int32} {wrg : Int32} {cm : Int32} {mpt : Int32} {st : (Nat → Int32)} {pst : (Nat → Int32)} {kep : (Nat → Int32)} {isk : (Nat → Int32)} {pil : (Nat → Int32)} {nxs : (Nat → Int32)} {txt : (Nat → Int32)} {cls : (Nat → Int32)} {asd : (Nat → Int32)} {opn : (Nat → Int32)} {byy : (Nat → Int32)} {twc : (Nat → Int32)} {szs : (Nat → Int32)} {sos : (Nat → Int32)} {ths : (Nat → Int32)} {x1 : Int32} {x2 : Int32} {N : Nat} {res : Int32 × Int32 × (Nat → Int32) × (Nat → Int32) × (Nat → Int32) × (Nat → Int32)} (hf : f_X7_take N x1 x2 mn um st pst pil nxs = some res) : xMet l D (xtys cI cZ cN cC) yX7_take cX7_take 7 (some .int) 3 69 [.ref h0, .int x1, .int x2] (wMod cI cZ cN cC h0 h1 h2 h3 h4 h5 h6 h7 h8 h9 h10 h11 h12 h13 h14 h15 mn um len plc srt frm num wrg cm mpt st pst kep isk pil nxs txt cls asd opn byy twc szs sos ths) (wMod cI cZ cN cC h0 h1 h2 h3 h4 h5 h6 h7 h8 h9 h10 h11 h12 h13 h14 h15 mn res.2.1 len plc srt frm num wrg cm mpt res.2.2.1 res.2.2.2.1 kep isk res.2.2.2.2.1 res.2.2.2.2.2 txt cls asd opn byy twc szs sos ths) (some (.int res.1)) := by
  refine x_enter (by decide) (Nat.le_of_ble_eq_true rfl) ?_
  intro p e s m args below meth c E ls hl hw
  have E : xE p s m args meth c cX7_take 7 (some .int) RX7 D (xtys cI cZ cN cC) (xA (wMod cI cZ cN cC h0 h1 h2 h3 h4 h5 h6 h7 h8 h9 h10 h11 h12 h13 h14 h15 mn um len plc srt frm num wrg cm mpt st pst kep isk pil nxs txt cls asd opn byy twc szs sos ths)) := E
  obtain ⟨hx, hb, -⟩ := id E
  have hl : lv_has ls 7 [(0, .ref h0), (1, .int x1), (2, .int x2)] := hl
  unfold f_X7_take at hf
  refine lv_iconst (v := 1) hx hb dX7_take_0 (by decide) ?_
  refine lv_aload_n hx hb dX7_take_1 rfl (lv_at hl 0 rfl) ?_
  refine x_get E hw kin_X7 0 rfl rfl 0 (by decide) kF_X7_7 (v := .int mn) rfl dX7_take_2 ?_
  refine lv_ishl hx hb dX7_take_5 ?_
  refine lv_iconst (v := 1) hx hb dX7_take_6 (by decide) ?_
  refine lv_isub hx hb dX7_take_7 ?_
  refine lv_istore_n (lv' := [(3, .int ((1 <<< (mn &&& 31)) - 1)), (0, .ref h0), (1, .int x1), (2, .int x2)]) hx hb dX7_take_8 rfl hl (by decide) rfl (fun ls hl => ?_)
  refine lv_iload_n hx hb dX7_take_9 rfl (lv_at hl 2 rfl) ?_
  refine lv_iload_n hx hb dX7_take_10 rfl (lv_at hl 0 rfl) ?_
  refine lv_iconst (v := (-1)) hx hb dX7_take_11 (by decide) ?_
  refine lv_ixor hx hb dX7_take_12 ?_
  refine lv_iand hx hb dX7_take_13 ?_
  refine lv_if_ne (tgt := 25) hx hb dX7_take_14 (by decide) (fun c1 => ?_) (fun c1 => ?_)
  · rw [if_neg c1] at hf
    refine lv_bipush (v := (-3)) hx hb dX7_take_25 (by decide) ?_
    have hf := Option.some.inj hf; subst hf
    exact x_iret E hw dX7_take_27
  · rw [if_pos c1] at hf
    refine lv_iload_n hx hb dX7_take_17 rfl (lv_at hl 3 rfl) ?_
    refine lv_iload_n hx hb dX7_take_18 rfl (lv_at hl 0 rfl) ?_
    refine lv_iconst (v := (-1)) hx hb dX7_take_19 (by decide) ?_
    refine lv_ixor hx hb dX7_take_20 ?_
    refine lv_iand hx hb dX7_take_21 ?_
    refine lv_if_eq (tgt := 28) hx hb dX7_take_22 (by decide) (fun c2 => ?_) (fun c2 => ?_)
    · rw [if_pos c2] at hf
      refine lv_aload_n hx hb dX7_take_28 rfl (lv_at hl 1 rfl) ?_
      obtain ⟨q3, hq3, hf⟩ := Option.bind_eq_some_iff.mp hf
      refine x_callVI (ws' := (wMod cI cZ cN cC h0 h1 h2 h3 h4 h5 h6 h7 h8 h9 h10 h11 h12 h13 h14 h15 mn um len plc srt frm num wrg cm mpt st pst kep isk pil nxs txt cls asd opn byy twc szs sos ths)) (st1 := [.int q3]) (As := []) (rest := []) E hw vc_X7_159 (c_X7_arcs (cI := cI) (cZ := cZ) (cN := cN) (cC := cC) (h0 := h0) (h1 := h1) (h2 := h2) (h3 := h3) (h4 := h4) (h5 := h5) (h6 := h6) (h7 := h7) (h8 := h8) (h9 := h9) (h10 := h10) (h11 := h11) (h12 := h12) (h13 := h13) (h14 := h14) (h15 := h15)  (mn := mn) (um := um) (len := len) (plc := plc) (srt := srt) (frm := frm) (num := num) (wrg := wrg) (cm := cm) (mpt := mpt) (st := st) (pst := pst) (kep := kep) (isk := isk) (pil := pil) (nxs := nxs) (txt := txt) (cls := cls) (asd := asd) (opn := opn) (byy := byy) (twc := twc) (szs := szs) (sos := sos) (ths := ths)  hq3) 0 7 rfl rfl rfl rfl rfl ⟨Nat.le_of_ble_eq_true rfl, Nat.le_of_ble_eq_true rfl⟩ ⟨Nat.le_refl _, Nat.le_refl _⟩ hl.1 rfl rfl (Nat.le_of_ble_eq_true rfl) dX7_take_29 (fun H locs hw => ?_)
      refine lv_istore (lv' := [(4, .int q3), (3, .int ((1 <<< (mn &&& 31)) - 1)), (0, .ref h0), (1, .int x1), (2, .int x2)]) hx hb dX7_take_32 hl (by decide) rfl (fun ls hl => ?_)
      refine lv_iconst (v := 0) hx hb dX7_take_34 (by decide) ?_
      refine lv_istore (lv' := [(5, .int 0), (4, .int q3), (3, .int ((1 <<< (mn &&& 31)) - 1)), (0, .ref h0), (1, .int x1), (2, .int x2)]) hx hb dX7_take_35 hl (by decide) rfl (fun ls hl => ?_)
      refine lv_iconst (v := 0) hx hb dX7_take_37 (by decide) ?_
      refine lv_istore (lv' := [(6, .int 0), (5, .int 0), (4, .int q3), (3, .int ((1 <<< (mn &&& 31)) - 1)), (0, .ref h0), (1, .int x1), (2, .int x2)]) hx hb dX7_take_38 hl (by decide) rfl (fun ls hl => ?_)
      exact b_X7_take_40 E N _ _ hf _ _ _ hw (lv_sub hl [4, 5, 6, 3, 2, 1, 0] rfl)
    · rw [if_neg c2] at hf
      refine lv_bipush (v := (-3)) hx hb dX7_take_25 (by decide) ?_
      have hf := Option.some.inj hf; subst hf
      exact x_iret E hw dX7_take_27

def f_X7_clear (N : Nat) (um : Int32) (st : (Nat → Int32)) (pst : (Nat → Int32)) : Option (Int32 × Int32 × (Nat → Int32) × (Nat → Int32)) :=
  if (st (Int32.toNatClampNeg 110)) = 0 then
   some ((-4), um, st, pst)
  else
   (f_X7_note N um st pst).bind fun q2 =>
   some ((st (Int32.toNatClampNeg 110)), q2.1, (upd st (Int32.toNatClampNeg 110) 0), q2.2)
set_option maxHeartbeats 4000000 in
set_option maxRecDepth 100000 in
theorem c_X7_clear {l : Launch} {D : va_G} {cI cZ cN cC : ClassId} {h0 h1 h2 h3 h4 h5 h6 h7 h8 h9 h10 h11 h12 h13 h14 h15 : Nat} {mn : Int32} {um : Int32} {len : Int32} {plc : Int32} {srt : Int32} {frm : Int32} {num : Int32} {wrg : Int32} {cm : Int32} {mpt : Int32} {st : (Nat → Int32)} {pst : (Nat → Int32)} {kep : (Nat → Int32)} {isk : (Nat → Int32)} {pil : (Nat → Int32)} {nxs : (Nat → Int32)} {txt : (Nat → Int32)} {cls : (Nat → Int32)} {asd : (Nat → Int32)} {opn : (Nat → Int32)} {byy : (Nat → Int32)} {twc : (Nat → Int32)} {szs : (Nat → Int32)} {sos : (Nat → Int32)} {ths : (Nat → Int32)}  {N : Nat} {res : Int32 × Int32 × (Nat → Int32) × (Nat → Int32)} (hf : f_X7_clear N um st pst = some res) : xMet l D (xtys cI cZ cN cC) yX7_clear cX7_clear 2 (some .int) 1 21 [.ref h0] (wMod cI cZ cN cC h0 h1 h2 h3 h4 h5 h6 h7 h8 h9 h10 h11 h12 h13 h14 h15 mn um len plc srt frm num wrg cm mpt st pst kep isk pil nxs txt cls asd opn byy twc szs sos ths) (wMod cI cZ cN cC h0 h1 h2 h3 h4 h5 h6 h7 h8 h9 h10 h11 h12 h13 h14 h15 mn res.2.1 len plc srt frm num wrg cm mpt res.2.2.1 res.2.2.2 kep isk pil nxs txt cls asd opn byy twc szs sos ths) (some (.int res.1)) := by
  refine x_enter (by decide) (Nat.le_of_ble_eq_true rfl) ?_
  intro p e s m args below meth c E ls hl hw
  have E : xE p s m args meth c cX7_clear 2 (some .int) RX7 D (xtys cI cZ cN cC) (xA (wMod cI cZ cN cC h0 h1 h2 h3 h4 h5 h6 h7 h8 h9 h10 h11 h12 h13 h14 h15 mn um len plc srt frm num wrg cm mpt st pst kep isk pil nxs txt cls asd opn byy twc szs sos ths)) := E
  obtain ⟨hx, hb, -⟩ := id E
  have hl : lv_has ls 2 [(0, .ref h0)] := hl
  unfold f_X7_clear at hf
  refine lv_aload_n hx hb dX7_clear_0 rfl (lv_at hl 0 rfl) ?_
  refine x_get E hw kin_X7 0 rfl rfl 1 (by decide) kF_X7_13 (v := .ref h1) rfl dX7_clear_1 ?_
  refine lv_bipush (v := 110) hx hb dX7_clear_4 (by decide) ?_
  refine x_iald E hw 1 0 rfl rfl (xin_vp (by decide)) dX7_clear_6 ?_
  refine lv_if_ne (tgt := 13) hx hb dX7_clear_7 (by decide) (fun c1 => ?_) (fun c1 => ?_)
  · rw [if_neg c1] at hf
    refine lv_aload_n hx hb dX7_clear_13 rfl (lv_at hl 0 rfl) ?_
    obtain ⟨q2, hq2, hf⟩ := Option.bind_eq_some_iff.mp hf
    refine x_callVI (ws' := (wMod cI cZ cN cC h0 h1 h2 h3 h4 h5 h6 h7 h8 h9 h10 h11 h12 h13 h14 h15 mn q2.1 len plc srt frm num wrg cm mpt st q2.2 kep isk pil nxs txt cls asd opn byy twc szs sos ths)) (st1 := []) (As := []) (rest := []) E hw vc_X7_177 (c_X7_note (cI := cI) (cZ := cZ) (cN := cN) (cC := cC) (h0 := h0) (h1 := h1) (h2 := h2) (h3 := h3) (h4 := h4) (h5 := h5) (h6 := h6) (h7 := h7) (h8 := h8) (h9 := h9) (h10 := h10) (h11 := h11) (h12 := h12) (h13 := h13) (h14 := h14) (h15 := h15)  (mn := mn) (um := um) (len := len) (plc := plc) (srt := srt) (frm := frm) (num := num) (wrg := wrg) (cm := cm) (mpt := mpt) (st := st) (pst := pst) (kep := kep) (isk := isk) (pil := pil) (nxs := nxs) (txt := txt) (cls := cls) (asd := asd) (opn := opn) (byy := byy) (twc := twc) (szs := szs) (sos := sos) (ths := ths)  hq2) 0 7 rfl rfl rfl rfl rfl ⟨Nat.le_of_ble_eq_true rfl, Nat.le_of_ble_eq_true rfl⟩ ⟨Nat.le_refl _, Nat.le_refl _⟩ hl.1 rfl rfl (Nat.le_of_ble_eq_true rfl) dX7_clear_14 (fun H locs hw => ?_)
    refine lv_aload_n hx hb dX7_clear_17 rfl (lv_at hl 0 rfl) ?_
    refine x_get E hw kin_X7 0 rfl rfl 1 (by decide) kF_X7_13 (v := .ref h1) rfl dX7_clear_18 ?_
    refine lv_bipush (v := 110) hx hb dX7_clear_21 (by decide) ?_
    refine x_iald E hw 1 0 rfl rfl (xin_vp (by decide)) dX7_clear_23 ?_
    refine lv_istore_n (lv' := [(1, .int (st (Int32.toNatClampNeg 110))), (0, .ref h0)]) hx hb dX7_clear_24 rfl hl (by decide) rfl (fun ls hl => ?_)
    refine lv_aload_n hx hb dX7_clear_25 rfl (lv_at hl 1 rfl) ?_
    refine x_get E hw kin_X7 0 rfl rfl 1 (by decide) kF_X7_13 (v := .ref h1) rfl dX7_clear_26 ?_
    refine lv_bipush (v := 110) hx hb dX7_clear_29 (by decide) ?_
    refine lv_iconst (v := 0) hx hb dX7_clear_31 (by decide) ?_
    refine x_iast (ws' := (wMod cI cZ cN cC h0 h1 h2 h3 h4 h5 h6 h7 h8 h9 h10 h11 h12 h13 h14 h15 mn q2.1 len plc srt frm num wrg cm mpt (upd st (Int32.toNatClampNeg 110) 0) q2.2 kep isk pil nxs txt cls asd opn byy twc szs sos ths)) E hw 1 0 rfl rfl (xin_vp (by decide)) rfl dX7_clear_32 (fun H locs hw => ?_)
    refine lv_iload_n hx hb dX7_clear_33 rfl (lv_at hl 0 rfl) ?_
    have hf := Option.some.inj hf; subst hf
    exact x_iret E hw dX7_clear_34
  · rw [if_pos c1] at hf
    refine lv_bipush (v := (-4)) hx hb dX7_clear_10 (by decide) ?_
    have hf := Option.some.inj hf; subst hf
    exact x_iret E hw dX7_clear_12

def f_X7_undo_22 (um : Int32) (pst : (Nat → Int32)) : Nat → Int32 → (Nat → Int32) → Option (Int32 × Int32 × (Nat → Int32))
  | 0, _, _ => none
  | n + 1, x1, st =>
    if 111 ≤ x1 then
     some (um, um, st)
    else
     if xin ((111 * um) + x1) 888 then
     if xin x1 111 then
     f_X7_undo_22 um pst n (x1 + 1) (upd st (Int32.toNatClampNeg x1) (pst (Int32.toNatClampNeg ((111 * um) + x1))))
     else none
     else none
set_option maxHeartbeats 4000000 in
set_option maxRecDepth 100000 in
theorem b_X7_undo_22 {p : Program} {l : Launch} {e : Env} {s : State} {m : MethodId} {args : Array Value} {below : List Frame} {meth : Method} {c : Code} {D : va_G} {cI cZ cN cC : ClassId} {ws0 : va_W} {h0 h1 h2 h3 h4 h5 h6 h7 h8 h9 h10 h11 h12 h13 h14 h15 : Nat} {mn : Int32} {um : Int32} {len : Int32} {plc : Int32} {srt : Int32} {frm : Int32} {num : Int32} {wrg : Int32} {cm : Int32} {mpt : Int32} {pst : (Nat → Int32)} {kep : (Nat → Int32)} {isk : (Nat → Int32)} {pil : (Nat → Int32)} {nxs : (Nat → Int32)} {txt : (Nat → Int32)} {cls : (Nat → Int32)} {asd : (Nat → Int32)} {opn : (Nat → Int32)} {byy : (Nat → Int32)} {twc : (Nat → Int32)} {szs : (Nat → Int32)} {sos : (Nat → Int32)} {ths : (Nat → Int32)} {res : Int32 × Int32 × (Nat → Int32)} (E : xE p s m args meth c cX7_undo 2 (some .int) RX7 D (xtys cI cZ cN cC) (xA ws0)) : ∀ (n : Nat) (x1 : Int32) (st : (Nat → Int32)), f_X7_undo_22 um pst n x1 st = some res → ∀ (H : Heap) (locs : List Loc) (ls : Array Slot), xw D (xA ws0) s.heap (wMod cI cZ cN cC h0 h1 h2 h3 h4 h5 h6 h7 h8 h9 h10 h11 h12 h13 h14 h15 mn um len plc srt frm num wrg cm mpt st pst kep isk pil nxs txt cls asd opn byy twc szs sos ths) H locs → lv_has ls 2 [(0, .ref h0), (1, .int x1)] → xG p l e 0 0 s m args below meth c D ws0 (wMod cI cZ cN cC h0 h1 h2 h3 h4 h5 h6 h7 h8 h9 h10 h11 h12 h13 h14 h15 mn res.2.1 len plc srt frm num wrg cm mpt res.2.2 pst kep isk pil nxs txt cls asd opn byy twc szs sos ths) (some (.int res.1)) H locs (F0 m 22 ls []) := by
  obtain ⟨hx, hb, -⟩ := id E
  intro n
  induction n with
  | zero =>
    intro _ _ hf
    rw [f_X7_undo_22] at hf; cases hf
  | succ n ih =>
    intro x1 st hf H locs ls hw hl
    rw [f_X7_undo_22] at hf
    refine lv_iload_n hx hb dX7_undo_22 rfl (lv_at hl 1 rfl) ?_
    refine lv_bipush (v := 111) hx hb dX7_undo_23 (by decide) ?_
    refine lv_icmp_ge (tgt := 54) hx hb dX7_undo_25 (by decide) (fun c2 => ?_) (fun c2 => ?_)
    · rw [if_pos c2] at hf
      refine lv_aload_n hx hb dX7_undo_54 rfl (lv_at hl 0 rfl) ?_
      refine x_get E hw kin_X7 0 rfl rfl 3 (by decide) kF_X7_92 (v := .int um) rfl dX7_undo_55 ?_
      have hf := Option.some.inj hf; subst hf
      exact x_iret E hw dX7_undo_58
    · rw [if_neg c2] at hf
      refine lv_aload_n hx hb dX7_undo_28 rfl (lv_at hl 0 rfl) ?_
      refine x_get E hw kin_X7 0 rfl rfl 1 (by decide) kF_X7_13 (v := .ref h1) rfl dX7_undo_29 ?_
      refine lv_iload_n hx hb dX7_undo_32 rfl (lv_at hl 1 rfl) ?_
      refine lv_aload_n hx hb dX7_undo_33 rfl (lv_at hl 0 rfl) ?_
      refine x_get E hw kin_X7 0 rfl rfl 2 (by decide) kF_X7_17 (v := .ref h2) rfl dX7_undo_34 ?_
      refine lv_bipush (v := 111) hx hb dX7_undo_37 (by decide) ?_
      refine lv_aload_n hx hb dX7_undo_39 rfl (lv_at hl 0 rfl) ?_
      refine x_get E hw kin_X7 0 rfl rfl 3 (by decide) kF_X7_92 (v := .int um) rfl dX7_undo_40 ?_
      refine lv_imul hx hb dX7_undo_43 ?_
      refine lv_iload_n hx hb dX7_undo_44 rfl (lv_at hl 1 rfl) ?_
      refine lv_iadd hx hb dX7_undo_45 ?_
      obtain ⟨g3, hf⟩ := xgd hf
      refine x_iald E hw 2 0 rfl rfl (xin_vp g3) dX7_undo_46 ?_
      obtain ⟨g4, hf⟩ := xgd hf
      refine x_iast (ws' := (wMod cI cZ cN cC h0 h1 h2 h3 h4 h5 h6 h7 h8 h9 h10 h11 h12 h13 h14 h15 mn um len plc srt frm num wrg cm mpt (upd st (Int32.toNatClampNeg x1) (pst (Int32.toNatClampNeg ((111 * um) + x1)))) pst kep isk pil nxs txt cls asd opn byy twc szs sos ths)) E hw 1 0 rfl rfl (xin_vp g4) rfl dX7_undo_47 (fun H locs hw => ?_)
      refine lv_iinc (v := (x1 + 1)) (lv' := [(1, .int (x1 + 1)), (0, .ref h0)]) hx hb dX7_undo_48 hl (k := 1) rfl rfl (by decide) rfl (fun ls hl => ?_)
      refine lv_goto (tgt := 22) hx hb dX7_undo_51 (by decide) ?_
      exact ih _ _ hf _ _ _ hw (lv_sub hl [1, 0] rfl)
def f_X7_undo (N : Nat) (um : Int32) (st : (Nat → Int32)) (pst : (Nat → Int32)) : Option (Int32 × Int32 × (Nat → Int32)) :=
  if um = 0 then
   some ((-4), um, st)
  else
   f_X7_undo_22 (um - 1) pst N 0 st
set_option maxHeartbeats 4000000 in
set_option maxRecDepth 100000 in
theorem c_X7_undo {l : Launch} {D : va_G} {cI cZ cN cC : ClassId} {h0 h1 h2 h3 h4 h5 h6 h7 h8 h9 h10 h11 h12 h13 h14 h15 : Nat} {mn : Int32} {um : Int32} {len : Int32} {plc : Int32} {srt : Int32} {frm : Int32} {num : Int32} {wrg : Int32} {cm : Int32} {mpt : Int32} {st : (Nat → Int32)} {pst : (Nat → Int32)} {kep : (Nat → Int32)} {isk : (Nat → Int32)} {pil : (Nat → Int32)} {nxs : (Nat → Int32)} {txt : (Nat → Int32)} {cls : (Nat → Int32)} {asd : (Nat → Int32)} {opn : (Nat → Int32)} {byy : (Nat → Int32)} {twc : (Nat → Int32)} {szs : (Nat → Int32)} {sos : (Nat → Int32)} {ths : (Nat → Int32)}  {N : Nat} {res : Int32 × Int32 × (Nat → Int32)} (hf : f_X7_undo N um st pst = some res) : xMet l D (xtys cI cZ cN cC) yX7_undo cX7_undo 2 (some .int) 0 0 [.ref h0] (wMod cI cZ cN cC h0 h1 h2 h3 h4 h5 h6 h7 h8 h9 h10 h11 h12 h13 h14 h15 mn um len plc srt frm num wrg cm mpt st pst kep isk pil nxs txt cls asd opn byy twc szs sos ths) (wMod cI cZ cN cC h0 h1 h2 h3 h4 h5 h6 h7 h8 h9 h10 h11 h12 h13 h14 h15 mn res.2.1 len plc srt frm num wrg cm mpt res.2.2 pst kep isk pil nxs txt cls asd opn byy twc szs sos ths) (some (.int res.1)) := by
  refine x_enter (by decide) (Nat.le_of_ble_eq_true rfl) ?_
  intro p e s m args below meth c E ls hl hw
  have E : xE p s m args meth c cX7_undo 2 (some .int) RX7 D (xtys cI cZ cN cC) (xA (wMod cI cZ cN cC h0 h1 h2 h3 h4 h5 h6 h7 h8 h9 h10 h11 h12 h13 h14 h15 mn um len plc srt frm num wrg cm mpt st pst kep isk pil nxs txt cls asd opn byy twc szs sos ths)) := E
  obtain ⟨hx, hb, -⟩ := id E
  have hl : lv_has ls 2 [(0, .ref h0)] := hl
  unfold f_X7_undo at hf
  refine lv_aload_n hx hb dX7_undo_0 rfl (lv_at hl 0 rfl) ?_
  refine x_get E hw kin_X7 0 rfl rfl 3 (by decide) kF_X7_92 (v := .int um) rfl dX7_undo_1 ?_
  refine lv_if_ne (tgt := 10) hx hb dX7_undo_4 (by decide) (fun c1 => ?_) (fun c1 => ?_)
  · rw [if_neg c1] at hf
    refine lv_aload_n hx hb dX7_undo_10 rfl (lv_at hl 0 rfl) ?_
    refine lv_dup hx hb dX7_undo_11 rfl ?_
    refine x_get E hw kin_X7 0 rfl rfl 3 (by decide) kF_X7_92 (v := .int um) rfl dX7_undo_12 ?_
    refine lv_iconst (v := 1) hx hb dX7_undo_15 (by decide) ?_
    refine lv_isub hx hb dX7_undo_16 ?_
    refine x_put (ws' := (wMod cI cZ cN cC h0 h1 h2 h3 h4 h5 h6 h7 h8 h9 h10 h11 h12 h13 h14 h15 mn (um - 1) len plc srt frm num wrg cm mpt st pst kep isk pil nxs txt cls asd opn byy twc szs sos ths)) E hw kin_X7 tyX7 tyX7_ok nmX7 0 rfl rfl 3 (by decide) kF_X7_92 rfl (v := .int (um - 1)) rfl rfl (Nat.le_of_ble_eq_true rfl) rfl dX7_undo_17 (fun H locs hw => ?_)
    refine lv_iconst (v := 0) hx hb dX7_undo_20 (by decide) ?_
    refine lv_istore_n (lv' := [(1, .int 0), (0, .ref h0)]) hx hb dX7_undo_21 rfl hl (by decide) rfl (fun ls hl => ?_)
    exact b_X7_undo_22 E N _ _ hf _ _ _ hw (lv_sub hl [1, 0] rfl)
  · rw [if_pos c1] at hf
    refine lv_bipush (v := (-4)) hx hb dX7_undo_7 (by decide) ?_
    have hf := Option.some.inj hf; subst hf
    exact x_iret E hw dX7_undo_9

def f_X7_keep_15 (N : Nat) (x1 : Int32) (mn : Int32) (st : (Nat → Int32)) (isk : (Nat → Int32)) : Nat → Int32 → (Nat → Int32) → Option (Int32 × (Nat → Int32) × (Nat → Int32))
  | 0, _, _ => none
  | n + 1, x2, kep =>
    if 111 ≤ x2 then
     if xin x1 2 then
     (f_X7_arcs N mn st).bind fun q4 =>
     some (q4, kep, (upd isk (Int32.toNatClampNeg x1) 1))
     else none
    else
     if xin x2 111 then
     if xin ((111 * x1) + x2) 222 then
     f_X7_keep_15 N x1 mn st isk n (x2 + 1) (upd kep (Int32.toNatClampNeg ((111 * x1) + x2)) (st (Int32.toNatClampNeg x2)))
     else none
     else none
set_option maxHeartbeats 4000000 in
set_option maxRecDepth 100000 in
theorem b_X7_keep_15 {p : Program} {l : Launch} {e : Env} {s : State} {m : MethodId} {args : Array Value} {below : List Frame} {meth : Method} {c : Code} {D : va_G} {cI cZ cN cC : ClassId} {ws0 : va_W} {h0 h1 h2 h3 h4 h5 h6 h7 h8 h9 h10 h11 h12 h13 h14 h15 : Nat} {x1 : Int32} {mn : Int32} {um : Int32} {len : Int32} {plc : Int32} {srt : Int32} {frm : Int32} {num : Int32} {wrg : Int32} {cm : Int32} {mpt : Int32} {st : (Nat → Int32)} {pst : (Nat → Int32)} {isk : (Nat → Int32)} {pil : (Nat → Int32)} {nxs : (Nat → Int32)} {txt : (Nat → Int32)} {cls : (Nat → Int32)} {asd : (Nat → Int32)} {opn : (Nat → Int32)} {byy : (Nat → Int32)} {twc : (Nat → Int32)} {szs : (Nat → Int32)} {sos : (Nat → Int32)} {ths : (Nat → Int32)} {N : Nat} {res : Int32 × (Nat → Int32) × (Nat → Int32)} (E : xE p s m args meth c cX7_keep 3 (some .int) RX7 D (xtys cI cZ cN cC) (xA ws0)) : ∀ (n : Nat) (x2 : Int32) (kep : (Nat → Int32)), f_X7_keep_15 N x1 mn st isk n x2 kep = some res → ∀ (H : Heap) (locs : List Loc) (ls : Array Slot), xw D (xA ws0) s.heap (wMod cI cZ cN cC h0 h1 h2 h3 h4 h5 h6 h7 h8 h9 h10 h11 h12 h13 h14 h15 mn um len plc srt frm num wrg cm mpt st pst kep isk pil nxs txt cls asd opn byy twc szs sos ths) H locs → lv_has ls 3 [(0, .ref h0), (1, .int x1), (2, .int x2)] → xG p l e 2 44 s m args below meth c D ws0 (wMod cI cZ cN cC h0 h1 h2 h3 h4 h5 h6 h7 h8 h9 h10 h11 h12 h13 h14 h15 mn um len plc srt frm num wrg cm mpt st pst res.2.1 res.2.2 pil nxs txt cls asd opn byy twc szs sos ths) (some (.int res.1)) H locs (F0 m 15 ls []) := by
  obtain ⟨hx, hb, -⟩ := id E
  intro n
  induction n with
  | zero =>
    intro _ _ hf
    rw [f_X7_keep_15] at hf; cases hf
  | succ n ih =>
    intro x2 kep hf H locs ls hw hl
    rw [f_X7_keep_15] at hf
    refine lv_iload_n hx hb dX7_keep_15 rfl (lv_at hl 2 rfl) ?_
    refine lv_bipush (v := 111) hx hb dX7_keep_16 (by decide) ?_
    refine lv_icmp_ge (tgt := 44) hx hb dX7_keep_18 (by decide) (fun c2 => ?_) (fun c2 => ?_)
    · rw [if_pos c2] at hf
      refine lv_aload_n hx hb dX7_keep_44 rfl (lv_at hl 0 rfl) ?_
      refine x_get E hw kin_X7 0 rfl rfl 5 (by decide) kF_X7_23 (v := .ref h4) rfl dX7_keep_45 ?_
      refine lv_iload_n hx hb dX7_keep_48 rfl (lv_at hl 1 rfl) ?_
      refine lv_iconst (v := 1) hx hb dX7_keep_49 (by decide) ?_
      obtain ⟨g3, hf⟩ := xgd hf
      refine x_iast (ws' := (wMod cI cZ cN cC h0 h1 h2 h3 h4 h5 h6 h7 h8 h9 h10 h11 h12 h13 h14 h15 mn um len plc srt frm num wrg cm mpt st pst kep (upd isk (Int32.toNatClampNeg x1) 1) pil nxs txt cls asd opn byy twc szs sos ths)) E hw 4 0 rfl rfl (xin_vp g3) rfl dX7_keep_50 (fun H locs hw => ?_)
      refine lv_aload_n hx hb dX7_keep_51 rfl (lv_at hl 0 rfl) ?_
      obtain ⟨q4, hq4, hf⟩ := Option.bind_eq_some_iff.mp hf
      refine x_callVI (ws' := (wMod cI cZ cN cC h0 h1 h2 h3 h4 h5 h6 h7 h8 h9 h10 h11 h12 h13 h14 h15 mn um len plc srt frm num wrg cm mpt st pst kep (upd isk (Int32.toNatClampNeg x1) 1) pil nxs txt cls asd opn byy twc szs sos ths)) (st1 := [.int q4]) (As := []) (rest := []) E hw vc_X7_159 (c_X7_arcs (cI := cI) (cZ := cZ) (cN := cN) (cC := cC) (h0 := h0) (h1 := h1) (h2 := h2) (h3 := h3) (h4 := h4) (h5 := h5) (h6 := h6) (h7 := h7) (h8 := h8) (h9 := h9) (h10 := h10) (h11 := h11) (h12 := h12) (h13 := h13) (h14 := h14) (h15 := h15)  (mn := mn) (um := um) (len := len) (plc := plc) (srt := srt) (frm := frm) (num := num) (wrg := wrg) (cm := cm) (mpt := mpt) (st := st) (pst := pst) (kep := kep) (isk := (upd isk (Int32.toNatClampNeg x1) 1)) (pil := pil) (nxs := nxs) (txt := txt) (cls := cls) (asd := asd) (opn := opn) (byy := byy) (twc := twc) (szs := szs) (sos := sos) (ths := ths)  hq4) 0 7 rfl rfl rfl rfl rfl ⟨Nat.le_of_ble_eq_true rfl, Nat.le_of_ble_eq_true rfl⟩ ⟨Nat.le_refl _, Nat.le_refl _⟩ hl.1 rfl rfl (Nat.le_of_ble_eq_true rfl) dX7_keep_52 (fun H locs hw => ?_)
      have hf := Option.some.inj hf; subst hf
      exact x_iret E hw dX7_keep_55
    · rw [if_neg c2] at hf
      refine lv_aload_n hx hb dX7_keep_21 rfl (lv_at hl 0 rfl) ?_
      refine x_get E hw kin_X7 0 rfl rfl 4 (by decide) kF_X7_20 (v := .ref h3) rfl dX7_keep_22 ?_
      refine lv_bipush (v := 111) hx hb dX7_keep_25 (by decide) ?_
      refine lv_iload_n hx hb dX7_keep_27 rfl (lv_at hl 1 rfl) ?_
      refine lv_imul hx hb dX7_keep_28 ?_
      refine lv_iload_n hx hb dX7_keep_29 rfl (lv_at hl 2 rfl) ?_
      refine lv_iadd hx hb dX7_keep_30 ?_
      refine lv_aload_n hx hb dX7_keep_31 rfl (lv_at hl 0 rfl) ?_
      refine x_get E hw kin_X7 0 rfl rfl 1 (by decide) kF_X7_13 (v := .ref h1) rfl dX7_keep_32 ?_
      refine lv_iload_n hx hb dX7_keep_35 rfl (lv_at hl 2 rfl) ?_
      obtain ⟨g5, hf⟩ := xgd hf
      refine x_iald E hw 1 0 rfl rfl (xin_vp g5) dX7_keep_36 ?_
      obtain ⟨g6, hf⟩ := xgd hf
      refine x_iast (ws' := (wMod cI cZ cN cC h0 h1 h2 h3 h4 h5 h6 h7 h8 h9 h10 h11 h12 h13 h14 h15 mn um len plc srt frm num wrg cm mpt st pst (upd kep (Int32.toNatClampNeg ((111 * x1) + x2)) (st (Int32.toNatClampNeg x2))) isk pil nxs txt cls asd opn byy twc szs sos ths)) E hw 3 0 rfl rfl (xin_vp g6) rfl dX7_keep_37 (fun H locs hw => ?_)
      refine lv_iinc (v := (x2 + 1)) (lv' := [(2, .int (x2 + 1)), (0, .ref h0), (1, .int x1)]) hx hb dX7_keep_38 hl (k := 2) rfl rfl (by decide) rfl (fun ls hl => ?_)
      refine lv_goto (tgt := 15) hx hb dX7_keep_41 (by decide) ?_
      exact ih _ _ hf _ _ _ hw (lv_sub hl [1, 2, 0] rfl)
def f_X7_keep (N : Nat) (x1 : Int32) (mn : Int32) (st : (Nat → Int32)) (kep : (Nat → Int32)) (isk : (Nat → Int32)) : Option (Int32 × (Nat → Int32) × (Nat → Int32)) :=
  if (f_X7_in (Int32.toInt64 x1) 0 1) = 0 then
   some ((-2), kep, isk)
  else
   f_X7_keep_15 N x1 mn st isk N 0 kep
set_option maxHeartbeats 4000000 in
set_option maxRecDepth 100000 in
theorem c_X7_keep {l : Launch} {D : va_G} {cI cZ cN cC : ClassId} {h0 h1 h2 h3 h4 h5 h6 h7 h8 h9 h10 h11 h12 h13 h14 h15 : Nat} {mn : Int32} {um : Int32} {len : Int32} {plc : Int32} {srt : Int32} {frm : Int32} {num : Int32} {wrg : Int32} {cm : Int32} {mpt : Int32} {st : (Nat → Int32)} {pst : (Nat → Int32)} {kep : (Nat → Int32)} {isk : (Nat → Int32)} {pil : (Nat → Int32)} {nxs : (Nat → Int32)} {txt : (Nat → Int32)} {cls : (Nat → Int32)} {asd : (Nat → Int32)} {opn : (Nat → Int32)} {byy : (Nat → Int32)} {twc : (Nat → Int32)} {szs : (Nat → Int32)} {sos : (Nat → Int32)} {ths : (Nat → Int32)} {x1 : Int32} {N : Nat} {res : Int32 × (Nat → Int32) × (Nat → Int32)} (hf : f_X7_keep N x1 mn st kep isk = some res) : xMet l D (xtys cI cZ cN cC) yX7_keep cX7_keep 3 (some .int) 2 44 [.ref h0, .int x1] (wMod cI cZ cN cC h0 h1 h2 h3 h4 h5 h6 h7 h8 h9 h10 h11 h12 h13 h14 h15 mn um len plc srt frm num wrg cm mpt st pst kep isk pil nxs txt cls asd opn byy twc szs sos ths) (wMod cI cZ cN cC h0 h1 h2 h3 h4 h5 h6 h7 h8 h9 h10 h11 h12 h13 h14 h15 mn um len plc srt frm num wrg cm mpt st pst res.2.1 res.2.2 pil nxs txt cls asd opn byy twc szs sos ths) (some (.int res.1)) := by
  refine x_enter (by decide) (Nat.le_of_ble_eq_true rfl) ?_
  intro p e s m args below meth c E ls hl hw
  have E : xE p s m args meth c cX7_keep 3 (some .int) RX7 D (xtys cI cZ cN cC) (xA (wMod cI cZ cN cC h0 h1 h2 h3 h4 h5 h6 h7 h8 h9 h10 h11 h12 h13 h14 h15 mn um len plc srt frm num wrg cm mpt st pst kep isk pil nxs txt cls asd opn byy twc szs sos ths)) := E
  obtain ⟨hx, hb, -⟩ := id E
  have hl : lv_has ls 3 [(0, .ref h0), (1, .int x1)] := hl
  unfold f_X7_keep at hf
  refine lv_iload_n hx hb dX7_keep_0 rfl (lv_at hl 1 rfl) ?_
  refine lv_i2l (v := (Int32.toInt64 x1)) hx hb dX7_keep_1 rfl ?_
  refine lv_lconst (v := 0) hx hb dX7_keep_2 (by decide) ?_
  refine lv_lconst (v := 1) hx hb dX7_keep_3 (by decide) ?_
  refine x_callS (isC := []) (ws' := (wMod cI cZ cN cC h0 h1 h2 h3 h4 h5 h6 h7 h8 h9 h10 h11 h12 h13 h14 h15 mn um len plc srt frm num wrg cm mpt st pst kep isk pil nxs txt cls asd opn byy twc szs sos ths)) (st1 := [.int (f_X7_in (Int32.toInt64 x1) 0 1)]) (As := [.long (Int32.toInt64 x1), .long 0, .long 1]) (rest := []) E hw vc_X7_66 (c_X7_in (cI := cI) (cZ := cZ) (cN := cN) (cC := cC)    (x0 := (Int32.toInt64 x1)) (x2 := 0) (x4 := 1) rfl) rfl rfl rfl rfl rfl rfl ⟨Nat.le_of_ble_eq_true rfl, Nat.le_of_ble_eq_true rfl⟩ ⟨Nat.le_refl _, Nat.le_refl _⟩ hl.1 rfl rfl (Nat.le_of_ble_eq_true rfl) dX7_keep_4 (fun H locs hw => ?_)
  refine lv_if_ne (tgt := 13) hx hb dX7_keep_7 (by decide) (fun c1 => ?_) (fun c1 => ?_)
  · rw [if_neg c1] at hf
    refine lv_iconst (v := 0) hx hb dX7_keep_13 (by decide) ?_
    refine lv_istore_n (lv' := [(2, .int 0), (0, .ref h0), (1, .int x1)]) hx hb dX7_keep_14 rfl hl (by decide) rfl (fun ls hl => ?_)
    exact b_X7_keep_15 E N _ _ hf _ _ _ hw (lv_sub hl [1, 2, 0] rfl)
  · rw [if_pos c1] at hf
    refine lv_bipush (v := (-2)) hx hb dX7_keep_10 (by decide) ?_
    have hf := Option.some.inj hf; subst hf
    exact x_iret E hw dX7_keep_12

def f_X7_back_27 (N : Nat) (x1 : Int32) (mn : Int32) (kep : (Nat → Int32)) : Nat → Int32 → (Nat → Int32) → Option (Int32 × Int32 × (Nat → Int32))
  | 0, _, _ => none
  | n + 1, x2, st =>
    if 111 ≤ x2 then
     (f_X7_arcs N mn st).bind fun q5 =>
     some (q5, 0, st)
    else
     if xin ((111 * x1) + x2) 222 then
     if xin x2 111 then
     f_X7_back_27 N x1 mn kep n (x2 + 1) (upd st (Int32.toNatClampNeg x2) (kep (Int32.toNatClampNeg ((111 * x1) + x2))))
     else none
     else none
set_option maxHeartbeats 4000000 in
set_option maxRecDepth 100000 in
theorem b_X7_back_27 {p : Program} {l : Launch} {e : Env} {s : State} {m : MethodId} {args : Array Value} {below : List Frame} {meth : Method} {c : Code} {D : va_G} {cI cZ cN cC : ClassId} {ws0 : va_W} {h0 h1 h2 h3 h4 h5 h6 h7 h8 h9 h10 h11 h12 h13 h14 h15 : Nat} {x1 : Int32} {mn : Int32} {um : Int32} {len : Int32} {plc : Int32} {srt : Int32} {frm : Int32} {num : Int32} {wrg : Int32} {cm : Int32} {mpt : Int32} {pst : (Nat → Int32)} {kep : (Nat → Int32)} {isk : (Nat → Int32)} {pil : (Nat → Int32)} {nxs : (Nat → Int32)} {txt : (Nat → Int32)} {cls : (Nat → Int32)} {asd : (Nat → Int32)} {opn : (Nat → Int32)} {byy : (Nat → Int32)} {twc : (Nat → Int32)} {szs : (Nat → Int32)} {sos : (Nat → Int32)} {ths : (Nat → Int32)} {N : Nat} {res : Int32 × Int32 × (Nat → Int32)} (E : xE p s m args meth c cX7_back 3 (some .int) RX7 D (xtys cI cZ cN cC) (xA ws0)) : ∀ (n : Nat) (x2 : Int32) (st : (Nat → Int32)), f_X7_back_27 N x1 mn kep n x2 st = some res → ∀ (H : Heap) (locs : List Loc) (ls : Array Slot), xw D (xA ws0) s.heap (wMod cI cZ cN cC h0 h1 h2 h3 h4 h5 h6 h7 h8 h9 h10 h11 h12 h13 h14 h15 mn um len plc srt frm num wrg cm mpt st pst kep isk pil nxs txt cls asd opn byy twc szs sos ths) H locs → lv_has ls 3 [(0, .ref h0), (1, .int x1), (2, .int x2)] → xG p l e 2 44 s m args below meth c D ws0 (wMod cI cZ cN cC h0 h1 h2 h3 h4 h5 h6 h7 h8 h9 h10 h11 h12 h13 h14 h15 mn res.2.1 len plc srt frm num wrg cm mpt res.2.2 pst kep isk pil nxs txt cls asd opn byy twc szs sos ths) (some (.int res.1)) H locs (F0 m 27 ls []) := by
  obtain ⟨hx, hb, -⟩ := id E
  intro n
  induction n with
  | zero =>
    intro _ _ hf
    rw [f_X7_back_27] at hf; cases hf
  | succ n ih =>
    intro x2 st hf H locs ls hw hl
    rw [f_X7_back_27] at hf
    refine lv_iload_n hx hb dX7_back_27 rfl (lv_at hl 2 rfl) ?_
    refine lv_bipush (v := 111) hx hb dX7_back_28 (by decide) ?_
    refine lv_icmp_ge (tgt := 56) hx hb dX7_back_30 (by decide) (fun c4 => ?_) (fun c4 => ?_)
    · rw [if_pos c4] at hf
      refine lv_aload_n hx hb dX7_back_56 rfl (lv_at hl 0 rfl) ?_
      refine lv_iconst (v := 0) hx hb dX7_back_57 (by decide) ?_
      refine x_put (ws' := (wMod cI cZ cN cC h0 h1 h2 h3 h4 h5 h6 h7 h8 h9 h10 h11 h12 h13 h14 h15 mn 0 len plc srt frm num wrg cm mpt st pst kep isk pil nxs txt cls asd opn byy twc szs sos ths)) E hw kin_X7 tyX7 tyX7_ok nmX7 0 rfl rfl 3 (by decide) kF_X7_92 rfl (v := .int 0) rfl rfl (Nat.le_of_ble_eq_true rfl) rfl dX7_back_58 (fun H locs hw => ?_)
      refine lv_aload_n hx hb dX7_back_61 rfl (lv_at hl 0 rfl) ?_
      obtain ⟨q5, hq5, hf⟩ := Option.bind_eq_some_iff.mp hf
      refine x_callVI (ws' := (wMod cI cZ cN cC h0 h1 h2 h3 h4 h5 h6 h7 h8 h9 h10 h11 h12 h13 h14 h15 mn 0 len plc srt frm num wrg cm mpt st pst kep isk pil nxs txt cls asd opn byy twc szs sos ths)) (st1 := [.int q5]) (As := []) (rest := []) E hw vc_X7_159 (c_X7_arcs (cI := cI) (cZ := cZ) (cN := cN) (cC := cC) (h0 := h0) (h1 := h1) (h2 := h2) (h3 := h3) (h4 := h4) (h5 := h5) (h6 := h6) (h7 := h7) (h8 := h8) (h9 := h9) (h10 := h10) (h11 := h11) (h12 := h12) (h13 := h13) (h14 := h14) (h15 := h15)  (mn := mn) (um := 0) (len := len) (plc := plc) (srt := srt) (frm := frm) (num := num) (wrg := wrg) (cm := cm) (mpt := mpt) (st := st) (pst := pst) (kep := kep) (isk := isk) (pil := pil) (nxs := nxs) (txt := txt) (cls := cls) (asd := asd) (opn := opn) (byy := byy) (twc := twc) (szs := szs) (sos := sos) (ths := ths)  hq5) 0 7 rfl rfl rfl rfl rfl ⟨Nat.le_of_ble_eq_true rfl, Nat.le_of_ble_eq_true rfl⟩ ⟨Nat.le_refl _, Nat.le_refl _⟩ hl.1 rfl rfl (Nat.le_of_ble_eq_true rfl) dX7_back_62 (fun H locs hw => ?_)
      have hf := Option.some.inj hf; subst hf
      exact x_iret E hw dX7_back_65
    · rw [if_neg c4] at hf
      refine lv_aload_n hx hb dX7_back_33 rfl (lv_at hl 0 rfl) ?_
      refine x_get E hw kin_X7 0 rfl rfl 1 (by decide) kF_X7_13 (v := .ref h1) rfl dX7_back_34 ?_
      refine lv_iload_n hx hb dX7_back_37 rfl (lv_at hl 2 rfl) ?_
      refine lv_aload_n hx hb dX7_back_38 rfl (lv_at hl 0 rfl) ?_
      refine x_get E hw kin_X7 0 rfl rfl 4 (by decide) kF_X7_20 (v := .ref h3) rfl dX7_back_39 ?_
      refine lv_bipush (v := 111) hx hb dX7_back_42 (by decide) ?_
      refine lv_iload_n hx hb dX7_back_44 rfl (lv_at hl 1 rfl) ?_
      refine lv_imul hx hb dX7_back_45 ?_
      refine lv_iload_n hx hb dX7_back_46 rfl (lv_at hl 2 rfl) ?_
      refine lv_iadd hx hb dX7_back_47 ?_
      obtain ⟨g6, hf⟩ := xgd hf
      refine x_iald E hw 3 0 rfl rfl (xin_vp g6) dX7_back_48 ?_
      obtain ⟨g7, hf⟩ := xgd hf
      refine x_iast (ws' := (wMod cI cZ cN cC h0 h1 h2 h3 h4 h5 h6 h7 h8 h9 h10 h11 h12 h13 h14 h15 mn um len plc srt frm num wrg cm mpt (upd st (Int32.toNatClampNeg x2) (kep (Int32.toNatClampNeg ((111 * x1) + x2)))) pst kep isk pil nxs txt cls asd opn byy twc szs sos ths)) E hw 1 0 rfl rfl (xin_vp g7) rfl dX7_back_49 (fun H locs hw => ?_)
      refine lv_iinc (v := (x2 + 1)) (lv' := [(2, .int (x2 + 1)), (0, .ref h0), (1, .int x1)]) hx hb dX7_back_50 hl (k := 2) rfl rfl (by decide) rfl (fun ls hl => ?_)
      refine lv_goto (tgt := 27) hx hb dX7_back_53 (by decide) ?_
      exact ih _ _ hf _ _ _ hw (lv_sub hl [1, 2, 0] rfl)
def f_X7_back (N : Nat) (x1 : Int32) (mn : Int32) (um : Int32) (st : (Nat → Int32)) (kep : (Nat → Int32)) (isk : (Nat → Int32)) : Option (Int32 × Int32 × (Nat → Int32)) :=
  if (f_X7_in (Int32.toInt64 x1) 0 1) = 0 then
   some ((-2), um, st)
  else
   if xin x1 2 then
   if (isk (Int32.toNatClampNeg x1)) = 0 then
    some ((-4), um, st)
   else
    f_X7_back_27 N x1 mn kep N 0 st
   else none
set_option maxHeartbeats 4000000 in
set_option maxRecDepth 100000 in
theorem c_X7_back {l : Launch} {D : va_G} {cI cZ cN cC : ClassId} {h0 h1 h2 h3 h4 h5 h6 h7 h8 h9 h10 h11 h12 h13 h14 h15 : Nat} {mn : Int32} {um : Int32} {len : Int32} {plc : Int32} {srt : Int32} {frm : Int32} {num : Int32} {wrg : Int32} {cm : Int32} {mpt : Int32} {st : (Nat → Int32)} {pst : (Nat → Int32)} {kep : (Nat → Int32)} {isk : (Nat → Int32)} {pil : (Nat → Int32)} {nxs : (Nat → Int32)} {txt : (Nat → Int32)} {cls : (Nat → Int32)} {asd : (Nat → Int32)} {opn : (Nat → Int32)} {byy : (Nat → Int32)} {twc : (Nat → Int32)} {szs : (Nat → Int32)} {sos : (Nat → Int32)} {ths : (Nat → Int32)} {x1 : Int32} {N : Nat} {res : Int32 × Int32 × (Nat → Int32)} (hf : f_X7_back N x1 mn um st kep isk = some res) : xMet l D (xtys cI cZ cN cC) yX7_back cX7_back 3 (some .int) 2 44 [.ref h0, .int x1] (wMod cI cZ cN cC h0 h1 h2 h3 h4 h5 h6 h7 h8 h9 h10 h11 h12 h13 h14 h15 mn um len plc srt frm num wrg cm mpt st pst kep isk pil nxs txt cls asd opn byy twc szs sos ths) (wMod cI cZ cN cC h0 h1 h2 h3 h4 h5 h6 h7 h8 h9 h10 h11 h12 h13 h14 h15 mn res.2.1 len plc srt frm num wrg cm mpt res.2.2 pst kep isk pil nxs txt cls asd opn byy twc szs sos ths) (some (.int res.1)) := by
  refine x_enter (by decide) (Nat.le_of_ble_eq_true rfl) ?_
  intro p e s m args below meth c E ls hl hw
  have E : xE p s m args meth c cX7_back 3 (some .int) RX7 D (xtys cI cZ cN cC) (xA (wMod cI cZ cN cC h0 h1 h2 h3 h4 h5 h6 h7 h8 h9 h10 h11 h12 h13 h14 h15 mn um len plc srt frm num wrg cm mpt st pst kep isk pil nxs txt cls asd opn byy twc szs sos ths)) := E
  obtain ⟨hx, hb, -⟩ := id E
  have hl : lv_has ls 3 [(0, .ref h0), (1, .int x1)] := hl
  unfold f_X7_back at hf
  refine lv_iload_n hx hb dX7_back_0 rfl (lv_at hl 1 rfl) ?_
  refine lv_i2l (v := (Int32.toInt64 x1)) hx hb dX7_back_1 rfl ?_
  refine lv_lconst (v := 0) hx hb dX7_back_2 (by decide) ?_
  refine lv_lconst (v := 1) hx hb dX7_back_3 (by decide) ?_
  refine x_callS (isC := []) (ws' := (wMod cI cZ cN cC h0 h1 h2 h3 h4 h5 h6 h7 h8 h9 h10 h11 h12 h13 h14 h15 mn um len plc srt frm num wrg cm mpt st pst kep isk pil nxs txt cls asd opn byy twc szs sos ths)) (st1 := [.int (f_X7_in (Int32.toInt64 x1) 0 1)]) (As := [.long (Int32.toInt64 x1), .long 0, .long 1]) (rest := []) E hw vc_X7_66 (c_X7_in (cI := cI) (cZ := cZ) (cN := cN) (cC := cC)    (x0 := (Int32.toInt64 x1)) (x2 := 0) (x4 := 1) rfl) rfl rfl rfl rfl rfl rfl ⟨Nat.le_of_ble_eq_true rfl, Nat.le_of_ble_eq_true rfl⟩ ⟨Nat.le_refl _, Nat.le_refl _⟩ hl.1 rfl rfl (Nat.le_of_ble_eq_true rfl) dX7_back_4 (fun H locs hw => ?_)
  refine lv_if_ne (tgt := 13) hx hb dX7_back_7 (by decide) (fun c1 => ?_) (fun c1 => ?_)
  · rw [if_neg c1] at hf
    refine lv_aload_n hx hb dX7_back_13 rfl (lv_at hl 0 rfl) ?_
    refine x_get E hw kin_X7 0 rfl rfl 5 (by decide) kF_X7_23 (v := .ref h4) rfl dX7_back_14 ?_
    refine lv_iload_n hx hb dX7_back_17 rfl (lv_at hl 1 rfl) ?_
    obtain ⟨g2, hf⟩ := xgd hf
    refine x_iald E hw 4 0 rfl rfl (xin_vp g2) dX7_back_18 ?_
    refine lv_if_ne (tgt := 25) hx hb dX7_back_19 (by decide) (fun c3 => ?_) (fun c3 => ?_)
    · rw [if_neg c3] at hf
      refine lv_iconst (v := 0) hx hb dX7_back_25 (by decide) ?_
      refine lv_istore_n (lv' := [(2, .int 0), (0, .ref h0), (1, .int x1)]) hx hb dX7_back_26 rfl hl (by decide) rfl (fun ls hl => ?_)
      exact b_X7_back_27 E N _ _ hf _ _ _ hw (lv_sub hl [1, 2, 0] rfl)
    · rw [if_pos c3] at hf
      refine lv_bipush (v := (-4)) hx hb dX7_back_22 (by decide) ?_
      have hf := Option.some.inj hf; subst hf
      exact x_iret E hw dX7_back_24
  · rw [if_pos c1] at hf
    refine lv_bipush (v := (-2)) hx hb dX7_back_10 (by decide) ?_
    have hf := Option.some.inj hf; subst hf
    exact x_iret E hw dX7_back_12

def f_X7_arc (x1 : Int32) (x2 : Int32) (mn : Int32) (st : (Nat → Int32)) : Option (Int32) :=
  if (f_X7_areTwo x1 x2 mn) = 0 then
   some (-2)
  else
   (f_X7_isArc x1 x2 mn st).bind fun q2 =>
   if q2 = 0 then
    some 0
   else
    some 1
set_option maxHeartbeats 4000000 in
set_option maxRecDepth 100000 in
theorem c_X7_arc {l : Launch} {D : va_G} {cI cZ cN cC : ClassId} {h0 h1 h2 h3 h4 h5 h6 h7 h8 h9 h10 h11 h12 h13 h14 h15 : Nat} {mn : Int32} {um : Int32} {len : Int32} {plc : Int32} {srt : Int32} {frm : Int32} {num : Int32} {wrg : Int32} {cm : Int32} {mpt : Int32} {st : (Nat → Int32)} {pst : (Nat → Int32)} {kep : (Nat → Int32)} {isk : (Nat → Int32)} {pil : (Nat → Int32)} {nxs : (Nat → Int32)} {txt : (Nat → Int32)} {cls : (Nat → Int32)} {asd : (Nat → Int32)} {opn : (Nat → Int32)} {byy : (Nat → Int32)} {twc : (Nat → Int32)} {szs : (Nat → Int32)} {sos : (Nat → Int32)} {ths : (Nat → Int32)} {x1 : Int32} {x2 : Int32} {res : Int32} (hf : f_X7_arc x1 x2 mn st = some res) : xMet l D (xtys cI cZ cN cC) yX7_arc cX7_arc 3 (some .int) 4 90 [.ref h0, .int x1, .int x2] (wMod cI cZ cN cC h0 h1 h2 h3 h4 h5 h6 h7 h8 h9 h10 h11 h12 h13 h14 h15 mn um len plc srt frm num wrg cm mpt st pst kep isk pil nxs txt cls asd opn byy twc szs sos ths) (wMod cI cZ cN cC h0 h1 h2 h3 h4 h5 h6 h7 h8 h9 h10 h11 h12 h13 h14 h15 mn um len plc srt frm num wrg cm mpt st pst kep isk pil nxs txt cls asd opn byy twc szs sos ths) (some (.int res)) := by
  refine x_enter (by decide) (Nat.le_of_ble_eq_true rfl) ?_
  intro p e s m args below meth c E ls hl hw
  have E : xE p s m args meth c cX7_arc 3 (some .int) RX7 D (xtys cI cZ cN cC) (xA (wMod cI cZ cN cC h0 h1 h2 h3 h4 h5 h6 h7 h8 h9 h10 h11 h12 h13 h14 h15 mn um len plc srt frm num wrg cm mpt st pst kep isk pil nxs txt cls asd opn byy twc szs sos ths)) := E
  obtain ⟨hx, hb, -⟩ := id E
  have hl : lv_has ls 3 [(0, .ref h0), (1, .int x1), (2, .int x2)] := hl
  unfold f_X7_arc at hf
  refine lv_aload_n hx hb dX7_arc_0 rfl (lv_at hl 0 rfl) ?_
  refine lv_iload_n hx hb dX7_arc_1 rfl (lv_at hl 1 rfl) ?_
  refine lv_iload_n hx hb dX7_arc_2 rfl (lv_at hl 2 rfl) ?_
  refine x_callVI (ws' := (wMod cI cZ cN cC h0 h1 h2 h3 h4 h5 h6 h7 h8 h9 h10 h11 h12 h13 h14 h15 mn um len plc srt frm num wrg cm mpt st pst kep isk pil nxs txt cls asd opn byy twc szs sos ths)) (st1 := [.int (f_X7_areTwo x1 x2 mn)]) (As := [.int x1, .int x2]) (rest := []) E hw vc_X7_74 (c_X7_areTwo (cI := cI) (cZ := cZ) (cN := cN) (cC := cC) (h0 := h0) (h1 := h1) (h2 := h2) (h3 := h3) (h4 := h4) (h5 := h5) (h6 := h6) (h7 := h7) (h8 := h8) (h9 := h9) (h10 := h10) (h11 := h11) (h12 := h12) (h13 := h13) (h14 := h14) (h15 := h15)  (mn := mn) (um := um) (len := len) (plc := plc) (srt := srt) (frm := frm) (num := num) (wrg := wrg) (cm := cm) (mpt := mpt) (st := st) (pst := pst) (kep := kep) (isk := isk) (pil := pil) (nxs := nxs) (txt := txt) (cls := cls) (asd := asd) (opn := opn) (byy := byy) (twc := twc) (szs := szs) (sos := sos) (ths := ths) (x1 := x1) (x2 := x2) rfl) 0 7 rfl rfl rfl rfl rfl ⟨Nat.le_of_ble_eq_true rfl, Nat.le_of_ble_eq_true rfl⟩ ⟨Nat.le_refl _, Nat.le_refl _⟩ hl.1 rfl rfl (Nat.le_of_ble_eq_true rfl) dX7_arc_3 (fun H locs hw => ?_)
  refine lv_if_ne (tgt := 14) hx hb dX7_arc_6 (by decide) (fun c1 => ?_) (fun c1 => ?_)
  · rw [if_neg c1] at hf
    refine lv_aload_n hx hb dX7_arc_14 rfl (lv_at hl 0 rfl) ?_
    refine lv_iload_n hx hb dX7_arc_15 rfl (lv_at hl 1 rfl) ?_
    refine lv_iload_n hx hb dX7_arc_16 rfl (lv_at hl 2 rfl) ?_
    obtain ⟨q2, hq2, hf⟩ := Option.bind_eq_some_iff.mp hf
    refine x_callVI (ws' := (wMod cI cZ cN cC h0 h1 h2 h3 h4 h5 h6 h7 h8 h9 h10 h11 h12 h13 h14 h15 mn um len plc srt frm num wrg cm mpt st pst kep isk pil nxs txt cls asd opn byy twc szs sos ths)) (st1 := [.int q2]) (As := [.int x1, .int x2]) (rest := []) E hw vc_X7_171 (c_X7_isArc (cI := cI) (cZ := cZ) (cN := cN) (cC := cC) (h0 := h0) (h1 := h1) (h2 := h2) (h3 := h3) (h4 := h4) (h5 := h5) (h6 := h6) (h7 := h7) (h8 := h8) (h9 := h9) (h10 := h10) (h11 := h11) (h12 := h12) (h13 := h13) (h14 := h14) (h15 := h15)  (mn := mn) (um := um) (len := len) (plc := plc) (srt := srt) (frm := frm) (num := num) (wrg := wrg) (cm := cm) (mpt := mpt) (st := st) (pst := pst) (kep := kep) (isk := isk) (pil := pil) (nxs := nxs) (txt := txt) (cls := cls) (asd := asd) (opn := opn) (byy := byy) (twc := twc) (szs := szs) (sos := sos) (ths := ths) (x1 := x1) (x2 := x2) hq2) 0 7 rfl rfl rfl rfl rfl ⟨Nat.le_of_ble_eq_true rfl, Nat.le_of_ble_eq_true rfl⟩ ⟨Nat.le_refl _, Nat.le_refl _⟩ hl.1 rfl rfl (Nat.le_of_ble_eq_true rfl) dX7_arc_17 (fun H locs hw => ?_)
    refine lv_if_eq (tgt := 27) hx hb dX7_arc_20 (by decide) (fun c3 => ?_) (fun c3 => ?_)
    · rw [if_pos c3] at hf
      refine lv_iconst (v := 0) hx hb dX7_arc_27 (by decide) ?_
      have hf := Option.some.inj hf; subst hf
      exact x_iret E hw dX7_arc_28
    · rw [if_neg c3] at hf
      refine lv_iconst (v := 1) hx hb dX7_arc_23 (by decide) ?_
      refine lv_goto (tgt := 28) hx hb dX7_arc_24 (by decide) ?_
      have hf := Option.some.inj hf; subst hf
      exact x_iret E hw dX7_arc_28
  · rw [if_pos c1] at hf
    refine lv_bipush (v := (-2)) hx hb dX7_arc_9 (by decide) ?_
    refine lv_goto (tgt := 28) hx hb dX7_arc_11 (by decide) ?_
    have hf := Option.some.inj hf; subst hf
    exact x_iret E hw dX7_arc_28

def f_X7_reaches (x1 : Int32) (x2 : Int32) (mn : Int32) (st : (Nat → Int32)) : Option (Int32) :=
  if (f_X7_isPoint x1 mn) = 0 then
   some (-2)
  else
   if (f_X7_isPoint x2 mn) = 0 then
    some (-2)
   else
    (f_X7_isIn x1 x2 st).bind fun q3 =>
    if q3 = 0 then
     some 0
    else
     some 1
set_option maxHeartbeats 4000000 in
set_option maxRecDepth 100000 in
theorem c_X7_reaches {l : Launch} {D : va_G} {cI cZ cN cC : ClassId} {h0 h1 h2 h3 h4 h5 h6 h7 h8 h9 h10 h11 h12 h13 h14 h15 : Nat} {mn : Int32} {um : Int32} {len : Int32} {plc : Int32} {srt : Int32} {frm : Int32} {num : Int32} {wrg : Int32} {cm : Int32} {mpt : Int32} {st : (Nat → Int32)} {pst : (Nat → Int32)} {kep : (Nat → Int32)} {isk : (Nat → Int32)} {pil : (Nat → Int32)} {nxs : (Nat → Int32)} {txt : (Nat → Int32)} {cls : (Nat → Int32)} {asd : (Nat → Int32)} {opn : (Nat → Int32)} {byy : (Nat → Int32)} {twc : (Nat → Int32)} {szs : (Nat → Int32)} {sos : (Nat → Int32)} {ths : (Nat → Int32)} {x1 : Int32} {x2 : Int32} {res : Int32} (hf : f_X7_reaches x1 x2 mn st = some res) : xMet l D (xtys cI cZ cN cC) yX7_reaches cX7_reaches 3 (some .int) 2 46 [.ref h0, .int x1, .int x2] (wMod cI cZ cN cC h0 h1 h2 h3 h4 h5 h6 h7 h8 h9 h10 h11 h12 h13 h14 h15 mn um len plc srt frm num wrg cm mpt st pst kep isk pil nxs txt cls asd opn byy twc szs sos ths) (wMod cI cZ cN cC h0 h1 h2 h3 h4 h5 h6 h7 h8 h9 h10 h11 h12 h13 h14 h15 mn um len plc srt frm num wrg cm mpt st pst kep isk pil nxs txt cls asd opn byy twc szs sos ths) (some (.int res)) := by
  refine x_enter (by decide) (Nat.le_of_ble_eq_true rfl) ?_
  intro p e s m args below meth c E ls hl hw
  have E : xE p s m args meth c cX7_reaches 3 (some .int) RX7 D (xtys cI cZ cN cC) (xA (wMod cI cZ cN cC h0 h1 h2 h3 h4 h5 h6 h7 h8 h9 h10 h11 h12 h13 h14 h15 mn um len plc srt frm num wrg cm mpt st pst kep isk pil nxs txt cls asd opn byy twc szs sos ths)) := E
  obtain ⟨hx, hb, -⟩ := id E
  have hl : lv_has ls 3 [(0, .ref h0), (1, .int x1), (2, .int x2)] := hl
  unfold f_X7_reaches at hf
  refine lv_aload_n hx hb dX7_reaches_0 rfl (lv_at hl 0 rfl) ?_
  refine lv_iload_n hx hb dX7_reaches_1 rfl (lv_at hl 1 rfl) ?_
  refine x_callVI (ws' := (wMod cI cZ cN cC h0 h1 h2 h3 h4 h5 h6 h7 h8 h9 h10 h11 h12 h13 h14 h15 mn um len plc srt frm num wrg cm mpt st pst kep isk pil nxs txt cls asd opn byy twc szs sos ths)) (st1 := [.int (f_X7_isPoint x1 mn)]) (As := [.int x1]) (rest := []) E hw vc_X7_70 (c_X7_isPoint (cI := cI) (cZ := cZ) (cN := cN) (cC := cC) (h0 := h0) (h1 := h1) (h2 := h2) (h3 := h3) (h4 := h4) (h5 := h5) (h6 := h6) (h7 := h7) (h8 := h8) (h9 := h9) (h10 := h10) (h11 := h11) (h12 := h12) (h13 := h13) (h14 := h14) (h15 := h15)  (mn := mn) (um := um) (len := len) (plc := plc) (srt := srt) (frm := frm) (num := num) (wrg := wrg) (cm := cm) (mpt := mpt) (st := st) (pst := pst) (kep := kep) (isk := isk) (pil := pil) (nxs := nxs) (txt := txt) (cls := cls) (asd := asd) (opn := opn) (byy := byy) (twc := twc) (szs := szs) (sos := sos) (ths := ths) (x1 := x1) rfl) 0 7 rfl rfl rfl rfl rfl ⟨Nat.le_of_ble_eq_true rfl, Nat.le_of_ble_eq_true rfl⟩ ⟨Nat.le_refl _, Nat.le_refl _⟩ hl.1 rfl rfl (Nat.le_of_ble_eq_true rfl) dX7_reaches_2 (fun H locs hw => ?_)
  refine lv_if_eq (tgt := 16) hx hb dX7_reaches_5 (by decide) (fun c1 => ?_) (fun c1 => ?_)
  · rw [if_pos c1] at hf
    refine lv_bipush (v := (-2)) hx hb dX7_reaches_16 (by decide) ?_
    refine lv_goto (tgt := 35) hx hb dX7_reaches_18 (by decide) ?_
    have hf := Option.some.inj hf; subst hf
    exact x_iret E hw dX7_reaches_35
  · rw [if_neg c1] at hf
    refine lv_aload_n hx hb dX7_reaches_8 rfl (lv_at hl 0 rfl) ?_
    refine lv_iload_n hx hb dX7_reaches_9 rfl (lv_at hl 2 rfl) ?_
    refine x_callVI (ws' := (wMod cI cZ cN cC h0 h1 h2 h3 h4 h5 h6 h7 h8 h9 h10 h11 h12 h13 h14 h15 mn um len plc srt frm num wrg cm mpt st pst kep isk pil nxs txt cls asd opn byy twc szs sos ths)) (st1 := [.int (f_X7_isPoint x2 mn)]) (As := [.int x2]) (rest := []) E hw vc_X7_70 (c_X7_isPoint (cI := cI) (cZ := cZ) (cN := cN) (cC := cC) (h0 := h0) (h1 := h1) (h2 := h2) (h3 := h3) (h4 := h4) (h5 := h5) (h6 := h6) (h7 := h7) (h8 := h8) (h9 := h9) (h10 := h10) (h11 := h11) (h12 := h12) (h13 := h13) (h14 := h14) (h15 := h15)  (mn := mn) (um := um) (len := len) (plc := plc) (srt := srt) (frm := frm) (num := num) (wrg := wrg) (cm := cm) (mpt := mpt) (st := st) (pst := pst) (kep := kep) (isk := isk) (pil := pil) (nxs := nxs) (txt := txt) (cls := cls) (asd := asd) (opn := opn) (byy := byy) (twc := twc) (szs := szs) (sos := sos) (ths := ths) (x1 := x2) rfl) 0 7 rfl rfl rfl rfl rfl ⟨Nat.le_of_ble_eq_true rfl, Nat.le_of_ble_eq_true rfl⟩ ⟨Nat.le_refl _, Nat.le_refl _⟩ hl.1 rfl rfl (Nat.le_of_ble_eq_true rfl) dX7_reaches_10 (fun H locs hw => ?_)
    refine lv_if_ne (tgt := 21) hx hb dX7_reaches_13 (by decide) (fun c2 => ?_) (fun c2 => ?_)
    · rw [if_neg c2] at hf
      refine lv_aload_n hx hb dX7_reaches_21 rfl (lv_at hl 0 rfl) ?_
      refine lv_iload_n hx hb dX7_reaches_22 rfl (lv_at hl 1 rfl) ?_
      refine lv_iload_n hx hb dX7_reaches_23 rfl (lv_at hl 2 rfl) ?_
      obtain ⟨q3, hq3, hf⟩ := Option.bind_eq_some_iff.mp hf
      refine x_callVI (ws' := (wMod cI cZ cN cC h0 h1 h2 h3 h4 h5 h6 h7 h8 h9 h10 h11 h12 h13 h14 h15 mn um len plc srt frm num wrg cm mpt st pst kep isk pil nxs txt cls asd opn byy twc szs sos ths)) (st1 := [.int q3]) (As := [.int x1, .int x2]) (rest := []) E hw vc_X7_85 (c_X7_isIn (cI := cI) (cZ := cZ) (cN := cN) (cC := cC) (h0 := h0) (h1 := h1) (h2 := h2) (h3 := h3) (h4 := h4) (h5 := h5) (h6 := h6) (h7 := h7) (h8 := h8) (h9 := h9) (h10 := h10) (h11 := h11) (h12 := h12) (h13 := h13) (h14 := h14) (h15 := h15)  (mn := mn) (um := um) (len := len) (plc := plc) (srt := srt) (frm := frm) (num := num) (wrg := wrg) (cm := cm) (mpt := mpt) (st := st) (pst := pst) (kep := kep) (isk := isk) (pil := pil) (nxs := nxs) (txt := txt) (cls := cls) (asd := asd) (opn := opn) (byy := byy) (twc := twc) (szs := szs) (sos := sos) (ths := ths) (x1 := x1) (x2 := x2) hq3) 0 7 rfl rfl rfl rfl rfl ⟨Nat.le_of_ble_eq_true rfl, Nat.le_of_ble_eq_true rfl⟩ ⟨Nat.le_refl _, Nat.le_refl _⟩ hl.1 rfl rfl (Nat.le_of_ble_eq_true rfl) dX7_reaches_24 (fun H locs hw => ?_)
      refine lv_if_eq (tgt := 34) hx hb dX7_reaches_27 (by decide) (fun c4 => ?_) (fun c4 => ?_)
      · rw [if_pos c4] at hf
        refine lv_iconst (v := 0) hx hb dX7_reaches_34 (by decide) ?_
        have hf := Option.some.inj hf; subst hf
        exact x_iret E hw dX7_reaches_35
      · rw [if_neg c4] at hf
        refine lv_iconst (v := 1) hx hb dX7_reaches_30 (by decide) ?_
        refine lv_goto (tgt := 35) hx hb dX7_reaches_31 (by decide) ?_
        have hf := Option.some.inj hf; subst hf
        exact x_iret E hw dX7_reaches_35
    · rw [if_pos c2] at hf
      refine lv_bipush (v := (-2)) hx hb dX7_reaches_16 (by decide) ?_
      refine lv_goto (tgt := 35) hx hb dX7_reaches_18 (by decide) ?_
      have hf := Option.some.inj hf; subst hf
      exact x_iret E hw dX7_reaches_35

def f_X7_aboveOf (x1 : Int32) (x2 : Int32) (st : (Nat → Int32)) : Option (Int32) :=
  if xin ((10 + (10 * x1)) + x2) 111 then
  if 2 ≤ (st (Int32.toNatClampNeg ((10 + (10 * x1)) + x2))) then
   some ((st (Int32.toNatClampNeg ((10 + (10 * x1)) + x2))) - 2)
  else
   some (-1)
  else none
set_option maxHeartbeats 4000000 in
set_option maxRecDepth 100000 in
theorem c_X7_aboveOf {l : Launch} {D : va_G} {cI cZ cN cC : ClassId} {h0 h1 h2 h3 h4 h5 h6 h7 h8 h9 h10 h11 h12 h13 h14 h15 : Nat} {mn : Int32} {um : Int32} {len : Int32} {plc : Int32} {srt : Int32} {frm : Int32} {num : Int32} {wrg : Int32} {cm : Int32} {mpt : Int32} {st : (Nat → Int32)} {pst : (Nat → Int32)} {kep : (Nat → Int32)} {isk : (Nat → Int32)} {pil : (Nat → Int32)} {nxs : (Nat → Int32)} {txt : (Nat → Int32)} {cls : (Nat → Int32)} {asd : (Nat → Int32)} {opn : (Nat → Int32)} {byy : (Nat → Int32)} {twc : (Nat → Int32)} {szs : (Nat → Int32)} {sos : (Nat → Int32)} {ths : (Nat → Int32)} {x1 : Int32} {x2 : Int32} {res : Int32} (hf : f_X7_aboveOf x1 x2 st = some res) : xMet l D (xtys cI cZ cN cC) yX7_aboveOf cX7_aboveOf 4 (some .int) 0 0 [.ref h0, .int x1, .int x2] (wMod cI cZ cN cC h0 h1 h2 h3 h4 h5 h6 h7 h8 h9 h10 h11 h12 h13 h14 h15 mn um len plc srt frm num wrg cm mpt st pst kep isk pil nxs txt cls asd opn byy twc szs sos ths) (wMod cI cZ cN cC h0 h1 h2 h3 h4 h5 h6 h7 h8 h9 h10 h11 h12 h13 h14 h15 mn um len plc srt frm num wrg cm mpt st pst kep isk pil nxs txt cls asd opn byy twc szs sos ths) (some (.int res)) := by
  refine x_enter (by decide) (Nat.le_of_ble_eq_true rfl) ?_
  intro p e s m args below meth c E ls hl hw
  have E : xE p s m args meth c cX7_aboveOf 4 (some .int) RX7 D (xtys cI cZ cN cC) (xA (wMod cI cZ cN cC h0 h1 h2 h3 h4 h5 h6 h7 h8 h9 h10 h11 h12 h13 h14 h15 mn um len plc srt frm num wrg cm mpt st pst kep isk pil nxs txt cls asd opn byy twc szs sos ths)) := E
  obtain ⟨hx, hb, -⟩ := id E
  have hl : lv_has ls 4 [(0, .ref h0), (1, .int x1), (2, .int x2)] := hl
  unfold f_X7_aboveOf at hf
  refine lv_aload_n hx hb dX7_aboveOf_0 rfl (lv_at hl 0 rfl) ?_
  refine x_get E hw kin_X7 0 rfl rfl 1 (by decide) kF_X7_13 (v := .ref h1) rfl dX7_aboveOf_1 ?_
  refine lv_bipush (v := 10) hx hb dX7_aboveOf_4 (by decide) ?_
  refine lv_bipush (v := 10) hx hb dX7_aboveOf_6 (by decide) ?_
  refine lv_iload_n hx hb dX7_aboveOf_8 rfl (lv_at hl 1 rfl) ?_
  refine lv_imul hx hb dX7_aboveOf_9 ?_
  refine lv_iadd hx hb dX7_aboveOf_10 ?_
  refine lv_iload_n hx hb dX7_aboveOf_11 rfl (lv_at hl 2 rfl) ?_
  refine lv_iadd hx hb dX7_aboveOf_12 ?_
  obtain ⟨g1, hf⟩ := xgd hf
  refine x_iald E hw 1 0 rfl rfl (xin_vp g1) dX7_aboveOf_13 ?_
  refine lv_istore_n (lv' := [(3, .int (st (Int32.toNatClampNeg ((10 + (10 * x1)) + x2)))), (0, .ref h0), (1, .int x1), (2, .int x2)]) hx hb dX7_aboveOf_14 rfl hl (by decide) rfl (fun ls hl => ?_)
  refine lv_iload_n hx hb dX7_aboveOf_15 rfl (lv_at hl 0 rfl) ?_
  refine lv_iconst (v := 2) hx hb dX7_aboveOf_16 (by decide) ?_
  refine lv_icmp_ge (tgt := 24) hx hb dX7_aboveOf_17 (by decide) (fun c2 => ?_) (fun c2 => ?_)
  · rw [if_pos c2] at hf
    refine lv_iload_n hx hb dX7_aboveOf_24 rfl (lv_at hl 0 rfl) ?_
    refine lv_iconst (v := 2) hx hb dX7_aboveOf_25 (by decide) ?_
    refine lv_isub hx hb dX7_aboveOf_26 ?_
    have hf := Option.some.inj hf; subst hf
    exact x_iret E hw dX7_aboveOf_27
  · rw [if_neg c2] at hf
    refine lv_iconst (v := (-1)) hx hb dX7_aboveOf_20 (by decide) ?_
    refine lv_goto (tgt := 27) hx hb dX7_aboveOf_21 (by decide) ?_
    have hf := Option.some.inj hf; subst hf
    exact x_iret E hw dX7_aboveOf_27

def f_X7_above (x1 : Int32) (x2 : Int32) (mn : Int32) (st : (Nat → Int32)) : Option (Int32) :=
  if (f_X7_isPoint x1 mn) = 0 then
   some (-2)
  else
   if (f_X7_isPoint x2 mn) = 0 then
    some (-2)
   else
    (f_X7_aboveOf x1 x2 st).bind fun q3 =>
    some q3
set_option maxHeartbeats 4000000 in
set_option maxRecDepth 100000 in
theorem c_X7_above {l : Launch} {D : va_G} {cI cZ cN cC : ClassId} {h0 h1 h2 h3 h4 h5 h6 h7 h8 h9 h10 h11 h12 h13 h14 h15 : Nat} {mn : Int32} {um : Int32} {len : Int32} {plc : Int32} {srt : Int32} {frm : Int32} {num : Int32} {wrg : Int32} {cm : Int32} {mpt : Int32} {st : (Nat → Int32)} {pst : (Nat → Int32)} {kep : (Nat → Int32)} {isk : (Nat → Int32)} {pil : (Nat → Int32)} {nxs : (Nat → Int32)} {txt : (Nat → Int32)} {cls : (Nat → Int32)} {asd : (Nat → Int32)} {opn : (Nat → Int32)} {byy : (Nat → Int32)} {twc : (Nat → Int32)} {szs : (Nat → Int32)} {sos : (Nat → Int32)} {ths : (Nat → Int32)} {x1 : Int32} {x2 : Int32} {res : Int32} (hf : f_X7_above x1 x2 mn st = some res) : xMet l D (xtys cI cZ cN cC) yX7_above cX7_above 3 (some .int) 2 46 [.ref h0, .int x1, .int x2] (wMod cI cZ cN cC h0 h1 h2 h3 h4 h5 h6 h7 h8 h9 h10 h11 h12 h13 h14 h15 mn um len plc srt frm num wrg cm mpt st pst kep isk pil nxs txt cls asd opn byy twc szs sos ths) (wMod cI cZ cN cC h0 h1 h2 h3 h4 h5 h6 h7 h8 h9 h10 h11 h12 h13 h14 h15 mn um len plc srt frm num wrg cm mpt st pst kep isk pil nxs txt cls asd opn byy twc szs sos ths) (some (.int res)) := by
  refine x_enter (by decide) (Nat.le_of_ble_eq_true rfl) ?_
  intro p e s m args below meth c E ls hl hw
  have E : xE p s m args meth c cX7_above 3 (some .int) RX7 D (xtys cI cZ cN cC) (xA (wMod cI cZ cN cC h0 h1 h2 h3 h4 h5 h6 h7 h8 h9 h10 h11 h12 h13 h14 h15 mn um len plc srt frm num wrg cm mpt st pst kep isk pil nxs txt cls asd opn byy twc szs sos ths)) := E
  obtain ⟨hx, hb, -⟩ := id E
  have hl : lv_has ls 3 [(0, .ref h0), (1, .int x1), (2, .int x2)] := hl
  unfold f_X7_above at hf
  refine lv_aload_n hx hb dX7_above_0 rfl (lv_at hl 0 rfl) ?_
  refine lv_iload_n hx hb dX7_above_1 rfl (lv_at hl 1 rfl) ?_
  refine x_callVI (ws' := (wMod cI cZ cN cC h0 h1 h2 h3 h4 h5 h6 h7 h8 h9 h10 h11 h12 h13 h14 h15 mn um len plc srt frm num wrg cm mpt st pst kep isk pil nxs txt cls asd opn byy twc szs sos ths)) (st1 := [.int (f_X7_isPoint x1 mn)]) (As := [.int x1]) (rest := []) E hw vc_X7_70 (c_X7_isPoint (cI := cI) (cZ := cZ) (cN := cN) (cC := cC) (h0 := h0) (h1 := h1) (h2 := h2) (h3 := h3) (h4 := h4) (h5 := h5) (h6 := h6) (h7 := h7) (h8 := h8) (h9 := h9) (h10 := h10) (h11 := h11) (h12 := h12) (h13 := h13) (h14 := h14) (h15 := h15)  (mn := mn) (um := um) (len := len) (plc := plc) (srt := srt) (frm := frm) (num := num) (wrg := wrg) (cm := cm) (mpt := mpt) (st := st) (pst := pst) (kep := kep) (isk := isk) (pil := pil) (nxs := nxs) (txt := txt) (cls := cls) (asd := asd) (opn := opn) (byy := byy) (twc := twc) (szs := szs) (sos := sos) (ths := ths) (x1 := x1) rfl) 0 7 rfl rfl rfl rfl rfl ⟨Nat.le_of_ble_eq_true rfl, Nat.le_of_ble_eq_true rfl⟩ ⟨Nat.le_refl _, Nat.le_refl _⟩ hl.1 rfl rfl (Nat.le_of_ble_eq_true rfl) dX7_above_2 (fun H locs hw => ?_)
  refine lv_if_eq (tgt := 25) hx hb dX7_above_5 (by decide) (fun c1 => ?_) (fun c1 => ?_)
  · rw [if_pos c1] at hf
    refine lv_bipush (v := (-2)) hx hb dX7_above_25 (by decide) ?_
    have hf := Option.some.inj hf; subst hf
    exact x_iret E hw dX7_above_27
  · rw [if_neg c1] at hf
    refine lv_aload_n hx hb dX7_above_8 rfl (lv_at hl 0 rfl) ?_
    refine lv_iload_n hx hb dX7_above_9 rfl (lv_at hl 2 rfl) ?_
    refine x_callVI (ws' := (wMod cI cZ cN cC h0 h1 h2 h3 h4 h5 h6 h7 h8 h9 h10 h11 h12 h13 h14 h15 mn um len plc srt frm num wrg cm mpt st pst kep isk pil nxs txt cls asd opn byy twc szs sos ths)) (st1 := [.int (f_X7_isPoint x2 mn)]) (As := [.int x2]) (rest := []) E hw vc_X7_70 (c_X7_isPoint (cI := cI) (cZ := cZ) (cN := cN) (cC := cC) (h0 := h0) (h1 := h1) (h2 := h2) (h3 := h3) (h4 := h4) (h5 := h5) (h6 := h6) (h7 := h7) (h8 := h8) (h9 := h9) (h10 := h10) (h11 := h11) (h12 := h12) (h13 := h13) (h14 := h14) (h15 := h15)  (mn := mn) (um := um) (len := len) (plc := plc) (srt := srt) (frm := frm) (num := num) (wrg := wrg) (cm := cm) (mpt := mpt) (st := st) (pst := pst) (kep := kep) (isk := isk) (pil := pil) (nxs := nxs) (txt := txt) (cls := cls) (asd := asd) (opn := opn) (byy := byy) (twc := twc) (szs := szs) (sos := sos) (ths := ths) (x1 := x2) rfl) 0 7 rfl rfl rfl rfl rfl ⟨Nat.le_of_ble_eq_true rfl, Nat.le_of_ble_eq_true rfl⟩ ⟨Nat.le_refl _, Nat.le_refl _⟩ hl.1 rfl rfl (Nat.le_of_ble_eq_true rfl) dX7_above_10 (fun H locs hw => ?_)
    refine lv_if_eq (tgt := 25) hx hb dX7_above_13 (by decide) (fun c2 => ?_) (fun c2 => ?_)
    · rw [if_pos c2] at hf
      refine lv_bipush (v := (-2)) hx hb dX7_above_25 (by decide) ?_
      have hf := Option.some.inj hf; subst hf
      exact x_iret E hw dX7_above_27
    · rw [if_neg c2] at hf
      refine lv_aload_n hx hb dX7_above_16 rfl (lv_at hl 0 rfl) ?_
      refine lv_iload_n hx hb dX7_above_17 rfl (lv_at hl 1 rfl) ?_
      refine lv_iload_n hx hb dX7_above_18 rfl (lv_at hl 2 rfl) ?_
      obtain ⟨q3, hq3, hf⟩ := Option.bind_eq_some_iff.mp hf
      refine x_callVI (ws' := (wMod cI cZ cN cC h0 h1 h2 h3 h4 h5 h6 h7 h8 h9 h10 h11 h12 h13 h14 h15 mn um len plc srt frm num wrg cm mpt st pst kep isk pil nxs txt cls asd opn byy twc szs sos ths)) (st1 := [.int q3]) (As := [.int x1, .int x2]) (rest := []) E hw vc_X7_187 (c_X7_aboveOf (cI := cI) (cZ := cZ) (cN := cN) (cC := cC) (h0 := h0) (h1 := h1) (h2 := h2) (h3 := h3) (h4 := h4) (h5 := h5) (h6 := h6) (h7 := h7) (h8 := h8) (h9 := h9) (h10 := h10) (h11 := h11) (h12 := h12) (h13 := h13) (h14 := h14) (h15 := h15)  (mn := mn) (um := um) (len := len) (plc := plc) (srt := srt) (frm := frm) (num := num) (wrg := wrg) (cm := cm) (mpt := mpt) (st := st) (pst := pst) (kep := kep) (isk := isk) (pil := pil) (nxs := nxs) (txt := txt) (cls := cls) (asd := asd) (opn := opn) (byy := byy) (twc := twc) (szs := szs) (sos := sos) (ths := ths) (x1 := x1) (x2 := x2) hq3) 0 7 rfl rfl rfl rfl rfl ⟨Nat.le_of_ble_eq_true rfl, Nat.le_of_ble_eq_true rfl⟩ ⟨Nat.le_refl _, Nat.le_refl _⟩ hl.1 rfl rfl (Nat.le_of_ble_eq_true rfl) dX7_above_19 (fun H locs hw => ?_)
      refine lv_goto (tgt := 27) hx hb dX7_above_22 (by decide) ?_
      have hf := Option.some.inj hf; subst hf
      exact x_iret E hw dX7_above_27

def f_X7_way_79 (x1 : Int32) (x3 : Int32) (st : (Nat → Int32)) : Nat → Int32 → Int32 → Option (Int32)
  | 0, _, _ => none
  | n + 1, x5, x6 =>
    if x6 ≤ x3 then
     some x5
    else
     (f_X7_aboveOf x1 x5 st).bind fun q10 =>
     f_X7_way_79 x1 x3 st n q10 (x6 + (-1))
set_option maxHeartbeats 4000000 in
set_option maxRecDepth 100000 in
theorem b_X7_way_79 {p : Program} {l : Launch} {e : Env} {s : State} {m : MethodId} {args : Array Value} {below : List Frame} {meth : Method} {c : Code} {D : va_G} {cI cZ cN cC : ClassId} {ws0 : va_W} {h0 h1 h2 h3 h4 h5 h6 h7 h8 h9 h10 h11 h12 h13 h14 h15 : Nat} {x1 : Int32} {x3 : Int32} {mn : Int32} {um : Int32} {len : Int32} {plc : Int32} {srt : Int32} {frm : Int32} {num : Int32} {wrg : Int32} {cm : Int32} {mpt : Int32} {st : (Nat → Int32)} {pst : (Nat → Int32)} {kep : (Nat → Int32)} {isk : (Nat → Int32)} {pil : (Nat → Int32)} {nxs : (Nat → Int32)} {txt : (Nat → Int32)} {cls : (Nat → Int32)} {asd : (Nat → Int32)} {opn : (Nat → Int32)} {byy : (Nat → Int32)} {twc : (Nat → Int32)} {szs : (Nat → Int32)} {sos : (Nat → Int32)} {ths : (Nat → Int32)} {res : Int32} (E : xE p s m args meth c cX7_way 7 (some .int) RX7 D (xtys cI cZ cN cC) (xA ws0)) : ∀ (n : Nat) (x5 : Int32) (x6 : Int32), f_X7_way_79 x1 x3 st n x5 x6 = some res → ∀ (H : Heap) (locs : List Loc) (ls : Array Slot), xw D (xA ws0) s.heap (wMod cI cZ cN cC h0 h1 h2 h3 h4 h5 h6 h7 h8 h9 h10 h11 h12 h13 h14 h15 mn um len plc srt frm num wrg cm mpt st pst kep isk pil nxs txt cls asd opn byy twc szs sos ths) H locs → lv_has ls 7 [(0, .ref h0), (1, .int x1), (3, .int x3), (5, .int x5), (6, .int x6)] → xG p l e 2 46 s m args below meth c D ws0 (wMod cI cZ cN cC h0 h1 h2 h3 h4 h5 h6 h7 h8 h9 h10 h11 h12 h13 h14 h15 mn um len plc srt frm num wrg cm mpt st pst kep isk pil nxs txt cls asd opn byy twc szs sos ths) (some (.int res)) H locs (F0 m 79 ls []) := by
  obtain ⟨hx, hb, -⟩ := id E
  intro n
  induction n with
  | zero =>
    intro _ _ hf
    rw [f_X7_way_79] at hf; cases hf
  | succ n ih =>
    intro x5 x6 hf H locs ls hw hl
    rw [f_X7_way_79] at hf
    refine lv_iload hx hb dX7_way_79 (lv_at hl 4 rfl) ?_
    refine lv_iload_n hx hb dX7_way_81 rfl (lv_at hl 2 rfl) ?_
    refine lv_icmp_le (tgt := 100) hx hb dX7_way_82 (by decide) (fun c9 => ?_) (fun c9 => ?_)
    · rw [if_pos c9] at hf
      refine lv_iload hx hb dX7_way_100 (lv_at hl 3 rfl) ?_
      have hf := Option.some.inj hf; subst hf
      exact x_iret E hw dX7_way_102
    · rw [if_neg c9] at hf
      refine lv_aload_n hx hb dX7_way_85 rfl (lv_at hl 0 rfl) ?_
      refine lv_iload_n hx hb dX7_way_86 rfl (lv_at hl 1 rfl) ?_
      refine lv_iload hx hb dX7_way_87 (lv_at hl 3 rfl) ?_
      obtain ⟨q10, hq10, hf⟩ := Option.bind_eq_some_iff.mp hf
      refine x_callVI (ws' := (wMod cI cZ cN cC h0 h1 h2 h3 h4 h5 h6 h7 h8 h9 h10 h11 h12 h13 h14 h15 mn um len plc srt frm num wrg cm mpt st pst kep isk pil nxs txt cls asd opn byy twc szs sos ths)) (st1 := [.int q10]) (As := [.int x1, .int x5]) (rest := []) E hw vc_X7_187 (c_X7_aboveOf (cI := cI) (cZ := cZ) (cN := cN) (cC := cC) (h0 := h0) (h1 := h1) (h2 := h2) (h3 := h3) (h4 := h4) (h5 := h5) (h6 := h6) (h7 := h7) (h8 := h8) (h9 := h9) (h10 := h10) (h11 := h11) (h12 := h12) (h13 := h13) (h14 := h14) (h15 := h15)  (mn := mn) (um := um) (len := len) (plc := plc) (srt := srt) (frm := frm) (num := num) (wrg := wrg) (cm := cm) (mpt := mpt) (st := st) (pst := pst) (kep := kep) (isk := isk) (pil := pil) (nxs := nxs) (txt := txt) (cls := cls) (asd := asd) (opn := opn) (byy := byy) (twc := twc) (szs := szs) (sos := sos) (ths := ths) (x1 := x1) (x2 := x5) hq10) 0 7 rfl rfl rfl rfl rfl ⟨Nat.le_of_ble_eq_true rfl, Nat.le_of_ble_eq_true rfl⟩ ⟨Nat.le_refl _, Nat.le_refl _⟩ hl.1 rfl rfl (Nat.le_of_ble_eq_true rfl) dX7_way_89 (fun H locs hw => ?_)
      refine lv_istore (lv' := [(5, .int q10), (0, .ref h0), (1, .int x1), (3, .int x3), (6, .int x6)]) hx hb dX7_way_92 hl (by decide) rfl (fun ls hl => ?_)
      refine lv_iinc (v := (x6 + (-1))) (lv' := [(6, .int (x6 + (-1))), (5, .int q10), (0, .ref h0), (1, .int x1), (3, .int x3)]) hx hb dX7_way_94 hl (k := 4) rfl rfl (by decide) rfl (fun ls hl => ?_)
      refine lv_goto (tgt := 79) hx hb dX7_way_97 (by decide) ?_
      exact ih _ _ hf _ _ _ hw (lv_sub hl [2, 3, 4, 1, 0] rfl)
def f_X7_way_43 (N : Nat) (x1 : Int32) (x2 : Int32) (x3 : Int32) (st : (Nat → Int32)) : Nat → Int32 → Int32 → Option (Int32)
  | 0, _, _ => none
  | n + 1, x4, x5 =>
    if x5 = x1 then
     if x3 ≤ x4 then
      f_X7_way_79 x1 x3 st N x2 x4
     else
      some (-1)
    else
     (f_X7_aboveOf x1 x5 st).bind fun q8 =>
     f_X7_way_43 N x1 x2 x3 st n (x4 + 1) q8
set_option maxHeartbeats 4000000 in
set_option maxRecDepth 100000 in
theorem b_X7_way_43 {p : Program} {l : Launch} {e : Env} {s : State} {m : MethodId} {args : Array Value} {below : List Frame} {meth : Method} {c : Code} {D : va_G} {cI cZ cN cC : ClassId} {ws0 : va_W} {h0 h1 h2 h3 h4 h5 h6 h7 h8 h9 h10 h11 h12 h13 h14 h15 : Nat} {x1 : Int32} {x2 : Int32} {x3 : Int32} {mn : Int32} {um : Int32} {len : Int32} {plc : Int32} {srt : Int32} {frm : Int32} {num : Int32} {wrg : Int32} {cm : Int32} {mpt : Int32} {st : (Nat → Int32)} {pst : (Nat → Int32)} {kep : (Nat → Int32)} {isk : (Nat → Int32)} {pil : (Nat → Int32)} {nxs : (Nat → Int32)} {txt : (Nat → Int32)} {cls : (Nat → Int32)} {asd : (Nat → Int32)} {opn : (Nat → Int32)} {byy : (Nat → Int32)} {twc : (Nat → Int32)} {szs : (Nat → Int32)} {sos : (Nat → Int32)} {ths : (Nat → Int32)} {N : Nat} {res : Int32} (E : xE p s m args meth c cX7_way 7 (some .int) RX7 D (xtys cI cZ cN cC) (xA ws0)) : ∀ (n : Nat) (x4 : Int32) (x5 : Int32), f_X7_way_43 N x1 x2 x3 st n x4 x5 = some res → ∀ (H : Heap) (locs : List Loc) (ls : Array Slot), xw D (xA ws0) s.heap (wMod cI cZ cN cC h0 h1 h2 h3 h4 h5 h6 h7 h8 h9 h10 h11 h12 h13 h14 h15 mn um len plc srt frm num wrg cm mpt st pst kep isk pil nxs txt cls asd opn byy twc szs sos ths) H locs → lv_has ls 7 [(0, .ref h0), (1, .int x1), (2, .int x2), (3, .int x3), (4, .int x4), (5, .int x5)] → xG p l e 2 46 s m args below meth c D ws0 (wMod cI cZ cN cC h0 h1 h2 h3 h4 h5 h6 h7 h8 h9 h10 h11 h12 h13 h14 h15 mn um len plc srt frm num wrg cm mpt st pst kep isk pil nxs txt cls asd opn byy twc szs sos ths) (some (.int res)) H locs (F0 m 43 ls []) := by
  obtain ⟨hx, hb, -⟩ := id E
  intro n
  induction n with
  | zero =>
    intro _ _ hf
    rw [f_X7_way_43] at hf; cases hf
  | succ n ih =>
    intro x4 x5 hf H locs ls hw hl
    rw [f_X7_way_43] at hf
    refine lv_iload hx hb dX7_way_43 (lv_at hl 5 rfl) ?_
    refine lv_iload_n hx hb dX7_way_45 rfl (lv_at hl 1 rfl) ?_
    refine lv_icmp_eq (tgt := 64) hx hb dX7_way_46 (by decide) (fun c6 => ?_) (fun c6 => ?_)
    · rw [if_pos c6] at hf
      refine lv_iload_n hx hb dX7_way_64 rfl (lv_at hl 3 rfl) ?_
      refine lv_iload hx hb dX7_way_65 (lv_at hl 4 rfl) ?_
      refine lv_icmp_le (tgt := 72) hx hb dX7_way_67 (by decide) (fun c7 => ?_) (fun c7 => ?_)
      · rw [if_pos c7] at hf
        refine lv_iload_n hx hb dX7_way_72 rfl (lv_at hl 2 rfl) ?_
        refine lv_istore (lv' := [(5, .int x2), (0, .ref h0), (1, .int x1), (2, .int x2), (3, .int x3), (4, .int x4)]) hx hb dX7_way_73 hl (by decide) rfl (fun ls hl => ?_)
        refine lv_iload hx hb dX7_way_75 (lv_at hl 5 rfl) ?_
        refine lv_istore (lv' := [(6, .int x4), (5, .int x2), (0, .ref h0), (1, .int x1), (2, .int x2), (3, .int x3), (4, .int x4)]) hx hb dX7_way_77 hl (by decide) rfl (fun ls hl => ?_)
        exact b_X7_way_79 E N _ _ hf _ _ _ hw (lv_sub hl [2, 3, 5, 1, 0] rfl)
      · rw [if_neg c7] at hf
        refine lv_iconst (v := (-1)) hx hb dX7_way_70 (by decide) ?_
        have hf := Option.some.inj hf; subst hf
        exact x_iret E hw dX7_way_71
    · rw [if_neg c6] at hf
      refine lv_iinc (v := (x4 + 1)) (lv' := [(4, .int (x4 + 1)), (0, .ref h0), (1, .int x1), (2, .int x2), (3, .int x3), (5, .int x5)]) hx hb dX7_way_49 hl (k := 4) rfl rfl (by decide) rfl (fun ls hl => ?_)
      refine lv_aload_n hx hb dX7_way_52 rfl (lv_at hl 1 rfl) ?_
      refine lv_iload_n hx hb dX7_way_53 rfl (lv_at hl 2 rfl) ?_
      refine lv_iload hx hb dX7_way_54 (lv_at hl 5 rfl) ?_
      obtain ⟨q8, hq8, hf⟩ := Option.bind_eq_some_iff.mp hf
      refine x_callVI (ws' := (wMod cI cZ cN cC h0 h1 h2 h3 h4 h5 h6 h7 h8 h9 h10 h11 h12 h13 h14 h15 mn um len plc srt frm num wrg cm mpt st pst kep isk pil nxs txt cls asd opn byy twc szs sos ths)) (st1 := [.int q8]) (As := [.int x1, .int x5]) (rest := []) E hw vc_X7_187 (c_X7_aboveOf (cI := cI) (cZ := cZ) (cN := cN) (cC := cC) (h0 := h0) (h1 := h1) (h2 := h2) (h3 := h3) (h4 := h4) (h5 := h5) (h6 := h6) (h7 := h7) (h8 := h8) (h9 := h9) (h10 := h10) (h11 := h11) (h12 := h12) (h13 := h13) (h14 := h14) (h15 := h15)  (mn := mn) (um := um) (len := len) (plc := plc) (srt := srt) (frm := frm) (num := num) (wrg := wrg) (cm := cm) (mpt := mpt) (st := st) (pst := pst) (kep := kep) (isk := isk) (pil := pil) (nxs := nxs) (txt := txt) (cls := cls) (asd := asd) (opn := opn) (byy := byy) (twc := twc) (szs := szs) (sos := sos) (ths := ths) (x1 := x1) (x2 := x5) hq8) 0 7 rfl rfl rfl rfl rfl ⟨Nat.le_of_ble_eq_true rfl, Nat.le_of_ble_eq_true rfl⟩ ⟨Nat.le_refl _, Nat.le_refl _⟩ hl.1 rfl rfl (Nat.le_of_ble_eq_true rfl) dX7_way_56 (fun H locs hw => ?_)
      refine lv_istore (lv' := [(5, .int q8), (4, .int (x4 + 1)), (0, .ref h0), (1, .int x1), (2, .int x2), (3, .int x3)]) hx hb dX7_way_59 hl (by decide) rfl (fun ls hl => ?_)
      refine lv_goto (tgt := 43) hx hb dX7_way_61 (by decide) ?_
      exact ih _ _ hf _ _ _ hw (lv_sub hl [2, 3, 4, 5, 1, 0] rfl)
def f_X7_way (N : Nat) (x1 : Int32) (x2 : Int32) (x3 : Int32) (mn : Int32) (st : (Nat → Int32)) : Option (Int32) :=
  if (f_X7_isPoint x1 mn) = 0 then
   some (-2)
  else
   if (f_X7_isPoint x2 mn) = 0 then
    some (-2)
   else
    if 0 ≤ x3 then
     (f_X7_isIn x1 x2 st).bind fun q4 =>
     if q4 = 0 then
      some (-1)
     else
      f_X7_way_43 N x1 x2 x3 st N 0 x2
    else
     some (-3)
set_option maxHeartbeats 4000000 in
set_option maxRecDepth 100000 in
theorem c_X7_way {l : Launch} {D : va_G} {cI cZ cN cC : ClassId} {h0 h1 h2 h3 h4 h5 h6 h7 h8 h9 h10 h11 h12 h13 h14 h15 : Nat} {mn : Int32} {um : Int32} {len : Int32} {plc : Int32} {srt : Int32} {frm : Int32} {num : Int32} {wrg : Int32} {cm : Int32} {mpt : Int32} {st : (Nat → Int32)} {pst : (Nat → Int32)} {kep : (Nat → Int32)} {isk : (Nat → Int32)} {pil : (Nat → Int32)} {nxs : (Nat → Int32)} {txt : (Nat → Int32)} {cls : (Nat → Int32)} {asd : (Nat → Int32)} {opn : (Nat → Int32)} {byy : (Nat → Int32)} {twc : (Nat → Int32)} {szs : (Nat → Int32)} {sos : (Nat → Int32)} {ths : (Nat → Int32)} {x1 : Int32} {x2 : Int32} {x3 : Int32} {N : Nat} {res : Int32} (hf : f_X7_way N x1 x2 x3 mn st = some res) : xMet l D (xtys cI cZ cN cC) yX7_way cX7_way 7 (some .int) 2 46 [.ref h0, .int x1, .int x2, .int x3] (wMod cI cZ cN cC h0 h1 h2 h3 h4 h5 h6 h7 h8 h9 h10 h11 h12 h13 h14 h15 mn um len plc srt frm num wrg cm mpt st pst kep isk pil nxs txt cls asd opn byy twc szs sos ths) (wMod cI cZ cN cC h0 h1 h2 h3 h4 h5 h6 h7 h8 h9 h10 h11 h12 h13 h14 h15 mn um len plc srt frm num wrg cm mpt st pst kep isk pil nxs txt cls asd opn byy twc szs sos ths) (some (.int res)) := by
  refine x_enter (by decide) (Nat.le_of_ble_eq_true rfl) ?_
  intro p e s m args below meth c E ls hl hw
  have E : xE p s m args meth c cX7_way 7 (some .int) RX7 D (xtys cI cZ cN cC) (xA (wMod cI cZ cN cC h0 h1 h2 h3 h4 h5 h6 h7 h8 h9 h10 h11 h12 h13 h14 h15 mn um len plc srt frm num wrg cm mpt st pst kep isk pil nxs txt cls asd opn byy twc szs sos ths)) := E
  obtain ⟨hx, hb, -⟩ := id E
  have hl : lv_has ls 7 [(0, .ref h0), (1, .int x1), (2, .int x2), (3, .int x3)] := hl
  unfold f_X7_way at hf
  refine lv_aload_n hx hb dX7_way_0 rfl (lv_at hl 0 rfl) ?_
  refine lv_iload_n hx hb dX7_way_1 rfl (lv_at hl 1 rfl) ?_
  refine x_callVI (ws' := (wMod cI cZ cN cC h0 h1 h2 h3 h4 h5 h6 h7 h8 h9 h10 h11 h12 h13 h14 h15 mn um len plc srt frm num wrg cm mpt st pst kep isk pil nxs txt cls asd opn byy twc szs sos ths)) (st1 := [.int (f_X7_isPoint x1 mn)]) (As := [.int x1]) (rest := []) E hw vc_X7_70 (c_X7_isPoint (cI := cI) (cZ := cZ) (cN := cN) (cC := cC) (h0 := h0) (h1 := h1) (h2 := h2) (h3 := h3) (h4 := h4) (h5 := h5) (h6 := h6) (h7 := h7) (h8 := h8) (h9 := h9) (h10 := h10) (h11 := h11) (h12 := h12) (h13 := h13) (h14 := h14) (h15 := h15)  (mn := mn) (um := um) (len := len) (plc := plc) (srt := srt) (frm := frm) (num := num) (wrg := wrg) (cm := cm) (mpt := mpt) (st := st) (pst := pst) (kep := kep) (isk := isk) (pil := pil) (nxs := nxs) (txt := txt) (cls := cls) (asd := asd) (opn := opn) (byy := byy) (twc := twc) (szs := szs) (sos := sos) (ths := ths) (x1 := x1) rfl) 0 7 rfl rfl rfl rfl rfl ⟨Nat.le_of_ble_eq_true rfl, Nat.le_of_ble_eq_true rfl⟩ ⟨Nat.le_refl _, Nat.le_refl _⟩ hl.1 rfl rfl (Nat.le_of_ble_eq_true rfl) dX7_way_2 (fun H locs hw => ?_)
  refine lv_if_eq (tgt := 16) hx hb dX7_way_5 (by decide) (fun c1 => ?_) (fun c1 => ?_)
  · rw [if_pos c1] at hf
    refine lv_bipush (v := (-2)) hx hb dX7_way_16 (by decide) ?_
    have hf := Option.some.inj hf; subst hf
    exact x_iret E hw dX7_way_18
  · rw [if_neg c1] at hf
    refine lv_aload_n hx hb dX7_way_8 rfl (lv_at hl 0 rfl) ?_
    refine lv_iload_n hx hb dX7_way_9 rfl (lv_at hl 2 rfl) ?_
    refine x_callVI (ws' := (wMod cI cZ cN cC h0 h1 h2 h3 h4 h5 h6 h7 h8 h9 h10 h11 h12 h13 h14 h15 mn um len plc srt frm num wrg cm mpt st pst kep isk pil nxs txt cls asd opn byy twc szs sos ths)) (st1 := [.int (f_X7_isPoint x2 mn)]) (As := [.int x2]) (rest := []) E hw vc_X7_70 (c_X7_isPoint (cI := cI) (cZ := cZ) (cN := cN) (cC := cC) (h0 := h0) (h1 := h1) (h2 := h2) (h3 := h3) (h4 := h4) (h5 := h5) (h6 := h6) (h7 := h7) (h8 := h8) (h9 := h9) (h10 := h10) (h11 := h11) (h12 := h12) (h13 := h13) (h14 := h14) (h15 := h15)  (mn := mn) (um := um) (len := len) (plc := plc) (srt := srt) (frm := frm) (num := num) (wrg := wrg) (cm := cm) (mpt := mpt) (st := st) (pst := pst) (kep := kep) (isk := isk) (pil := pil) (nxs := nxs) (txt := txt) (cls := cls) (asd := asd) (opn := opn) (byy := byy) (twc := twc) (szs := szs) (sos := sos) (ths := ths) (x1 := x2) rfl) 0 7 rfl rfl rfl rfl rfl ⟨Nat.le_of_ble_eq_true rfl, Nat.le_of_ble_eq_true rfl⟩ ⟨Nat.le_refl _, Nat.le_refl _⟩ hl.1 rfl rfl (Nat.le_of_ble_eq_true rfl) dX7_way_10 (fun H locs hw => ?_)
    refine lv_if_ne (tgt := 19) hx hb dX7_way_13 (by decide) (fun c2 => ?_) (fun c2 => ?_)
    · rw [if_neg c2] at hf
      refine lv_iload_n hx hb dX7_way_19 rfl (lv_at hl 3 rfl) ?_
      refine lv_if_ge (tgt := 26) hx hb dX7_way_20 (by decide) (fun c3 => ?_) (fun c3 => ?_)
      · rw [if_pos c3] at hf
        refine lv_aload_n hx hb dX7_way_26 rfl (lv_at hl 0 rfl) ?_
        refine lv_iload_n hx hb dX7_way_27 rfl (lv_at hl 1 rfl) ?_
        refine lv_iload_n hx hb dX7_way_28 rfl (lv_at hl 2 rfl) ?_
        obtain ⟨q4, hq4, hf⟩ := Option.bind_eq_some_iff.mp hf
        refine x_callVI (ws' := (wMod cI cZ cN cC h0 h1 h2 h3 h4 h5 h6 h7 h8 h9 h10 h11 h12 h13 h14 h15 mn um len plc srt frm num wrg cm mpt st pst kep isk pil nxs txt cls asd opn byy twc szs sos ths)) (st1 := [.int q4]) (As := [.int x1, .int x2]) (rest := []) E hw vc_X7_85 (c_X7_isIn (cI := cI) (cZ := cZ) (cN := cN) (cC := cC) (h0 := h0) (h1 := h1) (h2 := h2) (h3 := h3) (h4 := h4) (h5 := h5) (h6 := h6) (h7 := h7) (h8 := h8) (h9 := h9) (h10 := h10) (h11 := h11) (h12 := h12) (h13 := h13) (h14 := h14) (h15 := h15)  (mn := mn) (um := um) (len := len) (plc := plc) (srt := srt) (frm := frm) (num := num) (wrg := wrg) (cm := cm) (mpt := mpt) (st := st) (pst := pst) (kep := kep) (isk := isk) (pil := pil) (nxs := nxs) (txt := txt) (cls := cls) (asd := asd) (opn := opn) (byy := byy) (twc := twc) (szs := szs) (sos := sos) (ths := ths) (x1 := x1) (x2 := x2) hq4) 0 7 rfl rfl rfl rfl rfl ⟨Nat.le_of_ble_eq_true rfl, Nat.le_of_ble_eq_true rfl⟩ ⟨Nat.le_refl _, Nat.le_refl _⟩ hl.1 rfl rfl (Nat.le_of_ble_eq_true rfl) dX7_way_29 (fun H locs hw => ?_)
        refine lv_if_ne (tgt := 37) hx hb dX7_way_32 (by decide) (fun c5 => ?_) (fun c5 => ?_)
        · rw [if_neg c5] at hf
          refine lv_iconst (v := 0) hx hb dX7_way_37 (by decide) ?_
          refine lv_istore (lv' := [(4, .int 0), (0, .ref h0), (1, .int x1), (2, .int x2), (3, .int x3)]) hx hb dX7_way_38 hl (by decide) rfl (fun ls hl => ?_)
          refine lv_iload_n hx hb dX7_way_40 rfl (lv_at hl 3 rfl) ?_
          refine lv_istore (lv' := [(5, .int x2), (4, .int 0), (0, .ref h0), (1, .int x1), (2, .int x2), (3, .int x3)]) hx hb dX7_way_41 hl (by decide) rfl (fun ls hl => ?_)
          exact b_X7_way_43 E N _ _ hf _ _ _ hw (lv_sub hl [2, 3, 4, 5, 1, 0] rfl)
        · rw [if_pos c5] at hf
          refine lv_iconst (v := (-1)) hx hb dX7_way_35 (by decide) ?_
          have hf := Option.some.inj hf; subst hf
          exact x_iret E hw dX7_way_36
      · rw [if_neg c3] at hf
        refine lv_bipush (v := (-3)) hx hb dX7_way_23 (by decide) ?_
        have hf := Option.some.inj hf; subst hf
        exact x_iret E hw dX7_way_25
    · rw [if_pos c2] at hf
      refine lv_bipush (v := (-2)) hx hb dX7_way_16 (by decide) ?_
      have hf := Option.some.inj hf; subst hf
      exact x_iret E hw dX7_way_18

def f_X7_treeOf_4 (x1 : Int32) (mn : Int32) (st : (Nat → Int32)) : Nat → Int32 → Int32 → Option (Int32)
  | 0, _, _ => none
  | n + 1, x2, x3 =>
    if mn ≤ x3 then
     some x2
    else
     (f_X7_isIn x1 x3 st).bind fun q2 =>
     if q2 = 0 then
      f_X7_treeOf_4 x1 mn st n (x2 ||| 0) (x3 + 1)
     else
      f_X7_treeOf_4 x1 mn st n (x2 ||| (1 <<< (x3 &&& 31))) (x3 + 1)
set_option maxHeartbeats 4000000 in
set_option maxRecDepth 100000 in
theorem b_X7_treeOf_4 {p : Program} {l : Launch} {e : Env} {s : State} {m : MethodId} {args : Array Value} {below : List Frame} {meth : Method} {c : Code} {D : va_G} {cI cZ cN cC : ClassId} {ws0 : va_W} {h0 h1 h2 h3 h4 h5 h6 h7 h8 h9 h10 h11 h12 h13 h14 h15 : Nat} {x1 : Int32} {mn : Int32} {um : Int32} {len : Int32} {plc : Int32} {srt : Int32} {frm : Int32} {num : Int32} {wrg : Int32} {cm : Int32} {mpt : Int32} {st : (Nat → Int32)} {pst : (Nat → Int32)} {kep : (Nat → Int32)} {isk : (Nat → Int32)} {pil : (Nat → Int32)} {nxs : (Nat → Int32)} {txt : (Nat → Int32)} {cls : (Nat → Int32)} {asd : (Nat → Int32)} {opn : (Nat → Int32)} {byy : (Nat → Int32)} {twc : (Nat → Int32)} {szs : (Nat → Int32)} {sos : (Nat → Int32)} {ths : (Nat → Int32)} {res : Int32} (E : xE p s m args meth c cX7_treeOf 4 (some .int) RX7 D (xtys cI cZ cN cC) (xA ws0)) : ∀ (n : Nat) (x2 : Int32) (x3 : Int32), f_X7_treeOf_4 x1 mn st n x2 x3 = some res → ∀ (H : Heap) (locs : List Loc) (ls : Array Slot), xw D (xA ws0) s.heap (wMod cI cZ cN cC h0 h1 h2 h3 h4 h5 h6 h7 h8 h9 h10 h11 h12 h13 h14 h15 mn um len plc srt frm num wrg cm mpt st pst kep isk pil nxs txt cls asd opn byy twc szs sos ths) H locs → lv_has ls 4 [(0, .ref h0), (1, .int x1), (2, .int x2), (3, .int x3)] → xG p l e 1 22 s m args below meth c D ws0 (wMod cI cZ cN cC h0 h1 h2 h3 h4 h5 h6 h7 h8 h9 h10 h11 h12 h13 h14 h15 mn um len plc srt frm num wrg cm mpt st pst kep isk pil nxs txt cls asd opn byy twc szs sos ths) (some (.int res)) H locs (F0 m 4 ls []) := by
  obtain ⟨hx, hb, -⟩ := id E
  intro n
  induction n with
  | zero =>
    intro _ _ hf
    rw [f_X7_treeOf_4] at hf; cases hf
  | succ n ih =>
    intro x2 x3 hf H locs ls hw hl
    rw [f_X7_treeOf_4] at hf
    refine lv_iload_n hx hb dX7_treeOf_4 rfl (lv_at hl 3 rfl) ?_
    refine lv_aload_n hx hb dX7_treeOf_5 rfl (lv_at hl 0 rfl) ?_
    refine x_get E hw kin_X7 0 rfl rfl 0 (by decide) kF_X7_7 (v := .int mn) rfl dX7_treeOf_6 ?_
    refine lv_icmp_ge (tgt := 37) hx hb dX7_treeOf_9 (by decide) (fun c1 => ?_) (fun c1 => ?_)
    · rw [if_pos c1] at hf
      refine lv_iload_n hx hb dX7_treeOf_37 rfl (lv_at hl 2 rfl) ?_
      have hf := Option.some.inj hf; subst hf
      exact x_iret E hw dX7_treeOf_38
    · rw [if_neg c1] at hf
      refine lv_iload_n hx hb dX7_treeOf_12 rfl (lv_at hl 2 rfl) ?_
      refine lv_aload_n hx hb dX7_treeOf_13 rfl (lv_at hl 0 rfl) ?_
      refine lv_iload_n hx hb dX7_treeOf_14 rfl (lv_at hl 1 rfl) ?_
      refine lv_iload_n hx hb dX7_treeOf_15 rfl (lv_at hl 3 rfl) ?_
      obtain ⟨q2, hq2, hf⟩ := Option.bind_eq_some_iff.mp hf
      refine x_callVI (ws' := (wMod cI cZ cN cC h0 h1 h2 h3 h4 h5 h6 h7 h8 h9 h10 h11 h12 h13 h14 h15 mn um len plc srt frm num wrg cm mpt st pst kep isk pil nxs txt cls asd opn byy twc szs sos ths)) (st1 := [.int q2, .int x2]) (As := [.int x1, .int x3]) (rest := [.int x2]) E hw vc_X7_85 (c_X7_isIn (cI := cI) (cZ := cZ) (cN := cN) (cC := cC) (h0 := h0) (h1 := h1) (h2 := h2) (h3 := h3) (h4 := h4) (h5 := h5) (h6 := h6) (h7 := h7) (h8 := h8) (h9 := h9) (h10 := h10) (h11 := h11) (h12 := h12) (h13 := h13) (h14 := h14) (h15 := h15)  (mn := mn) (um := um) (len := len) (plc := plc) (srt := srt) (frm := frm) (num := num) (wrg := wrg) (cm := cm) (mpt := mpt) (st := st) (pst := pst) (kep := kep) (isk := isk) (pil := pil) (nxs := nxs) (txt := txt) (cls := cls) (asd := asd) (opn := opn) (byy := byy) (twc := twc) (szs := szs) (sos := sos) (ths := ths) (x1 := x1) (x2 := x3) hq2) 0 7 rfl rfl rfl rfl rfl ⟨Nat.le_of_ble_eq_true rfl, Nat.le_of_ble_eq_true rfl⟩ ⟨Nat.le_refl _, Nat.le_refl _⟩ hl.1 rfl rfl (Nat.le_of_ble_eq_true rfl) dX7_treeOf_16 (fun H locs hw => ?_)
      refine lv_if_eq (tgt := 28) hx hb dX7_treeOf_19 (by decide) (fun c3 => ?_) (fun c3 => ?_)
      · rw [if_pos c3] at hf
        refine lv_iconst (v := 0) hx hb dX7_treeOf_28 (by decide) ?_
        refine lv_ior hx hb dX7_treeOf_29 ?_
        refine lv_istore_n (lv' := [(2, .int (x2 ||| 0)), (0, .ref h0), (1, .int x1), (3, .int x3)]) hx hb dX7_treeOf_30 rfl hl (by decide) rfl (fun ls hl => ?_)
        refine lv_iinc (v := (x3 + 1)) (lv' := [(3, .int (x3 + 1)), (2, .int (x2 ||| 0)), (0, .ref h0), (1, .int x1)]) hx hb dX7_treeOf_31 hl (k := 3) rfl rfl (by decide) rfl (fun ls hl => ?_)
        refine lv_goto (tgt := 4) hx hb dX7_treeOf_34 (by decide) ?_
        exact ih _ _ hf _ _ _ hw (lv_sub hl [2, 3, 1, 0] rfl)
      · rw [if_neg c3] at hf
        refine lv_iconst (v := 1) hx hb dX7_treeOf_22 (by decide) ?_
        refine lv_iload_n hx hb dX7_treeOf_23 rfl (lv_at hl 3 rfl) ?_
        refine lv_ishl hx hb dX7_treeOf_24 ?_
        refine lv_goto (tgt := 29) hx hb dX7_treeOf_25 (by decide) ?_
        refine lv_ior hx hb dX7_treeOf_29 ?_
        refine lv_istore_n (lv' := [(2, .int (x2 ||| (1 <<< (x3 &&& 31)))), (0, .ref h0), (1, .int x1), (3, .int x3)]) hx hb dX7_treeOf_30 rfl hl (by decide) rfl (fun ls hl => ?_)
        refine lv_iinc (v := (x3 + 1)) (lv' := [(3, .int (x3 + 1)), (2, .int (x2 ||| (1 <<< (x3 &&& 31)))), (0, .ref h0), (1, .int x1)]) hx hb dX7_treeOf_31 hl (k := 3) rfl rfl (by decide) rfl (fun ls hl => ?_)
        refine lv_goto (tgt := 4) hx hb dX7_treeOf_34 (by decide) ?_
        exact ih _ _ hf _ _ _ hw (lv_sub hl [2, 3, 1, 0] rfl)
def f_X7_treeOf (N : Nat) (x1 : Int32) (mn : Int32) (st : (Nat → Int32)) : Option (Int32) :=
  f_X7_treeOf_4 x1 mn st N 0 0
set_option maxHeartbeats 4000000 in
set_option maxRecDepth 100000 in
theorem c_X7_treeOf {l : Launch} {D : va_G} {cI cZ cN cC : ClassId} {h0 h1 h2 h3 h4 h5 h6 h7 h8 h9 h10 h11 h12 h13 h14 h15 : Nat} {mn : Int32} {um : Int32} {len : Int32} {plc : Int32} {srt : Int32} {frm : Int32} {num : Int32} {wrg : Int32} {cm : Int32} {mpt : Int32} {st : (Nat → Int32)} {pst : (Nat → Int32)} {kep : (Nat → Int32)} {isk : (Nat → Int32)} {pil : (Nat → Int32)} {nxs : (Nat → Int32)} {txt : (Nat → Int32)} {cls : (Nat → Int32)} {asd : (Nat → Int32)} {opn : (Nat → Int32)} {byy : (Nat → Int32)} {twc : (Nat → Int32)} {szs : (Nat → Int32)} {sos : (Nat → Int32)} {ths : (Nat → Int32)} {x1 : Int32} {N : Nat} {res : Int32} (hf : f_X7_treeOf N x1 mn st = some res) : xMet l D (xtys cI cZ cN cC) yX7_treeOf cX7_treeOf 4 (some .int) 1 22 [.ref h0, .int x1] (wMod cI cZ cN cC h0 h1 h2 h3 h4 h5 h6 h7 h8 h9 h10 h11 h12 h13 h14 h15 mn um len plc srt frm num wrg cm mpt st pst kep isk pil nxs txt cls asd opn byy twc szs sos ths) (wMod cI cZ cN cC h0 h1 h2 h3 h4 h5 h6 h7 h8 h9 h10 h11 h12 h13 h14 h15 mn um len plc srt frm num wrg cm mpt st pst kep isk pil nxs txt cls asd opn byy twc szs sos ths) (some (.int res)) := by
  refine x_enter (by decide) (Nat.le_of_ble_eq_true rfl) ?_
  intro p e s m args below meth c E ls hl hw
  have E : xE p s m args meth c cX7_treeOf 4 (some .int) RX7 D (xtys cI cZ cN cC) (xA (wMod cI cZ cN cC h0 h1 h2 h3 h4 h5 h6 h7 h8 h9 h10 h11 h12 h13 h14 h15 mn um len plc srt frm num wrg cm mpt st pst kep isk pil nxs txt cls asd opn byy twc szs sos ths)) := E
  obtain ⟨hx, hb, -⟩ := id E
  have hl : lv_has ls 4 [(0, .ref h0), (1, .int x1)] := hl
  unfold f_X7_treeOf at hf
  refine lv_iconst (v := 0) hx hb dX7_treeOf_0 (by decide) ?_
  refine lv_istore_n (lv' := [(2, .int 0), (0, .ref h0), (1, .int x1)]) hx hb dX7_treeOf_1 rfl hl (by decide) rfl (fun ls hl => ?_)
  refine lv_iconst (v := 0) hx hb dX7_treeOf_2 (by decide) ?_
  refine lv_istore_n (lv' := [(3, .int 0), (2, .int 0), (0, .ref h0), (1, .int x1)]) hx hb dX7_treeOf_3 rfl hl (by decide) rfl (fun ls hl => ?_)
  exact b_X7_treeOf_4 E N _ _ hf _ _ _ hw (lv_sub hl [2, 3, 1, 0] rfl)

def f_X7_comingTo_4 (x1 : Int32) (mn : Int32) (st : (Nat → Int32)) : Nat → Int32 → Int32 → Option (Int32)
  | 0, _, _ => none
  | n + 1, x2, x3 =>
    if mn ≤ x3 then
     some x2
    else
     (f_X7_isIn x3 x1 st).bind fun q2 =>
     if q2 = 0 then
      f_X7_comingTo_4 x1 mn st n (x2 ||| 0) (x3 + 1)
     else
      f_X7_comingTo_4 x1 mn st n (x2 ||| (1 <<< (x3 &&& 31))) (x3 + 1)
set_option maxHeartbeats 4000000 in
set_option maxRecDepth 100000 in
theorem b_X7_comingTo_4 {p : Program} {l : Launch} {e : Env} {s : State} {m : MethodId} {args : Array Value} {below : List Frame} {meth : Method} {c : Code} {D : va_G} {cI cZ cN cC : ClassId} {ws0 : va_W} {h0 h1 h2 h3 h4 h5 h6 h7 h8 h9 h10 h11 h12 h13 h14 h15 : Nat} {x1 : Int32} {mn : Int32} {um : Int32} {len : Int32} {plc : Int32} {srt : Int32} {frm : Int32} {num : Int32} {wrg : Int32} {cm : Int32} {mpt : Int32} {st : (Nat → Int32)} {pst : (Nat → Int32)} {kep : (Nat → Int32)} {isk : (Nat → Int32)} {pil : (Nat → Int32)} {nxs : (Nat → Int32)} {txt : (Nat → Int32)} {cls : (Nat → Int32)} {asd : (Nat → Int32)} {opn : (Nat → Int32)} {byy : (Nat → Int32)} {twc : (Nat → Int32)} {szs : (Nat → Int32)} {sos : (Nat → Int32)} {ths : (Nat → Int32)} {res : Int32} (E : xE p s m args meth c cX7_comingTo 4 (some .int) RX7 D (xtys cI cZ cN cC) (xA ws0)) : ∀ (n : Nat) (x2 : Int32) (x3 : Int32), f_X7_comingTo_4 x1 mn st n x2 x3 = some res → ∀ (H : Heap) (locs : List Loc) (ls : Array Slot), xw D (xA ws0) s.heap (wMod cI cZ cN cC h0 h1 h2 h3 h4 h5 h6 h7 h8 h9 h10 h11 h12 h13 h14 h15 mn um len plc srt frm num wrg cm mpt st pst kep isk pil nxs txt cls asd opn byy twc szs sos ths) H locs → lv_has ls 4 [(0, .ref h0), (1, .int x1), (2, .int x2), (3, .int x3)] → xG p l e 1 22 s m args below meth c D ws0 (wMod cI cZ cN cC h0 h1 h2 h3 h4 h5 h6 h7 h8 h9 h10 h11 h12 h13 h14 h15 mn um len plc srt frm num wrg cm mpt st pst kep isk pil nxs txt cls asd opn byy twc szs sos ths) (some (.int res)) H locs (F0 m 4 ls []) := by
  obtain ⟨hx, hb, -⟩ := id E
  intro n
  induction n with
  | zero =>
    intro _ _ hf
    rw [f_X7_comingTo_4] at hf; cases hf
  | succ n ih =>
    intro x2 x3 hf H locs ls hw hl
    rw [f_X7_comingTo_4] at hf
    refine lv_iload_n hx hb dX7_comingTo_4 rfl (lv_at hl 3 rfl) ?_
    refine lv_aload_n hx hb dX7_comingTo_5 rfl (lv_at hl 0 rfl) ?_
    refine x_get E hw kin_X7 0 rfl rfl 0 (by decide) kF_X7_7 (v := .int mn) rfl dX7_comingTo_6 ?_
    refine lv_icmp_ge (tgt := 37) hx hb dX7_comingTo_9 (by decide) (fun c1 => ?_) (fun c1 => ?_)
    · rw [if_pos c1] at hf
      refine lv_iload_n hx hb dX7_comingTo_37 rfl (lv_at hl 2 rfl) ?_
      have hf := Option.some.inj hf; subst hf
      exact x_iret E hw dX7_comingTo_38
    · rw [if_neg c1] at hf
      refine lv_iload_n hx hb dX7_comingTo_12 rfl (lv_at hl 2 rfl) ?_
      refine lv_aload_n hx hb dX7_comingTo_13 rfl (lv_at hl 0 rfl) ?_
      refine lv_iload_n hx hb dX7_comingTo_14 rfl (lv_at hl 3 rfl) ?_
      refine lv_iload_n hx hb dX7_comingTo_15 rfl (lv_at hl 1 rfl) ?_
      obtain ⟨q2, hq2, hf⟩ := Option.bind_eq_some_iff.mp hf
      refine x_callVI (ws' := (wMod cI cZ cN cC h0 h1 h2 h3 h4 h5 h6 h7 h8 h9 h10 h11 h12 h13 h14 h15 mn um len plc srt frm num wrg cm mpt st pst kep isk pil nxs txt cls asd opn byy twc szs sos ths)) (st1 := [.int q2, .int x2]) (As := [.int x3, .int x1]) (rest := [.int x2]) E hw vc_X7_85 (c_X7_isIn (cI := cI) (cZ := cZ) (cN := cN) (cC := cC) (h0 := h0) (h1 := h1) (h2 := h2) (h3 := h3) (h4 := h4) (h5 := h5) (h6 := h6) (h7 := h7) (h8 := h8) (h9 := h9) (h10 := h10) (h11 := h11) (h12 := h12) (h13 := h13) (h14 := h14) (h15 := h15)  (mn := mn) (um := um) (len := len) (plc := plc) (srt := srt) (frm := frm) (num := num) (wrg := wrg) (cm := cm) (mpt := mpt) (st := st) (pst := pst) (kep := kep) (isk := isk) (pil := pil) (nxs := nxs) (txt := txt) (cls := cls) (asd := asd) (opn := opn) (byy := byy) (twc := twc) (szs := szs) (sos := sos) (ths := ths) (x1 := x3) (x2 := x1) hq2) 0 7 rfl rfl rfl rfl rfl ⟨Nat.le_of_ble_eq_true rfl, Nat.le_of_ble_eq_true rfl⟩ ⟨Nat.le_refl _, Nat.le_refl _⟩ hl.1 rfl rfl (Nat.le_of_ble_eq_true rfl) dX7_comingTo_16 (fun H locs hw => ?_)
      refine lv_if_eq (tgt := 28) hx hb dX7_comingTo_19 (by decide) (fun c3 => ?_) (fun c3 => ?_)
      · rw [if_pos c3] at hf
        refine lv_iconst (v := 0) hx hb dX7_comingTo_28 (by decide) ?_
        refine lv_ior hx hb dX7_comingTo_29 ?_
        refine lv_istore_n (lv' := [(2, .int (x2 ||| 0)), (0, .ref h0), (1, .int x1), (3, .int x3)]) hx hb dX7_comingTo_30 rfl hl (by decide) rfl (fun ls hl => ?_)
        refine lv_iinc (v := (x3 + 1)) (lv' := [(3, .int (x3 + 1)), (2, .int (x2 ||| 0)), (0, .ref h0), (1, .int x1)]) hx hb dX7_comingTo_31 hl (k := 3) rfl rfl (by decide) rfl (fun ls hl => ?_)
        refine lv_goto (tgt := 4) hx hb dX7_comingTo_34 (by decide) ?_
        exact ih _ _ hf _ _ _ hw (lv_sub hl [2, 3, 1, 0] rfl)
      · rw [if_neg c3] at hf
        refine lv_iconst (v := 1) hx hb dX7_comingTo_22 (by decide) ?_
        refine lv_iload_n hx hb dX7_comingTo_23 rfl (lv_at hl 3 rfl) ?_
        refine lv_ishl hx hb dX7_comingTo_24 ?_
        refine lv_goto (tgt := 29) hx hb dX7_comingTo_25 (by decide) ?_
        refine lv_ior hx hb dX7_comingTo_29 ?_
        refine lv_istore_n (lv' := [(2, .int (x2 ||| (1 <<< (x3 &&& 31)))), (0, .ref h0), (1, .int x1), (3, .int x3)]) hx hb dX7_comingTo_30 rfl hl (by decide) rfl (fun ls hl => ?_)
        refine lv_iinc (v := (x3 + 1)) (lv' := [(3, .int (x3 + 1)), (2, .int (x2 ||| (1 <<< (x3 &&& 31)))), (0, .ref h0), (1, .int x1)]) hx hb dX7_comingTo_31 hl (k := 3) rfl rfl (by decide) rfl (fun ls hl => ?_)
        refine lv_goto (tgt := 4) hx hb dX7_comingTo_34 (by decide) ?_
        exact ih _ _ hf _ _ _ hw (lv_sub hl [2, 3, 1, 0] rfl)
def f_X7_comingTo (N : Nat) (x1 : Int32) (mn : Int32) (st : (Nat → Int32)) : Option (Int32) :=
  f_X7_comingTo_4 x1 mn st N 0 0
set_option maxHeartbeats 4000000 in
set_option maxRecDepth 100000 in
theorem c_X7_comingTo {l : Launch} {D : va_G} {cI cZ cN cC : ClassId} {h0 h1 h2 h3 h4 h5 h6 h7 h8 h9 h10 h11 h12 h13 h14 h15 : Nat} {mn : Int32} {um : Int32} {len : Int32} {plc : Int32} {srt : Int32} {frm : Int32} {num : Int32} {wrg : Int32} {cm : Int32} {mpt : Int32} {st : (Nat → Int32)} {pst : (Nat → Int32)} {kep : (Nat → Int32)} {isk : (Nat → Int32)} {pil : (Nat → Int32)} {nxs : (Nat → Int32)} {txt : (Nat → Int32)} {cls : (Nat → Int32)} {asd : (Nat → Int32)} {opn : (Nat → Int32)} {byy : (Nat → Int32)} {twc : (Nat → Int32)} {szs : (Nat → Int32)} {sos : (Nat → Int32)} {ths : (Nat → Int32)} {x1 : Int32} {N : Nat} {res : Int32} (hf : f_X7_comingTo N x1 mn st = some res) : xMet l D (xtys cI cZ cN cC) yX7_comingTo cX7_comingTo 4 (some .int) 1 22 [.ref h0, .int x1] (wMod cI cZ cN cC h0 h1 h2 h3 h4 h5 h6 h7 h8 h9 h10 h11 h12 h13 h14 h15 mn um len plc srt frm num wrg cm mpt st pst kep isk pil nxs txt cls asd opn byy twc szs sos ths) (wMod cI cZ cN cC h0 h1 h2 h3 h4 h5 h6 h7 h8 h9 h10 h11 h12 h13 h14 h15 mn um len plc srt frm num wrg cm mpt st pst kep isk pil nxs txt cls asd opn byy twc szs sos ths) (some (.int res)) := by
  refine x_enter (by decide) (Nat.le_of_ble_eq_true rfl) ?_
  intro p e s m args below meth c E ls hl hw
  have E : xE p s m args meth c cX7_comingTo 4 (some .int) RX7 D (xtys cI cZ cN cC) (xA (wMod cI cZ cN cC h0 h1 h2 h3 h4 h5 h6 h7 h8 h9 h10 h11 h12 h13 h14 h15 mn um len plc srt frm num wrg cm mpt st pst kep isk pil nxs txt cls asd opn byy twc szs sos ths)) := E
  obtain ⟨hx, hb, -⟩ := id E
  have hl : lv_has ls 4 [(0, .ref h0), (1, .int x1)] := hl
  unfold f_X7_comingTo at hf
  refine lv_iconst (v := 0) hx hb dX7_comingTo_0 (by decide) ?_
  refine lv_istore_n (lv' := [(2, .int 0), (0, .ref h0), (1, .int x1)]) hx hb dX7_comingTo_1 rfl hl (by decide) rfl (fun ls hl => ?_)
  refine lv_iconst (v := 0) hx hb dX7_comingTo_2 (by decide) ?_
  refine lv_istore_n (lv' := [(3, .int 0), (2, .int 0), (0, .ref h0), (1, .int x1)]) hx hb dX7_comingTo_3 rfl hl (by decide) rfl (fun ls hl => ?_)
  exact b_X7_comingTo_4 E N _ _ hf _ _ _ hw (lv_sub hl [2, 3, 1, 0] rfl)

def f_X7_ringOf (N : Nat) (x1 : Int32) (mn : Int32) (st : (Nat → Int32)) : Option (Int32) :=
  (f_X7_treeOf N x1 mn st).bind fun q1 =>
  (f_X7_comingTo N x1 mn st).bind fun q2 =>
  some (q1 &&& q2)
set_option maxHeartbeats 4000000 in
set_option maxRecDepth 100000 in
theorem c_X7_ringOf {l : Launch} {D : va_G} {cI cZ cN cC : ClassId} {h0 h1 h2 h3 h4 h5 h6 h7 h8 h9 h10 h11 h12 h13 h14 h15 : Nat} {mn : Int32} {um : Int32} {len : Int32} {plc : Int32} {srt : Int32} {frm : Int32} {num : Int32} {wrg : Int32} {cm : Int32} {mpt : Int32} {st : (Nat → Int32)} {pst : (Nat → Int32)} {kep : (Nat → Int32)} {isk : (Nat → Int32)} {pil : (Nat → Int32)} {nxs : (Nat → Int32)} {txt : (Nat → Int32)} {cls : (Nat → Int32)} {asd : (Nat → Int32)} {opn : (Nat → Int32)} {byy : (Nat → Int32)} {twc : (Nat → Int32)} {szs : (Nat → Int32)} {sos : (Nat → Int32)} {ths : (Nat → Int32)} {x1 : Int32} {N : Nat} {res : Int32} (hf : f_X7_ringOf N x1 mn st = some res) : xMet l D (xtys cI cZ cN cC) yX7_ringOf cX7_ringOf 2 (some .int) 2 45 [.ref h0, .int x1] (wMod cI cZ cN cC h0 h1 h2 h3 h4 h5 h6 h7 h8 h9 h10 h11 h12 h13 h14 h15 mn um len plc srt frm num wrg cm mpt st pst kep isk pil nxs txt cls asd opn byy twc szs sos ths) (wMod cI cZ cN cC h0 h1 h2 h3 h4 h5 h6 h7 h8 h9 h10 h11 h12 h13 h14 h15 mn um len plc srt frm num wrg cm mpt st pst kep isk pil nxs txt cls asd opn byy twc szs sos ths) (some (.int res)) := by
  refine x_enter (by decide) (Nat.le_of_ble_eq_true rfl) ?_
  intro p e s m args below meth c E ls hl hw
  have E : xE p s m args meth c cX7_ringOf 2 (some .int) RX7 D (xtys cI cZ cN cC) (xA (wMod cI cZ cN cC h0 h1 h2 h3 h4 h5 h6 h7 h8 h9 h10 h11 h12 h13 h14 h15 mn um len plc srt frm num wrg cm mpt st pst kep isk pil nxs txt cls asd opn byy twc szs sos ths)) := E
  obtain ⟨hx, hb, -⟩ := id E
  have hl : lv_has ls 2 [(0, .ref h0), (1, .int x1)] := hl
  unfold f_X7_ringOf at hf
  refine lv_aload_n hx hb dX7_ringOf_0 rfl (lv_at hl 0 rfl) ?_
  refine lv_iload_n hx hb dX7_ringOf_1 rfl (lv_at hl 1 rfl) ?_
  obtain ⟨q1, hq1, hf⟩ := Option.bind_eq_some_iff.mp hf
  refine x_callVI (ws' := (wMod cI cZ cN cC h0 h1 h2 h3 h4 h5 h6 h7 h8 h9 h10 h11 h12 h13 h14 h15 mn um len plc srt frm num wrg cm mpt st pst kep isk pil nxs txt cls asd opn byy twc szs sos ths)) (st1 := [.int q1]) (As := [.int x1]) (rest := []) E hw vc_X7_191 (c_X7_treeOf (cI := cI) (cZ := cZ) (cN := cN) (cC := cC) (h0 := h0) (h1 := h1) (h2 := h2) (h3 := h3) (h4 := h4) (h5 := h5) (h6 := h6) (h7 := h7) (h8 := h8) (h9 := h9) (h10 := h10) (h11 := h11) (h12 := h12) (h13 := h13) (h14 := h14) (h15 := h15)  (mn := mn) (um := um) (len := len) (plc := plc) (srt := srt) (frm := frm) (num := num) (wrg := wrg) (cm := cm) (mpt := mpt) (st := st) (pst := pst) (kep := kep) (isk := isk) (pil := pil) (nxs := nxs) (txt := txt) (cls := cls) (asd := asd) (opn := opn) (byy := byy) (twc := twc) (szs := szs) (sos := sos) (ths := ths) (x1 := x1) hq1) 0 7 rfl rfl rfl rfl rfl ⟨Nat.le_of_ble_eq_true rfl, Nat.le_of_ble_eq_true rfl⟩ ⟨Nat.le_refl _, Nat.le_refl _⟩ hl.1 rfl rfl (Nat.le_of_ble_eq_true rfl) dX7_ringOf_2 (fun H locs hw => ?_)
  refine lv_aload_n hx hb dX7_ringOf_5 rfl (lv_at hl 0 rfl) ?_
  refine lv_iload_n hx hb dX7_ringOf_6 rfl (lv_at hl 1 rfl) ?_
  obtain ⟨q2, hq2, hf⟩ := Option.bind_eq_some_iff.mp hf
  refine x_callVI (ws' := (wMod cI cZ cN cC h0 h1 h2 h3 h4 h5 h6 h7 h8 h9 h10 h11 h12 h13 h14 h15 mn um len plc srt frm num wrg cm mpt st pst kep isk pil nxs txt cls asd opn byy twc szs sos ths)) (st1 := [.int q2, .int q1]) (As := [.int x1]) (rest := [.int q1]) E hw vc_X7_194 (c_X7_comingTo (cI := cI) (cZ := cZ) (cN := cN) (cC := cC) (h0 := h0) (h1 := h1) (h2 := h2) (h3 := h3) (h4 := h4) (h5 := h5) (h6 := h6) (h7 := h7) (h8 := h8) (h9 := h9) (h10 := h10) (h11 := h11) (h12 := h12) (h13 := h13) (h14 := h14) (h15 := h15)  (mn := mn) (um := um) (len := len) (plc := plc) (srt := srt) (frm := frm) (num := num) (wrg := wrg) (cm := cm) (mpt := mpt) (st := st) (pst := pst) (kep := kep) (isk := isk) (pil := pil) (nxs := nxs) (txt := txt) (cls := cls) (asd := asd) (opn := opn) (byy := byy) (twc := twc) (szs := szs) (sos := sos) (ths := ths) (x1 := x1) hq2) 0 7 rfl rfl rfl rfl rfl ⟨Nat.le_of_ble_eq_true rfl, Nat.le_of_ble_eq_true rfl⟩ ⟨Nat.le_refl _, Nat.le_refl _⟩ hl.1 rfl rfl (Nat.le_of_ble_eq_true rfl) dX7_ringOf_7 (fun H locs hw => ?_)
  refine lv_iand hx hb dX7_ringOf_10 ?_
  have hf := Option.some.inj hf; subst hf
  exact x_iret E hw dX7_ringOf_11

def f_X7_around (N : Nat) (x1 : Int32) (x2 : Int32) (mn : Int32) (st : (Nat → Int32)) : Option (Int32) :=
  if (f_X7_isPoint x1 mn) = 0 then
   some (-2)
  else
   if x2 = 0 then
    (f_X7_treeOf N x1 mn st).bind fun q7 =>
    some q7
   else
    if x2 = 1 then
     (f_X7_comingTo N x1 mn st).bind fun q6 =>
     some q6
    else
     if x2 = 2 then
      (f_X7_ringOf N x1 mn st).bind fun q5 =>
      some q5
     else
      some (-3)
set_option maxHeartbeats 4000000 in
set_option maxRecDepth 100000 in
theorem c_X7_around {l : Launch} {D : va_G} {cI cZ cN cC : ClassId} {h0 h1 h2 h3 h4 h5 h6 h7 h8 h9 h10 h11 h12 h13 h14 h15 : Nat} {mn : Int32} {um : Int32} {len : Int32} {plc : Int32} {srt : Int32} {frm : Int32} {num : Int32} {wrg : Int32} {cm : Int32} {mpt : Int32} {st : (Nat → Int32)} {pst : (Nat → Int32)} {kep : (Nat → Int32)} {isk : (Nat → Int32)} {pil : (Nat → Int32)} {nxs : (Nat → Int32)} {txt : (Nat → Int32)} {cls : (Nat → Int32)} {asd : (Nat → Int32)} {opn : (Nat → Int32)} {byy : (Nat → Int32)} {twc : (Nat → Int32)} {szs : (Nat → Int32)} {sos : (Nat → Int32)} {ths : (Nat → Int32)} {x1 : Int32} {x2 : Int32} {N : Nat} {res : Int32} (hf : f_X7_around N x1 x2 mn st = some res) : xMet l D (xtys cI cZ cN cC) yX7_around cX7_around 3 (some .int) 3 66 [.ref h0, .int x1, .int x2] (wMod cI cZ cN cC h0 h1 h2 h3 h4 h5 h6 h7 h8 h9 h10 h11 h12 h13 h14 h15 mn um len plc srt frm num wrg cm mpt st pst kep isk pil nxs txt cls asd opn byy twc szs sos ths) (wMod cI cZ cN cC h0 h1 h2 h3 h4 h5 h6 h7 h8 h9 h10 h11 h12 h13 h14 h15 mn um len plc srt frm num wrg cm mpt st pst kep isk pil nxs txt cls asd opn byy twc szs sos ths) (some (.int res)) := by
  refine x_enter (by decide) (Nat.le_of_ble_eq_true rfl) ?_
  intro p e s m args below meth c E ls hl hw
  have E : xE p s m args meth c cX7_around 3 (some .int) RX7 D (xtys cI cZ cN cC) (xA (wMod cI cZ cN cC h0 h1 h2 h3 h4 h5 h6 h7 h8 h9 h10 h11 h12 h13 h14 h15 mn um len plc srt frm num wrg cm mpt st pst kep isk pil nxs txt cls asd opn byy twc szs sos ths)) := E
  obtain ⟨hx, hb, -⟩ := id E
  have hl : lv_has ls 3 [(0, .ref h0), (1, .int x1), (2, .int x2)] := hl
  unfold f_X7_around at hf
  refine lv_aload_n hx hb dX7_around_0 rfl (lv_at hl 0 rfl) ?_
  refine lv_iload_n hx hb dX7_around_1 rfl (lv_at hl 1 rfl) ?_
  refine x_callVI (ws' := (wMod cI cZ cN cC h0 h1 h2 h3 h4 h5 h6 h7 h8 h9 h10 h11 h12 h13 h14 h15 mn um len plc srt frm num wrg cm mpt st pst kep isk pil nxs txt cls asd opn byy twc szs sos ths)) (st1 := [.int (f_X7_isPoint x1 mn)]) (As := [.int x1]) (rest := []) E hw vc_X7_70 (c_X7_isPoint (cI := cI) (cZ := cZ) (cN := cN) (cC := cC) (h0 := h0) (h1 := h1) (h2 := h2) (h3 := h3) (h4 := h4) (h5 := h5) (h6 := h6) (h7 := h7) (h8 := h8) (h9 := h9) (h10 := h10) (h11 := h11) (h12 := h12) (h13 := h13) (h14 := h14) (h15 := h15)  (mn := mn) (um := um) (len := len) (plc := plc) (srt := srt) (frm := frm) (num := num) (wrg := wrg) (cm := cm) (mpt := mpt) (st := st) (pst := pst) (kep := kep) (isk := isk) (pil := pil) (nxs := nxs) (txt := txt) (cls := cls) (asd := asd) (opn := opn) (byy := byy) (twc := twc) (szs := szs) (sos := sos) (ths := ths) (x1 := x1) rfl) 0 7 rfl rfl rfl rfl rfl ⟨Nat.le_of_ble_eq_true rfl, Nat.le_of_ble_eq_true rfl⟩ ⟨Nat.le_refl _, Nat.le_refl _⟩ hl.1 rfl rfl (Nat.le_of_ble_eq_true rfl) dX7_around_2 (fun H locs hw => ?_)
  refine lv_if_ne (tgt := 11) hx hb dX7_around_5 (by decide) (fun c1 => ?_) (fun c1 => ?_)
  · rw [if_neg c1] at hf
    refine lv_iload_n hx hb dX7_around_11 rfl (lv_at hl 2 rfl) ?_
    refine lv_if_ne (tgt := 23) hx hb dX7_around_12 (by decide) (fun c2 => ?_) (fun c2 => ?_)
    · rw [if_neg c2] at hf
      refine lv_iload_n hx hb dX7_around_23 rfl (lv_at hl 2 rfl) ?_
      refine lv_iconst (v := 1) hx hb dX7_around_24 (by decide) ?_
      refine lv_icmp_ne (tgt := 36) hx hb dX7_around_25 (by decide) (fun c3 => ?_) (fun c3 => ?_)
      · rw [if_neg c3] at hf
        refine lv_iload_n hx hb dX7_around_36 rfl (lv_at hl 2 rfl) ?_
        refine lv_iconst (v := 2) hx hb dX7_around_37 (by decide) ?_
        refine lv_icmp_ne (tgt := 49) hx hb dX7_around_38 (by decide) (fun c4 => ?_) (fun c4 => ?_)
        · rw [if_neg c4] at hf
          refine lv_bipush (v := (-3)) hx hb dX7_around_49 (by decide) ?_
          have hf := Option.some.inj hf; subst hf
          exact x_iret E hw dX7_around_51
        · rw [if_pos c4] at hf
          refine lv_aload_n hx hb dX7_around_41 rfl (lv_at hl 0 rfl) ?_
          refine lv_iload_n hx hb dX7_around_42 rfl (lv_at hl 1 rfl) ?_
          obtain ⟨q5, hq5, hf⟩ := Option.bind_eq_some_iff.mp hf
          refine x_callVI (ws' := (wMod cI cZ cN cC h0 h1 h2 h3 h4 h5 h6 h7 h8 h9 h10 h11 h12 h13 h14 h15 mn um len plc srt frm num wrg cm mpt st pst kep isk pil nxs txt cls asd opn byy twc szs sos ths)) (st1 := [.int q5]) (As := [.int x1]) (rest := []) E hw vc_X7_197 (c_X7_ringOf (cI := cI) (cZ := cZ) (cN := cN) (cC := cC) (h0 := h0) (h1 := h1) (h2 := h2) (h3 := h3) (h4 := h4) (h5 := h5) (h6 := h6) (h7 := h7) (h8 := h8) (h9 := h9) (h10 := h10) (h11 := h11) (h12 := h12) (h13 := h13) (h14 := h14) (h15 := h15)  (mn := mn) (um := um) (len := len) (plc := plc) (srt := srt) (frm := frm) (num := num) (wrg := wrg) (cm := cm) (mpt := mpt) (st := st) (pst := pst) (kep := kep) (isk := isk) (pil := pil) (nxs := nxs) (txt := txt) (cls := cls) (asd := asd) (opn := opn) (byy := byy) (twc := twc) (szs := szs) (sos := sos) (ths := ths) (x1 := x1) hq5) 0 7 rfl rfl rfl rfl rfl ⟨Nat.le_of_ble_eq_true rfl, Nat.le_of_ble_eq_true rfl⟩ ⟨Nat.le_refl _, Nat.le_refl _⟩ hl.1 rfl rfl (Nat.le_of_ble_eq_true rfl) dX7_around_43 (fun H locs hw => ?_)
          refine lv_goto (tgt := 51) hx hb dX7_around_46 (by decide) ?_
          have hf := Option.some.inj hf; subst hf
          exact x_iret E hw dX7_around_51
      · rw [if_pos c3] at hf
        refine lv_aload_n hx hb dX7_around_28 rfl (lv_at hl 0 rfl) ?_
        refine lv_iload_n hx hb dX7_around_29 rfl (lv_at hl 1 rfl) ?_
        obtain ⟨q6, hq6, hf⟩ := Option.bind_eq_some_iff.mp hf
        refine x_callVI (ws' := (wMod cI cZ cN cC h0 h1 h2 h3 h4 h5 h6 h7 h8 h9 h10 h11 h12 h13 h14 h15 mn um len plc srt frm num wrg cm mpt st pst kep isk pil nxs txt cls asd opn byy twc szs sos ths)) (st1 := [.int q6]) (As := [.int x1]) (rest := []) E hw vc_X7_194 (c_X7_comingTo (cI := cI) (cZ := cZ) (cN := cN) (cC := cC) (h0 := h0) (h1 := h1) (h2 := h2) (h3 := h3) (h4 := h4) (h5 := h5) (h6 := h6) (h7 := h7) (h8 := h8) (h9 := h9) (h10 := h10) (h11 := h11) (h12 := h12) (h13 := h13) (h14 := h14) (h15 := h15)  (mn := mn) (um := um) (len := len) (plc := plc) (srt := srt) (frm := frm) (num := num) (wrg := wrg) (cm := cm) (mpt := mpt) (st := st) (pst := pst) (kep := kep) (isk := isk) (pil := pil) (nxs := nxs) (txt := txt) (cls := cls) (asd := asd) (opn := opn) (byy := byy) (twc := twc) (szs := szs) (sos := sos) (ths := ths) (x1 := x1) hq6) 0 7 rfl rfl rfl rfl rfl ⟨Nat.le_of_ble_eq_true rfl, Nat.le_of_ble_eq_true rfl⟩ ⟨Nat.le_refl _, Nat.le_refl _⟩ hl.1 rfl rfl (Nat.le_of_ble_eq_true rfl) dX7_around_30 (fun H locs hw => ?_)
        refine lv_goto (tgt := 51) hx hb dX7_around_33 (by decide) ?_
        have hf := Option.some.inj hf; subst hf
        exact x_iret E hw dX7_around_51
    · rw [if_pos c2] at hf
      refine lv_aload_n hx hb dX7_around_15 rfl (lv_at hl 0 rfl) ?_
      refine lv_iload_n hx hb dX7_around_16 rfl (lv_at hl 1 rfl) ?_
      obtain ⟨q7, hq7, hf⟩ := Option.bind_eq_some_iff.mp hf
      refine x_callVI (ws' := (wMod cI cZ cN cC h0 h1 h2 h3 h4 h5 h6 h7 h8 h9 h10 h11 h12 h13 h14 h15 mn um len plc srt frm num wrg cm mpt st pst kep isk pil nxs txt cls asd opn byy twc szs sos ths)) (st1 := [.int q7]) (As := [.int x1]) (rest := []) E hw vc_X7_191 (c_X7_treeOf (cI := cI) (cZ := cZ) (cN := cN) (cC := cC) (h0 := h0) (h1 := h1) (h2 := h2) (h3 := h3) (h4 := h4) (h5 := h5) (h6 := h6) (h7 := h7) (h8 := h8) (h9 := h9) (h10 := h10) (h11 := h11) (h12 := h12) (h13 := h13) (h14 := h14) (h15 := h15)  (mn := mn) (um := um) (len := len) (plc := plc) (srt := srt) (frm := frm) (num := num) (wrg := wrg) (cm := cm) (mpt := mpt) (st := st) (pst := pst) (kep := kep) (isk := isk) (pil := pil) (nxs := nxs) (txt := txt) (cls := cls) (asd := asd) (opn := opn) (byy := byy) (twc := twc) (szs := szs) (sos := sos) (ths := ths) (x1 := x1) hq7) 0 7 rfl rfl rfl rfl rfl ⟨Nat.le_of_ble_eq_true rfl, Nat.le_of_ble_eq_true rfl⟩ ⟨Nat.le_refl _, Nat.le_refl _⟩ hl.1 rfl rfl (Nat.le_of_ble_eq_true rfl) dX7_around_17 (fun H locs hw => ?_)
      refine lv_goto (tgt := 51) hx hb dX7_around_20 (by decide) ?_
      have hf := Option.some.inj hf; subst hf
      exact x_iret E hw dX7_around_51
  · rw [if_pos c1] at hf
    refine lv_bipush (v := (-2)) hx hb dX7_around_8 (by decide) ?_
    have hf := Option.some.inj hf; subst hf
    exact x_iret E hw dX7_around_10

def f_X7_without_64 (k22 : Int32 → Int32 → Option (Int32)) (x4 : Int32) (x6 : Int32) (t0 : Int32) : Option (Int32) :=
  if (f_X7_has x4 x6) = 0 then
   k22 (x4 ||| 0) (x6 + 1)
  else
   k22 (x4 ||| t0) (x6 + 1)
set_option maxHeartbeats 4000000 in
set_option maxRecDepth 100000 in
theorem b_X7_without_64 {p : Program} {l : Launch} {e : Env} {s : State} {m : MethodId} {args : Array Value} {below : List Frame} {meth : Method} {c : Code} {D : va_G} {cI cZ cN cC : ClassId} {ws0 : va_W} {h0 h1 h2 h3 h4 h5 h6 h7 h8 h9 h10 h11 h12 h13 h14 h15 : Nat} {x2 : Int32} {x3 : Int32} {x4 : Int32} {x5 : Int32} {x6 : Int32} {t0 : Int32} {mn : Int32} {um : Int32} {len : Int32} {plc : Int32} {srt : Int32} {frm : Int32} {num : Int32} {wrg : Int32} {cm : Int32} {mpt : Int32} {st : (Nat → Int32)} {pst : (Nat → Int32)} {kep : (Nat → Int32)} {isk : (Nat → Int32)} {pil : (Nat → Int32)} {nxs : (Nat → Int32)} {txt : (Nat → Int32)} {cls : (Nat → Int32)} {asd : (Nat → Int32)} {opn : (Nat → Int32)} {byy : (Nat → Int32)} {twc : (Nat → Int32)} {szs : (Nat → Int32)} {sos : (Nat → Int32)} {ths : (Nat → Int32)} {res : Int32} (E : xE p s m args meth c cX7_without 8 (some .int) RX7 D (xtys cI cZ cN cC) (xA ws0)) {k22 : Int32 → Int32 → Option (Int32)} (hk22 : ∀ (x4 : Int32) (x6 : Int32), k22 x4 x6 = some res → ∀ (H : Heap) (locs : List Loc) (ls : Array Slot), xw D (xA ws0) s.heap (wMod cI cZ cN cC h0 h1 h2 h3 h4 h5 h6 h7 h8 h9 h10 h11 h12 h13 h14 h15 mn um len plc srt frm num wrg cm mpt st pst kep isk pil nxs txt cls asd opn byy twc szs sos ths) H locs → lv_has ls 8 [(0, .ref h0), (2, .int x2), (3, .int x3), (4, .int x4), (5, .int x5), (6, .int x6)] → xG p l e 1 21 s m args below meth c D ws0 (wMod cI cZ cN cC h0 h1 h2 h3 h4 h5 h6 h7 h8 h9 h10 h11 h12 h13 h14 h15 mn um len plc srt frm num wrg cm mpt st pst kep isk pil nxs txt cls asd opn byy twc szs sos ths) (some (.int res)) H locs (F0 m 22 ls [])) : f_X7_without_64 k22 x4 x6 t0 = some res → ∀ (H : Heap) (locs : List Loc) (ls : Array Slot), xw D (xA ws0) s.heap (wMod cI cZ cN cC h0 h1 h2 h3 h4 h5 h6 h7 h8 h9 h10 h11 h12 h13 h14 h15 mn um len plc srt frm num wrg cm mpt st pst kep isk pil nxs txt cls asd opn byy twc szs sos ths) H locs → lv_has ls 8 [(0, .ref h0), (2, .int x2), (3, .int x3), (4, .int x4), (5, .int x5), (6, .int x6)] → xG p l e 1 21 s m args below meth c D ws0 (wMod cI cZ cN cC h0 h1 h2 h3 h4 h5 h6 h7 h8 h9 h10 h11 h12 h13 h14 h15 mn um len plc srt frm num wrg cm mpt st pst kep isk pil nxs txt cls asd opn byy twc szs sos ths) (some (.int res)) H locs (F0 m 64 ls [.int t0]) := by
  obtain ⟨hx, hb, -⟩ := id E
  intro hf H locs ls hw hl
  unfold f_X7_without_64 at hf
  refine lv_istore (lv' := [(7, .int t0), (0, .ref h0), (2, .int x2), (3, .int x3), (4, .int x4), (5, .int x5), (6, .int x6)]) hx hb dX7_without_64 hl (by decide) rfl (fun ls hl => ?_)
  refine lv_iload hx hb dX7_without_66 (lv_at hl 4 rfl) ?_
  refine lv_iload hx hb dX7_without_68 (lv_at hl 4 rfl) ?_
  refine lv_iload hx hb dX7_without_70 (lv_at hl 6 rfl) ?_
  refine x_callS (isC := []) (ws' := (wMod cI cZ cN cC h0 h1 h2 h3 h4 h5 h6 h7 h8 h9 h10 h11 h12 h13 h14 h15 mn um len plc srt frm num wrg cm mpt st pst kep isk pil nxs txt cls asd opn byy twc szs sos ths)) (st1 := [.int (f_X7_has x4 x6), .int x4]) (As := [.int x4, .int x6]) (rest := [.int x4]) E hw vc_X7_78 (c_X7_has (cI := cI) (cZ := cZ) (cN := cN) (cC := cC)    (x0 := x4) (x1 := x6) rfl) rfl rfl rfl rfl rfl rfl ⟨Nat.le_of_ble_eq_true rfl, Nat.le_of_ble_eq_true rfl⟩ ⟨Nat.le_refl _, Nat.le_refl _⟩ hl.1 rfl rfl (Nat.le_of_ble_eq_true rfl) dX7_without_72 (fun H locs hw => ?_)
  refine lv_if_eq (tgt := 83) hx hb dX7_without_75 (by decide) (fun c6 => ?_) (fun c6 => ?_)
  · rw [if_pos c6] at hf
    refine lv_iconst (v := 0) hx hb dX7_without_83 (by decide) ?_
    refine lv_ior hx hb dX7_without_84 ?_
    refine lv_istore (lv' := [(4, .int (x4 ||| 0)), (7, .int t0), (0, .ref h0), (2, .int x2), (3, .int x3), (5, .int x5), (6, .int x6)]) hx hb dX7_without_85 hl (by decide) rfl (fun ls hl => ?_)
    refine lv_iinc (v := (x6 + 1)) (lv' := [(6, .int (x6 + 1)), (4, .int (x4 ||| 0)), (7, .int t0), (0, .ref h0), (2, .int x2), (3, .int x3), (5, .int x5)]) hx hb dX7_without_87 hl (k := 6) rfl rfl (by decide) rfl (fun ls hl => ?_)
    refine lv_goto (tgt := 22) hx hb dX7_without_90 (by decide) ?_
    exact hk22 _ _ hf _ _ _ hw (lv_sub hl [3, 4, 5, 1, 6, 0] rfl)
  · rw [if_neg c6] at hf
    refine lv_iload hx hb dX7_without_78 (lv_at hl 0 rfl) ?_
    refine lv_goto (tgt := 84) hx hb dX7_without_80 (by decide) ?_
    refine lv_ior hx hb dX7_without_84 ?_
    refine lv_istore (lv' := [(4, .int (x4 ||| t0)), (7, .int t0), (0, .ref h0), (2, .int x2), (3, .int x3), (5, .int x5), (6, .int x6)]) hx hb dX7_without_85 hl (by decide) rfl (fun ls hl => ?_)
    refine lv_iinc (v := (x6 + 1)) (lv' := [(6, .int (x6 + 1)), (4, .int (x4 ||| t0)), (7, .int t0), (0, .ref h0), (2, .int x2), (3, .int x3), (5, .int x5)]) hx hb dX7_without_87 hl (k := 6) rfl rfl (by decide) rfl (fun ls hl => ?_)
    refine lv_goto (tgt := 22) hx hb dX7_without_90 (by decide) ?_
    exact hk22 _ _ hf _ _ _ hw (lv_sub hl [3, 4, 5, 1, 6, 0] rfl)
def f_X7_without_22 (k8 : Int32 → Int32 → Option (Int32)) (x2 : Int32) (x3 : Int32) (x5 : Int32) (mn : Int32) (st : (Nat → Int32)) : Nat → Int32 → Int32 → Option (Int32)
  | 0, _, _ => none
  | n + 1, x4, x6 =>
    if mn ≤ x6 then
     k8 x4 x5
    else
     if x6 = x2 then
      if xin (0 + x6) 111 then
      f_X7_without_64 (fun x4 x6 => f_X7_without_22 k8 x2 x3 x5 mn st n x4 x6) x4 x6 ((st (Int32.toNatClampNeg (0 + x6))) &&& ((1 <<< (x3 &&& 31)) ^^^ (-1)))
      else none
     else
      if xin (0 + x6) 111 then
      f_X7_without_64 (fun x4 x6 => f_X7_without_22 k8 x2 x3 x5 mn st n x4 x6) x4 x6 (st (Int32.toNatClampNeg (0 + x6)))
      else none
set_option maxHeartbeats 4000000 in
set_option maxRecDepth 100000 in
theorem b_X7_without_22 {p : Program} {l : Launch} {e : Env} {s : State} {m : MethodId} {args : Array Value} {below : List Frame} {meth : Method} {c : Code} {D : va_G} {cI cZ cN cC : ClassId} {ws0 : va_W} {h0 h1 h2 h3 h4 h5 h6 h7 h8 h9 h10 h11 h12 h13 h14 h15 : Nat} {x2 : Int32} {x3 : Int32} {x5 : Int32} {mn : Int32} {um : Int32} {len : Int32} {plc : Int32} {srt : Int32} {frm : Int32} {num : Int32} {wrg : Int32} {cm : Int32} {mpt : Int32} {st : (Nat → Int32)} {pst : (Nat → Int32)} {kep : (Nat → Int32)} {isk : (Nat → Int32)} {pil : (Nat → Int32)} {nxs : (Nat → Int32)} {txt : (Nat → Int32)} {cls : (Nat → Int32)} {asd : (Nat → Int32)} {opn : (Nat → Int32)} {byy : (Nat → Int32)} {twc : (Nat → Int32)} {szs : (Nat → Int32)} {sos : (Nat → Int32)} {ths : (Nat → Int32)} {res : Int32} (E : xE p s m args meth c cX7_without 8 (some .int) RX7 D (xtys cI cZ cN cC) (xA ws0)) {k8 : Int32 → Int32 → Option (Int32)} (hk8 : ∀ (x4 : Int32) (x5 : Int32), k8 x4 x5 = some res → ∀ (H : Heap) (locs : List Loc) (ls : Array Slot), xw D (xA ws0) s.heap (wMod cI cZ cN cC h0 h1 h2 h3 h4 h5 h6 h7 h8 h9 h10 h11 h12 h13 h14 h15 mn um len plc srt frm num wrg cm mpt st pst kep isk pil nxs txt cls asd opn byy twc szs sos ths) H locs → lv_has ls 8 [(0, .ref h0), (2, .int x2), (3, .int x3), (4, .int x4), (5, .int x5)] → xG p l e 1 21 s m args below meth c D ws0 (wMod cI cZ cN cC h0 h1 h2 h3 h4 h5 h6 h7 h8 h9 h10 h11 h12 h13 h14 h15 mn um len plc srt frm num wrg cm mpt st pst kep isk pil nxs txt cls asd opn byy twc szs sos ths) (some (.int res)) H locs (F0 m 8 ls [])) : ∀ (n : Nat) (x4 : Int32) (x6 : Int32), f_X7_without_22 k8 x2 x3 x5 mn st n x4 x6 = some res → ∀ (H : Heap) (locs : List Loc) (ls : Array Slot), xw D (xA ws0) s.heap (wMod cI cZ cN cC h0 h1 h2 h3 h4 h5 h6 h7 h8 h9 h10 h11 h12 h13 h14 h15 mn um len plc srt frm num wrg cm mpt st pst kep isk pil nxs txt cls asd opn byy twc szs sos ths) H locs → lv_has ls 8 [(0, .ref h0), (2, .int x2), (3, .int x3), (4, .int x4), (5, .int x5), (6, .int x6)] → xG p l e 1 21 s m args below meth c D ws0 (wMod cI cZ cN cC h0 h1 h2 h3 h4 h5 h6 h7 h8 h9 h10 h11 h12 h13 h14 h15 mn um len plc srt frm num wrg cm mpt st pst kep isk pil nxs txt cls asd opn byy twc szs sos ths) (some (.int res)) H locs (F0 m 22 ls []) := by
  obtain ⟨hx, hb, -⟩ := id E
  intro n
  induction n with
  | zero =>
    intro _ _ hf
    rw [f_X7_without_22] at hf; cases hf
  | succ n ih =>
    intro x4 x6 hf H locs ls hw hl
    rw [f_X7_without_22] at hf
    refine lv_iload hx hb dX7_without_22 (lv_at hl 5 rfl) ?_
    refine lv_aload_n hx hb dX7_without_24 rfl (lv_at hl 0 rfl) ?_
    refine x_get E hw kin_X7 0 rfl rfl 0 (by decide) kF_X7_7 (v := .int mn) rfl dX7_without_25 ?_
    refine lv_icmp_ge (tgt := 93) hx hb dX7_without_28 (by decide) (fun c2 => ?_) (fun c2 => ?_)
    · rw [if_pos c2] at hf
      refine lv_goto (tgt := 8) hx hb dX7_without_93 (by decide) ?_
      exact hk8 _ _ hf _ _ _ hw (lv_sub hl [0, 1, 2, 3, 4] rfl)
    · rw [if_neg c2] at hf
      refine lv_iload hx hb dX7_without_31 (lv_at hl 5 rfl) ?_
      refine lv_iload_n hx hb dX7_without_33 rfl (lv_at hl 1 rfl) ?_
      refine lv_icmp_ne (tgt := 55) hx hb dX7_without_34 (by decide) (fun c3 => ?_) (fun c3 => ?_)
      · rw [if_neg c3] at hf
        refine lv_aload_n hx hb dX7_without_55 rfl (lv_at hl 0 rfl) ?_
        refine x_get E hw kin_X7 0 rfl rfl 1 (by decide) kF_X7_13 (v := .ref h1) rfl dX7_without_56 ?_
        refine lv_iconst (v := 0) hx hb dX7_without_59 (by decide) ?_
        refine lv_iload hx hb dX7_without_60 (lv_at hl 5 rfl) ?_
        refine lv_iadd hx hb dX7_without_62 ?_
        obtain ⟨g4, hf⟩ := xgd hf
        refine x_iald E hw 1 0 rfl rfl (xin_vp g4) dX7_without_63 ?_
        exact b_X7_without_64 E ih  hf _ _ _ hw (lv_sub hl [0, 1, 2, 3, 4, 5] rfl)
      · rw [if_pos c3] at hf
        refine lv_aload_n hx hb dX7_without_37 rfl (lv_at hl 0 rfl) ?_
        refine x_get E hw kin_X7 0 rfl rfl 1 (by decide) kF_X7_13 (v := .ref h1) rfl dX7_without_38 ?_
        refine lv_iconst (v := 0) hx hb dX7_without_41 (by decide) ?_
        refine lv_iload hx hb dX7_without_42 (lv_at hl 5 rfl) ?_
        refine lv_iadd hx hb dX7_without_44 ?_
        obtain ⟨g5, hf⟩ := xgd hf
        refine x_iald E hw 1 0 rfl rfl (xin_vp g5) dX7_without_45 ?_
        refine lv_iconst (v := 1) hx hb dX7_without_46 (by decide) ?_
        refine lv_iload_n hx hb dX7_without_47 rfl (lv_at hl 2 rfl) ?_
        refine lv_ishl hx hb dX7_without_48 ?_
        refine lv_iconst (v := (-1)) hx hb dX7_without_49 (by decide) ?_
        refine lv_ixor hx hb dX7_without_50 ?_
        refine lv_iand hx hb dX7_without_51 ?_
        refine lv_goto (tgt := 64) hx hb dX7_without_52 (by decide) ?_
        exact b_X7_without_64 E ih  hf _ _ _ hw (lv_sub hl [0, 1, 2, 3, 4, 5] rfl)
def f_X7_without_8 (N : Nat) (x2 : Int32) (x3 : Int32) (mn : Int32) (st : (Nat → Int32)) : Nat → Int32 → Int32 → Option (Int32)
  | 0, _, _ => none
  | n + 1, x4, x5 =>
    if x4 = x5 then
     some x4
    else
     f_X7_without_22 (fun x4 x5 => f_X7_without_8 N x2 x3 mn st n x4 x5) x2 x3 x4 mn st N x4 0
set_option maxHeartbeats 4000000 in
set_option maxRecDepth 100000 in
theorem b_X7_without_8 {p : Program} {l : Launch} {e : Env} {s : State} {m : MethodId} {args : Array Value} {below : List Frame} {meth : Method} {c : Code} {D : va_G} {cI cZ cN cC : ClassId} {ws0 : va_W} {h0 h1 h2 h3 h4 h5 h6 h7 h8 h9 h10 h11 h12 h13 h14 h15 : Nat} {x2 : Int32} {x3 : Int32} {mn : Int32} {um : Int32} {len : Int32} {plc : Int32} {srt : Int32} {frm : Int32} {num : Int32} {wrg : Int32} {cm : Int32} {mpt : Int32} {st : (Nat → Int32)} {pst : (Nat → Int32)} {kep : (Nat → Int32)} {isk : (Nat → Int32)} {pil : (Nat → Int32)} {nxs : (Nat → Int32)} {txt : (Nat → Int32)} {cls : (Nat → Int32)} {asd : (Nat → Int32)} {opn : (Nat → Int32)} {byy : (Nat → Int32)} {twc : (Nat → Int32)} {szs : (Nat → Int32)} {sos : (Nat → Int32)} {ths : (Nat → Int32)} {N : Nat} {res : Int32} (E : xE p s m args meth c cX7_without 8 (some .int) RX7 D (xtys cI cZ cN cC) (xA ws0)) : ∀ (n : Nat) (x4 : Int32) (x5 : Int32), f_X7_without_8 N x2 x3 mn st n x4 x5 = some res → ∀ (H : Heap) (locs : List Loc) (ls : Array Slot), xw D (xA ws0) s.heap (wMod cI cZ cN cC h0 h1 h2 h3 h4 h5 h6 h7 h8 h9 h10 h11 h12 h13 h14 h15 mn um len plc srt frm num wrg cm mpt st pst kep isk pil nxs txt cls asd opn byy twc szs sos ths) H locs → lv_has ls 8 [(0, .ref h0), (2, .int x2), (3, .int x3), (4, .int x4), (5, .int x5)] → xG p l e 1 21 s m args below meth c D ws0 (wMod cI cZ cN cC h0 h1 h2 h3 h4 h5 h6 h7 h8 h9 h10 h11 h12 h13 h14 h15 mn um len plc srt frm num wrg cm mpt st pst kep isk pil nxs txt cls asd opn byy twc szs sos ths) (some (.int res)) H locs (F0 m 8 ls []) := by
  obtain ⟨hx, hb, -⟩ := id E
  intro n
  induction n with
  | zero =>
    intro _ _ hf
    rw [f_X7_without_8] at hf; cases hf
  | succ n ih =>
    intro x4 x5 hf H locs ls hw hl
    rw [f_X7_without_8] at hf
    refine lv_iload hx hb dX7_without_8 (lv_at hl 3 rfl) ?_
    refine lv_iload hx hb dX7_without_10 (lv_at hl 4 rfl) ?_
    refine lv_icmp_eq (tgt := 96) hx hb dX7_without_12 (by decide) (fun c1 => ?_) (fun c1 => ?_)
    · rw [if_pos c1] at hf
      refine lv_iload hx hb dX7_without_96 (lv_at hl 3 rfl) ?_
      have hf := Option.some.inj hf; subst hf
      exact x_iret E hw dX7_without_98
    · rw [if_neg c1] at hf
      refine lv_iload hx hb dX7_without_15 (lv_at hl 3 rfl) ?_
      refine lv_istore (lv' := [(5, .int x4), (0, .ref h0), (2, .int x2), (3, .int x3), (4, .int x4)]) hx hb dX7_without_17 hl (by decide) rfl (fun ls hl => ?_)
      refine lv_iconst (v := 0) hx hb dX7_without_19 (by decide) ?_
      refine lv_istore (lv' := [(6, .int 0), (5, .int x4), (0, .ref h0), (2, .int x2), (3, .int x3), (4, .int x4)]) hx hb dX7_without_20 hl (by decide) rfl (fun ls hl => ?_)
      exact b_X7_without_22 E ih N _ _ hf _ _ _ hw (lv_sub hl [2, 3, 4, 5, 1, 0] rfl)
def f_X7_without (N : Nat) (x1 : Int32) (x2 : Int32) (x3 : Int32) (mn : Int32) (st : (Nat → Int32)) : Option (Int32) :=
  f_X7_without_8 N x2 x3 mn st N (1 <<< (x1 &&& 31)) 0
set_option maxHeartbeats 4000000 in
set_option maxRecDepth 100000 in
theorem c_X7_without {l : Launch} {D : va_G} {cI cZ cN cC : ClassId} {h0 h1 h2 h3 h4 h5 h6 h7 h8 h9 h10 h11 h12 h13 h14 h15 : Nat} {mn : Int32} {um : Int32} {len : Int32} {plc : Int32} {srt : Int32} {frm : Int32} {num : Int32} {wrg : Int32} {cm : Int32} {mpt : Int32} {st : (Nat → Int32)} {pst : (Nat → Int32)} {kep : (Nat → Int32)} {isk : (Nat → Int32)} {pil : (Nat → Int32)} {nxs : (Nat → Int32)} {txt : (Nat → Int32)} {cls : (Nat → Int32)} {asd : (Nat → Int32)} {opn : (Nat → Int32)} {byy : (Nat → Int32)} {twc : (Nat → Int32)} {szs : (Nat → Int32)} {sos : (Nat → Int32)} {ths : (Nat → Int32)} {x1 : Int32} {x2 : Int32} {x3 : Int32} {N : Nat} {res : Int32} (hf : f_X7_without N x1 x2 x3 mn st = some res) : xMet l D (xtys cI cZ cN cC) yX7_without cX7_without 8 (some .int) 1 21 [.ref h0, .int x1, .int x2, .int x3] (wMod cI cZ cN cC h0 h1 h2 h3 h4 h5 h6 h7 h8 h9 h10 h11 h12 h13 h14 h15 mn um len plc srt frm num wrg cm mpt st pst kep isk pil nxs txt cls asd opn byy twc szs sos ths) (wMod cI cZ cN cC h0 h1 h2 h3 h4 h5 h6 h7 h8 h9 h10 h11 h12 h13 h14 h15 mn um len plc srt frm num wrg cm mpt st pst kep isk pil nxs txt cls asd opn byy twc szs sos ths) (some (.int res)) := by
  refine x_enter (by decide) (Nat.le_of_ble_eq_true rfl) ?_
  intro p e s m args below meth c E ls hl hw
  have E : xE p s m args meth c cX7_without 8 (some .int) RX7 D (xtys cI cZ cN cC) (xA (wMod cI cZ cN cC h0 h1 h2 h3 h4 h5 h6 h7 h8 h9 h10 h11 h12 h13 h14 h15 mn um len plc srt frm num wrg cm mpt st pst kep isk pil nxs txt cls asd opn byy twc szs sos ths)) := E
  obtain ⟨hx, hb, -⟩ := id E
  have hl : lv_has ls 8 [(0, .ref h0), (1, .int x1), (2, .int x2), (3, .int x3)] := hl
  unfold f_X7_without at hf
  refine lv_iconst (v := 1) hx hb dX7_without_0 (by decide) ?_
  refine lv_iload_n hx hb dX7_without_1 rfl (lv_at hl 1 rfl) ?_
  refine lv_ishl hx hb dX7_without_2 ?_
  refine lv_istore (lv' := [(4, .int (1 <<< (x1 &&& 31))), (0, .ref h0), (1, .int x1), (2, .int x2), (3, .int x3)]) hx hb dX7_without_3 hl (by decide) rfl (fun ls hl => ?_)
  refine lv_iconst (v := 0) hx hb dX7_without_5 (by decide) ?_
  refine lv_istore (lv' := [(5, .int 0), (4, .int (1 <<< (x1 &&& 31))), (0, .ref h0), (1, .int x1), (2, .int x2), (3, .int x3)]) hx hb dX7_without_6 hl (by decide) rfl (fun ls hl => ?_)
  exact b_X7_without_8 E N _ _ hf _ _ _ hw (lv_sub hl [2, 4, 5, 1, 0] rfl)

def f_X7_isNeedless (N : Nat) (x1 : Int32) (x2 : Int32) (mn : Int32) (st : (Nat → Int32)) : Option (Int32) :=
  (f_X7_without N x1 x1 x2 mn st).bind fun q1 =>
  some (f_X7_has q1 x2)
set_option maxHeartbeats 4000000 in
set_option maxRecDepth 100000 in
theorem c_X7_isNeedless {l : Launch} {D : va_G} {cI cZ cN cC : ClassId} {h0 h1 h2 h3 h4 h5 h6 h7 h8 h9 h10 h11 h12 h13 h14 h15 : Nat} {mn : Int32} {um : Int32} {len : Int32} {plc : Int32} {srt : Int32} {frm : Int32} {num : Int32} {wrg : Int32} {cm : Int32} {mpt : Int32} {st : (Nat → Int32)} {pst : (Nat → Int32)} {kep : (Nat → Int32)} {isk : (Nat → Int32)} {pil : (Nat → Int32)} {nxs : (Nat → Int32)} {txt : (Nat → Int32)} {cls : (Nat → Int32)} {asd : (Nat → Int32)} {opn : (Nat → Int32)} {byy : (Nat → Int32)} {twc : (Nat → Int32)} {szs : (Nat → Int32)} {sos : (Nat → Int32)} {ths : (Nat → Int32)} {x1 : Int32} {x2 : Int32} {N : Nat} {res : Int32} (hf : f_X7_isNeedless N x1 x2 mn st = some res) : xMet l D (xtys cI cZ cN cC) yX7_isNeedless cX7_isNeedless 3 (some .boolean) 2 48 [.ref h0, .int x1, .int x2] (wMod cI cZ cN cC h0 h1 h2 h3 h4 h5 h6 h7 h8 h9 h10 h11 h12 h13 h14 h15 mn um len plc srt frm num wrg cm mpt st pst kep isk pil nxs txt cls asd opn byy twc szs sos ths) (wMod cI cZ cN cC h0 h1 h2 h3 h4 h5 h6 h7 h8 h9 h10 h11 h12 h13 h14 h15 mn um len plc srt frm num wrg cm mpt st pst kep isk pil nxs txt cls asd opn byy twc szs sos ths) (some (.int res)) := by
  refine x_enter (by decide) (Nat.le_of_ble_eq_true rfl) ?_
  intro p e s m args below meth c E ls hl hw
  have E : xE p s m args meth c cX7_isNeedless 3 (some .boolean) RX7 D (xtys cI cZ cN cC) (xA (wMod cI cZ cN cC h0 h1 h2 h3 h4 h5 h6 h7 h8 h9 h10 h11 h12 h13 h14 h15 mn um len plc srt frm num wrg cm mpt st pst kep isk pil nxs txt cls asd opn byy twc szs sos ths)) := E
  obtain ⟨hx, hb, -⟩ := id E
  have hl : lv_has ls 3 [(0, .ref h0), (1, .int x1), (2, .int x2)] := hl
  unfold f_X7_isNeedless at hf
  refine lv_aload_n hx hb dX7_isNeedless_0 rfl (lv_at hl 0 rfl) ?_
  refine lv_iload_n hx hb dX7_isNeedless_1 rfl (lv_at hl 1 rfl) ?_
  refine lv_iload_n hx hb dX7_isNeedless_2 rfl (lv_at hl 1 rfl) ?_
  refine lv_iload_n hx hb dX7_isNeedless_3 rfl (lv_at hl 2 rfl) ?_
  obtain ⟨q1, hq1, hf⟩ := Option.bind_eq_some_iff.mp hf
  refine x_callVI (ws' := (wMod cI cZ cN cC h0 h1 h2 h3 h4 h5 h6 h7 h8 h9 h10 h11 h12 h13 h14 h15 mn um len plc srt frm num wrg cm mpt st pst kep isk pil nxs txt cls asd opn byy twc szs sos ths)) (st1 := [.int q1]) (As := [.int x1, .int x1, .int x2]) (rest := []) E hw vc_X7_200 (c_X7_without (cI := cI) (cZ := cZ) (cN := cN) (cC := cC) (h0 := h0) (h1 := h1) (h2 := h2) (h3 := h3) (h4 := h4) (h5 := h5) (h6 := h6) (h7 := h7) (h8 := h8) (h9 := h9) (h10 := h10) (h11 := h11) (h12 := h12) (h13 := h13) (h14 := h14) (h15 := h15)  (mn := mn) (um := um) (len := len) (plc := plc) (srt := srt) (frm := frm) (num := num) (wrg := wrg) (cm := cm) (mpt := mpt) (st := st) (pst := pst) (kep := kep) (isk := isk) (pil := pil) (nxs := nxs) (txt := txt) (cls := cls) (asd := asd) (opn := opn) (byy := byy) (twc := twc) (szs := szs) (sos := sos) (ths := ths) (x1 := x1) (x2 := x1) (x3 := x2) hq1) 0 7 rfl rfl rfl rfl rfl ⟨Nat.le_of_ble_eq_true rfl, Nat.le_of_ble_eq_true rfl⟩ ⟨Nat.le_refl _, Nat.le_refl _⟩ hl.1 rfl rfl (Nat.le_of_ble_eq_true rfl) dX7_isNeedless_4 (fun H locs hw => ?_)
  refine lv_iload_n hx hb dX7_isNeedless_7 rfl (lv_at hl 2 rfl) ?_
  refine x_callS (isC := []) (ws' := (wMod cI cZ cN cC h0 h1 h2 h3 h4 h5 h6 h7 h8 h9 h10 h11 h12 h13 h14 h15 mn um len plc srt frm num wrg cm mpt st pst kep isk pil nxs txt cls asd opn byy twc szs sos ths)) (st1 := [.int (f_X7_has q1 x2)]) (As := [.int q1, .int x2]) (rest := []) E hw vc_X7_78 (c_X7_has (cI := cI) (cZ := cZ) (cN := cN) (cC := cC)    (x0 := q1) (x1 := x2) rfl) rfl rfl rfl rfl rfl rfl ⟨Nat.le_of_ble_eq_true rfl, Nat.le_of_ble_eq_true rfl⟩ ⟨Nat.le_refl _, Nat.le_refl _⟩ hl.1 rfl rfl (Nat.le_of_ble_eq_true rfl) dX7_isNeedless_8 (fun H locs hw => ?_)
  have hf := Option.some.inj hf; subst hf
  exact x_zret E hw (xz_n z_X7_has) dX7_isNeedless_11

def f_X7_needless (N : Nat) (x1 : Int32) (x2 : Int32) (mn : Int32) (st : (Nat → Int32)) : Option (Int32) :=
  (f_X7_isArc x1 x2 mn st).bind fun q1 =>
  if q1 = 0 then
   some (-2)
  else
   (f_X7_isNeedless N x1 x2 mn st).bind fun q3 =>
   if q3 = 0 then
    some 0
   else
    some 1
set_option maxHeartbeats 4000000 in
set_option maxRecDepth 100000 in
theorem c_X7_needless {l : Launch} {D : va_G} {cI cZ cN cC : ClassId} {h0 h1 h2 h3 h4 h5 h6 h7 h8 h9 h10 h11 h12 h13 h14 h15 : Nat} {mn : Int32} {um : Int32} {len : Int32} {plc : Int32} {srt : Int32} {frm : Int32} {num : Int32} {wrg : Int32} {cm : Int32} {mpt : Int32} {st : (Nat → Int32)} {pst : (Nat → Int32)} {kep : (Nat → Int32)} {isk : (Nat → Int32)} {pil : (Nat → Int32)} {nxs : (Nat → Int32)} {txt : (Nat → Int32)} {cls : (Nat → Int32)} {asd : (Nat → Int32)} {opn : (Nat → Int32)} {byy : (Nat → Int32)} {twc : (Nat → Int32)} {szs : (Nat → Int32)} {sos : (Nat → Int32)} {ths : (Nat → Int32)} {x1 : Int32} {x2 : Int32} {N : Nat} {res : Int32} (hf : f_X7_needless N x1 x2 mn st = some res) : xMet l D (xtys cI cZ cN cC) yX7_needless cX7_needless 3 (some .int) 4 90 [.ref h0, .int x1, .int x2] (wMod cI cZ cN cC h0 h1 h2 h3 h4 h5 h6 h7 h8 h9 h10 h11 h12 h13 h14 h15 mn um len plc srt frm num wrg cm mpt st pst kep isk pil nxs txt cls asd opn byy twc szs sos ths) (wMod cI cZ cN cC h0 h1 h2 h3 h4 h5 h6 h7 h8 h9 h10 h11 h12 h13 h14 h15 mn um len plc srt frm num wrg cm mpt st pst kep isk pil nxs txt cls asd opn byy twc szs sos ths) (some (.int res)) := by
  refine x_enter (by decide) (Nat.le_of_ble_eq_true rfl) ?_
  intro p e s m args below meth c E ls hl hw
  have E : xE p s m args meth c cX7_needless 3 (some .int) RX7 D (xtys cI cZ cN cC) (xA (wMod cI cZ cN cC h0 h1 h2 h3 h4 h5 h6 h7 h8 h9 h10 h11 h12 h13 h14 h15 mn um len plc srt frm num wrg cm mpt st pst kep isk pil nxs txt cls asd opn byy twc szs sos ths)) := E
  obtain ⟨hx, hb, -⟩ := id E
  have hl : lv_has ls 3 [(0, .ref h0), (1, .int x1), (2, .int x2)] := hl
  unfold f_X7_needless at hf
  refine lv_aload_n hx hb dX7_needless_0 rfl (lv_at hl 0 rfl) ?_
  refine lv_iload_n hx hb dX7_needless_1 rfl (lv_at hl 1 rfl) ?_
  refine lv_iload_n hx hb dX7_needless_2 rfl (lv_at hl 2 rfl) ?_
  obtain ⟨q1, hq1, hf⟩ := Option.bind_eq_some_iff.mp hf
  refine x_callVI (ws' := (wMod cI cZ cN cC h0 h1 h2 h3 h4 h5 h6 h7 h8 h9 h10 h11 h12 h13 h14 h15 mn um len plc srt frm num wrg cm mpt st pst kep isk pil nxs txt cls asd opn byy twc szs sos ths)) (st1 := [.int q1]) (As := [.int x1, .int x2]) (rest := []) E hw vc_X7_171 (c_X7_isArc (cI := cI) (cZ := cZ) (cN := cN) (cC := cC) (h0 := h0) (h1 := h1) (h2 := h2) (h3 := h3) (h4 := h4) (h5 := h5) (h6 := h6) (h7 := h7) (h8 := h8) (h9 := h9) (h10 := h10) (h11 := h11) (h12 := h12) (h13 := h13) (h14 := h14) (h15 := h15)  (mn := mn) (um := um) (len := len) (plc := plc) (srt := srt) (frm := frm) (num := num) (wrg := wrg) (cm := cm) (mpt := mpt) (st := st) (pst := pst) (kep := kep) (isk := isk) (pil := pil) (nxs := nxs) (txt := txt) (cls := cls) (asd := asd) (opn := opn) (byy := byy) (twc := twc) (szs := szs) (sos := sos) (ths := ths) (x1 := x1) (x2 := x2) hq1) 0 7 rfl rfl rfl rfl rfl ⟨Nat.le_of_ble_eq_true rfl, Nat.le_of_ble_eq_true rfl⟩ ⟨Nat.le_refl _, Nat.le_refl _⟩ hl.1 rfl rfl (Nat.le_of_ble_eq_true rfl) dX7_needless_3 (fun H locs hw => ?_)
  refine lv_if_ne (tgt := 14) hx hb dX7_needless_6 (by decide) (fun c2 => ?_) (fun c2 => ?_)
  · rw [if_neg c2] at hf
    refine lv_aload_n hx hb dX7_needless_14 rfl (lv_at hl 0 rfl) ?_
    refine lv_iload_n hx hb dX7_needless_15 rfl (lv_at hl 1 rfl) ?_
    refine lv_iload_n hx hb dX7_needless_16 rfl (lv_at hl 2 rfl) ?_
    obtain ⟨q3, hq3, hf⟩ := Option.bind_eq_some_iff.mp hf
    refine x_callVI (ws' := (wMod cI cZ cN cC h0 h1 h2 h3 h4 h5 h6 h7 h8 h9 h10 h11 h12 h13 h14 h15 mn um len plc srt frm num wrg cm mpt st pst kep isk pil nxs txt cls asd opn byy twc szs sos ths)) (st1 := [.int q3]) (As := [.int x1, .int x2]) (rest := []) E hw vc_X7_204 (c_X7_isNeedless (cI := cI) (cZ := cZ) (cN := cN) (cC := cC) (h0 := h0) (h1 := h1) (h2 := h2) (h3 := h3) (h4 := h4) (h5 := h5) (h6 := h6) (h7 := h7) (h8 := h8) (h9 := h9) (h10 := h10) (h11 := h11) (h12 := h12) (h13 := h13) (h14 := h14) (h15 := h15)  (mn := mn) (um := um) (len := len) (plc := plc) (srt := srt) (frm := frm) (num := num) (wrg := wrg) (cm := cm) (mpt := mpt) (st := st) (pst := pst) (kep := kep) (isk := isk) (pil := pil) (nxs := nxs) (txt := txt) (cls := cls) (asd := asd) (opn := opn) (byy := byy) (twc := twc) (szs := szs) (sos := sos) (ths := ths) (x1 := x1) (x2 := x2) hq3) 0 7 rfl rfl rfl rfl rfl ⟨Nat.le_of_ble_eq_true rfl, Nat.le_of_ble_eq_true rfl⟩ ⟨Nat.le_refl _, Nat.le_refl _⟩ hl.1 rfl rfl (Nat.le_of_ble_eq_true rfl) dX7_needless_17 (fun H locs hw => ?_)
    refine lv_if_eq (tgt := 27) hx hb dX7_needless_20 (by decide) (fun c4 => ?_) (fun c4 => ?_)
    · rw [if_pos c4] at hf
      refine lv_iconst (v := 0) hx hb dX7_needless_27 (by decide) ?_
      have hf := Option.some.inj hf; subst hf
      exact x_iret E hw dX7_needless_28
    · rw [if_neg c4] at hf
      refine lv_iconst (v := 1) hx hb dX7_needless_23 (by decide) ?_
      refine lv_goto (tgt := 28) hx hb dX7_needless_24 (by decide) ?_
      have hf := Option.some.inj hf; subst hf
      exact x_iret E hw dX7_needless_28
  · rw [if_pos c2] at hf
    refine lv_bipush (v := (-2)) hx hb dX7_needless_9 (by decide) ?_
    refine lv_goto (tgt := 28) hx hb dX7_needless_11 (by decide) ?_
    have hf := Option.some.inj hf; subst hf
    exact x_iret E hw dX7_needless_28

def f_X7_needlessMany_14 (k4 : Int32 → Int32 → Option (Int32)) (N : Nat) (x2 : Int32) (mn : Int32) (st : (Nat → Int32)) : Nat → Int32 → Int32 → Option (Int32)
  | 0, _, _ => none
  | n + 1, x1, x3 =>
    if mn ≤ x3 then
     k4 x1 (x2 + 1)
    else
     (f_X7_isArc x2 x3 mn st).bind fun q3 =>
     if q3 = 0 then
      f_X7_needlessMany_14 k4 N x2 mn st n (x1 + 0) (x3 + 1)
     else
      (f_X7_isNeedless N x2 x3 mn st).bind fun q5 =>
      if q5 = 0 then
       f_X7_needlessMany_14 k4 N x2 mn st n (x1 + 0) (x3 + 1)
      else
       f_X7_needlessMany_14 k4 N x2 mn st n (x1 + 1) (x3 + 1)
set_option maxHeartbeats 4000000 in
set_option maxRecDepth 100000 in
theorem b_X7_needlessMany_14 {p : Program} {l : Launch} {e : Env} {s : State} {m : MethodId} {args : Array Value} {below : List Frame} {meth : Method} {c : Code} {D : va_G} {cI cZ cN cC : ClassId} {ws0 : va_W} {h0 h1 h2 h3 h4 h5 h6 h7 h8 h9 h10 h11 h12 h13 h14 h15 : Nat} {x2 : Int32} {mn : Int32} {um : Int32} {len : Int32} {plc : Int32} {srt : Int32} {frm : Int32} {num : Int32} {wrg : Int32} {cm : Int32} {mpt : Int32} {st : (Nat → Int32)} {pst : (Nat → Int32)} {kep : (Nat → Int32)} {isk : (Nat → Int32)} {pil : (Nat → Int32)} {nxs : (Nat → Int32)} {txt : (Nat → Int32)} {cls : (Nat → Int32)} {asd : (Nat → Int32)} {opn : (Nat → Int32)} {byy : (Nat → Int32)} {twc : (Nat → Int32)} {szs : (Nat → Int32)} {sos : (Nat → Int32)} {ths : (Nat → Int32)} {N : Nat} {res : Int32} (E : xE p s m args meth c cX7_needlessMany 4 (some .int) RX7 D (xtys cI cZ cN cC) (xA ws0)) {k4 : Int32 → Int32 → Option (Int32)} (hk4 : ∀ (x1 : Int32) (x2 : Int32), k4 x1 x2 = some res → ∀ (H : Heap) (locs : List Loc) (ls : Array Slot), xw D (xA ws0) s.heap (wMod cI cZ cN cC h0 h1 h2 h3 h4 h5 h6 h7 h8 h9 h10 h11 h12 h13 h14 h15 mn um len plc srt frm num wrg cm mpt st pst kep isk pil nxs txt cls asd opn byy twc szs sos ths) H locs → lv_has ls 4 [(0, .ref h0), (1, .int x1), (2, .int x2)] → xG p l e 4 90 s m args below meth c D ws0 (wMod cI cZ cN cC h0 h1 h2 h3 h4 h5 h6 h7 h8 h9 h10 h11 h12 h13 h14 h15 mn um len plc srt frm num wrg cm mpt st pst kep isk pil nxs txt cls asd opn byy twc szs sos ths) (some (.int res)) H locs (F0 m 4 ls [])) : ∀ (n : Nat) (x1 : Int32) (x3 : Int32), f_X7_needlessMany_14 k4 N x2 mn st n x1 x3 = some res → ∀ (H : Heap) (locs : List Loc) (ls : Array Slot), xw D (xA ws0) s.heap (wMod cI cZ cN cC h0 h1 h2 h3 h4 h5 h6 h7 h8 h9 h10 h11 h12 h13 h14 h15 mn um len plc srt frm num wrg cm mpt st pst kep isk pil nxs txt cls asd opn byy twc szs sos ths) H locs → lv_has ls 4 [(0, .ref h0), (1, .int x1), (2, .int x2), (3, .int x3)] → xG p l e 4 90 s m args below meth c D ws0 (wMod cI cZ cN cC h0 h1 h2 h3 h4 h5 h6 h7 h8 h9 h10 h11 h12 h13 h14 h15 mn um len plc srt frm num wrg cm mpt st pst kep isk pil nxs txt cls asd opn byy twc szs sos ths) (some (.int res)) H locs (F0 m 14 ls []) := by
  obtain ⟨hx, hb, -⟩ := id E
  intro n
  induction n with
  | zero =>
    intro _ _ hf
    rw [f_X7_needlessMany_14] at hf; cases hf
  | succ n ih =>
    intro x1 x3 hf H locs ls hw hl
    rw [f_X7_needlessMany_14] at hf
    refine lv_iload_n hx hb dX7_needlessMany_14 rfl (lv_at hl 3 rfl) ?_
    refine lv_aload_n hx hb dX7_needlessMany_15 rfl (lv_at hl 0 rfl) ?_
    refine x_get E hw kin_X7 0 rfl rfl 0 (by decide) kF_X7_7 (v := .int mn) rfl dX7_needlessMany_16 ?_
    refine lv_icmp_ge (tgt := 54) hx hb dX7_needlessMany_19 (by decide) (fun c2 => ?_) (fun c2 => ?_)
    · rw [if_pos c2] at hf
      refine lv_iinc (v := (x2 + 1)) (lv' := [(2, .int (x2 + 1)), (0, .ref h0), (1, .int x1), (3, .int x3)]) hx hb dX7_needlessMany_54 hl (k := 2) rfl rfl (by decide) rfl (fun ls hl => ?_)
      refine lv_goto (tgt := 4) hx hb dX7_needlessMany_57 (by decide) ?_
      exact hk4 _ _ hf _ _ _ hw (lv_sub hl [1, 2, 0] rfl)
    · rw [if_neg c2] at hf
      refine lv_iload_n hx hb dX7_needlessMany_22 rfl (lv_at hl 1 rfl) ?_
      refine lv_aload_n hx hb dX7_needlessMany_23 rfl (lv_at hl 0 rfl) ?_
      refine lv_iload_n hx hb dX7_needlessMany_24 rfl (lv_at hl 2 rfl) ?_
      refine lv_iload_n hx hb dX7_needlessMany_25 rfl (lv_at hl 3 rfl) ?_
      obtain ⟨q3, hq3, hf⟩ := Option.bind_eq_some_iff.mp hf
      refine x_callVI (ws' := (wMod cI cZ cN cC h0 h1 h2 h3 h4 h5 h6 h7 h8 h9 h10 h11 h12 h13 h14 h15 mn um len plc srt frm num wrg cm mpt st pst kep isk pil nxs txt cls asd opn byy twc szs sos ths)) (st1 := [.int q3, .int x1]) (As := [.int x2, .int x3]) (rest := [.int x1]) E hw vc_X7_171 (c_X7_isArc (cI := cI) (cZ := cZ) (cN := cN) (cC := cC) (h0 := h0) (h1 := h1) (h2 := h2) (h3 := h3) (h4 := h4) (h5 := h5) (h6 := h6) (h7 := h7) (h8 := h8) (h9 := h9) (h10 := h10) (h11 := h11) (h12 := h12) (h13 := h13) (h14 := h14) (h15 := h15)  (mn := mn) (um := um) (len := len) (plc := plc) (srt := srt) (frm := frm) (num := num) (wrg := wrg) (cm := cm) (mpt := mpt) (st := st) (pst := pst) (kep := kep) (isk := isk) (pil := pil) (nxs := nxs) (txt := txt) (cls := cls) (asd := asd) (opn := opn) (byy := byy) (twc := twc) (szs := szs) (sos := sos) (ths := ths) (x1 := x2) (x2 := x3) hq3) 0 7 rfl rfl rfl rfl rfl ⟨Nat.le_of_ble_eq_true rfl, Nat.le_of_ble_eq_true rfl⟩ ⟨Nat.le_refl _, Nat.le_refl _⟩ hl.1 rfl rfl (Nat.le_of_ble_eq_true rfl) dX7_needlessMany_26 (fun H locs hw => ?_)
      refine lv_if_eq (tgt := 45) hx hb dX7_needlessMany_29 (by decide) (fun c4 => ?_) (fun c4 => ?_)
      · rw [if_pos c4] at hf
        refine lv_iconst (v := 0) hx hb dX7_needlessMany_45 (by decide) ?_
        refine lv_iadd hx hb dX7_needlessMany_46 ?_
        refine lv_istore_n (lv' := [(1, .int (x1 + 0)), (0, .ref h0), (2, .int x2), (3, .int x3)]) hx hb dX7_needlessMany_47 rfl hl (by decide) rfl (fun ls hl => ?_)
        refine lv_iinc (v := (x3 + 1)) (lv' := [(3, .int (x3 + 1)), (1, .int (x1 + 0)), (0, .ref h0), (2, .int x2)]) hx hb dX7_needlessMany_48 hl (k := 3) rfl rfl (by decide) rfl (fun ls hl => ?_)
        refine lv_goto (tgt := 14) hx hb dX7_needlessMany_51 (by decide) ?_
        exact ih _ _ hf _ _ _ hw (lv_sub hl [2, 1, 3, 0] rfl)
      · rw [if_neg c4] at hf
        refine lv_aload_n hx hb dX7_needlessMany_32 rfl (lv_at hl 0 rfl) ?_
        refine lv_iload_n hx hb dX7_needlessMany_33 rfl (lv_at hl 2 rfl) ?_
        refine lv_iload_n hx hb dX7_needlessMany_34 rfl (lv_at hl 3 rfl) ?_
        obtain ⟨q5, hq5, hf⟩ := Option.bind_eq_some_iff.mp hf
        refine x_callVI (ws' := (wMod cI cZ cN cC h0 h1 h2 h3 h4 h5 h6 h7 h8 h9 h10 h11 h12 h13 h14 h15 mn um len plc srt frm num wrg cm mpt st pst kep isk pil nxs txt cls asd opn byy twc szs sos ths)) (st1 := [.int q5, .int x1]) (As := [.int x2, .int x3]) (rest := [.int x1]) E hw vc_X7_204 (c_X7_isNeedless (cI := cI) (cZ := cZ) (cN := cN) (cC := cC) (h0 := h0) (h1 := h1) (h2 := h2) (h3 := h3) (h4 := h4) (h5 := h5) (h6 := h6) (h7 := h7) (h8 := h8) (h9 := h9) (h10 := h10) (h11 := h11) (h12 := h12) (h13 := h13) (h14 := h14) (h15 := h15)  (mn := mn) (um := um) (len := len) (plc := plc) (srt := srt) (frm := frm) (num := num) (wrg := wrg) (cm := cm) (mpt := mpt) (st := st) (pst := pst) (kep := kep) (isk := isk) (pil := pil) (nxs := nxs) (txt := txt) (cls := cls) (asd := asd) (opn := opn) (byy := byy) (twc := twc) (szs := szs) (sos := sos) (ths := ths) (x1 := x2) (x2 := x3) hq5) 0 7 rfl rfl rfl rfl rfl ⟨Nat.le_of_ble_eq_true rfl, Nat.le_of_ble_eq_true rfl⟩ ⟨Nat.le_refl _, Nat.le_refl _⟩ hl.1 rfl rfl (Nat.le_of_ble_eq_true rfl) dX7_needlessMany_35 (fun H locs hw => ?_)
        refine lv_if_eq (tgt := 45) hx hb dX7_needlessMany_38 (by decide) (fun c6 => ?_) (fun c6 => ?_)
        · rw [if_pos c6] at hf
          refine lv_iconst (v := 0) hx hb dX7_needlessMany_45 (by decide) ?_
          refine lv_iadd hx hb dX7_needlessMany_46 ?_
          refine lv_istore_n (lv' := [(1, .int (x1 + 0)), (0, .ref h0), (2, .int x2), (3, .int x3)]) hx hb dX7_needlessMany_47 rfl hl (by decide) rfl (fun ls hl => ?_)
          refine lv_iinc (v := (x3 + 1)) (lv' := [(3, .int (x3 + 1)), (1, .int (x1 + 0)), (0, .ref h0), (2, .int x2)]) hx hb dX7_needlessMany_48 hl (k := 3) rfl rfl (by decide) rfl (fun ls hl => ?_)
          refine lv_goto (tgt := 14) hx hb dX7_needlessMany_51 (by decide) ?_
          exact ih _ _ hf _ _ _ hw (lv_sub hl [2, 1, 3, 0] rfl)
        · rw [if_neg c6] at hf
          refine lv_iconst (v := 1) hx hb dX7_needlessMany_41 (by decide) ?_
          refine lv_goto (tgt := 46) hx hb dX7_needlessMany_42 (by decide) ?_
          refine lv_iadd hx hb dX7_needlessMany_46 ?_
          refine lv_istore_n (lv' := [(1, .int (x1 + 1)), (0, .ref h0), (2, .int x2), (3, .int x3)]) hx hb dX7_needlessMany_47 rfl hl (by decide) rfl (fun ls hl => ?_)
          refine lv_iinc (v := (x3 + 1)) (lv' := [(3, .int (x3 + 1)), (1, .int (x1 + 1)), (0, .ref h0), (2, .int x2)]) hx hb dX7_needlessMany_48 hl (k := 3) rfl rfl (by decide) rfl (fun ls hl => ?_)
          refine lv_goto (tgt := 14) hx hb dX7_needlessMany_51 (by decide) ?_
          exact ih _ _ hf _ _ _ hw (lv_sub hl [2, 1, 3, 0] rfl)
def f_X7_needlessMany_4 (N : Nat) (mn : Int32) (st : (Nat → Int32)) : Nat → Int32 → Int32 → Option (Int32)
  | 0, _, _ => none
  | n + 1, x1, x2 =>
    if mn ≤ x2 then
     some x1
    else
     f_X7_needlessMany_14 (fun x1 x2 => f_X7_needlessMany_4 N mn st n x1 x2) N x2 mn st N x1 0
set_option maxHeartbeats 4000000 in
set_option maxRecDepth 100000 in
theorem b_X7_needlessMany_4 {p : Program} {l : Launch} {e : Env} {s : State} {m : MethodId} {args : Array Value} {below : List Frame} {meth : Method} {c : Code} {D : va_G} {cI cZ cN cC : ClassId} {ws0 : va_W} {h0 h1 h2 h3 h4 h5 h6 h7 h8 h9 h10 h11 h12 h13 h14 h15 : Nat} {mn : Int32} {um : Int32} {len : Int32} {plc : Int32} {srt : Int32} {frm : Int32} {num : Int32} {wrg : Int32} {cm : Int32} {mpt : Int32} {st : (Nat → Int32)} {pst : (Nat → Int32)} {kep : (Nat → Int32)} {isk : (Nat → Int32)} {pil : (Nat → Int32)} {nxs : (Nat → Int32)} {txt : (Nat → Int32)} {cls : (Nat → Int32)} {asd : (Nat → Int32)} {opn : (Nat → Int32)} {byy : (Nat → Int32)} {twc : (Nat → Int32)} {szs : (Nat → Int32)} {sos : (Nat → Int32)} {ths : (Nat → Int32)} {N : Nat} {res : Int32} (E : xE p s m args meth c cX7_needlessMany 4 (some .int) RX7 D (xtys cI cZ cN cC) (xA ws0)) : ∀ (n : Nat) (x1 : Int32) (x2 : Int32), f_X7_needlessMany_4 N mn st n x1 x2 = some res → ∀ (H : Heap) (locs : List Loc) (ls : Array Slot), xw D (xA ws0) s.heap (wMod cI cZ cN cC h0 h1 h2 h3 h4 h5 h6 h7 h8 h9 h10 h11 h12 h13 h14 h15 mn um len plc srt frm num wrg cm mpt st pst kep isk pil nxs txt cls asd opn byy twc szs sos ths) H locs → lv_has ls 4 [(0, .ref h0), (1, .int x1), (2, .int x2)] → xG p l e 4 90 s m args below meth c D ws0 (wMod cI cZ cN cC h0 h1 h2 h3 h4 h5 h6 h7 h8 h9 h10 h11 h12 h13 h14 h15 mn um len plc srt frm num wrg cm mpt st pst kep isk pil nxs txt cls asd opn byy twc szs sos ths) (some (.int res)) H locs (F0 m 4 ls []) := by
  obtain ⟨hx, hb, -⟩ := id E
  intro n
  induction n with
  | zero =>
    intro _ _ hf
    rw [f_X7_needlessMany_4] at hf; cases hf
  | succ n ih =>
    intro x1 x2 hf H locs ls hw hl
    rw [f_X7_needlessMany_4] at hf
    refine lv_iload_n hx hb dX7_needlessMany_4 rfl (lv_at hl 2 rfl) ?_
    refine lv_aload_n hx hb dX7_needlessMany_5 rfl (lv_at hl 0 rfl) ?_
    refine x_get E hw kin_X7 0 rfl rfl 0 (by decide) kF_X7_7 (v := .int mn) rfl dX7_needlessMany_6 ?_
    refine lv_icmp_ge (tgt := 60) hx hb dX7_needlessMany_9 (by decide) (fun c1 => ?_) (fun c1 => ?_)
    · rw [if_pos c1] at hf
      refine lv_iload_n hx hb dX7_needlessMany_60 rfl (lv_at hl 1 rfl) ?_
      have hf := Option.some.inj hf; subst hf
      exact x_iret E hw dX7_needlessMany_61
    · rw [if_neg c1] at hf
      refine lv_iconst (v := 0) hx hb dX7_needlessMany_12 (by decide) ?_
      refine lv_istore_n (lv' := [(3, .int 0), (0, .ref h0), (1, .int x1), (2, .int x2)]) hx hb dX7_needlessMany_13 rfl hl (by decide) rfl (fun ls hl => ?_)
      exact b_X7_needlessMany_14 E ih N _ _ hf _ _ _ hw (lv_sub hl [1, 2, 3, 0] rfl)
def f_X7_needlessMany (N : Nat) (mn : Int32) (st : (Nat → Int32)) : Option (Int32) :=
  f_X7_needlessMany_4 N mn st N 0 0
set_option maxHeartbeats 4000000 in
set_option maxRecDepth 100000 in
theorem c_X7_needlessMany {l : Launch} {D : va_G} {cI cZ cN cC : ClassId} {h0 h1 h2 h3 h4 h5 h6 h7 h8 h9 h10 h11 h12 h13 h14 h15 : Nat} {mn : Int32} {um : Int32} {len : Int32} {plc : Int32} {srt : Int32} {frm : Int32} {num : Int32} {wrg : Int32} {cm : Int32} {mpt : Int32} {st : (Nat → Int32)} {pst : (Nat → Int32)} {kep : (Nat → Int32)} {isk : (Nat → Int32)} {pil : (Nat → Int32)} {nxs : (Nat → Int32)} {txt : (Nat → Int32)} {cls : (Nat → Int32)} {asd : (Nat → Int32)} {opn : (Nat → Int32)} {byy : (Nat → Int32)} {twc : (Nat → Int32)} {szs : (Nat → Int32)} {sos : (Nat → Int32)} {ths : (Nat → Int32)}  {N : Nat} {res : Int32} (hf : f_X7_needlessMany N mn st = some res) : xMet l D (xtys cI cZ cN cC) yX7_needlessMany cX7_needlessMany 4 (some .int) 4 90 [.ref h0] (wMod cI cZ cN cC h0 h1 h2 h3 h4 h5 h6 h7 h8 h9 h10 h11 h12 h13 h14 h15 mn um len plc srt frm num wrg cm mpt st pst kep isk pil nxs txt cls asd opn byy twc szs sos ths) (wMod cI cZ cN cC h0 h1 h2 h3 h4 h5 h6 h7 h8 h9 h10 h11 h12 h13 h14 h15 mn um len plc srt frm num wrg cm mpt st pst kep isk pil nxs txt cls asd opn byy twc szs sos ths) (some (.int res)) := by
  refine x_enter (by decide) (Nat.le_of_ble_eq_true rfl) ?_
  intro p e s m args below meth c E ls hl hw
  have E : xE p s m args meth c cX7_needlessMany 4 (some .int) RX7 D (xtys cI cZ cN cC) (xA (wMod cI cZ cN cC h0 h1 h2 h3 h4 h5 h6 h7 h8 h9 h10 h11 h12 h13 h14 h15 mn um len plc srt frm num wrg cm mpt st pst kep isk pil nxs txt cls asd opn byy twc szs sos ths)) := E
  obtain ⟨hx, hb, -⟩ := id E
  have hl : lv_has ls 4 [(0, .ref h0)] := hl
  unfold f_X7_needlessMany at hf
  refine lv_iconst (v := 0) hx hb dX7_needlessMany_0 (by decide) ?_
  refine lv_istore_n (lv' := [(1, .int 0), (0, .ref h0)]) hx hb dX7_needlessMany_1 rfl hl (by decide) rfl (fun ls hl => ?_)
  refine lv_iconst (v := 0) hx hb dX7_needlessMany_2 (by decide) ?_
  refine lv_istore_n (lv' := [(2, .int 0), (1, .int 0), (0, .ref h0)]) hx hb dX7_needlessMany_3 rfl hl (by decide) rfl (fun ls hl => ?_)
  exact b_X7_needlessMany_4 E N _ _ hf _ _ _ hw (lv_sub hl [2, 1, 0] rfl)

def f_X7_rings_4 (N : Nat) (mn : Int32) (st : (Nat → Int32)) : Nat → Int32 → Int32 → Option (Int32)
  | 0, _, _ => none
  | n + 1, x1, x2 =>
    if mn ≤ x2 then
     some x1
    else
     (f_X7_ringOf N x2 mn st).bind fun q2 =>
     if (q2 &&& ((1 <<< (x2 &&& 31)) - 1)) = 0 then
      f_X7_rings_4 N mn st n (x1 + 1) (x2 + 1)
     else
      f_X7_rings_4 N mn st n (x1 + 0) (x2 + 1)
set_option maxHeartbeats 4000000 in
set_option maxRecDepth 100000 in
theorem b_X7_rings_4 {p : Program} {l : Launch} {e : Env} {s : State} {m : MethodId} {args : Array Value} {below : List Frame} {meth : Method} {c : Code} {D : va_G} {cI cZ cN cC : ClassId} {ws0 : va_W} {h0 h1 h2 h3 h4 h5 h6 h7 h8 h9 h10 h11 h12 h13 h14 h15 : Nat} {mn : Int32} {um : Int32} {len : Int32} {plc : Int32} {srt : Int32} {frm : Int32} {num : Int32} {wrg : Int32} {cm : Int32} {mpt : Int32} {st : (Nat → Int32)} {pst : (Nat → Int32)} {kep : (Nat → Int32)} {isk : (Nat → Int32)} {pil : (Nat → Int32)} {nxs : (Nat → Int32)} {txt : (Nat → Int32)} {cls : (Nat → Int32)} {asd : (Nat → Int32)} {opn : (Nat → Int32)} {byy : (Nat → Int32)} {twc : (Nat → Int32)} {szs : (Nat → Int32)} {sos : (Nat → Int32)} {ths : (Nat → Int32)} {N : Nat} {res : Int32} (E : xE p s m args meth c cX7_rings 3 (some .int) RX7 D (xtys cI cZ cN cC) (xA ws0)) : ∀ (n : Nat) (x1 : Int32) (x2 : Int32), f_X7_rings_4 N mn st n x1 x2 = some res → ∀ (H : Heap) (locs : List Loc) (ls : Array Slot), xw D (xA ws0) s.heap (wMod cI cZ cN cC h0 h1 h2 h3 h4 h5 h6 h7 h8 h9 h10 h11 h12 h13 h14 h15 mn um len plc srt frm num wrg cm mpt st pst kep isk pil nxs txt cls asd opn byy twc szs sos ths) H locs → lv_has ls 3 [(0, .ref h0), (1, .int x1), (2, .int x2)] → xG p l e 3 66 s m args below meth c D ws0 (wMod cI cZ cN cC h0 h1 h2 h3 h4 h5 h6 h7 h8 h9 h10 h11 h12 h13 h14 h15 mn um len plc srt frm num wrg cm mpt st pst kep isk pil nxs txt cls asd opn byy twc szs sos ths) (some (.int res)) H locs (F0 m 4 ls []) := by
  obtain ⟨hx, hb, -⟩ := id E
  intro n
  induction n with
  | zero =>
    intro _ _ hf
    rw [f_X7_rings_4] at hf; cases hf
  | succ n ih =>
    intro x1 x2 hf H locs ls hw hl
    rw [f_X7_rings_4] at hf
    refine lv_iload_n hx hb dX7_rings_4 rfl (lv_at hl 2 rfl) ?_
    refine lv_aload_n hx hb dX7_rings_5 rfl (lv_at hl 0 rfl) ?_
    refine x_get E hw kin_X7 0 rfl rfl 0 (by decide) kF_X7_7 (v := .int mn) rfl dX7_rings_6 ?_
    refine lv_icmp_ge (tgt := 40) hx hb dX7_rings_9 (by decide) (fun c1 => ?_) (fun c1 => ?_)
    · rw [if_pos c1] at hf
      refine lv_iload_n hx hb dX7_rings_40 rfl (lv_at hl 1 rfl) ?_
      have hf := Option.some.inj hf; subst hf
      exact x_iret E hw dX7_rings_41
    · rw [if_neg c1] at hf
      refine lv_iload_n hx hb dX7_rings_12 rfl (lv_at hl 1 rfl) ?_
      refine lv_aload_n hx hb dX7_rings_13 rfl (lv_at hl 0 rfl) ?_
      refine lv_iload_n hx hb dX7_rings_14 rfl (lv_at hl 2 rfl) ?_
      obtain ⟨q2, hq2, hf⟩ := Option.bind_eq_some_iff.mp hf
      refine x_callVI (ws' := (wMod cI cZ cN cC h0 h1 h2 h3 h4 h5 h6 h7 h8 h9 h10 h11 h12 h13 h14 h15 mn um len plc srt frm num wrg cm mpt st pst kep isk pil nxs txt cls asd opn byy twc szs sos ths)) (st1 := [.int q2, .int x1]) (As := [.int x2]) (rest := [.int x1]) E hw vc_X7_197 (c_X7_ringOf (cI := cI) (cZ := cZ) (cN := cN) (cC := cC) (h0 := h0) (h1 := h1) (h2 := h2) (h3 := h3) (h4 := h4) (h5 := h5) (h6 := h6) (h7 := h7) (h8 := h8) (h9 := h9) (h10 := h10) (h11 := h11) (h12 := h12) (h13 := h13) (h14 := h14) (h15 := h15)  (mn := mn) (um := um) (len := len) (plc := plc) (srt := srt) (frm := frm) (num := num) (wrg := wrg) (cm := cm) (mpt := mpt) (st := st) (pst := pst) (kep := kep) (isk := isk) (pil := pil) (nxs := nxs) (txt := txt) (cls := cls) (asd := asd) (opn := opn) (byy := byy) (twc := twc) (szs := szs) (sos := sos) (ths := ths) (x1 := x2) hq2) 0 7 rfl rfl rfl rfl rfl ⟨Nat.le_of_ble_eq_true rfl, Nat.le_of_ble_eq_true rfl⟩ ⟨Nat.le_refl _, Nat.le_refl _⟩ hl.1 rfl rfl (Nat.le_of_ble_eq_true rfl) dX7_rings_15 (fun H locs hw => ?_)
      refine lv_iconst (v := 1) hx hb dX7_rings_18 (by decide) ?_
      refine lv_iload_n hx hb dX7_rings_19 rfl (lv_at hl 2 rfl) ?_
      refine lv_ishl hx hb dX7_rings_20 ?_
      refine lv_iconst (v := 1) hx hb dX7_rings_21 (by decide) ?_
      refine lv_isub hx hb dX7_rings_22 ?_
      refine lv_iand hx hb dX7_rings_23 ?_
      refine lv_if_ne (tgt := 31) hx hb dX7_rings_24 (by decide) (fun c3 => ?_) (fun c3 => ?_)
      · rw [if_neg c3] at hf
        refine lv_iconst (v := 0) hx hb dX7_rings_31 (by decide) ?_
        refine lv_iadd hx hb dX7_rings_32 ?_
        refine lv_istore_n (lv' := [(1, .int (x1 + 0)), (0, .ref h0), (2, .int x2)]) hx hb dX7_rings_33 rfl hl (by decide) rfl (fun ls hl => ?_)
        refine lv_iinc (v := (x2 + 1)) (lv' := [(2, .int (x2 + 1)), (1, .int (x1 + 0)), (0, .ref h0)]) hx hb dX7_rings_34 hl (k := 2) rfl rfl (by decide) rfl (fun ls hl => ?_)
        refine lv_goto (tgt := 4) hx hb dX7_rings_37 (by decide) ?_
        exact ih _ _ hf _ _ _ hw (lv_sub hl [2, 1, 0] rfl)
      · rw [if_pos c3] at hf
        refine lv_iconst (v := 1) hx hb dX7_rings_27 (by decide) ?_
        refine lv_goto (tgt := 32) hx hb dX7_rings_28 (by decide) ?_
        refine lv_iadd hx hb dX7_rings_32 ?_
        refine lv_istore_n (lv' := [(1, .int (x1 + 1)), (0, .ref h0), (2, .int x2)]) hx hb dX7_rings_33 rfl hl (by decide) rfl (fun ls hl => ?_)
        refine lv_iinc (v := (x2 + 1)) (lv' := [(2, .int (x2 + 1)), (1, .int (x1 + 1)), (0, .ref h0)]) hx hb dX7_rings_34 hl (k := 2) rfl rfl (by decide) rfl (fun ls hl => ?_)
        refine lv_goto (tgt := 4) hx hb dX7_rings_37 (by decide) ?_
        exact ih _ _ hf _ _ _ hw (lv_sub hl [2, 1, 0] rfl)
def f_X7_rings (N : Nat) (mn : Int32) (st : (Nat → Int32)) : Option (Int32) :=
  f_X7_rings_4 N mn st N 0 0
set_option maxHeartbeats 4000000 in
set_option maxRecDepth 100000 in
theorem c_X7_rings {l : Launch} {D : va_G} {cI cZ cN cC : ClassId} {h0 h1 h2 h3 h4 h5 h6 h7 h8 h9 h10 h11 h12 h13 h14 h15 : Nat} {mn : Int32} {um : Int32} {len : Int32} {plc : Int32} {srt : Int32} {frm : Int32} {num : Int32} {wrg : Int32} {cm : Int32} {mpt : Int32} {st : (Nat → Int32)} {pst : (Nat → Int32)} {kep : (Nat → Int32)} {isk : (Nat → Int32)} {pil : (Nat → Int32)} {nxs : (Nat → Int32)} {txt : (Nat → Int32)} {cls : (Nat → Int32)} {asd : (Nat → Int32)} {opn : (Nat → Int32)} {byy : (Nat → Int32)} {twc : (Nat → Int32)} {szs : (Nat → Int32)} {sos : (Nat → Int32)} {ths : (Nat → Int32)}  {N : Nat} {res : Int32} (hf : f_X7_rings N mn st = some res) : xMet l D (xtys cI cZ cN cC) yX7_rings cX7_rings 3 (some .int) 3 66 [.ref h0] (wMod cI cZ cN cC h0 h1 h2 h3 h4 h5 h6 h7 h8 h9 h10 h11 h12 h13 h14 h15 mn um len plc srt frm num wrg cm mpt st pst kep isk pil nxs txt cls asd opn byy twc szs sos ths) (wMod cI cZ cN cC h0 h1 h2 h3 h4 h5 h6 h7 h8 h9 h10 h11 h12 h13 h14 h15 mn um len plc srt frm num wrg cm mpt st pst kep isk pil nxs txt cls asd opn byy twc szs sos ths) (some (.int res)) := by
  refine x_enter (by decide) (Nat.le_of_ble_eq_true rfl) ?_
  intro p e s m args below meth c E ls hl hw
  have E : xE p s m args meth c cX7_rings 3 (some .int) RX7 D (xtys cI cZ cN cC) (xA (wMod cI cZ cN cC h0 h1 h2 h3 h4 h5 h6 h7 h8 h9 h10 h11 h12 h13 h14 h15 mn um len plc srt frm num wrg cm mpt st pst kep isk pil nxs txt cls asd opn byy twc szs sos ths)) := E
  obtain ⟨hx, hb, -⟩ := id E
  have hl : lv_has ls 3 [(0, .ref h0)] := hl
  unfold f_X7_rings at hf
  refine lv_iconst (v := 0) hx hb dX7_rings_0 (by decide) ?_
  refine lv_istore_n (lv' := [(1, .int 0), (0, .ref h0)]) hx hb dX7_rings_1 rfl hl (by decide) rfl (fun ls hl => ?_)
  refine lv_iconst (v := 0) hx hb dX7_rings_2 (by decide) ?_
  refine lv_istore_n (lv' := [(2, .int 0), (1, .int 0), (0, .ref h0)]) hx hb dX7_rings_3 rfl hl (by decide) rfl (fun ls hl => ?_)
  exact b_X7_rings_4 E N _ _ hf _ _ _ hw (lv_sub hl [2, 1, 0] rfl)

def f_X7_reduced (N : Nat) (mn : Int32) (st : (Nat → Int32)) : Option (Int32) :=
  (f_X7_rings N mn st).bind fun q1 =>
  if mn ≤ q1 then
   (f_X7_arcs N mn st).bind fun q3 =>
   (f_X7_needlessMany N mn st).bind fun q4 =>
   some (q3 - q4)
  else
   some (-4)
set_option maxHeartbeats 4000000 in
set_option maxRecDepth 100000 in
theorem c_X7_reduced {l : Launch} {D : va_G} {cI cZ cN cC : ClassId} {h0 h1 h2 h3 h4 h5 h6 h7 h8 h9 h10 h11 h12 h13 h14 h15 : Nat} {mn : Int32} {um : Int32} {len : Int32} {plc : Int32} {srt : Int32} {frm : Int32} {num : Int32} {wrg : Int32} {cm : Int32} {mpt : Int32} {st : (Nat → Int32)} {pst : (Nat → Int32)} {kep : (Nat → Int32)} {isk : (Nat → Int32)} {pil : (Nat → Int32)} {nxs : (Nat → Int32)} {txt : (Nat → Int32)} {cls : (Nat → Int32)} {asd : (Nat → Int32)} {opn : (Nat → Int32)} {byy : (Nat → Int32)} {twc : (Nat → Int32)} {szs : (Nat → Int32)} {sos : (Nat → Int32)} {ths : (Nat → Int32)}  {N : Nat} {res : Int32} (hf : f_X7_reduced N mn st = some res) : xMet l D (xtys cI cZ cN cC) yX7_reduced cX7_reduced 1 (some .int) 5 113 [.ref h0] (wMod cI cZ cN cC h0 h1 h2 h3 h4 h5 h6 h7 h8 h9 h10 h11 h12 h13 h14 h15 mn um len plc srt frm num wrg cm mpt st pst kep isk pil nxs txt cls asd opn byy twc szs sos ths) (wMod cI cZ cN cC h0 h1 h2 h3 h4 h5 h6 h7 h8 h9 h10 h11 h12 h13 h14 h15 mn um len plc srt frm num wrg cm mpt st pst kep isk pil nxs txt cls asd opn byy twc szs sos ths) (some (.int res)) := by
  refine x_enter (by decide) (Nat.le_of_ble_eq_true rfl) ?_
  intro p e s m args below meth c E ls hl hw
  have E : xE p s m args meth c cX7_reduced 1 (some .int) RX7 D (xtys cI cZ cN cC) (xA (wMod cI cZ cN cC h0 h1 h2 h3 h4 h5 h6 h7 h8 h9 h10 h11 h12 h13 h14 h15 mn um len plc srt frm num wrg cm mpt st pst kep isk pil nxs txt cls asd opn byy twc szs sos ths)) := E
  obtain ⟨hx, hb, -⟩ := id E
  have hl : lv_has ls 1 [(0, .ref h0)] := hl
  unfold f_X7_reduced at hf
  refine lv_aload_n hx hb dX7_reduced_0 rfl (lv_at hl 0 rfl) ?_
  obtain ⟨q1, hq1, hf⟩ := Option.bind_eq_some_iff.mp hf
  refine x_callVI (ws' := (wMod cI cZ cN cC h0 h1 h2 h3 h4 h5 h6 h7 h8 h9 h10 h11 h12 h13 h14 h15 mn um len plc srt frm num wrg cm mpt st pst kep isk pil nxs txt cls asd opn byy twc szs sos ths)) (st1 := [.int q1]) (As := []) (rest := []) E hw vc_X7_207 (c_X7_rings (cI := cI) (cZ := cZ) (cN := cN) (cC := cC) (h0 := h0) (h1 := h1) (h2 := h2) (h3 := h3) (h4 := h4) (h5 := h5) (h6 := h6) (h7 := h7) (h8 := h8) (h9 := h9) (h10 := h10) (h11 := h11) (h12 := h12) (h13 := h13) (h14 := h14) (h15 := h15)  (mn := mn) (um := um) (len := len) (plc := plc) (srt := srt) (frm := frm) (num := num) (wrg := wrg) (cm := cm) (mpt := mpt) (st := st) (pst := pst) (kep := kep) (isk := isk) (pil := pil) (nxs := nxs) (txt := txt) (cls := cls) (asd := asd) (opn := opn) (byy := byy) (twc := twc) (szs := szs) (sos := sos) (ths := ths)  hq1) 0 7 rfl rfl rfl rfl rfl ⟨Nat.le_of_ble_eq_true rfl, Nat.le_of_ble_eq_true rfl⟩ ⟨Nat.le_refl _, Nat.le_refl _⟩ hl.1 rfl rfl (Nat.le_of_ble_eq_true rfl) dX7_reduced_1 (fun H locs hw => ?_)
  refine lv_aload_n hx hb dX7_reduced_4 rfl (lv_at hl 0 rfl) ?_
  refine x_get E hw kin_X7 0 rfl rfl 0 (by decide) kF_X7_7 (v := .int mn) rfl dX7_reduced_5 ?_
  refine lv_icmp_ge (tgt := 16) hx hb dX7_reduced_8 (by decide) (fun c2 => ?_) (fun c2 => ?_)
  · rw [if_pos c2] at hf
    refine lv_aload_n hx hb dX7_reduced_16 rfl (lv_at hl 0 rfl) ?_
    obtain ⟨q3, hq3, hf⟩ := Option.bind_eq_some_iff.mp hf
    refine x_callVI (ws' := (wMod cI cZ cN cC h0 h1 h2 h3 h4 h5 h6 h7 h8 h9 h10 h11 h12 h13 h14 h15 mn um len plc srt frm num wrg cm mpt st pst kep isk pil nxs txt cls asd opn byy twc szs sos ths)) (st1 := [.int q3]) (As := []) (rest := []) E hw vc_X7_159 (c_X7_arcs (cI := cI) (cZ := cZ) (cN := cN) (cC := cC) (h0 := h0) (h1 := h1) (h2 := h2) (h3 := h3) (h4 := h4) (h5 := h5) (h6 := h6) (h7 := h7) (h8 := h8) (h9 := h9) (h10 := h10) (h11 := h11) (h12 := h12) (h13 := h13) (h14 := h14) (h15 := h15)  (mn := mn) (um := um) (len := len) (plc := plc) (srt := srt) (frm := frm) (num := num) (wrg := wrg) (cm := cm) (mpt := mpt) (st := st) (pst := pst) (kep := kep) (isk := isk) (pil := pil) (nxs := nxs) (txt := txt) (cls := cls) (asd := asd) (opn := opn) (byy := byy) (twc := twc) (szs := szs) (sos := sos) (ths := ths)  hq3) 0 7 rfl rfl rfl rfl rfl ⟨Nat.le_of_ble_eq_true rfl, Nat.le_of_ble_eq_true rfl⟩ ⟨Nat.le_refl _, Nat.le_refl _⟩ hl.1 rfl rfl (Nat.le_of_ble_eq_true rfl) dX7_reduced_17 (fun H locs hw => ?_)
    refine lv_aload_n hx hb dX7_reduced_20 rfl (lv_at hl 0 rfl) ?_
    obtain ⟨q4, hq4, hf⟩ := Option.bind_eq_some_iff.mp hf
    refine x_callVI (ws' := (wMod cI cZ cN cC h0 h1 h2 h3 h4 h5 h6 h7 h8 h9 h10 h11 h12 h13 h14 h15 mn um len plc srt frm num wrg cm mpt st pst kep isk pil nxs txt cls asd opn byy twc szs sos ths)) (st1 := [.int q4, .int q3]) (As := []) (rest := [.int q3]) E hw vc_X7_210 (c_X7_needlessMany (cI := cI) (cZ := cZ) (cN := cN) (cC := cC) (h0 := h0) (h1 := h1) (h2 := h2) (h3 := h3) (h4 := h4) (h5 := h5) (h6 := h6) (h7 := h7) (h8 := h8) (h9 := h9) (h10 := h10) (h11 := h11) (h12 := h12) (h13 := h13) (h14 := h14) (h15 := h15)  (mn := mn) (um := um) (len := len) (plc := plc) (srt := srt) (frm := frm) (num := num) (wrg := wrg) (cm := cm) (mpt := mpt) (st := st) (pst := pst) (kep := kep) (isk := isk) (pil := pil) (nxs := nxs) (txt := txt) (cls := cls) (asd := asd) (opn := opn) (byy := byy) (twc := twc) (szs := szs) (sos := sos) (ths := ths)  hq4) 0 7 rfl rfl rfl rfl rfl ⟨Nat.le_of_ble_eq_true rfl, Nat.le_of_ble_eq_true rfl⟩ ⟨Nat.le_refl _, Nat.le_refl _⟩ hl.1 rfl rfl (Nat.le_of_ble_eq_true rfl) dX7_reduced_21 (fun H locs hw => ?_)
    refine lv_isub hx hb dX7_reduced_24 ?_
    have hf := Option.some.inj hf; subst hf
    exact x_iret E hw dX7_reduced_25
  · rw [if_neg c2] at hf
    refine lv_bipush (v := (-4)) hx hb dX7_reduced_11 (by decide) ?_
    refine lv_goto (tgt := 25) hx hb dX7_reduced_13 (by decide) ?_
    have hf := Option.some.inj hf; subst hf
    exact x_iret E hw dX7_reduced_25

