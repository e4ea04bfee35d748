def f_X7_fold_147 (k32 : Int32 → Int32 → Option (Int32)) (x1 : Int32) (x3 : Int32) (x4 : Int32) (x7 : Int32) (t0 : Int32) : Option (Int32) :=
  if x7 = 0 then
   if x1 = 3 then
    k32 ((2 * x3) - ((2 * x3) / 1000) * 1000) (x4 + 1)
   else
    k32 x3 (x4 + 1)
  else
   k32 t0 (x4 + 1)
set_option maxHeartbeats 4000000 in
set_option maxRecDepth 100000 in
theorem b_X7_fold_147 {p : Program} {l : Launch} {e : Env} {s : State} {m : MethodId} {args : Array Value} {below : List Frame} {meth : Method} {c : Code} {D : va_G} {cI cZ cN cC : ClassId} {ws0 : va_W} {h0 h1 h2 h3 h4 h5 h6 h7 h8 h9 h10 h11 h12 h13 h14 h15 : Nat} {x1 : Int32} {x3 : Int32} {x4 : Int32} {x7 : Int32} {t0 : Int32} {mn : Int32} {um : Int32} {len : Int32} {plc : Int32} {srt : Int32} {frm : Int32} {num : Int32} {wrg : Int32} {cm : Int32} {mpt : Int32} {st : (Nat → Int32)} {pst : (Nat → Int32)} {kep : (Nat → Int32)} {isk : (Nat → Int32)} {pil : (Nat → Int32)} {nxs : (Nat → Int32)} {txt : (Nat → Int32)} {cls : (Nat → Int32)} {asd : (Nat → Int32)} {opn : (Nat → Int32)} {byy : (Nat → Int32)} {twc : (Nat → Int32)} {szs : (Nat → Int32)} {sos : (Nat → Int32)} {ths : (Nat → Int32)} {res : Int32} (E : xE p s m args meth c cX7_fold 9 (some .int) RX7 D (xtys cI cZ cN cC) (xA ws0)) {k32 : Int32 → Int32 → Option (Int32)} (hk32 : ∀ (x3 : Int32) (x4 : Int32), k32 x3 x4 = some res → ∀ (H : Heap) (locs : List Loc) (ls : Array Slot), xw D (xA ws0) s.heap (wMod cI cZ cN cC h0 h1 h2 h3 h4 h5 h6 h7 h8 h9 h10 h11 h12 h13 h14 h15 mn um len plc srt frm num wrg cm mpt st pst kep isk pil nxs txt cls asd opn byy twc szs sos ths) H locs → lv_has ls 9 [(0, .ref h0), (1, .int x1), (3, .int x3), (4, .int x4)] → xG p l e 1 25 s m args below meth c D ws0 (wMod cI cZ cN cC h0 h1 h2 h3 h4 h5 h6 h7 h8 h9 h10 h11 h12 h13 h14 h15 mn um len plc srt frm num wrg cm mpt st pst kep isk pil nxs txt cls asd opn byy twc szs sos ths) (some (.int res)) H locs (F0 m 32 ls [])) : f_X7_fold_147 k32 x1 x3 x4 x7 t0 = some res → ∀ (H : Heap) (locs : List Loc) (ls : Array Slot), xw D (xA ws0) s.heap (wMod cI cZ cN cC h0 h1 h2 h3 h4 h5 h6 h7 h8 h9 h10 h11 h12 h13 h14 h15 mn um len plc srt frm num wrg cm mpt st pst kep isk pil nxs txt cls asd opn byy twc szs sos ths) H locs → lv_has ls 9 [(0, .ref h0), (1, .int x1), (3, .int x3), (4, .int x4), (7, .int x7)] → xG p l e 1 25 s m args below meth c D ws0 (wMod cI cZ cN cC h0 h1 h2 h3 h4 h5 h6 h7 h8 h9 h10 h11 h12 h13 h14 h15 mn um len plc srt frm num wrg cm mpt st pst kep isk pil nxs txt cls asd opn byy twc szs sos ths) (some (.int res)) H locs (F0 m 147 ls [.int t0]) := by
  obtain ⟨hx, hb, -⟩ := id E
  intro hf H locs ls hw hl
  unfold f_X7_fold_147 at hf
  refine lv_istore (lv' := [(8, .int t0), (0, .ref h0), (1, .int x1), (3, .int x3), (4, .int x4), (7, .int x7)]) hx hb dX7_fold_147 hl (by decide) rfl (fun ls hl => ?_)
  refine lv_iload hx hb dX7_fold_149 (lv_at hl 5 rfl) ?_
  refine lv_if_eq (tgt := 159) hx hb dX7_fold_151 (by decide) (fun c12 => ?_) (fun c12 => ?_)
  · rw [if_pos c12] at hf
    refine lv_iload_n hx hb dX7_fold_159 rfl (lv_at hl 2 rfl) ?_
    refine lv_iconst (v := 3) hx hb dX7_fold_160 (by decide) ?_
    refine lv_icmp_ne (tgt := 174) hx hb dX7_fold_161 (by decide) (fun c13 => ?_) (fun c13 => ?_)
    · rw [if_neg c13] at hf
      refine lv_iload_n hx hb dX7_fold_174 rfl (lv_at hl 3 rfl) ?_
      refine lv_istore_n (lv' := [(3, .int x3), (8, .int t0), (0, .ref h0), (1, .int x1), (4, .int x4), (7, .int x7)]) hx hb dX7_fold_175 rfl hl (by decide) rfl (fun ls hl => ?_)
      refine lv_iinc (v := (x4 + 1)) (lv' := [(4, .int (x4 + 1)), (3, .int x3), (8, .int t0), (0, .ref h0), (1, .int x1), (7, .int x7)]) hx hb dX7_fold_176 hl (k := 4) rfl rfl (by decide) rfl (fun ls hl => ?_)
      refine lv_goto (tgt := 32) hx hb dX7_fold_179 (by decide) ?_
      exact hk32 _ _ hf _ _ _ hw (lv_sub hl [3, 4, 1, 0] rfl)
    · rw [if_pos c13] at hf
      refine lv_iconst (v := 2) hx hb dX7_fold_164 (by decide) ?_
      refine lv_iload_n hx hb dX7_fold_165 rfl (lv_at hl 3 rfl) ?_
      refine lv_imul hx hb dX7_fold_166 ?_
      refine lv_sipush (v := 1000) hx hb dX7_fold_167 (by decide) ?_
      refine lv_irem hx hb dX7_fold_170 (by decide) ?_
      refine lv_goto (tgt := 175) hx hb dX7_fold_171 (by decide) ?_
      refine lv_istore_n (lv' := [(3, .int ((2 * x3) - ((2 * x3) / 1000) * 1000)), (8, .int t0), (0, .ref h0), (1, .int x1), (4, .int x4), (7, .int x7)]) hx hb dX7_fold_175 rfl hl (by decide) rfl (fun ls hl => ?_)
      refine lv_iinc (v := (x4 + 1)) (lv' := [(4, .int (x4 + 1)), (3, .int ((2 * x3) - ((2 * x3) / 1000) * 1000)), (8, .int t0), (0, .ref h0), (1, .int x1), (7, .int x7)]) hx hb dX7_fold_176 hl (k := 4) rfl rfl (by decide) rfl (fun ls hl => ?_)
      refine lv_goto (tgt := 32) hx hb dX7_fold_179 (by decide) ?_
      exact hk32 _ _ hf _ _ _ hw (lv_sub hl [3, 4, 1, 0] rfl)
  · rw [if_neg c12] at hf
    refine lv_iload hx hb dX7_fold_154 (lv_at hl 0 rfl) ?_
    refine lv_goto (tgt := 175) hx hb dX7_fold_156 (by decide) ?_
    refine lv_istore_n (lv' := [(3, .int t0), (8, .int t0), (0, .ref h0), (1, .int x1), (4, .int x4), (7, .int x7)]) hx hb dX7_fold_175 rfl hl (by decide) rfl (fun ls hl => ?_)
    refine lv_iinc (v := (x4 + 1)) (lv' := [(4, .int (x4 + 1)), (3, .int t0), (8, .int t0), (0, .ref h0), (1, .int x1), (7, .int x7)]) hx hb dX7_fold_176 hl (k := 4) rfl rfl (by decide) rfl (fun ls hl => ?_)
    refine lv_goto (tgt := 32) hx hb dX7_fold_179 (by decide) ?_
    exact hk32 _ _ hf _ _ _ hw (lv_sub hl [3, 4, 1, 0] rfl)
def f_X7_fold_32 (x1 : Int32) (mn : Int32) (st : (Nat → Int32)) : Nat → Int32 → Int32 → Option (Int32)
  | 0, _, _ => none
  | n + 1, x3, x4 =>
    if (mn * mn) ≤ x4 then
     some x3
    else
     if (!decide (mn = 0)) then
     if (!decide (mn = 0)) then
     (f_X7_isIn (x4 / mn) (x4 - (x4 / mn) * mn) st).bind fun q6 =>
     if (x4 / mn) = (x4 - (x4 / mn) * mn) then
      f_X7_fold_32 x1 mn st n x3 (x4 + 1)
     else
      if x1 = 0 then
       f_X7_fold_147 (fun x3 x4 => f_X7_fold_32 x1 mn st n x3 x4) x1 x3 x4 q6 (x3 + 1)
      else
       if x1 = 1 then
        f_X7_fold_147 (fun x3 x4 => f_X7_fold_32 x1 mn st n x3 x4) x1 x3 x4 q6 ((x3 + (x4 / mn)) + (x4 - (x4 / mn) * mn))
       else
        if x1 = 2 then
         if ((10 * (x4 / mn)) + (x4 - (x4 / mn) * mn)) ≤ x3 then
          f_X7_fold_147 (fun x3 x4 => f_X7_fold_32 x1 mn st n x3 x4) x1 x3 x4 q6 x3
         else
          f_X7_fold_147 (fun x3 x4 => f_X7_fold_32 x1 mn st n x3 x4) x1 x3 x4 q6 ((10 * (x4 / mn)) + (x4 - (x4 / mn) * mn))
        else
         f_X7_fold_147 (fun x3 x4 => f_X7_fold_32 x1 mn st n x3 x4) x1 x3 x4 q6 (((2 * x3) + 1) - (((2 * x3) + 1) / 1000) * 1000)
     else none
     else none
set_option maxHeartbeats 4000000 in
set_option maxRecDepth 100000 in
theorem b_X7_fold_32 {p : Program} {l : Launch} {e : Env} {s : State} {m : MethodId} {args : Array Value} {below : List Frame} {meth : Method} {c : Code} {D : va_G} {cI cZ cN cC : ClassId} {ws0 : va_W} {h0 h1 h2 h3 h4 h5 h6 h7 h8 h9 h10 h11 h12 h13 h14 h15 : Nat} {x1 : Int32} {mn : Int32} {um : Int32} {len : Int32} {plc : Int32} {srt : Int32} {frm : Int32} {num : Int32} {wrg : Int32} {cm : Int32} {mpt : Int32} {st : (Nat → Int32)} {pst : (Nat → Int32)} {kep : (Nat → Int32)} {isk : (Nat → Int32)} {pil : (Nat → Int32)} {nxs : (Nat → Int32)} {txt : (Nat → Int32)} {cls : (Nat → Int32)} {asd : (Nat → Int32)} {opn : (Nat → Int32)} {byy : (Nat → Int32)} {twc : (Nat → Int32)} {szs : (Nat → Int32)} {sos : (Nat → Int32)} {ths : (Nat → Int32)} {res : Int32} (E : xE p s m args meth c cX7_fold 9 (some .int) RX7 D (xtys cI cZ cN cC) (xA ws0)) : ∀ (n : Nat) (x3 : Int32) (x4 : Int32), f_X7_fold_32 x1 mn st n x3 x4 = some res → ∀ (H : Heap) (locs : List Loc) (ls : Array Slot), xw D (xA ws0) s.heap (wMod cI cZ cN cC h0 h1 h2 h3 h4 h5 h6 h7 h8 h9 h10 h11 h12 h13 h14 h15 mn um len plc srt frm num wrg cm mpt st pst kep isk pil nxs txt cls asd opn byy twc szs sos ths) H locs → lv_has ls 9 [(0, .ref h0), (1, .int x1), (3, .int x3), (4, .int x4)] → xG p l e 1 25 s m args below meth c D ws0 (wMod cI cZ cN cC h0 h1 h2 h3 h4 h5 h6 h7 h8 h9 h10 h11 h12 h13 h14 h15 mn um len plc srt frm num wrg cm mpt st pst kep isk pil nxs txt cls asd opn byy twc szs sos ths) (some (.int res)) H locs (F0 m 32 ls []) := by
  obtain ⟨hx, hb, -⟩ := id E
  intro n
  induction n with
  | zero =>
    intro _ _ hf
    rw [f_X7_fold_32] at hf; cases hf
  | succ n ih =>
    intro x3 x4 hf H locs ls hw hl
    rw [f_X7_fold_32] at hf
    refine lv_iload hx hb dX7_fold_32 (lv_at hl 3 rfl) ?_
    refine lv_aload_n hx hb dX7_fold_34 rfl (lv_at hl 0 rfl) ?_
    refine x_get E hw kin_X7 0 rfl rfl 0 (by decide) kF_X7_7 (v := .int mn) rfl dX7_fold_35 ?_
    refine lv_aload_n hx hb dX7_fold_38 rfl (lv_at hl 0 rfl) ?_
    refine x_get E hw kin_X7 0 rfl rfl 0 (by decide) kF_X7_7 (v := .int mn) rfl dX7_fold_39 ?_
    refine lv_imul hx hb dX7_fold_42 ?_
    refine lv_icmp_ge (tgt := 182) hx hb dX7_fold_43 (by decide) (fun c3 => ?_) (fun c3 => ?_)
    · rw [if_pos c3] at hf
      refine lv_iload_n hx hb dX7_fold_182 rfl (lv_at hl 2 rfl) ?_
      have hf := Option.some.inj hf; subst hf
      exact x_iret E hw dX7_fold_183
    · rw [if_neg c3] at hf
      refine lv_iload hx hb dX7_fold_46 (lv_at hl 3 rfl) ?_
      refine lv_aload_n hx hb dX7_fold_48 rfl (lv_at hl 0 rfl) ?_
      refine x_get E hw kin_X7 0 rfl rfl 0 (by decide) kF_X7_7 (v := .int mn) rfl dX7_fold_49 ?_
      obtain ⟨g4, hf⟩ := xgd hf
      refine lv_idiv hx hb dX7_fold_52 (by simpa using g4) ?_
      refine lv_istore (lv' := [(5, .int (x4 / mn)), (0, .ref h0), (1, .int x1), (3, .int x3), (4, .int x4)]) hx hb dX7_fold_53 hl (by decide) rfl (fun ls hl => ?_)
      refine lv_iload hx hb dX7_fold_55 (lv_at hl 4 rfl) ?_
      refine lv_aload_n hx hb dX7_fold_57 rfl (lv_at hl 1 rfl) ?_
      refine x_get E hw kin_X7 0 rfl rfl 0 (by decide) kF_X7_7 (v := .int mn) rfl dX7_fold_58 ?_
      obtain ⟨g5, hf⟩ := xgd hf
      refine lv_irem hx hb dX7_fold_61 (by simpa using g5) ?_
      refine lv_istore (lv' := [(6, .int (x4 - (x4 / mn) * mn)), (5, .int (x4 / mn)), (0, .ref h0), (1, .int x1), (3, .int x3), (4, .int x4)]) hx hb dX7_fold_62 hl (by decide) rfl (fun ls hl => ?_)
      refine lv_aload_n hx hb dX7_fold_64 rfl (lv_at hl 2 rfl) ?_
      refine lv_iload hx hb dX7_fold_65 (lv_at hl 1 rfl) ?_
      refine lv_iload hx hb dX7_fold_67 (lv_at hl 0 rfl) ?_
      obtain ⟨q6, hq6, hf⟩ := Option.bind_eq_some_iff.mp hf
      refine x_callVI (ws' := (wMod cI cZ cN cC h0 h1 h2 h3 h4 h5 h6 h7 h8 h9 h10 h11 h12 h13 h14 h15 mn um len plc srt frm num wrg cm mpt st pst kep isk pil nxs txt cls asd opn byy twc szs sos ths)) (st1 := [.int q6]) (As := [.int (x4 / mn), .int (x4 - (x4 / mn) * mn)]) (rest := []) E hw vc_X7_85 (c_X7_isIn (cI := cI) (cZ := cZ) (cN := cN) (cC := cC) (h0 := h0) (h1 := h1) (h2 := h2) (h3 := h3) (h4 := h4) (h5 := h5) (h6 := h6) (h7 := h7) (h8 := h8) (h9 := h9) (h10 := h10) (h11 := h11) (h12 := h12) (h13 := h13) (h14 := h14) (h15 := h15)  (mn := mn) (um := um) (len := len) (plc := plc) (srt := srt) (frm := frm) (num := num) (wrg := wrg) (cm := cm) (mpt := mpt) (st := st) (pst := pst) (kep := kep) (isk := isk) (pil := pil) (nxs := nxs) (txt := txt) (cls := cls) (asd := asd) (opn := opn) (byy := byy) (twc := twc) (szs := szs) (sos := sos) (ths := ths) (x1 := (x4 / mn)) (x2 := (x4 - (x4 / mn) * mn)) hq6) 0 7 rfl rfl rfl rfl rfl ⟨Nat.le_of_ble_eq_true rfl, Nat.le_of_ble_eq_true rfl⟩ ⟨Nat.le_refl _, Nat.le_refl _⟩ hl.1 rfl rfl (Nat.le_of_ble_eq_true rfl) dX7_fold_69 (fun H locs hw => ?_)
      refine lv_istore (lv' := [(7, .int q6), (6, .int (x4 - (x4 / mn) * mn)), (5, .int (x4 / mn)), (0, .ref h0), (1, .int x1), (3, .int x3), (4, .int x4)]) hx hb dX7_fold_72 hl (by decide) rfl (fun ls hl => ?_)
      refine lv_iload hx hb dX7_fold_74 (lv_at hl 2 rfl) ?_
      refine lv_iload hx hb dX7_fold_76 (lv_at hl 1 rfl) ?_
      refine lv_icmp_eq (tgt := 176) hx hb dX7_fold_78 (by decide) (fun c7 => ?_) (fun c7 => ?_)
      · rw [if_pos c7] at hf
        refine lv_iinc (v := (x4 + 1)) (lv' := [(4, .int (x4 + 1)), (7, .int q6), (6, .int (x4 - (x4 / mn) * mn)), (5, .int (x4 / mn)), (0, .ref h0), (1, .int x1), (3, .int x3)]) hx hb dX7_fold_176 hl (k := 6) rfl rfl (by decide) rfl (fun ls hl => ?_)
        refine lv_goto (tgt := 32) hx hb dX7_fold_179 (by decide) ?_
        exact ih _ _ hf _ _ _ hw (lv_sub hl [4, 5, 6, 0] rfl)
      · rw [if_neg c7] at hf
        refine lv_iload_n hx hb dX7_fold_81 rfl (lv_at hl 4 rfl) ?_
        refine lv_if_ne (tgt := 91) hx hb dX7_fold_82 (by decide) (fun c8 => ?_) (fun c8 => ?_)
        · rw [if_neg c8] at hf
          refine lv_iload_n hx hb dX7_fold_91 rfl (lv_at hl 4 rfl) ?_
          refine lv_iconst (v := 1) hx hb dX7_fold_92 (by decide) ?_
          refine lv_icmp_ne (tgt := 106) hx hb dX7_fold_93 (by decide) (fun c9 => ?_) (fun c9 => ?_)
          · rw [if_neg c9] at hf
            refine lv_iload_n hx hb dX7_fold_106 rfl (lv_at hl 4 rfl) ?_
            refine lv_iconst (v := 2) hx hb dX7_fold_107 (by decide) ?_
            refine lv_icmp_ne (tgt := 138) hx hb dX7_fold_108 (by decide) (fun c10 => ?_) (fun c10 => ?_)
            · rw [if_neg c10] at hf
              refine lv_iconst (v := 2) hx hb dX7_fold_138 (by decide) ?_
              refine lv_iload_n hx hb dX7_fold_139 rfl (lv_at hl 5 rfl) ?_
              refine lv_imul hx hb dX7_fold_140 ?_
              refine lv_iconst (v := 1) hx hb dX7_fold_141 (by decide) ?_
              refine lv_iadd hx hb dX7_fold_142 ?_
              refine lv_sipush (v := 1000) hx hb dX7_fold_143 (by decide) ?_
              refine lv_irem hx hb dX7_fold_146 (by decide) ?_
              exact b_X7_fold_147 E ih  hf _ _ _ hw (lv_sub hl [3, 4, 5, 6, 0] rfl)
            · rw [if_pos c10] at hf
              refine lv_bipush (v := 10) hx hb dX7_fold_111 (by decide) ?_
              refine lv_iload hx hb dX7_fold_113 (lv_at hl 2 rfl) ?_
              refine lv_imul hx hb dX7_fold_115 ?_
              refine lv_iload hx hb dX7_fold_116 (lv_at hl 1 rfl) ?_
              refine lv_iadd hx hb dX7_fold_118 ?_
              refine lv_iload_n hx hb dX7_fold_119 rfl (lv_at hl 5 rfl) ?_
              refine lv_icmp_le (tgt := 134) hx hb dX7_fold_120 (by decide) (fun c11 => ?_) (fun c11 => ?_)
              · rw [if_pos c11] at hf
                refine lv_iload_n hx hb dX7_fold_134 rfl (lv_at hl 5 rfl) ?_
                refine lv_goto (tgt := 147) hx hb dX7_fold_135 (by decide) ?_
                exact b_X7_fold_147 E ih  hf _ _ _ hw (lv_sub hl [3, 4, 5, 6, 0] rfl)
              · rw [if_neg c11] at hf
                refine lv_bipush (v := 10) hx hb dX7_fold_123 (by decide) ?_
                refine lv_iload hx hb dX7_fold_125 (lv_at hl 2 rfl) ?_
                refine lv_imul hx hb dX7_fold_127 ?_
                refine lv_iload hx hb dX7_fold_128 (lv_at hl 1 rfl) ?_
                refine lv_iadd hx hb dX7_fold_130 ?_
                refine lv_goto (tgt := 147) hx hb dX7_fold_131 (by decide) ?_
                exact b_X7_fold_147 E ih  hf _ _ _ hw (lv_sub hl [3, 4, 5, 6, 0] rfl)
          · rw [if_pos c9] at hf
            refine lv_iload_n hx hb dX7_fold_96 rfl (lv_at hl 5 rfl) ?_
            refine lv_iload hx hb dX7_fold_97 (lv_at hl 2 rfl) ?_
            refine lv_iadd hx hb dX7_fold_99 ?_
            refine lv_iload hx hb dX7_fold_100 (lv_at hl 1 rfl) ?_
            refine lv_iadd hx hb dX7_fold_102 ?_
            refine lv_goto (tgt := 147) hx hb dX7_fold_103 (by decide) ?_
            exact b_X7_fold_147 E ih  hf _ _ _ hw (lv_sub hl [3, 4, 5, 6, 0] rfl)
        · rw [if_pos c8] at hf
          refine lv_iload_n hx hb dX7_fold_85 rfl (lv_at hl 5 rfl) ?_
          refine lv_iconst (v := 1) hx hb dX7_fold_86 (by decide) ?_
          refine lv_iadd hx hb dX7_fold_87 ?_
          refine lv_goto (tgt := 147) hx hb dX7_fold_88 (by decide) ?_
          exact b_X7_fold_147 E ih  hf _ _ _ hw (lv_sub hl [3, 4, 5, 6, 0] rfl)
def f_X7_fold (N : Nat) (x1 : Int32) (x2 : Int32) (mn : Int32) (st : (Nat → Int32)) : Option (Int32) :=
  if (f_X7_in (Int32.toInt64 x1) 0 3) = 0 then
   some (-3)
  else
   if (f_X7_in (Int32.toInt64 x2) 0 999) = 0 then
    some (-3)
   else
    f_X7_fold_32 x1 mn st N x2 0
set_option maxHeartbeats 4000000 in
set_option maxRecDepth 100000 in
theorem c_X7_fold {l : Launch} {D : va_G} {cI cZ cN cC : ClassId} {h0 h1 h2 h3 h4 h5 h6 h7 h8 h9 h10 h11 h12 h13 h14 h15 : Nat} {mn : Int32} {um : Int32} {len : Int32} {plc : Int32} {srt : Int32} {frm : Int32} {num : Int32} {wrg : Int32} {cm : Int32} {mpt : Int32} {st : (Nat → Int32)} {pst : (Nat → Int32)} {kep : (Nat → Int32)} {isk : (Nat → Int32)} {pil : (Nat → Int32)} {nxs : (Nat → Int32)} {txt : (Nat → Int32)} {cls : (Nat → Int32)} {asd : (Nat → Int32)} {opn : (Nat → Int32)} {byy : (Nat → Int32)} {twc : (Nat → Int32)} {szs : (Nat → Int32)} {sos : (Nat → Int32)} {ths : (Nat → Int32)} {x1 : Int32} {x2 : Int32} {N : Nat} {res : Int32} (hf : f_X7_fold N x1 x2 mn st = some res) : xMet l D (xtys cI cZ cN cC) yX7_fold cX7_fold 9 (some .int) 1 25 [.ref h0, .int x1, .int x2] (wMod cI cZ cN cC h0 h1 h2 h3 h4 h5 h6 h7 h8 h9 h10 h11 h12 h13 h14 h15 mn um len plc srt frm num wrg cm mpt st pst kep isk pil nxs txt cls asd opn byy twc szs sos ths) (wMod cI cZ cN cC h0 h1 h2 h3 h4 h5 h6 h7 h8 h9 h10 h11 h12 h13 h14 h15 mn um len plc srt frm num wrg cm mpt st pst kep isk pil nxs txt cls asd opn byy twc szs sos ths) (some (.int res)) := by
  refine x_enter (by decide) (Nat.le_of_ble_eq_true rfl) ?_
  intro p e s m args below meth c E ls hl hw
  have E : xE p s m args meth c cX7_fold 9 (some .int) RX7 D (xtys cI cZ cN cC) (xA (wMod cI cZ cN cC h0 h1 h2 h3 h4 h5 h6 h7 h8 h9 h10 h11 h12 h13 h14 h15 mn um len plc srt frm num wrg cm mpt st pst kep isk pil nxs txt cls asd opn byy twc szs sos ths)) := E
  obtain ⟨hx, hb, -⟩ := id E
  have hl : lv_has ls 9 [(0, .ref h0), (1, .int x1), (2, .int x2)] := hl
  unfold f_X7_fold at hf
  refine lv_iload_n hx hb dX7_fold_0 rfl (lv_at hl 1 rfl) ?_
  refine lv_i2l (v := (Int32.toInt64 x1)) hx hb dX7_fold_1 rfl ?_
  refine lv_lconst (v := 0) hx hb dX7_fold_2 (by decide) ?_
  refine lv_ldc2 hx hb E.2.2.2.2.1 (E.2.2.2.2.2.1.2.use kQ_X7_213) dX7_fold_3 ?_
  refine x_callS (isC := []) (ws' := (wMod cI cZ cN cC h0 h1 h2 h3 h4 h5 h6 h7 h8 h9 h10 h11 h12 h13 h14 h15 mn um len plc srt frm num wrg cm mpt st pst kep isk pil nxs txt cls asd opn byy twc szs sos ths)) (st1 := [.int (f_X7_in (Int32.toInt64 x1) 0 3)]) (As := [.long (Int32.toInt64 x1), .long 0, .long 3]) (rest := []) E hw vc_X7_66 (c_X7_in (cI := cI) (cZ := cZ) (cN := cN) (cC := cC)    (x0 := (Int32.toInt64 x1)) (x2 := 0) (x4 := 3) rfl) rfl rfl rfl rfl rfl rfl ⟨Nat.le_of_ble_eq_true rfl, Nat.le_of_ble_eq_true rfl⟩ ⟨Nat.le_refl _, Nat.le_refl _⟩ hl.1 rfl rfl (Nat.le_of_ble_eq_true rfl) dX7_fold_6 (fun H locs hw => ?_)
  refine lv_if_eq (tgt := 24) hx hb dX7_fold_9 (by decide) (fun c1 => ?_) (fun c1 => ?_)
  · rw [if_pos c1] at hf
    refine lv_bipush (v := (-3)) hx hb dX7_fold_24 (by decide) ?_
    have hf := Option.some.inj hf; subst hf
    exact x_iret E hw dX7_fold_26
  · rw [if_neg c1] at hf
    refine lv_iload_n hx hb dX7_fold_12 rfl (lv_at hl 2 rfl) ?_
    refine lv_i2l (v := (Int32.toInt64 x2)) hx hb dX7_fold_13 rfl ?_
    refine lv_lconst (v := 0) hx hb dX7_fold_14 (by decide) ?_
    refine lv_ldc2 hx hb E.2.2.2.2.1 (E.2.2.2.2.2.1.2.use kQ_X7_215) dX7_fold_15 ?_
    refine x_callS (isC := []) (ws' := (wMod cI cZ cN cC h0 h1 h2 h3 h4 h5 h6 h7 h8 h9 h10 h11 h12 h13 h14 h15 mn um len plc srt frm num wrg cm mpt st pst kep isk pil nxs txt cls asd opn byy twc szs sos ths)) (st1 := [.int (f_X7_in (Int32.toInt64 x2) 0 999)]) (As := [.long (Int32.toInt64 x2), .long 0, .long 999]) (rest := []) E hw vc_X7_66 (c_X7_in (cI := cI) (cZ := cZ) (cN := cN) (cC := cC)    (x0 := (Int32.toInt64 x2)) (x2 := 0) (x4 := 999) rfl) rfl rfl rfl rfl rfl rfl ⟨Nat.le_of_ble_eq_true rfl, Nat.le_of_ble_eq_true rfl⟩ ⟨Nat.le_refl _, Nat.le_refl _⟩ hl.1 rfl rfl (Nat.le_of_ble_eq_true rfl) dX7_fold_18 (fun H locs hw => ?_)
    refine lv_if_ne (tgt := 27) hx hb dX7_fold_21 (by decide) (fun c2 => ?_) (fun c2 => ?_)
    · rw [if_neg c2] at hf
      refine lv_iload_n hx hb dX7_fold_27 rfl (lv_at hl 2 rfl) ?_
      refine lv_istore_n (lv' := [(3, .int x2), (0, .ref h0), (1, .int x1), (2, .int x2)]) hx hb dX7_fold_28 rfl hl (by decide) rfl (fun ls hl => ?_)
      refine lv_iconst (v := 0) hx hb dX7_fold_29 (by decide) ?_
      refine lv_istore (lv' := [(4, .int 0), (3, .int x2), (0, .ref h0), (1, .int x1), (2, .int x2)]) hx hb dX7_fold_30 hl (by decide) rfl (fun ls hl => ?_)
      exact b_X7_fold_32 E N _ _ hf _ _ _ hw (lv_sub hl [2, 3, 1, 0] rfl)
    · rw [if_pos c2] at hf
      refine lv_bipush (v := (-3)) hx hb dX7_fold_24 (by decide) ?_
      have hf := Option.some.inj hf; subst hf
      exact x_iret E hw dX7_fold_26

def f_X7_gainOf_82 (x5 : Int32) (pil : (Nat → Int32)) (nxs : (Nat → Int32)) (asd : (Nat → Int32)) : Nat → Int32 → (Nat → Int32) → Option (Int32 × (Nat → Int32) × (Nat → Int32) × (Nat → Int32) × (Nat → Int32))
  | 0, _, _ => none
  | n + 1, x6, st =>
    if 111 ≤ x6 then
     some (x5, st, pil, nxs, asd)
    else
     if xin x6 111 then
     if xin x6 111 then
     f_X7_gainOf_82 x5 pil nxs asd n (x6 + 1) (upd st (Int32.toNatClampNeg x6) (asd (Int32.toNatClampNeg x6)))
     else none
     else none
set_option maxHeartbeats 4000000 in
set_option maxRecDepth 100000 in
theorem b_X7_gainOf_82 {p : Program} {l : Launch} {e : Env} {s : State} {m : MethodId} {args : Array Value} {below : List Frame} {meth : Method} {c : Code} {D : va_G} {cI cZ cN cC : ClassId} {ws0 : va_W} {h0 h1 h2 h3 h4 h5 h6 h7 h8 h9 h10 h11 h12 h13 h14 h15 : Nat} {x5 : Int32} {mn : Int32} {um : Int32} {len : Int32} {plc : Int32} {srt : Int32} {frm : Int32} {num : Int32} {wrg : Int32} {cm : Int32} {mpt : Int32} {pst : (Nat → Int32)} {kep : (Nat → Int32)} {isk : (Nat → Int32)} {pil : (Nat → Int32)} {nxs : (Nat → Int32)} {txt : (Nat → Int32)} {cls : (Nat → Int32)} {asd : (Nat → Int32)} {opn : (Nat → Int32)} {byy : (Nat → Int32)} {twc : (Nat → Int32)} {szs : (Nat → Int32)} {sos : (Nat → Int32)} {ths : (Nat → Int32)} {res : Int32 × (Nat → Int32) × (Nat → Int32) × (Nat → Int32) × (Nat → Int32)} (E : xE p s m args meth c cX7_gainOf 7 (some .int) RX7 D (xtys cI cZ cN cC) (xA ws0)) : ∀ (n : Nat) (x6 : Int32) (st : (Nat → Int32)), f_X7_gainOf_82 x5 pil nxs asd n x6 st = some res → ∀ (H : Heap) (locs : List Loc) (ls : Array Slot), xw D (xA ws0) s.heap (wMod cI cZ cN cC h0 h1 h2 h3 h4 h5 h6 h7 h8 h9 h10 h11 h12 h13 h14 h15 mn um len plc srt frm num wrg cm mpt st pst kep isk pil nxs txt cls asd opn byy twc szs sos ths) H locs → lv_has ls 7 [(0, .ref h0), (5, .int x5), (6, .int x6)] → xG p l e 3 70 s m args below meth c D ws0 (wMod cI cZ cN cC h0 h1 h2 h3 h4 h5 h6 h7 h8 h9 h10 h11 h12 h13 h14 h15 mn um len plc srt frm num wrg cm mpt res.2.1 pst kep isk res.2.2.1 res.2.2.2.1 txt cls res.2.2.2.2 opn byy twc szs sos ths) (some (.int res.1)) H locs (F0 m 82 ls []) := by
  obtain ⟨hx, hb, -⟩ := id E
  intro n
  induction n with
  | zero =>
    intro _ _ hf
    rw [f_X7_gainOf_82] at hf; cases hf
  | succ n ih =>
    intro x6 st hf H locs ls hw hl
    rw [f_X7_gainOf_82] at hf
    refine lv_iload hx hb dX7_gainOf_82 (lv_at hl 2 rfl) ?_
    refine lv_bipush (v := 111) hx hb dX7_gainOf_84 (by decide) ?_
    refine lv_icmp_ge (tgt := 109) hx hb dX7_gainOf_86 (by decide) (fun c9 => ?_) (fun c9 => ?_)
    · rw [if_pos c9] at hf
      refine lv_iload hx hb dX7_gainOf_109 (lv_at hl 1 rfl) ?_
      have hf := Option.some.inj hf; subst hf
      exact x_iret E hw dX7_gainOf_111
    · rw [if_neg c9] at hf
      refine lv_aload_n hx hb dX7_gainOf_89 rfl (lv_at hl 0 rfl) ?_
      refine x_get E hw kin_X7 0 rfl rfl 1 (by decide) kF_X7_13 (v := .ref h1) rfl dX7_gainOf_90 ?_
      refine lv_iload hx hb dX7_gainOf_93 (lv_at hl 2 rfl) ?_
      refine lv_aload_n hx hb dX7_gainOf_95 rfl (lv_at hl 0 rfl) ?_
      refine x_get E hw kin_X7 0 rfl rfl 18 (by decide) kF_X7_38 (v := .ref h9) rfl dX7_gainOf_96 ?_
      refine lv_iload hx hb dX7_gainOf_99 (lv_at hl 2 rfl) ?_
      obtain ⟨g10, hf⟩ := xgd hf
      refine x_iald E hw 9 0 rfl rfl (xin_vp g10) dX7_gainOf_101 ?_
      obtain ⟨g11, hf⟩ := xgd hf
      refine x_iast (ws' := (wMod cI cZ cN cC h0 h1 h2 h3 h4 h5 h6 h7 h8 h9 h10 h11 h12 h13 h14 h15 mn um len plc srt frm num wrg cm mpt (upd st (Int32.toNatClampNeg x6) (asd (Int32.toNatClampNeg x6))) pst kep isk pil nxs txt cls asd opn byy twc szs sos ths)) E hw 1 0 rfl rfl (xin_vp g11) rfl dX7_gainOf_102 (fun H locs hw => ?_)
      refine lv_iinc (v := (x6 + 1)) (lv' := [(6, .int (x6 + 1)), (0, .ref h0), (5, .int x5)]) hx hb dX7_gainOf_103 hl (k := 2) rfl rfl (by decide) rfl (fun ls hl => ?_)
      refine lv_goto (tgt := 82) hx hb dX7_gainOf_106 (by decide) ?_
      exact ih _ _ hf _ _ _ hw (lv_sub hl [1, 2, 0] rfl)
def f_X7_gainOf_48 (N : Nat) (x1 : Int32) (x2 : Int32) (x3 : Int32) (t0 : Int32) (mn : Int32) (st : (Nat → Int32)) (pil : (Nat → Int32)) (nxs : (Nat → Int32)) (asd : (Nat → Int32)) : Option (Int32 × (Nat → Int32) × (Nat → Int32) × (Nat → Int32) × (Nat → Int32)) :=
  (f_X7_putIn N x1 x2 mn st pil nxs).bind fun q6 =>
  if x3 = 0 then
   (f_X7_pairs N mn q6.1).bind fun q8 =>
   f_X7_gainOf_82 (q8 - t0) q6.2.1 q6.2.2 asd N 0 q6.1
  else
   f_X7_gainOf_82 ((q6.1 (Int32.toNatClampNeg 110)) - t0) q6.2.1 q6.2.2 asd N 0 q6.1
set_option maxHeartbeats 4000000 in
set_option maxRecDepth 100000 in
theorem b_X7_gainOf_48 {p : Program} {l : Launch} {e : Env} {s : State} {m : MethodId} {args : Array Value} {below : List Frame} {meth : Method} {c : Code} {D : va_G} {cI cZ cN cC : ClassId} {ws0 : va_W} {h0 h1 h2 h3 h4 h5 h6 h7 h8 h9 h10 h11 h12 h13 h14 h15 : Nat} {x1 : Int32} {x2 : Int32} {x3 : Int32} {t0 : Int32} {mn : Int32} {um : Int32} {len : Int32} {plc : Int32} {srt : Int32} {frm : Int32} {num : Int32} {wrg : Int32} {cm : Int32} {mpt : Int32} {st : (Nat → Int32)} {pst : (Nat → Int32)} {kep : (Nat → Int32)} {isk : (Nat → Int32)} {pil : (Nat → Int32)} {nxs : (Nat → Int32)} {txt : (Nat → Int32)} {cls : (Nat → Int32)} {asd : (Nat → Int32)} {opn : (Nat → Int32)} {byy : (Nat → Int32)} {twc : (Nat → Int32)} {szs : (Nat → Int32)} {sos : (Nat → Int32)} {ths : (Nat → Int32)} {N : Nat} {res : Int32 × (Nat → Int32) × (Nat → Int32) × (Nat → Int32) × (Nat → Int32)} (E : xE p s m args meth c cX7_gainOf 7 (some .int) RX7 D (xtys cI cZ cN cC) (xA ws0)) : f_X7_gainOf_48 N x1 x2 x3 t0 mn st pil nxs asd = some res → ∀ (H : Heap) (locs : List Loc) (ls : Array Slot), xw D (xA ws0) s.heap (wMod cI cZ cN cC h0 h1 h2 h3 h4 h5 h6 h7 h8 h9 h10 h11 h12 h13 h14 h15 mn um len plc srt frm num wrg cm mpt st pst kep isk pil nxs txt cls asd opn byy twc szs sos ths) H locs → lv_has ls 7 [(0, .ref h0), (1, .int x1), (2, .int x2), (3, .int x3)] → xG p l e 3 70 s m args below meth c D ws0 (wMod cI cZ cN cC h0 h1 h2 h3 h4 h5 h6 h7 h8 h9 h10 h11 h12 h13 h14 h15 mn um len plc srt frm num wrg cm mpt res.2.1 pst kep isk res.2.2.1 res.2.2.2.1 txt cls res.2.2.2.2 opn byy twc szs sos ths) (some (.int res.1)) H locs (F0 m 48 ls [.int t0]) := by
  obtain ⟨hx, hb, -⟩ := id E
  intro hf H locs ls hw hl
  unfold f_X7_gainOf_48 at hf
  refine lv_istore (lv' := [(4, .int t0), (0, .ref h0), (1, .int x1), (2, .int x2), (3, .int x3)]) hx hb dX7_gainOf_48 hl (by decide) rfl (fun ls hl => ?_)
  refine lv_aload_n hx hb dX7_gainOf_50 rfl (lv_at hl 1 rfl) ?_
  refine lv_iload_n hx hb dX7_gainOf_51 rfl (lv_at hl 2 rfl) ?_
  refine lv_iload_n hx hb dX7_gainOf_52 rfl (lv_at hl 3 rfl) ?_
  obtain ⟨q6, hq6, hf⟩ := Option.bind_eq_some_iff.mp hf
  refine x_callVI (ws' := (wMod cI cZ cN cC h0 h1 h2 h3 h4 h5 h6 h7 h8 h9 h10 h11 h12 h13 h14 h15 mn um len plc srt frm num wrg cm mpt q6.1 pst kep isk q6.2.1 q6.2.2 txt cls asd opn byy twc szs sos ths)) (st1 := []) (As := [.int x1, .int x2]) (rest := []) E hw vc_X7_162 (c_X7_putIn (cI := cI) (cZ := cZ) (cN := cN) (cC := cC) (h0 := h0) (h1 := h1) (h2 := h2) (h3 := h3) (h4 := h4) (h5 := h5) (h6 := h6) (h7 := h7) (h8 := h8) (h9 := h9) (h10 := h10) (h11 := h11) (h12 := h12) (h13 := h13) (h14 := h14) (h15 := h15)  (mn := mn) (um := um) (len := len) (plc := plc) (srt := srt) (frm := frm) (num := num) (wrg := wrg) (cm := cm) (mpt := mpt) (st := st) (pst := pst) (kep := kep) (isk := isk) (pil := pil) (nxs := nxs) (txt := txt) (cls := cls) (asd := asd) (opn := opn) (byy := byy) (twc := twc) (szs := szs) (sos := sos) (ths := ths) (x1 := x1) (x2 := x2) hq6) 0 7 rfl rfl rfl rfl rfl ⟨Nat.le_of_ble_eq_true rfl, Nat.le_of_ble_eq_true rfl⟩ ⟨Nat.le_refl _, Nat.le_refl _⟩ hl.1 rfl rfl (Nat.le_of_ble_eq_true rfl) dX7_gainOf_53 (fun H locs hw => ?_)
  refine lv_iload_n hx hb dX7_gainOf_56 rfl (lv_at hl 4 rfl) ?_
  refine lv_if_ne (tgt := 67) hx hb dX7_gainOf_57 (by decide) (fun c7 => ?_) (fun c7 => ?_)
  · rw [if_neg c7] at hf
    refine lv_aload_n hx hb dX7_gainOf_67 rfl (lv_at hl 1 rfl) ?_
    refine x_get E hw kin_X7 0 rfl rfl 1 (by decide) kF_X7_13 (v := .ref h1) rfl dX7_gainOf_68 ?_
    refine lv_bipush (v := 110) hx hb dX7_gainOf_71 (by decide) ?_
    refine x_iald E hw 1 0 rfl rfl (xin_vp (by decide)) dX7_gainOf_73 ?_
    refine lv_iload hx hb dX7_gainOf_74 (lv_at hl 0 rfl) ?_
    refine lv_isub hx hb dX7_gainOf_76 ?_
    refine lv_istore (lv' := [(5, .int ((q6.1 (Int32.toNatClampNeg 110)) - t0)), (4, .int t0), (0, .ref h0), (1, .int x1), (2, .int x2), (3, .int x3)]) hx hb dX7_gainOf_77 hl (by decide) rfl (fun ls hl => ?_)
    refine lv_iconst (v := 0) hx hb dX7_gainOf_79 (by decide) ?_
    refine lv_istore (lv' := [(6, .int 0), (5, .int ((q6.1 (Int32.toNatClampNeg 110)) - t0)), (4, .int t0), (0, .ref h0), (1, .int x1), (2, .int x2), (3, .int x3)]) hx hb dX7_gainOf_80 hl (by decide) rfl (fun ls hl => ?_)
    exact b_X7_gainOf_82 E N _ _ hf _ _ _ hw (lv_sub hl [3, 1, 0] rfl)
  · rw [if_pos c7] at hf
    refine lv_aload_n hx hb dX7_gainOf_60 rfl (lv_at hl 1 rfl) ?_
    obtain ⟨q8, hq8, hf⟩ := Option.bind_eq_some_iff.mp hf
    refine x_callVI (ws' := (wMod cI cZ cN cC h0 h1 h2 h3 h4 h5 h6 h7 h8 h9 h10 h11 h12 h13 h14 h15 mn um len plc srt frm num wrg cm mpt q6.1 pst kep isk q6.2.1 q6.2.2 txt cls asd opn byy twc szs sos ths)) (st1 := [.int q8]) (As := []) (rest := []) E hw vc_X7_174 (c_X7_pairs (cI := cI) (cZ := cZ) (cN := cN) (cC := cC) (h0 := h0) (h1 := h1) (h2 := h2) (h3 := h3) (h4 := h4) (h5 := h5) (h6 := h6) (h7 := h7) (h8 := h8) (h9 := h9) (h10 := h10) (h11 := h11) (h12 := h12) (h13 := h13) (h14 := h14) (h15 := h15)  (mn := mn) (um := um) (len := len) (plc := plc) (srt := srt) (frm := frm) (num := num) (wrg := wrg) (cm := cm) (mpt := mpt) (st := q6.1) (pst := pst) (kep := kep) (isk := isk) (pil := q6.2.1) (nxs := q6.2.2) (txt := txt) (cls := cls) (asd := asd) (opn := opn) (byy := byy) (twc := twc) (szs := szs) (sos := sos) (ths := ths)  hq8) 0 7 rfl rfl rfl rfl rfl ⟨Nat.le_of_ble_eq_true rfl, Nat.le_of_ble_eq_true rfl⟩ ⟨Nat.le_refl _, Nat.le_refl _⟩ hl.1 rfl rfl (Nat.le_of_ble_eq_true rfl) dX7_gainOf_61 (fun H locs hw => ?_)
    refine lv_goto (tgt := 74) hx hb dX7_gainOf_64 (by decide) ?_
    refine lv_iload hx hb dX7_gainOf_74 (lv_at hl 0 rfl) ?_
    refine lv_isub hx hb dX7_gainOf_76 ?_
    refine lv_istore (lv' := [(5, .int (q8 - t0)), (4, .int t0), (0, .ref h0), (1, .int x1), (2, .int x2), (3, .int x3)]) hx hb dX7_gainOf_77 hl (by decide) rfl (fun ls hl => ?_)
    refine lv_iconst (v := 0) hx hb dX7_gainOf_79 (by decide) ?_
    refine lv_istore (lv' := [(6, .int 0), (5, .int (q8 - t0)), (4, .int t0), (0, .ref h0), (1, .int x1), (2, .int x2), (3, .int x3)]) hx hb dX7_gainOf_80 hl (by decide) rfl (fun ls hl => ?_)
    exact b_X7_gainOf_82 E N _ _ hf _ _ _ hw (lv_sub hl [3, 1, 0] rfl)
def f_X7_gainOf_3 (N : Nat) (x1 : Int32) (x2 : Int32) (x3 : Int32) (mn : Int32) (st : (Nat → Int32)) (pil : (Nat → Int32)) (nxs : (Nat → Int32)) : Nat → Int32 → (Nat → Int32) → Option (Int32 × (Nat → Int32) × (Nat → Int32) × (Nat → Int32) × (Nat → Int32))
  | 0, _, _ => none
  | n + 1, x4, asd =>
    if 111 ≤ x4 then
     if x3 = 0 then
      (f_X7_pairs N mn st).bind fun q3 =>
      f_X7_gainOf_48 N x1 x2 x3 q3 mn st pil nxs asd
     else
      f_X7_gainOf_48 N x1 x2 x3 (st (Int32.toNatClampNeg 110)) mn st pil nxs asd
    else
     if xin x4 111 then
     if xin x4 111 then
     f_X7_gainOf_3 N x1 x2 x3 mn st pil nxs n (x4 + 1) (upd asd (Int32.toNatClampNeg x4) (st (Int32.toNatClampNeg x4)))
     else none
     else none
set_option maxHeartbeats 4000000 in
set_option maxRecDepth 100000 in
theorem b_X7_gainOf_3 {p : Program} {l : Launch} {e : Env} {s : State} {m : MethodId} {args : Array Value} {below : List Frame} {meth : Method} {c : Code} {D : va_G} {cI cZ cN cC : ClassId} {ws0 : va_W} {h0 h1 h2 h3 h4 h5 h6 h7 h8 h9 h10 h11 h12 h13 h14 h15 : Nat} {x1 : Int32} {x2 : Int32} {x3 : Int32} {mn : Int32} {um : Int32} {len : Int32} {plc : Int32} {srt : Int32} {frm : Int32} {num : Int32} {wrg : Int32} {cm : Int32} {mpt : Int32} {st : (Nat → Int32)} {pst : (Nat → Int32)} {kep : (Nat → Int32)} {isk : (Nat → Int32)} {pil : (Nat → Int32)} {nxs : (Nat → Int32)} {txt : (Nat → Int32)} {cls : (Nat → Int32)} {opn : (Nat → Int32)} {byy : (Nat → Int32)} {twc : (Nat → Int32)} {szs : (Nat → Int32)} {sos : (Nat → Int32)} {ths : (Nat → Int32)} {N : Nat} {res : Int32 × (Nat → Int32) × (Nat → Int32) × (Nat → Int32) × (Nat → Int32)} (E : xE p s m args meth c cX7_gainOf 7 (some .int) RX7 D (xtys cI cZ cN cC) (xA ws0)) : ∀ (n : Nat) (x4 : Int32) (asd : (Nat → Int32)), f_X7_gainOf_3 N x1 x2 x3 mn st pil nxs n x4 asd = some res → ∀ (H : Heap) (locs : List Loc) (ls : Array Slot), xw D (xA ws0) s.heap (wMod cI cZ cN cC h0 h1 h2 h3 h4 h5 h6 h7 h8 h9 h10 h11 h12 h13 h14 h15 mn um len plc srt frm num wrg cm mpt st pst kep isk pil nxs txt cls asd opn byy twc szs sos ths) H locs → lv_has ls 7 [(0, .ref h0), (1, .int x1), (2, .int x2), (3, .int x3), (4, .int x4)] → xG p l e 3 70 s m args below meth c D ws0 (wMod cI cZ cN cC h0 h1 h2 h3 h4 h5 h6 h7 h8 h9 h10 h11 h12 h13 h14 h15 mn um len plc srt frm num wrg cm mpt res.2.1 pst kep isk res.2.2.1 res.2.2.2.1 txt cls res.2.2.2.2 opn byy twc szs sos ths) (some (.int res.1)) H locs (F0 m 3 ls []) := by
  obtain ⟨hx, hb, -⟩ := id E
  intro n
  induction n with
  | zero =>
    intro _ _ hf
    rw [f_X7_gainOf_3] at hf; cases hf
  | succ n ih =>
    intro x4 asd hf H locs ls hw hl
    rw [f_X7_gainOf_3] at hf
    refine lv_iload hx hb dX7_gainOf_3 (lv_at hl 4 rfl) ?_
    refine lv_bipush (v := 111) hx hb dX7_gainOf_5 (by decide) ?_
    refine lv_icmp_ge (tgt := 30) hx hb dX7_gainOf_7 (by decide) (fun c1 => ?_) (fun c1 => ?_)
    · rw [if_pos c1] at hf
      refine lv_iload_n hx hb dX7_gainOf_30 rfl (lv_at hl 3 rfl) ?_
      refine lv_if_ne (tgt := 41) hx hb dX7_gainOf_31 (by decide) (fun c2 => ?_) (fun c2 => ?_)
      · rw [if_neg c2] at hf
        refine lv_aload_n hx hb dX7_gainOf_41 rfl (lv_at hl 0 rfl) ?_
        refine x_get E hw kin_X7 0 rfl rfl 1 (by decide) kF_X7_13 (v := .ref h1) rfl dX7_gainOf_42 ?_
        refine lv_bipush (v := 110) hx hb dX7_gainOf_45 (by decide) ?_
        refine x_iald E hw 1 0 rfl rfl (xin_vp (by decide)) dX7_gainOf_47 ?_
        exact b_X7_gainOf_48 E  hf _ _ _ hw (lv_sub hl [0, 1, 2, 3] rfl)
      · rw [if_pos c2] at hf
        refine lv_aload_n hx hb dX7_gainOf_34 rfl (lv_at hl 0 rfl) ?_
        obtain ⟨q3, hq3, hf⟩ := Option.bind_eq_some_iff.mp hf
        refine x_callVI (ws' := (wMod cI cZ cN cC h0 h1 h2 h3 h4 h5 h6 h7 h8 h9 h10 h11 h12 h13 h14 h15 mn um len plc srt frm num wrg cm mpt st pst kep isk pil nxs txt cls asd opn byy twc szs sos ths)) (st1 := [.int q3]) (As := []) (rest := []) E hw vc_X7_174 (c_X7_pairs (cI := cI) (cZ := cZ) (cN := cN) (cC := cC) (h0 := h0) (h1 := h1) (h2 := h2) (h3 := h3) (h4 := h4) (h5 := h5) (h6 := h6) (h7 := h7) (h8 := h8) (h9 := h9) (h10 := h10) (h11 := h11) (h12 := h12) (h13 := h13) (h14 := h14) (h15 := h15)  (mn := mn) (um := um) (len := len) (plc := plc) (srt := srt) (frm := frm) (num := num) (wrg := wrg) (cm := cm) (mpt := mpt) (st := st) (pst := pst) (kep := kep) (isk := isk) (pil := pil) (nxs := nxs) (txt := txt) (cls := cls) (asd := asd) (opn := opn) (byy := byy) (twc := twc) (szs := szs) (sos := sos) (ths := ths)  hq3) 0 7 rfl rfl rfl rfl rfl ⟨Nat.le_of_ble_eq_true rfl, Nat.le_of_ble_eq_true rfl⟩ ⟨Nat.le_refl _, Nat.le_refl _⟩ hl.1 rfl rfl (Nat.le_of_ble_eq_true rfl) dX7_gainOf_35 (fun H locs hw => ?_)
        refine lv_goto (tgt := 48) hx hb dX7_gainOf_38 (by decide) ?_
        exact b_X7_gainOf_48 E  hf _ _ _ hw (lv_sub hl [0, 1, 2, 3] rfl)
    · rw [if_neg c1] at hf
      refine lv_aload_n hx hb dX7_gainOf_10 rfl (lv_at hl 0 rfl) ?_
      refine x_get E hw kin_X7 0 rfl rfl 18 (by decide) kF_X7_38 (v := .ref h9) rfl dX7_gainOf_11 ?_
      refine lv_iload hx hb dX7_gainOf_14 (lv_at hl 4 rfl) ?_
      refine lv_aload_n hx hb dX7_gainOf_16 rfl (lv_at hl 0 rfl) ?_
      refine x_get E hw kin_X7 0 rfl rfl 1 (by decide) kF_X7_13 (v := .ref h1) rfl dX7_gainOf_17 ?_
      refine lv_iload hx hb dX7_gainOf_20 (lv_at hl 4 rfl) ?_
      obtain ⟨g4, hf⟩ := xgd hf
      refine x_iald E hw 1 0 rfl rfl (xin_vp g4) dX7_gainOf_22 ?_
      obtain ⟨g5, hf⟩ := xgd hf
      refine x_iast (ws' := (wMod cI cZ cN cC h0 h1 h2 h3 h4 h5 h6 h7 h8 h9 h10 h11 h12 h13 h14 h15 mn um len plc srt frm num wrg cm mpt st pst kep isk pil nxs txt cls (upd asd (Int32.toNatClampNeg x4) (st (Int32.toNatClampNeg x4))) opn byy twc szs sos ths)) E hw 9 0 rfl rfl (xin_vp g5) rfl dX7_gainOf_23 (fun H locs hw => ?_)
      refine lv_iinc (v := (x4 + 1)) (lv' := [(4, .int (x4 + 1)), (0, .ref h0), (1, .int x1), (2, .int x2), (3, .int x3)]) hx hb dX7_gainOf_24 hl (k := 4) rfl rfl (by decide) rfl (fun ls hl => ?_)
      refine lv_goto (tgt := 3) hx hb dX7_gainOf_27 (by decide) ?_
      exact ih _ _ hf _ _ _ hw (lv_sub hl [1, 2, 3, 4, 0] rfl)
def f_X7_gainOf (N : Nat) (x1 : Int32) (x2 : Int32) (x3 : Int32) (mn : Int32) (st : (Nat → Int32)) (pil : (Nat → Int32)) (nxs : (Nat → Int32)) (asd : (Nat → Int32)) : Option (Int32 × (Nat → Int32) × (Nat → Int32) × (Nat → Int32) × (Nat → Int32)) :=
  f_X7_gainOf_3 N x1 x2 x3 mn st pil nxs N 0 asd
set_option maxHeartbeats 4000000 in
set_option maxRecDepth 100000 in
theorem c_X7_gainOf {l : Launch} {D : va_G} {cI cZ cN cC : ClassId} {h0 h1 h2 h3 h4 h5 h6 h7 h8 h9 h10 h11 h12 h13 h14 h15 : Nat} {mn : Int32} {um : Int32} {len : Int32} {plc : Int32} {srt : Int32} {frm : Int32} {num : Int32} {wrg : Int32} {cm : Int32} {mpt : Int32} {st : (Nat → Int32)} {pst : (Nat → Int32)} {kep : (Nat → Int32)} {isk : (Nat → Int32)} {pil : (Nat → Int32)} {nxs : (Nat → Int32)} {txt : (Nat → Int32)} {cls : (Nat → Int32)} {asd : (Nat → Int32)} {opn : (Nat → Int32)} {byy : (Nat → Int32)} {twc : (Nat → Int32)} {szs : (Nat → Int32)} {sos : (Nat → Int32)} {ths : (Nat → Int32)} {x1 : Int32} {x2 : Int32} {x3 : Int32} {N : Nat} {res : Int32 × (Nat → Int32) × (Nat → Int32) × (Nat → Int32) × (Nat → Int32)} (hf : f_X7_gainOf N x1 x2 x3 mn st pil nxs asd = some res) : xMet l D (xtys cI cZ cN cC) yX7_gainOf cX7_gainOf 7 (some .int) 3 70 [.ref h0, .int x1, .int x2, .int x3] (wMod cI cZ cN cC h0 h1 h2 h3 h4 h5 h6 h7 h8 h9 h10 h11 h12 h13 h14 h15 mn um len plc srt frm num wrg cm mpt st pst kep isk pil nxs txt cls asd opn byy twc szs sos ths) (wMod cI cZ cN cC h0 h1 h2 h3 h4 h5 h6 h7 h8 h9 h10 h11 h12 h13 h14 h15 mn um len plc srt frm num wrg cm mpt res.2.1 pst kep isk res.2.2.1 res.2.2.2.1 txt cls res.2.2.2.2 opn byy twc szs sos ths) (some (.int res.1)) := by
  refine x_enter (by decide) (Nat.le_of_ble_eq_true rfl) ?_
  intro p e s m args below meth c E ls hl hw
  have E : xE p s m args meth c cX7_gainOf 7 (some .int) RX7 D (xtys cI cZ cN cC) (xA (wMod cI cZ cN cC h0 h1 h2 h3 h4 h5 h6 h7 h8 h9 h10 h11 h12 h13 h14 h15 mn um len plc srt frm num wrg cm mpt st pst kep isk pil nxs txt cls asd opn byy twc szs sos ths)) := E
  obtain ⟨hx, hb, -⟩ := id E
  have hl : lv_has ls 7 [(0, .ref h0), (1, .int x1), (2, .int x2), (3, .int x3)] := hl
  unfold f_X7_gainOf at hf
  refine lv_iconst (v := 0) hx hb dX7_gainOf_0 (by decide) ?_
  refine lv_istore (lv' := [(4, .int 0), (0, .ref h0), (1, .int x1), (2, .int x2), (3, .int x3)]) hx hb dX7_gainOf_1 hl (by decide) rfl (fun ls hl => ?_)
  exact b_X7_gainOf_3 E N _ _ hf _ _ _ hw (lv_sub hl [1, 2, 3, 4, 0] rfl)

def f_X7_gain (N : Nat) (x1 : Int32) (x2 : Int32) (x3 : Int32) (mn : Int32) (st : (Nat → Int32)) (pil : (Nat → Int32)) (nxs : (Nat → Int32)) (asd : (Nat → Int32)) : Option (Int32 × (Nat → Int32) × (Nat → Int32) × (Nat → Int32) × (Nat → Int32)) :=
  if (f_X7_areTwo x1 x2 mn) = 0 then
   some ((-2), st, pil, nxs, asd)
  else
   if (f_X7_in (Int32.toInt64 x3) 0 1) = 0 then
    some ((-3), st, pil, nxs, asd)
   else
    (f_X7_isArc x1 x2 mn st).bind fun q3 =>
    if q3 = 0 then
     (f_X7_gainOf N x1 x2 x3 mn st pil nxs asd).bind fun q5 =>
     some (q5.1, q5.2.1, q5.2.2.1, q5.2.2.2.1, q5.2.2.2.2)
    else
     some ((-4), st, pil, nxs, asd)
set_option maxHeartbeats 4000000 in
set_option maxRecDepth 100000 in
theorem c_X7_gain {l : Launch} {D : va_G} {cI cZ cN cC : ClassId} {h0 h1 h2 h3 h4 h5 h6 h7 h8 h9 h10 h11 h12 h13 h14 h15 : Nat} {mn : Int32} {um : Int32} {len : Int32} {plc : Int32} {srt : Int32} {frm : Int32} {num : Int32} {wrg : Int32} {cm : Int32} {mpt : Int32} {st : (Nat → Int32)} {pst : (Nat → Int32)} {kep : (Nat → Int32)} {isk : (Nat → Int32)} {pil : (Nat → Int32)} {nxs : (Nat → Int32)} {txt : (Nat → Int32)} {cls : (Nat → Int32)} {asd : (Nat → Int32)} {opn : (Nat → Int32)} {byy : (Nat → Int32)} {twc : (Nat → Int32)} {szs : (Nat → Int32)} {sos : (Nat → Int32)} {ths : (Nat → Int32)} {x1 : Int32} {x2 : Int32} {x3 : Int32} {N : Nat} {res : Int32 × (Nat → Int32) × (Nat → Int32) × (Nat → Int32) × (Nat → Int32)} (hf : f_X7_gain N x1 x2 x3 mn st pil nxs asd = some res) : xMet l D (xtys cI cZ cN cC) yX7_gain cX7_gain 4 (some .int) 4 96 [.ref h0, .int x1, .int x2, .int x3] (wMod cI cZ cN cC h0 h1 h2 h3 h4 h5 h6 h7 h8 h9 h10 h11 h12 h13 h14 h15 mn um len plc srt frm num wrg cm mpt st pst kep isk pil nxs txt cls asd opn byy twc szs sos ths) (wMod cI cZ cN cC h0 h1 h2 h3 h4 h5 h6 h7 h8 h9 h10 h11 h12 h13 h14 h15 mn um len plc srt frm num wrg cm mpt res.2.1 pst kep isk res.2.2.1 res.2.2.2.1 txt cls res.2.2.2.2 opn byy twc szs sos ths) (some (.int res.1)) := by
  refine x_enter (by decide) (Nat.le_of_ble_eq_true rfl) ?_
  intro p e s m args below meth c E ls hl hw
  have E : xE p s m args meth c cX7_gain 4 (some .int) RX7 D (xtys cI cZ cN cC) (xA (wMod cI cZ cN cC h0 h1 h2 h3 h4 h5 h6 h7 h8 h9 h10 h11 h12 h13 h14 h15 mn um len plc srt frm num wrg cm mpt st pst kep isk pil nxs txt cls asd opn byy twc szs sos ths)) := E
  obtain ⟨hx, hb, -⟩ := id E
  have hl : lv_has ls 4 [(0, .ref h0), (1, .int x1), (2, .int x2), (3, .int x3)] := hl
  unfold f_X7_gain at hf
  refine lv_aload_n hx hb dX7_gain_0 rfl (lv_at hl 0 rfl) ?_
  refine lv_iload_n hx hb dX7_gain_1 rfl (lv_at hl 1 rfl) ?_
  refine lv_iload_n hx hb dX7_gain_2 rfl (lv_at hl 2 rfl) ?_
  refine x_callVI (ws' := (wMod cI cZ cN cC h0 h1 h2 h3 h4 h5 h6 h7 h8 h9 h10 h11 h12 h13 h14 h15 mn um len plc srt frm num wrg cm mpt st pst kep isk pil nxs txt cls asd opn byy twc szs sos ths)) (st1 := [.int (f_X7_areTwo x1 x2 mn)]) (As := [.int x1, .int x2]) (rest := []) E hw vc_X7_74 (c_X7_areTwo (cI := cI) (cZ := cZ) (cN := cN) (cC := cC) (h0 := h0) (h1 := h1) (h2 := h2) (h3 := h3) (h4 := h4) (h5 := h5) (h6 := h6) (h7 := h7) (h8 := h8) (h9 := h9) (h10 := h10) (h11 := h11) (h12 := h12) (h13 := h13) (h14 := h14) (h15 := h15)  (mn := mn) (um := um) (len := len) (plc := plc) (srt := srt) (frm := frm) (num := num) (wrg := wrg) (cm := cm) (mpt := mpt) (st := st) (pst := pst) (kep := kep) (isk := isk) (pil := pil) (nxs := nxs) (txt := txt) (cls := cls) (asd := asd) (opn := opn) (byy := byy) (twc := twc) (szs := szs) (sos := sos) (ths := ths) (x1 := x1) (x2 := x2) rfl) 0 7 rfl rfl rfl rfl rfl ⟨Nat.le_of_ble_eq_true rfl, Nat.le_of_ble_eq_true rfl⟩ ⟨Nat.le_refl _, Nat.le_refl _⟩ hl.1 rfl rfl (Nat.le_of_ble_eq_true rfl) dX7_gain_3 (fun H locs hw => ?_)
  refine lv_if_ne (tgt := 12) hx hb dX7_gain_6 (by decide) (fun c1 => ?_) (fun c1 => ?_)
  · rw [if_neg c1] at hf
    refine lv_iload_n hx hb dX7_gain_12 rfl (lv_at hl 3 rfl) ?_
    refine lv_i2l (v := (Int32.toInt64 x3)) hx hb dX7_gain_13 rfl ?_
    refine lv_lconst (v := 0) hx hb dX7_gain_14 (by decide) ?_
    refine lv_lconst (v := 1) hx hb dX7_gain_15 (by decide) ?_
    refine x_callS (isC := []) (ws' := (wMod cI cZ cN cC h0 h1 h2 h3 h4 h5 h6 h7 h8 h9 h10 h11 h12 h13 h14 h15 mn um len plc srt frm num wrg cm mpt st pst kep isk pil nxs txt cls asd opn byy twc szs sos ths)) (st1 := [.int (f_X7_in (Int32.toInt64 x3) 0 1)]) (As := [.long (Int32.toInt64 x3), .long 0, .long 1]) (rest := []) E hw vc_X7_66 (c_X7_in (cI := cI) (cZ := cZ) (cN := cN) (cC := cC)    (x0 := (Int32.toInt64 x3)) (x2 := 0) (x4 := 1) rfl) rfl rfl rfl rfl rfl rfl ⟨Nat.le_of_ble_eq_true rfl, Nat.le_of_ble_eq_true rfl⟩ ⟨Nat.le_refl _, Nat.le_refl _⟩ hl.1 rfl rfl (Nat.le_of_ble_eq_true rfl) dX7_gain_16 (fun H locs hw => ?_)
    refine lv_if_ne (tgt := 25) hx hb dX7_gain_19 (by decide) (fun c2 => ?_) (fun c2 => ?_)
    · rw [if_neg c2] at hf
      refine lv_aload_n hx hb dX7_gain_25 rfl (lv_at hl 0 rfl) ?_
      refine lv_iload_n hx hb dX7_gain_26 rfl (lv_at hl 1 rfl) ?_
      refine lv_iload_n hx hb dX7_gain_27 rfl (lv_at hl 2 rfl) ?_
      obtain ⟨q3, hq3, hf⟩ := Option.bind_eq_some_iff.mp hf
      refine x_callVI (ws' := (wMod cI cZ cN cC h0 h1 h2 h3 h4 h5 h6 h7 h8 h9 h10 h11 h12 h13 h14 h15 mn um len plc srt frm num wrg cm mpt st pst kep isk pil nxs txt cls asd opn byy twc szs sos ths)) (st1 := [.int q3]) (As := [.int x1, .int x2]) (rest := []) E hw vc_X7_171 (c_X7_isArc (cI := cI) (cZ := cZ) (cN := cN) (cC := cC) (h0 := h0) (h1 := h1) (h2 := h2) (h3 := h3) (h4 := h4) (h5 := h5) (h6 := h6) (h7 := h7) (h8 := h8) (h9 := h9) (h10 := h10) (h11 := h11) (h12 := h12) (h13 := h13) (h14 := h14) (h15 := h15)  (mn := mn) (um := um) (len := len) (plc := plc) (srt := srt) (frm := frm) (num := num) (wrg := wrg) (cm := cm) (mpt := mpt) (st := st) (pst := pst) (kep := kep) (isk := isk) (pil := pil) (nxs := nxs) (txt := txt) (cls := cls) (asd := asd) (opn := opn) (byy := byy) (twc := twc) (szs := szs) (sos := sos) (ths := ths) (x1 := x1) (x2 := x2) hq3) 0 7 rfl rfl rfl rfl rfl ⟨Nat.le_of_ble_eq_true rfl, Nat.le_of_ble_eq_true rfl⟩ ⟨Nat.le_refl _, Nat.le_refl _⟩ hl.1 rfl rfl (Nat.le_of_ble_eq_true rfl) dX7_gain_28 (fun H locs hw => ?_)
      refine lv_if_eq (tgt := 39) hx hb dX7_gain_31 (by decide) (fun c4 => ?_) (fun c4 => ?_)
      · rw [if_pos c4] at hf
        refine lv_aload_n hx hb dX7_gain_39 rfl (lv_at hl 0 rfl) ?_
        refine lv_iload_n hx hb dX7_gain_40 rfl (lv_at hl 1 rfl) ?_
        refine lv_iload_n hx hb dX7_gain_41 rfl (lv_at hl 2 rfl) ?_
        refine lv_iload_n hx hb dX7_gain_42 rfl (lv_at hl 3 rfl) ?_
        obtain ⟨q5, hq5, hf⟩ := Option.bind_eq_some_iff.mp hf
        refine x_callVI (ws' := (wMod cI cZ cN cC h0 h1 h2 h3 h4 h5 h6 h7 h8 h9 h10 h11 h12 h13 h14 h15 mn um len plc srt frm num wrg cm mpt q5.2.1 pst kep isk q5.2.2.1 q5.2.2.2.1 txt cls q5.2.2.2.2 opn byy twc szs sos ths)) (st1 := [.int q5.1]) (As := [.int x1, .int x2, .int x3]) (rest := []) E hw vc_X7_217 (c_X7_gainOf (cI := cI) (cZ := cZ) (cN := cN) (cC := cC) (h0 := h0) (h1 := h1) (h2 := h2) (h3 := h3) (h4 := h4) (h5 := h5) (h6 := h6) (h7 := h7) (h8 := h8) (h9 := h9) (h10 := h10) (h11 := h11) (h12 := h12) (h13 := h13) (h14 := h14) (h15 := h15)  (mn := mn) (um := um) (len := len) (plc := plc) (srt := srt) (frm := frm) (num := num) (wrg := wrg) (cm := cm) (mpt := mpt) (st := st) (pst := pst) (kep := kep) (isk := isk) (pil := pil) (nxs := nxs) (txt := txt) (cls := cls) (asd := asd) (opn := opn) (byy := byy) (twc := twc) (szs := szs) (sos := sos) (ths := ths) (x1 := x1) (x2 := x2) (x3 := x3) hq5) 0 7 rfl rfl rfl rfl rfl ⟨Nat.le_of_ble_eq_true rfl, Nat.le_of_ble_eq_true rfl⟩ ⟨Nat.le_refl _, Nat.le_refl _⟩ hl.1 rfl rfl (Nat.le_of_ble_eq_true rfl) dX7_gain_43 (fun H locs hw => ?_)
        have hf := Option.some.inj hf; subst hf
        exact x_iret E hw dX7_gain_46
      · rw [if_neg c4] at hf
        refine lv_bipush (v := (-4)) hx hb dX7_gain_34 (by decide) ?_
        refine lv_goto (tgt := 46) hx hb dX7_gain_36 (by decide) ?_
        have hf := Option.some.inj hf; subst hf
        exact x_iret E hw dX7_gain_46
    · rw [if_pos c2] at hf
      refine lv_bipush (v := (-3)) hx hb dX7_gain_22 (by decide) ?_
      have hf := Option.some.inj hf; subst hf
      exact x_iret E hw dX7_gain_24
  · rw [if_pos c1] at hf
    refine lv_bipush (v := (-2)) hx hb dX7_gain_9 (by decide) ?_
    have hf := Option.some.inj hf; subst hf
    exact x_iret E hw dX7_gain_11

def f_X7_best_73 (k17 : Int32 → Int32 → Int32 → (Nat → Int32) → (Nat → Int32) → (Nat → Int32) → (Nat → Int32) → Option (Int32 × (Nat → Int32) × (Nat → Int32) × (Nat → Int32) × (Nat → Int32))) (x2 : Int32) (x4 : Int32) (x5 : Int32) (t0 : Int32) (st : (Nat → Int32)) (pil : (Nat → Int32)) (nxs : (Nat → Int32)) (asd : (Nat → Int32)) : Option (Int32 × (Nat → Int32) × (Nat → Int32) × (Nat → Int32) × (Nat → Int32)) :=
  if x5 ≤ x2 then
   k17 t0 x2 (x4 + 1) st pil nxs asd
  else
   k17 t0 x5 (x4 + 1) st pil nxs asd
set_option maxHeartbeats 4000000 in
set_option maxRecDepth 100000 in
theorem b_X7_best_73 {p : Program} {l : Launch} {e : Env} {s : State} {m : MethodId} {args : Array Value} {below : List Frame} {meth : Method} {c : Code} {D : va_G} {cI cZ cN cC : ClassId} {ws0 : va_W} {h0 h1 h2 h3 h4 h5 h6 h7 h8 h9 h10 h11 h12 h13 h14 h15 : Nat} {x2 : Int32} {x3 : Int32} {x4 : Int32} {x5 : Int32} {t0 : Int32} {mn : Int32} {um : Int32} {len : Int32} {plc : Int32} {srt : Int32} {frm : Int32} {num : Int32} {wrg : Int32} {cm : Int32} {mpt : Int32} {st : (Nat → Int32)} {pst : (Nat → Int32)} {kep : (Nat → Int32)} {isk : (Nat → Int32)} {pil : (Nat → Int32)} {nxs : (Nat → Int32)} {txt : (Nat → Int32)} {cls : (Nat → Int32)} {asd : (Nat → Int32)} {opn : (Nat → Int32)} {byy : (Nat → Int32)} {twc : (Nat → Int32)} {szs : (Nat → Int32)} {sos : (Nat → Int32)} {ths : (Nat → Int32)} {res : Int32 × (Nat → Int32) × (Nat → Int32) × (Nat → Int32) × (Nat → Int32)} (E : xE p s m args meth c cX7_best 6 (some .int) RX7 D (xtys cI cZ cN cC) (xA ws0)) {k17 : Int32 → Int32 → Int32 → (Nat → Int32) → (Nat → Int32) → (Nat → Int32) → (Nat → Int32) → Option (Int32 × (Nat → Int32) × (Nat → Int32) × (Nat → Int32) × (Nat → Int32))} (hk17 : ∀ (x1 : Int32) (x2 : Int32) (x4 : Int32) (st : (Nat → Int32)) (pil : (Nat → Int32)) (nxs : (Nat → Int32)) (asd : (Nat → Int32)), k17 x1 x2 x4 st pil nxs asd = some res → ∀ (H : Heap) (locs : List Loc) (ls : Array Slot), xw D (xA ws0) s.heap (wMod cI cZ cN cC h0 h1 h2 h3 h4 h5 h6 h7 h8 h9 h10 h11 h12 h13 h14 h15 mn um len plc srt frm num wrg cm mpt st pst kep isk pil nxs txt cls asd opn byy twc szs sos ths) H locs → lv_has ls 6 [(0, .ref h0), (1, .int x1), (2, .int x2), (3, .int x3), (4, .int x4)] → xG p l e 4 96 s m args below meth c D ws0 (wMod cI cZ cN cC h0 h1 h2 h3 h4 h5 h6 h7 h8 h9 h10 h11 h12 h13 h14 h15 mn um len plc srt frm num wrg cm mpt res.2.1 pst kep isk res.2.2.1 res.2.2.2.1 txt cls res.2.2.2.2 opn byy twc szs sos ths) (some (.int res.1)) H locs (F0 m 17 ls [])) : f_X7_best_73 k17 x2 x4 x5 t0 st pil nxs asd = some res → ∀ (H : Heap) (locs : List Loc) (ls : Array Slot), xw D (xA ws0) s.heap (wMod cI cZ cN cC h0 h1 h2 h3 h4 h5 h6 h7 h8 h9 h10 h11 h12 h13 h14 h15 mn um len plc srt frm num wrg cm mpt st pst kep isk pil nxs txt cls asd opn byy twc szs sos ths) H locs → lv_has ls 6 [(0, .ref h0), (2, .int x2), (3, .int x3), (4, .int x4), (5, .int x5)] → xG p l e 4 96 s m args below meth c D ws0 (wMod cI cZ cN cC h0 h1 h2 h3 h4 h5 h6 h7 h8 h9 h10 h11 h12 h13 h14 h15 mn um len plc srt frm num wrg cm mpt res.2.1 pst kep isk res.2.2.1 res.2.2.2.1 txt cls res.2.2.2.2 opn byy twc szs sos ths) (some (.int res.1)) H locs (F0 m 73 ls [.int t0]) := by
  obtain ⟨hx, hb, -⟩ := id E
  intro hf H locs ls hw hl
  unfold f_X7_best_73 at hf
  refine lv_istore_n (lv' := [(1, .int t0), (0, .ref h0), (2, .int x2), (3, .int x3), (4, .int x4), (5, .int x5)]) hx hb dX7_best_73 rfl hl (by decide) rfl (fun ls hl => ?_)
  refine lv_iload hx hb dX7_best_74 (lv_at hl 5 rfl) ?_
  refine lv_iload_n hx hb dX7_best_76 rfl (lv_at hl 2 rfl) ?_
  refine lv_icmp_le (tgt := 85) hx hb dX7_best_77 (by decide) (fun c10 => ?_) (fun c10 => ?_)
  · rw [if_pos c10] at hf
    refine lv_iload_n hx hb dX7_best_85 rfl (lv_at hl 2 rfl) ?_
    refine lv_istore_n (lv' := [(2, .int x2), (1, .int t0), (0, .ref h0), (3, .int x3), (4, .int x4), (5, .int x5)]) hx hb dX7_best_86 rfl hl (by decide) rfl (fun ls hl => ?_)
    refine lv_iinc (v := (x4 + 1)) (lv' := [(4, .int (x4 + 1)), (2, .int x2), (1, .int t0), (0, .ref h0), (3, .int x3), (5, .int x5)]) hx hb dX7_best_87 hl (k := 4) rfl rfl (by decide) rfl (fun ls hl => ?_)
    refine lv_goto (tgt := 17) hx hb dX7_best_90 (by decide) ?_
    exact hk17 _ _ _ _ _ _ _ hf _ _ _ hw (lv_sub hl [3, 2, 1, 4, 0] rfl)
  · rw [if_neg c10] at hf
    refine lv_iload hx hb dX7_best_80 (lv_at hl 5 rfl) ?_
    refine lv_goto (tgt := 86) hx hb dX7_best_82 (by decide) ?_
    refine lv_istore_n (lv' := [(2, .int x5), (1, .int t0), (0, .ref h0), (3, .int x3), (4, .int x4), (5, .int x5)]) hx hb dX7_best_86 rfl hl (by decide) rfl (fun ls hl => ?_)
    refine lv_iinc (v := (x4 + 1)) (lv' := [(4, .int (x4 + 1)), (2, .int x5), (1, .int t0), (0, .ref h0), (3, .int x3), (5, .int x5)]) hx hb dX7_best_87 hl (k := 4) rfl rfl (by decide) rfl (fun ls hl => ?_)
    refine lv_goto (tgt := 17) hx hb dX7_best_90 (by decide) ?_
    exact hk17 _ _ _ _ _ _ _ hf _ _ _ hw (lv_sub hl [3, 2, 1, 4, 0] rfl)
def f_X7_best_17 (k6 : Int32 → Int32 → Int32 → (Nat → Int32) → (Nat → Int32) → (Nat → Int32) → (Nat → Int32) → Option (Int32 × (Nat → Int32) × (Nat → Int32) × (Nat → Int32) × (Nat → Int32))) (N : Nat) (x3 : Int32) (mn : Int32) : Nat → Int32 → Int32 → Int32 → (Nat → Int32) → (Nat → Int32) → (Nat → Int32) → (Nat → Int32) → Option (Int32 × (Nat → Int32) × (Nat → Int32) × (Nat → Int32) × (Nat → Int32))
  | 0, _, _, _, _, _, _, _ => none
  | n + 1, x1, x2, x4, st, pil, nxs, asd =>
    if mn ≤ x4 then
     k6 x1 x2 (x3 + 1) st pil nxs asd
    else
     if x3 = x4 then
      if (-1) ≤ x2 then
       f_X7_best_73 (fun x1 x2 x4 st pil nxs asd => f_X7_best_17 k6 N x3 mn n x1 x2 x4 st pil nxs asd) x2 x4 (-1) x1 st pil nxs asd
      else
       f_X7_best_73 (fun x1 x2 x4 st pil nxs asd => f_X7_best_17 k6 N x3 mn n x1 x2 x4 st pil nxs asd) x2 x4 (-1) ((10 * x3) + x4) st pil nxs asd
     else
      (f_X7_isArc x3 x4 mn st).bind fun q5 =>
      if q5 = 0 then
       (f_X7_gainOf N x3 x4 0 mn st pil nxs asd).bind fun q8 =>
       if q8.1 ≤ x2 then
        f_X7_best_73 (fun x1 x2 x4 st pil nxs asd => f_X7_best_17 k6 N x3 mn n x1 x2 x4 st pil nxs asd) x2 x4 q8.1 x1 q8.2.1 q8.2.2.1 q8.2.2.2.1 q8.2.2.2.2
       else
        f_X7_best_73 (fun x1 x2 x4 st pil nxs asd => f_X7_best_17 k6 N x3 mn n x1 x2 x4 st pil nxs asd) x2 x4 q8.1 ((10 * x3) + x4) q8.2.1 q8.2.2.1 q8.2.2.2.1 q8.2.2.2.2
      else
       if (-1) ≤ x2 then
        f_X7_best_73 (fun x1 x2 x4 st pil nxs asd => f_X7_best_17 k6 N x3 mn n x1 x2 x4 st pil nxs asd) x2 x4 (-1) x1 st pil nxs asd
       else
        f_X7_best_73 (fun x1 x2 x4 st pil nxs asd => f_X7_best_17 k6 N x3 mn n x1 x2 x4 st pil nxs asd) x2 x4 (-1) ((10 * x3) + x4) st pil nxs asd
set_option maxHeartbeats 4000000 in
set_option maxRecDepth 100000 in
theorem b_X7_best_17 {p : Program} {l : Launch} {e : Env} {s : State} {m : MethodId} {args : Array Value} {below : List Frame} {meth : Method} {c : Code} {D : va_G} {cI cZ cN cC : ClassId} {ws0 : va_W} {h0 h1 h2 h3 h4 h5 h6 h7 h8 h9 h10 h11 h12 h13 h14 h15 : Nat} {x3 : Int32} {mn : Int32} {um : Int32} {len : Int32} {plc : Int32} {srt : Int32} {frm : Int32} {num : Int32} {wrg : Int32} {cm : Int32} {mpt : Int32} {pst : (Nat → Int32)} {kep : (Nat → Int32)} {isk : (Nat → Int32)} {txt : (Nat → Int32)} {cls : (Nat → Int32)} {opn : (Nat → Int32)} {byy : (Nat → Int32)} {twc : (Nat → Int32)} {szs : (Nat → Int32)} {sos : (Nat → Int32)} {ths : (Nat → Int32)} {N : Nat} {res : Int32 × (Nat → Int32) × (Nat → Int32) × (Nat → Int32) × (Nat → Int32)} (E : xE p s m args meth c cX7_best 6 (some .int) RX7 D (xtys cI cZ cN cC) (xA ws0)) {k6 : Int32 → Int32 → Int32 → (Nat → Int32) → (Nat → Int32) → (Nat → Int32) → (Nat → Int32) → Option (Int32 × (Nat → Int32) × (Nat → Int32) × (Nat → Int32) × (Nat → Int32))} (hk6 : ∀ (x1 : Int32) (x2 : Int32) (x3 : Int32) (st : (Nat → Int32)) (pil : (Nat → Int32)) (nxs : (Nat → Int32)) (asd : (Nat → Int32)), k6 x1 x2 x3 st pil nxs asd = some res → ∀ (H : Heap) (locs : List Loc) (ls : Array Slot), xw D (xA ws0) s.heap (wMod cI cZ cN cC h0 h1 h2 h3 h4 h5 h6 h7 h8 h9 h10 h11 h12 h13 h14 h15 mn um len plc srt frm num wrg cm mpt st pst kep isk pil nxs txt cls asd opn byy twc szs sos ths) H locs → lv_has ls 6 [(0, .ref h0), (1, .int x1), (2, .int x2), (3, .int x3)] → xG p l e 4 96 s m args below meth c D ws0 (wMod cI cZ cN cC h0 h1 h2 h3 h4 h5 h6 h7 h8 h9 h10 h11 h12 h13 h14 h15 mn um len plc srt frm num wrg cm mpt res.2.1 pst kep isk res.2.2.1 res.2.2.2.1 txt cls res.2.2.2.2 opn byy twc szs sos ths) (some (.int res.1)) H locs (F0 m 6 ls [])) : ∀ (n : Nat) (x1 : Int32) (x2 : Int32) (x4 : Int32) (st : (Nat → Int32)) (pil : (Nat → Int32)) (nxs : (Nat → Int32)) (asd : (Nat → Int32)), f_X7_best_17 k6 N x3 mn n x1 x2 x4 st pil nxs asd = some res → ∀ (H : Heap) (locs : List Loc) (ls : Array Slot), xw D (xA ws0) s.heap (wMod cI cZ cN cC h0 h1 h2 h3 h4 h5 h6 h7 h8 h9 h10 h11 h12 h13 h14 h15 mn um len plc srt frm num wrg cm mpt st pst kep isk pil nxs txt cls asd opn byy twc szs sos ths) H locs → lv_has ls 6 [(0, .ref h0), (1, .int x1), (2, .int x2), (3, .int x3), (4, .int x4)] → xG p l e 4 96 s m args below meth c D ws0 (wMod cI cZ cN cC h0 h1 h2 h3 h4 h5 h6 h7 h8 h9 h10 h11 h12 h13 h14 h15 mn um len plc srt frm num wrg cm mpt res.2.1 pst kep isk res.2.2.1 res.2.2.2.1 txt cls res.2.2.2.2 opn byy twc szs sos ths) (some (.int res.1)) H locs (F0 m 17 ls []) := by
  obtain ⟨hx, hb, -⟩ := id E
  intro n
  induction n with
  | zero =>
    intro _ _ _ _ _ _ _ hf
    rw [f_X7_best_17] at hf; cases hf
  | succ n ih =>
    intro x1 x2 x4 st pil nxs asd hf H locs ls hw hl
    rw [f_X7_best_17] at hf
    refine lv_iload hx hb dX7_best_17 (lv_at hl 4 rfl) ?_
    refine lv_aload_n hx hb dX7_best_19 rfl (lv_at hl 0 rfl) ?_
    refine x_get E hw kin_X7 0 rfl rfl 0 (by decide) kF_X7_7 (v := .int mn) rfl dX7_best_20 ?_
    refine lv_icmp_ge (tgt := 93) hx hb dX7_best_23 (by decide) (fun c2 => ?_) (fun c2 => ?_)
    · rw [if_pos c2] at hf
      refine lv_iinc (v := (x3 + 1)) (lv' := [(3, .int (x3 + 1)), (0, .ref h0), (1, .int x1), (2, .int x2), (4, .int x4)]) hx hb dX7_best_93 hl (k := 3) rfl rfl (by decide) rfl (fun ls hl => ?_)
      refine lv_goto (tgt := 6) hx hb dX7_best_96 (by decide) ?_
      exact hk6 _ _ _ _ _ _ _ hf _ _ _ hw (lv_sub hl [1, 2, 3, 0] rfl)
    · rw [if_neg c2] at hf
      refine lv_iload_n hx hb dX7_best_26 rfl (lv_at hl 3 rfl) ?_
      refine lv_iload hx hb dX7_best_27 (lv_at hl 4 rfl) ?_
      refine lv_icmp_eq (tgt := 53) hx hb dX7_best_29 (by decide) (fun c3 => ?_) (fun c3 => ?_)
      · rw [if_pos c3] at hf
        refine lv_iconst (v := (-1)) hx hb dX7_best_53 (by decide) ?_
        refine lv_istore (lv' := [(5, .int (-1)), (0, .ref h0), (1, .int x1), (2, .int x2), (3, .int x3), (4, .int x4)]) hx hb dX7_best_54 hl (by decide) rfl (fun ls hl => ?_)
        refine lv_iload hx hb dX7_best_56 (lv_at hl 0 rfl) ?_
        refine lv_iload_n hx hb dX7_best_58 rfl (lv_at hl 3 rfl) ?_
        refine lv_icmp_le (tgt := 72) hx hb dX7_best_59 (by decide) (fun c4 => ?_) (fun c4 => ?_)
        · rw [if_pos c4] at hf
          refine lv_iload_n hx hb dX7_best_72 rfl (lv_at hl 2 rfl) ?_
          exact b_X7_best_73 E ih  hf _ _ _ hw (lv_sub hl [1, 3, 4, 5, 0] rfl)
        · rw [if_neg c4] at hf
          refine lv_bipush (v := 10) hx hb dX7_best_62 (by decide) ?_
          refine lv_iload_n hx hb dX7_best_64 rfl (lv_at hl 4 rfl) ?_
          refine lv_imul hx hb dX7_best_65 ?_
          refine lv_iload hx hb dX7_best_66 (lv_at hl 5 rfl) ?_
          refine lv_iadd hx hb dX7_best_68 ?_
          refine lv_goto (tgt := 73) hx hb dX7_best_69 (by decide) ?_
          exact b_X7_best_73 E ih  hf _ _ _ hw (lv_sub hl [1, 3, 4, 5, 0] rfl)
      · rw [if_neg c3] at hf
        refine lv_aload_n hx hb dX7_best_32 rfl (lv_at hl 0 rfl) ?_
        refine lv_iload_n hx hb dX7_best_33 rfl (lv_at hl 3 rfl) ?_
        refine lv_iload hx hb dX7_best_34 (lv_at hl 4 rfl) ?_
        obtain ⟨q5, hq5, hf⟩ := Option.bind_eq_some_iff.mp hf
        refine x_callVI (ws' := (wMod cI cZ cN cC h0 h1 h2 h3 h4 h5 h6 h7 h8 h9 h10 h11 h12 h13 h14 h15 mn um len plc srt frm num wrg cm mpt st pst kep isk pil nxs txt cls asd opn byy twc szs sos ths)) (st1 := [.int q5]) (As := [.int x3, .int x4]) (rest := []) E hw vc_X7_171 (c_X7_isArc (cI := cI) (cZ := cZ) (cN := cN) (cC := cC) (h0 := h0) (h1 := h1) (h2 := h2) (h3 := h3) (h4 := h4) (h5 := h5) (h6 := h6) (h7 := h7) (h8 := h8) (h9 := h9) (h10 := h10) (h11 := h11) (h12 := h12) (h13 := h13) (h14 := h14) (h15 := h15)  (mn := mn) (um := um) (len := len) (plc := plc) (srt := srt) (frm := frm) (num := num) (wrg := wrg) (cm := cm) (mpt := mpt) (st := st) (pst := pst) (kep := kep) (isk := isk) (pil := pil) (nxs := nxs) (txt := txt) (cls := cls) (asd := asd) (opn := opn) (byy := byy) (twc := twc) (szs := szs) (sos := sos) (ths := ths) (x1 := x3) (x2 := x4) hq5) 0 7 rfl rfl rfl rfl rfl ⟨Nat.le_of_ble_eq_true rfl, Nat.le_of_ble_eq_true rfl⟩ ⟨Nat.le_refl _, Nat.le_refl _⟩ hl.1 rfl rfl (Nat.le_of_ble_eq_true rfl) dX7_best_36 (fun H locs hw => ?_)
        refine lv_if_ne (tgt := 53) hx hb dX7_best_39 (by decide) (fun c6 => ?_) (fun c6 => ?_)
        · rw [if_neg c6] at hf
          refine lv_iconst (v := (-1)) hx hb dX7_best_53 (by decide) ?_
          refine lv_istore (lv' := [(5, .int (-1)), (0, .ref h0), (1, .int x1), (2, .int x2), (3, .int x3), (4, .int x4)]) hx hb dX7_best_54 hl (by decide) rfl (fun ls hl => ?_)
          refine lv_iload hx hb dX7_best_56 (lv_at hl 0 rfl) ?_
          refine lv_iload_n hx hb dX7_best_58 rfl (lv_at hl 3 rfl) ?_
          refine lv_icmp_le (tgt := 72) hx hb dX7_best_59 (by decide) (fun c7 => ?_) (fun c7 => ?_)
          · rw [if_pos c7] at hf
            refine lv_iload_n hx hb dX7_best_72 rfl (lv_at hl 2 rfl) ?_
            exact b_X7_best_73 E ih  hf _ _ _ hw (lv_sub hl [1, 3, 4, 5, 0] rfl)
          · rw [if_neg c7] at hf
            refine lv_bipush (v := 10) hx hb dX7_best_62 (by decide) ?_
            refine lv_iload_n hx hb dX7_best_64 rfl (lv_at hl 4 rfl) ?_
            refine lv_imul hx hb dX7_best_65 ?_
            refine lv_iload hx hb dX7_best_66 (lv_at hl 5 rfl) ?_
            refine lv_iadd hx hb dX7_best_68 ?_
            refine lv_goto (tgt := 73) hx hb dX7_best_69 (by decide) ?_
            exact b_X7_best_73 E ih  hf _ _ _ hw (lv_sub hl [1, 3, 4, 5, 0] rfl)
        · rw [if_pos c6] at hf
          refine lv_aload_n hx hb dX7_best_42 rfl (lv_at hl 0 rfl) ?_
          refine lv_iload_n hx hb dX7_best_43 rfl (lv_at hl 3 rfl) ?_
          refine lv_iload hx hb dX7_best_44 (lv_at hl 4 rfl) ?_
          refine lv_iconst (v := 0) hx hb dX7_best_46 (by decide) ?_
          obtain ⟨q8, hq8, hf⟩ := Option.bind_eq_some_iff.mp hf
          refine x_callVI (ws' := (wMod cI cZ cN cC h0 h1 h2 h3 h4 h5 h6 h7 h8 h9 h10 h11 h12 h13 h14 h15 mn um len plc srt frm num wrg cm mpt q8.2.1 pst kep isk q8.2.2.1 q8.2.2.2.1 txt cls q8.2.2.2.2 opn byy twc szs sos ths)) (st1 := [.int q8.1]) (As := [.int x3, .int x4, .int 0]) (rest := []) E hw vc_X7_217 (c_X7_gainOf (cI := cI) (cZ := cZ) (cN := cN) (cC := cC) (h0 := h0) (h1 := h1) (h2 := h2) (h3 := h3) (h4 := h4) (h5 := h5) (h6 := h6) (h7 := h7) (h8 := h8) (h9 := h9) (h10 := h10) (h11 := h11) (h12 := h12) (h13 := h13) (h14 := h14) (h15 := h15)  (mn := mn) (um := um) (len := len) (plc := plc) (srt := srt) (frm := frm) (num := num) (wrg := wrg) (cm := cm) (mpt := mpt) (st := st) (pst := pst) (kep := kep) (isk := isk) (pil := pil) (nxs := nxs) (txt := txt) (cls := cls) (asd := asd) (opn := opn) (byy := byy) (twc := twc) (szs := szs) (sos := sos) (ths := ths) (x1 := x3) (x2 := x4) (x3 := 0) hq8) 0 7 rfl rfl rfl rfl rfl ⟨Nat.le_of_ble_eq_true rfl, Nat.le_of_ble_eq_true rfl⟩ ⟨Nat.le_refl _, Nat.le_refl _⟩ hl.1 rfl rfl (Nat.le_of_ble_eq_true rfl) dX7_best_47 (fun H locs hw => ?_)
          refine lv_goto (tgt := 54) hx hb dX7_best_50 (by decide) ?_
          refine lv_istore (lv' := [(5, .int q8.1), (0, .ref h0), (1, .int x1), (2, .int x2), (3, .int x3), (4, .int x4)]) hx hb dX7_best_54 hl (by decide) rfl (fun ls hl => ?_)
          refine lv_iload hx hb dX7_best_56 (lv_at hl 0 rfl) ?_
          refine lv_iload_n hx hb dX7_best_58 rfl (lv_at hl 3 rfl) ?_
          refine lv_icmp_le (tgt := 72) hx hb dX7_best_59 (by decide) (fun c9 => ?_) (fun c9 => ?_)
          · rw [if_pos c9] at hf
            refine lv_iload_n hx hb dX7_best_72 rfl (lv_at hl 2 rfl) ?_
            exact b_X7_best_73 E ih  hf _ _ _ hw (lv_sub hl [1, 3, 4, 5, 0] rfl)
          · rw [if_neg c9] at hf
            refine lv_bipush (v := 10) hx hb dX7_best_62 (by decide) ?_
            refine lv_iload_n hx hb dX7_best_64 rfl (lv_at hl 4 rfl) ?_
            refine lv_imul hx hb dX7_best_65 ?_
            refine lv_iload hx hb dX7_best_66 (lv_at hl 5 rfl) ?_
            refine lv_iadd hx hb dX7_best_68 ?_
            refine lv_goto (tgt := 73) hx hb dX7_best_69 (by decide) ?_
            exact b_X7_best_73 E ih  hf _ _ _ hw (lv_sub hl [1, 3, 4, 5, 0] rfl)
def f_X7_best_6 (N : Nat) (mn : Int32) : Nat → Int32 → Int32 → Int32 → (Nat → Int32) → (Nat → Int32) → (Nat → Int32) → (Nat → Int32) → Option (Int32 × (Nat → Int32) × (Nat → Int32) × (Nat → Int32) × (Nat → Int32))
  | 0, _, _, _, _, _, _, _ => none
  | n + 1, x1, x2, x3, st, pil, nxs, asd =>
    if mn ≤ x3 then
     some (x1, st, pil, nxs, asd)
    else
     f_X7_best_17 (fun x1 x2 x3 st pil nxs asd => f_X7_best_6 N mn n x1 x2 x3 st pil nxs asd) N x3 mn N x1 x2 0 st pil nxs asd
set_option maxHeartbeats 4000000 in
set_option maxRecDepth 100000 in
theorem b_X7_best_6 {p : Program} {l : Launch} {e : Env} {s : State} {m : MethodId} {args : Array Value} {below : List Frame} {meth : Method} {c : Code} {D : va_G} {cI cZ cN cC : ClassId} {ws0 : va_W} {h0 h1 h2 h3 h4 h5 h6 h7 h8 h9 h10 h11 h12 h13 h14 h15 : Nat} {mn : Int32} {um : Int32} {len : Int32} {plc : Int32} {srt : Int32} {frm : Int32} {num : Int32} {wrg : Int32} {cm : Int32} {mpt : Int32} {pst : (Nat → Int32)} {kep : (Nat → Int32)} {isk : (Nat → Int32)} {txt : (Nat → Int32)} {cls : (Nat → Int32)} {opn : (Nat → Int32)} {byy : (Nat → Int32)} {twc : (Nat → Int32)} {szs : (Nat → Int32)} {sos : (Nat → Int32)} {ths : (Nat → Int32)} {N : Nat} {res : Int32 × (Nat → Int32) × (Nat → Int32) × (Nat → Int32) × (Nat → Int32)} (E : xE p s m args meth c cX7_best 6 (some .int) RX7 D (xtys cI cZ cN cC) (xA ws0)) : ∀ (n : Nat) (x1 : Int32) (x2 : Int32) (x3 : Int32) (st : (Nat → Int32)) (pil : (Nat → Int32)) (nxs : (Nat → Int32)) (asd : (Nat → Int32)), f_X7_best_6 N mn n x1 x2 x3 st pil nxs asd = some res → ∀ (H : Heap) (locs : List Loc) (ls : Array Slot), xw D (xA ws0) s.heap (wMod cI cZ cN cC h0 h1 h2 h3 h4 h5 h6 h7 h8 h9 h10 h11 h12 h13 h14 h15 mn um len plc srt frm num wrg cm mpt st pst kep isk pil nxs txt cls asd opn byy twc szs sos ths) H locs → lv_has ls 6 [(0, .ref h0), (1, .int x1), (2, .int x2), (3, .int x3)] → xG p l e 4 96 s m args below meth c D ws0 (wMod cI cZ cN cC h0 h1 h2 h3 h4 h5 h6 h7 h8 h9 h10 h11 h12 h13 h14 h15 mn um len plc srt frm num wrg cm mpt res.2.1 pst kep isk res.2.2.1 res.2.2.2.1 txt cls res.2.2.2.2 opn byy twc szs sos ths) (some (.int res.1)) H locs (F0 m 6 ls []) := by
  obtain ⟨hx, hb, -⟩ := id E
  intro n
  induction n with
  | zero =>
    intro _ _ _ _ _ _ _ hf
    rw [f_X7_best_6] at hf; cases hf
  | succ n ih =>
    intro x1 x2 x3 st pil nxs asd hf H locs ls hw hl
    rw [f_X7_best_6] at hf
    refine lv_iload_n hx hb dX7_best_6 rfl (lv_at hl 3 rfl) ?_
    refine lv_aload_n hx hb dX7_best_7 rfl (lv_at hl 0 rfl) ?_
    refine x_get E hw kin_X7 0 rfl rfl 0 (by decide) kF_X7_7 (v := .int mn) rfl dX7_best_8 ?_
    refine lv_icmp_ge (tgt := 99) hx hb dX7_best_11 (by decide) (fun c1 => ?_) (fun c1 => ?_)
    · rw [if_pos c1] at hf
      refine lv_iload_n hx hb dX7_best_99 rfl (lv_at hl 1 rfl) ?_
      have hf := Option.some.inj hf; subst hf
      exact x_iret E hw dX7_best_100
    · rw [if_neg c1] at hf
      refine lv_iconst (v := 0) hx hb dX7_best_14 (by decide) ?_
      refine lv_istore (lv' := [(4, .int 0), (0, .ref h0), (1, .int x1), (2, .int x2), (3, .int x3)]) hx hb dX7_best_15 hl (by decide) rfl (fun ls hl => ?_)
      exact b_X7_best_17 E ih N _ _ _ _ _ _ _ hf _ _ _ hw (lv_sub hl [1, 2, 3, 4, 0] rfl)
def f_X7_best (N : Nat) (mn : Int32) (st : (Nat → Int32)) (pil : (Nat → Int32)) (nxs : (Nat → Int32)) (asd : (Nat → Int32)) : Option (Int32 × (Nat → Int32) × (Nat → Int32) × (Nat → Int32) × (Nat → Int32)) :=
  f_X7_best_6 N mn N (-1) (-1) 0 st pil nxs asd
set_option maxHeartbeats 4000000 in
set_option maxRecDepth 100000 in
theorem c_X7_best {l : Launch} {D : va_G} {cI cZ cN cC : ClassId} {h0 h1 h2 h3 h4 h5 h6 h7 h8 h9 h10 h11 h12 h13 h14 h15 : Nat} {mn : Int32} {um : Int32} {len : Int32} {plc : Int32} {srt : Int32} {frm : Int32} {num : Int32} {wrg : Int32} {cm : Int32} {mpt : Int32} {st : (Nat → Int32)} {pst : (Nat → Int32)} {kep : (Nat → Int32)} {isk : (Nat → Int32)} {pil : (Nat → Int32)} {nxs : (Nat → Int32)} {txt : (Nat → Int32)} {cls : (Nat → Int32)} {asd : (Nat → Int32)} {opn : (Nat → Int32)} {byy : (Nat → Int32)} {twc : (Nat → Int32)} {szs : (Nat → Int32)} {sos : (Nat → Int32)} {ths : (Nat → Int32)}  {N : Nat} {res : Int32 × (Nat → Int32) × (Nat → Int32) × (Nat → Int32) × (Nat → Int32)} (hf : f_X7_best N mn st pil nxs asd = some res) : xMet l D (xtys cI cZ cN cC) yX7_best cX7_best 6 (some .int) 4 96 [.ref h0] (wMod cI cZ cN cC h0 h1 h2 h3 h4 h5 h6 h7 h8 h9 h10 h11 h12 h13 h14 h15 mn um len plc srt frm num wrg cm mpt st pst kep isk pil nxs txt cls asd opn byy twc szs sos ths) (wMod cI cZ cN cC h0 h1 h2 h3 h4 h5 h6 h7 h8 h9 h10 h11 h12 h13 h14 h15 mn um len plc srt frm num wrg cm mpt res.2.1 pst kep isk res.2.2.1 res.2.2.2.1 txt cls res.2.2.2.2 opn byy twc szs sos ths) (some (.int res.1)) := by
  refine x_enter (by decide) (Nat.le_of_ble_eq_true rfl) ?_
  intro p e s m args below meth c E ls hl hw
  have E : xE p s m args meth c cX7_best 6 (some .int) RX7 D (xtys cI cZ cN cC) (xA (wMod cI cZ cN cC h0 h1 h2 h3 h4 h5 h6 h7 h8 h9 h10 h11 h12 h13 h14 h15 mn um len plc srt frm num wrg cm mpt st pst kep isk pil nxs txt cls asd opn byy twc szs sos ths)) := E
  obtain ⟨hx, hb, -⟩ := id E
  have hl : lv_has ls 6 [(0, .ref h0)] := hl
  unfold f_X7_best at hf
  refine lv_iconst (v := (-1)) hx hb dX7_best_0 (by decide) ?_
  refine lv_istore_n (lv' := [(1, .int (-1)), (0, .ref h0)]) hx hb dX7_best_1 rfl hl (by decide) rfl (fun ls hl => ?_)
  refine lv_iconst (v := (-1)) hx hb dX7_best_2 (by decide) ?_
  refine lv_istore_n (lv' := [(2, .int (-1)), (1, .int (-1)), (0, .ref h0)]) hx hb dX7_best_3 rfl hl (by decide) rfl (fun ls hl => ?_)
  refine lv_iconst (v := 0) hx hb dX7_best_4 (by decide) ?_
  refine lv_istore_n (lv' := [(3, .int 0), (2, .int (-1)), (1, .int (-1)), (0, .ref h0)]) hx hb dX7_best_5 rfl hl (by decide) rfl (fun ls hl => ?_)
  exact b_X7_best_6 E N _ _ _ _ _ _ _ hf _ _ _ hw (lv_sub hl [3, 2, 1, 0] rfl)

def f_X7_lossOf_9 (N : Nat) (x1 : Int32) (x2 : Int32) (mn : Int32) (st : (Nat → Int32)) : Nat → Int32 → Int32 → Option (Int32)
  | 0, _, _ => none
  | n + 1, x3, x4 =>
    if mn ≤ x4 then
     (f_X7_pairs N mn st).bind fun q2 =>
     some (q2 - x3)
    else
     (f_X7_without N x4 x1 x2 mn st).bind fun q3 =>
     (f_X7_ones N q3).bind fun q4 =>
     f_X7_lossOf_9 N x1 x2 mn st n (x3 + q4) (x4 + 1)
set_option maxHeartbeats 4000000 in
set_option maxRecDepth 100000 in
theorem b_X7_lossOf_9 {p : Program} {l : Launch} {e : Env} {s : State} {m : MethodId} {args : Array Value} {below : List Frame} {meth : Method} {c : Code} {D : va_G} {cI cZ cN cC : ClassId} {ws0 : va_W} {h0 h1 h2 h3 h4 h5 h6 h7 h8 h9 h10 h11 h12 h13 h14 h15 : Nat} {x1 : Int32} {x2 : Int32} {mn : Int32} {um : Int32} {len : Int32} {plc : Int32} {srt : Int32} {frm : Int32} {num : Int32} {wrg : Int32} {cm : Int32} {mpt : Int32} {st : (Nat → Int32)} {pst : (Nat → Int32)} {kep : (Nat → Int32)} {isk : (Nat → Int32)} {pil : (Nat → Int32)} {nxs : (Nat → Int32)} {txt : (Nat → Int32)} {cls : (Nat → Int32)} {asd : (Nat → Int32)} {opn : (Nat → Int32)} {byy : (Nat → Int32)} {twc : (Nat → Int32)} {szs : (Nat → Int32)} {sos : (Nat → Int32)} {ths : (Nat → Int32)} {N : Nat} {res : Int32} (E : xE p s m args meth c cX7_lossOf 5 (some .int) RX7 D (xtys cI cZ cN cC) (xA ws0)) : ∀ (n : Nat) (x3 : Int32) (x4 : Int32), f_X7_lossOf_9 N x1 x2 mn st n x3 x4 = some res → ∀ (H : Heap) (locs : List Loc) (ls : Array Slot), xw D (xA ws0) s.heap (wMod cI cZ cN cC h0 h1 h2 h3 h4 h5 h6 h7 h8 h9 h10 h11 h12 h13 h14 h15 mn um len plc srt frm num wrg cm mpt st pst kep isk pil nxs txt cls asd opn byy twc szs sos ths) H locs → lv_has ls 5 [(0, .ref h0), (1, .int x1), (2, .int x2), (3, .int x3), (4, .int x4)] → xG p l e 2 48 s m args below meth c D ws0 (wMod cI cZ cN cC h0 h1 h2 h3 h4 h5 h6 h7 h8 h9 h10 h11 h12 h13 h14 h15 mn um len plc srt frm num wrg cm mpt st pst kep isk pil nxs txt cls asd opn byy twc szs sos ths) (some (.int res)) H locs (F0 m 9 ls []) := by
  obtain ⟨hx, hb, -⟩ := id E
  intro n
  induction n with
  | zero =>
    intro _ _ hf
    rw [f_X7_lossOf_9] at hf; cases hf
  | succ n ih =>
    intro x3 x4 hf H locs ls hw hl
    rw [f_X7_lossOf_9] at hf
    refine lv_iload hx hb dX7_lossOf_9 (lv_at hl 4 rfl) ?_
    refine lv_aload_n hx hb dX7_lossOf_11 rfl (lv_at hl 0 rfl) ?_
    refine x_get E hw kin_X7 0 rfl rfl 0 (by decide) kF_X7_7 (v := .int mn) rfl dX7_lossOf_12 ?_
    refine lv_icmp_ge (tgt := 38) hx hb dX7_lossOf_15 (by decide) (fun c1 => ?_) (fun c1 => ?_)
    · rw [if_pos c1] at hf
      refine lv_aload_n hx hb dX7_lossOf_38 rfl (lv_at hl 0 rfl) ?_
      obtain ⟨q2, hq2, hf⟩ := Option.bind_eq_some_iff.mp hf
      refine x_callVI (ws' := (wMod cI cZ cN cC h0 h1 h2 h3 h4 h5 h6 h7 h8 h9 h10 h11 h12 h13 h14 h15 mn um len plc srt frm num wrg cm mpt st pst kep isk pil nxs txt cls asd opn byy twc szs sos ths)) (st1 := [.int q2]) (As := []) (rest := []) E hw vc_X7_174 (c_X7_pairs (cI := cI) (cZ := cZ) (cN := cN) (cC := cC) (h0 := h0) (h1 := h1) (h2 := h2) (h3 := h3) (h4 := h4) (h5 := h5) (h6 := h6) (h7 := h7) (h8 := h8) (h9 := h9) (h10 := h10) (h11 := h11) (h12 := h12) (h13 := h13) (h14 := h14) (h15 := h15)  (mn := mn) (um := um) (len := len) (plc := plc) (srt := srt) (frm := frm) (num := num) (wrg := wrg) (cm := cm) (mpt := mpt) (st := st) (pst := pst) (kep := kep) (isk := isk) (pil := pil) (nxs := nxs) (txt := txt) (cls := cls) (asd := asd) (opn := opn) (byy := byy) (twc := twc) (szs := szs) (sos := sos) (ths := ths)  hq2) 0 7 rfl rfl rfl rfl rfl ⟨Nat.le_of_ble_eq_true rfl, Nat.le_of_ble_eq_true rfl⟩ ⟨Nat.le_refl _, Nat.le_refl _⟩ hl.1 rfl rfl (Nat.le_of_ble_eq_true rfl) dX7_lossOf_39 (fun H locs hw => ?_)
      refine lv_iload_n hx hb dX7_lossOf_42 rfl (lv_at hl 3 rfl) ?_
      refine lv_isub hx hb dX7_lossOf_43 ?_
      have hf := Option.some.inj hf; subst hf
      exact x_iret E hw dX7_lossOf_44
    · rw [if_neg c1] at hf
      refine lv_iload_n hx hb dX7_lossOf_18 rfl (lv_at hl 3 rfl) ?_
      refine lv_aload_n hx hb dX7_lossOf_19 rfl (lv_at hl 0 rfl) ?_
      refine lv_iload hx hb dX7_lossOf_20 (lv_at hl 4 rfl) ?_
      refine lv_iload_n hx hb dX7_lossOf_22 rfl (lv_at hl 1 rfl) ?_
      refine lv_iload_n hx hb dX7_lossOf_23 rfl (lv_at hl 2 rfl) ?_
      obtain ⟨q3, hq3, hf⟩ := Option.bind_eq_some_iff.mp hf
      refine x_callVI (ws' := (wMod cI cZ cN cC h0 h1 h2 h3 h4 h5 h6 h7 h8 h9 h10 h11 h12 h13 h14 h15 mn um len plc srt frm num wrg cm mpt st pst kep isk pil nxs txt cls asd opn byy twc szs sos ths)) (st1 := [.int q3, .int x3]) (As := [.int x4, .int x1, .int x2]) (rest := [.int x3]) E hw vc_X7_200 (c_X7_without (cI := cI) (cZ := cZ) (cN := cN) (cC := cC) (h0 := h0) (h1 := h1) (h2 := h2) (h3 := h3) (h4 := h4) (h5 := h5) (h6 := h6) (h7 := h7) (h8 := h8) (h9 := h9) (h10 := h10) (h11 := h11) (h12 := h12) (h13 := h13) (h14 := h14) (h15 := h15)  (mn := mn) (um := um) (len := len) (plc := plc) (srt := srt) (frm := frm) (num := num) (wrg := wrg) (cm := cm) (mpt := mpt) (st := st) (pst := pst) (kep := kep) (isk := isk) (pil := pil) (nxs := nxs) (txt := txt) (cls := cls) (asd := asd) (opn := opn) (byy := byy) (twc := twc) (szs := szs) (sos := sos) (ths := ths) (x1 := x4) (x2 := x1) (x3 := x2) hq3) 0 7 rfl rfl rfl rfl rfl ⟨Nat.le_of_ble_eq_true rfl, Nat.le_of_ble_eq_true rfl⟩ ⟨Nat.le_refl _, Nat.le_refl _⟩ hl.1 rfl rfl (Nat.le_of_ble_eq_true rfl) dX7_lossOf_24 (fun H locs hw => ?_)
      obtain ⟨q4, hq4, hf⟩ := Option.bind_eq_some_iff.mp hf
      refine x_callS (isC := []) (ws' := (wMod cI cZ cN cC h0 h1 h2 h3 h4 h5 h6 h7 h8 h9 h10 h11 h12 h13 h14 h15 mn um len plc srt frm num wrg cm mpt st pst kep isk pil nxs txt cls asd opn byy twc szs sos ths)) (st1 := [.int q4, .int x3]) (As := [.int q3]) (rest := [.int x3]) E hw vc_X7_81 (c_X7_ones (cI := cI) (cZ := cZ) (cN := cN) (cC := cC)    (x0 := q3) hq4) rfl rfl rfl rfl rfl rfl ⟨Nat.le_of_ble_eq_true rfl, Nat.le_of_ble_eq_true rfl⟩ ⟨Nat.le_refl _, Nat.le_refl _⟩ hl.1 rfl rfl (Nat.le_of_ble_eq_true rfl) dX7_lossOf_27 (fun H locs hw => ?_)
      refine lv_iadd hx hb dX7_lossOf_30 ?_
      refine lv_istore_n (lv' := [(3, .int (x3 + q4)), (0, .ref h0), (1, .int x1), (2, .int x2), (4, .int x4)]) hx hb dX7_lossOf_31 rfl hl (by decide) rfl (fun ls hl => ?_)
      refine lv_iinc (v := (x4 + 1)) (lv' := [(4, .int (x4 + 1)), (3, .int (x3 + q4)), (0, .ref h0), (1, .int x1), (2, .int x2)]) hx hb dX7_lossOf_32 hl (k := 4) rfl rfl (by decide) rfl (fun ls hl => ?_)
      refine lv_goto (tgt := 9) hx hb dX7_lossOf_35 (by decide) ?_
      exact ih _ _ hf _ _ _ hw (lv_sub hl [2, 3, 4, 1, 0] rfl)
def f_X7_lossOf (N : Nat) (x1 : Int32) (x2 : Int32) (mn : Int32) (st : (Nat → Int32)) : Option (Int32) :=
  f_X7_lossOf_9 N x1 x2 mn st N (-mn) 0
set_option maxHeartbeats 4000000 in
set_option maxRecDepth 100000 in
theorem c_X7_lossOf {l : Launch} {D : va_G} {cI cZ cN cC : ClassId} {h0 h1 h2 h3 h4 h5 h6 h7 h8 h9 h10 h11 h12 h13 h14 h15 : Nat} {mn : Int32} {um : Int32} {len : Int32} {plc : Int32} {srt : Int32} {frm : Int32} {num : Int32} {wrg : Int32} {cm : Int32} {mpt : Int32} {st : (Nat → Int32)} {pst : (Nat → Int32)} {kep : (Nat → Int32)} {isk : (Nat → Int32)} {pil : (Nat → Int32)} {nxs : (Nat → Int32)} {txt : (Nat → Int32)} {cls : (Nat → Int32)} {asd : (Nat → Int32)} {opn : (Nat → Int32)} {byy : (Nat → Int32)} {twc : (Nat → Int32)} {szs : (Nat → Int32)} {sos : (Nat → Int32)} {ths : (Nat → Int32)} {x1 : Int32} {x2 : Int32} {N : Nat} {res : Int32} (hf : f_X7_lossOf N x1 x2 mn st = some res) : xMet l D (xtys cI cZ cN cC) yX7_lossOf cX7_lossOf 5 (some .int) 2 48 [.ref h0, .int x1, .int x2] (wMod cI cZ cN cC h0 h1 h2 h3 h4 h5 h6 h7 h8 h9 h10 h11 h12 h13 h14 h15 mn um len plc srt frm num wrg cm mpt st pst kep isk pil nxs txt cls asd opn byy twc szs sos ths) (wMod cI cZ cN cC h0 h1 h2 h3 h4 h5 h6 h7 h8 h9 h10 h11 h12 h13 h14 h15 mn um len plc srt frm num wrg cm mpt st pst kep isk pil nxs txt cls asd opn byy twc szs sos ths) (some (.int res)) := by
  refine x_enter (by decide) (Nat.le_of_ble_eq_true rfl) ?_
  intro p e s m args below meth c E ls hl hw
  have E : xE p s m args meth c cX7_lossOf 5 (some .int) RX7 D (xtys cI cZ cN cC) (xA (wMod cI cZ cN cC h0 h1 h2 h3 h4 h5 h6 h7 h8 h9 h10 h11 h12 h13 h14 h15 mn um len plc srt frm num wrg cm mpt st pst kep isk pil nxs txt cls asd opn byy twc szs sos ths)) := E
  obtain ⟨hx, hb, -⟩ := id E
  have hl : lv_has ls 5 [(0, .ref h0), (1, .int x1), (2, .int x2)] := hl
  unfold f_X7_lossOf at hf
  refine lv_aload_n hx hb dX7_lossOf_0 rfl (lv_at hl 0 rfl) ?_
  refine x_get E hw kin_X7 0 rfl rfl 0 (by decide) kF_X7_7 (v := .int mn) rfl dX7_lossOf_1 ?_
  refine lv_ineg hx hb dX7_lossOf_4 ?_
  refine lv_istore_n (lv' := [(3, .int (-mn)), (0, .ref h0), (1, .int x1), (2, .int x2)]) hx hb dX7_lossOf_5 rfl hl (by decide) rfl (fun ls hl => ?_)
  refine lv_iconst (v := 0) hx hb dX7_lossOf_6 (by decide) ?_
  refine lv_istore (lv' := [(4, .int 0), (3, .int (-mn)), (0, .ref h0), (1, .int x1), (2, .int x2)]) hx hb dX7_lossOf_7 hl (by decide) rfl (fun ls hl => ?_)
  exact b_X7_lossOf_9 E N _ _ hf _ _ _ hw (lv_sub hl [2, 3, 4, 1, 0] rfl)

def f_X7_loss (N : Nat) (x1 : Int32) (x2 : Int32) (mn : Int32) (st : (Nat → Int32)) : Option (Int32) :=
  (f_X7_isArc x1 x2 mn st).bind fun q1 =>
  if q1 = 0 then
   some (-2)
  else
   (f_X7_lossOf N x1 x2 mn st).bind fun q3 =>
   some q3
set_option maxHeartbeats 4000000 in
set_option maxRecDepth 100000 in
theorem c_X7_loss {l : Launch} {D : va_G} {cI cZ cN cC : ClassId} {h0 h1 h2 h3 h4 h5 h6 h7 h8 h9 h10 h11 h12 h13 h14 h15 : Nat} {mn : Int32} {um : Int32} {len : Int32} {plc : Int32} {srt : Int32} {frm : Int32} {num : Int32} {wrg : Int32} {cm : Int32} {mpt : Int32} {st : (Nat → Int32)} {pst : (Nat → Int32)} {kep : (Nat → Int32)} {isk : (Nat → Int32)} {pil : (Nat → Int32)} {nxs : (Nat → Int32)} {txt : (Nat → Int32)} {cls : (Nat → Int32)} {asd : (Nat → Int32)} {opn : (Nat → Int32)} {byy : (Nat → Int32)} {twc : (Nat → Int32)} {szs : (Nat → Int32)} {sos : (Nat → Int32)} {ths : (Nat → Int32)} {x1 : Int32} {x2 : Int32} {N : Nat} {res : Int32} (hf : f_X7_loss N x1 x2 mn st = some res) : xMet l D (xtys cI cZ cN cC) yX7_loss cX7_loss 3 (some .int) 4 90 [.ref h0, .int x1, .int x2] (wMod cI cZ cN cC h0 h1 h2 h3 h4 h5 h6 h7 h8 h9 h10 h11 h12 h13 h14 h15 mn um len plc srt frm num wrg cm mpt st pst kep isk pil nxs txt cls asd opn byy twc szs sos ths) (wMod cI cZ cN cC h0 h1 h2 h3 h4 h5 h6 h7 h8 h9 h10 h11 h12 h13 h14 h15 mn um len plc srt frm num wrg cm mpt st pst kep isk pil nxs txt cls asd opn byy twc szs sos ths) (some (.int res)) := by
  refine x_enter (by decide) (Nat.le_of_ble_eq_true rfl) ?_
  intro p e s m args below meth c E ls hl hw
  have E : xE p s m args meth c cX7_loss 3 (some .int) RX7 D (xtys cI cZ cN cC) (xA (wMod cI cZ cN cC h0 h1 h2 h3 h4 h5 h6 h7 h8 h9 h10 h11 h12 h13 h14 h15 mn um len plc srt frm num wrg cm mpt st pst kep isk pil nxs txt cls asd opn byy twc szs sos ths)) := E
  obtain ⟨hx, hb, -⟩ := id E
  have hl : lv_has ls 3 [(0, .ref h0), (1, .int x1), (2, .int x2)] := hl
  unfold f_X7_loss at hf
  refine lv_aload_n hx hb dX7_loss_0 rfl (lv_at hl 0 rfl) ?_
  refine lv_iload_n hx hb dX7_loss_1 rfl (lv_at hl 1 rfl) ?_
  refine lv_iload_n hx hb dX7_loss_2 rfl (lv_at hl 2 rfl) ?_
  obtain ⟨q1, hq1, hf⟩ := Option.bind_eq_some_iff.mp hf
  refine x_callVI (ws' := (wMod cI cZ cN cC h0 h1 h2 h3 h4 h5 h6 h7 h8 h9 h10 h11 h12 h13 h14 h15 mn um len plc srt frm num wrg cm mpt st pst kep isk pil nxs txt cls asd opn byy twc szs sos ths)) (st1 := [.int q1]) (As := [.int x1, .int x2]) (rest := []) E hw vc_X7_171 (c_X7_isArc (cI := cI) (cZ := cZ) (cN := cN) (cC := cC) (h0 := h0) (h1 := h1) (h2 := h2) (h3 := h3) (h4 := h4) (h5 := h5) (h6 := h6) (h7 := h7) (h8 := h8) (h9 := h9) (h10 := h10) (h11 := h11) (h12 := h12) (h13 := h13) (h14 := h14) (h15 := h15)  (mn := mn) (um := um) (len := len) (plc := plc) (srt := srt) (frm := frm) (num := num) (wrg := wrg) (cm := cm) (mpt := mpt) (st := st) (pst := pst) (kep := kep) (isk := isk) (pil := pil) (nxs := nxs) (txt := txt) (cls := cls) (asd := asd) (opn := opn) (byy := byy) (twc := twc) (szs := szs) (sos := sos) (ths := ths) (x1 := x1) (x2 := x2) hq1) 0 7 rfl rfl rfl rfl rfl ⟨Nat.le_of_ble_eq_true rfl, Nat.le_of_ble_eq_true rfl⟩ ⟨Nat.le_refl _, Nat.le_refl _⟩ hl.1 rfl rfl (Nat.le_of_ble_eq_true rfl) dX7_loss_3 (fun H locs hw => ?_)
  refine lv_if_eq (tgt := 18) hx hb dX7_loss_6 (by decide) (fun c2 => ?_) (fun c2 => ?_)
  · rw [if_pos c2] at hf
    refine lv_bipush (v := (-2)) hx hb dX7_loss_18 (by decide) ?_
    have hf := Option.some.inj hf; subst hf
    exact x_iret E hw dX7_loss_20
  · rw [if_neg c2] at hf
    refine lv_aload_n hx hb dX7_loss_9 rfl (lv_at hl 0 rfl) ?_
    refine lv_iload_n hx hb dX7_loss_10 rfl (lv_at hl 1 rfl) ?_
    refine lv_iload_n hx hb dX7_loss_11 rfl (lv_at hl 2 rfl) ?_
    obtain ⟨q3, hq3, hf⟩ := Option.bind_eq_some_iff.mp hf
    refine x_callVI (ws' := (wMod cI cZ cN cC h0 h1 h2 h3 h4 h5 h6 h7 h8 h9 h10 h11 h12 h13 h14 h15 mn um len plc srt frm num wrg cm mpt st pst kep isk pil nxs txt cls asd opn byy twc szs sos ths)) (st1 := [.int q3]) (As := [.int x1, .int x2]) (rest := []) E hw vc_X7_220 (c_X7_lossOf (cI := cI) (cZ := cZ) (cN := cN) (cC := cC) (h0 := h0) (h1 := h1) (h2 := h2) (h3 := h3) (h4 := h4) (h5 := h5) (h6 := h6) (h7 := h7) (h8 := h8) (h9 := h9) (h10 := h10) (h11 := h11) (h12 := h12) (h13 := h13) (h14 := h14) (h15 := h15)  (mn := mn) (um := um) (len := len) (plc := plc) (srt := srt) (frm := frm) (num := num) (wrg := wrg) (cm := cm) (mpt := mpt) (st := st) (pst := pst) (kep := kep) (isk := isk) (pil := pil) (nxs := nxs) (txt := txt) (cls := cls) (asd := asd) (opn := opn) (byy := byy) (twc := twc) (szs := szs) (sos := sos) (ths := ths) (x1 := x1) (x2 := x2) hq3) 0 7 rfl rfl rfl rfl rfl ⟨Nat.le_of_ble_eq_true rfl, Nat.le_of_ble_eq_true rfl⟩ ⟨Nat.le_refl _, Nat.le_refl _⟩ hl.1 rfl rfl (Nat.le_of_ble_eq_true rfl) dX7_loss_12 (fun H locs hw => ?_)
    refine lv_goto (tgt := 20) hx hb dX7_loss_15 (by decide) ?_
    have hf := Option.some.inj hf; subst hf
    exact x_iret E hw dX7_loss_20

def f_X7_worst_66 (k17 : Int32 → Int32 → Int32 → Option (Int32)) (x2 : Int32) (x4 : Int32) (x5 : Int32) (t0 : Int32) : Option (Int32) :=
  if x5 ≤ x2 then
   k17 t0 x2 (x4 + 1)
  else
   k17 t0 x5 (x4 + 1)
set_option maxHeartbeats 4000000 in
set_option maxRecDepth 100000 in
theorem b_X7_worst_66 {p : Program} {l : Launch} {e : Env} {s : State} {m : MethodId} {args : Array Value} {below : List Frame} {meth : Method} {c : Code} {D : va_G} {cI cZ cN cC : ClassId} {ws0 : va_W} {h0 h1 h2 h3 h4 h5 h6 h7 h8 h9 h10 h11 h12 h13 h14 h15 : Nat} {x2 : Int32} {x3 : Int32} {x4 : Int32} {x5 : Int32} {t0 : Int32} {mn : Int32} {um : Int32} {len : Int32} {plc : Int32} {srt : Int32} {frm : Int32} {num : Int32} {wrg : Int32} {cm : Int32} {mpt : Int32} {st : (Nat → Int32)} {pst : (Nat → Int32)} {kep : (Nat → Int32)} {isk : (Nat → Int32)} {pil : (Nat → Int32)} {nxs : (Nat → Int32)} {txt : (Nat → Int32)} {cls : (Nat → Int32)} {asd : (Nat → Int32)} {opn : (Nat → Int32)} {byy : (Nat → Int32)} {twc : (Nat → Int32)} {szs : (Nat → Int32)} {sos : (Nat → Int32)} {ths : (Nat → Int32)} {res : Int32} (E : xE p s m args meth c cX7_worst 6 (some .int) RX7 D (xtys cI cZ cN cC) (xA ws0)) {k17 : Int32 → Int32 → Int32 → Option (Int32)} (hk17 : ∀ (x1 : Int32) (x2 : Int32) (x4 : Int32), k17 x1 x2 x4 = some res → ∀ (H : Heap) (locs : List Loc) (ls : Array Slot), xw D (xA ws0) s.heap (wMod cI cZ cN cC h0 h1 h2 h3 h4 h5 h6 h7 h8 h9 h10 h11 h12 h13 h14 h15 mn um len plc srt frm num wrg cm mpt st pst kep isk pil nxs txt cls asd opn byy twc szs sos ths) H locs → lv_has ls 6 [(0, .ref h0), (1, .int x1), (2, .int x2), (3, .int x3), (4, .int x4)] → xG p l e 4 90 s m args below meth c D ws0 (wMod cI cZ cN cC h0 h1 h2 h3 h4 h5 h6 h7 h8 h9 h10 h11 h12 h13 h14 h15 mn um len plc srt frm num wrg cm mpt st pst kep isk pil nxs txt cls asd opn byy twc szs sos ths) (some (.int res)) H locs (F0 m 17 ls [])) : f_X7_worst_66 k17 x2 x4 x5 t0 = some res → ∀ (H : Heap) (locs : List Loc) (ls : Array Slot), xw D (xA ws0) s.heap (wMod cI cZ cN cC h0 h1 h2 h3 h4 h5 h6 h7 h8 h9 h10 h11 h12 h13 h14 h15 mn um len plc srt frm num wrg cm mpt st pst kep isk pil nxs txt cls asd opn byy twc szs sos ths) H locs → lv_has ls 6 [(0, .ref h0), (2, .int x2), (3, .int x3), (4, .int x4), (5, .int x5)] → xG p l e 4 90 s m args below meth c D ws0 (wMod cI cZ cN cC h0 h1 h2 h3 h4 h5 h6 h7 h8 h9 h10 h11 h12 h13 h14 h15 mn um len plc srt frm num wrg cm mpt st pst kep isk pil nxs txt cls asd opn byy twc szs sos ths) (some (.int res)) H locs (F0 m 66 ls [.int t0]) := by
  obtain ⟨hx, hb, -⟩ := id E
  intro hf H locs ls hw hl
  unfold f_X7_worst_66 at hf
  refine lv_istore_n (lv' := [(1, .int t0), (0, .ref h0), (2, .int x2), (3, .int x3), (4, .int x4), (5, .int x5)]) hx hb dX7_worst_66 rfl hl (by decide) rfl (fun ls hl => ?_)
  refine lv_iload hx hb dX7_worst_67 (lv_at hl 5 rfl) ?_
  refine lv_iload_n hx hb dX7_worst_69 rfl (lv_at hl 2 rfl) ?_
  refine lv_icmp_le (tgt := 78) hx hb dX7_worst_70 (by decide) (fun c8 => ?_) (fun c8 => ?_)
  · rw [if_pos c8] at hf
    refine lv_iload_n hx hb dX7_worst_78 rfl (lv_at hl 2 rfl) ?_
    refine lv_istore_n (lv' := [(2, .int x2), (1, .int t0), (0, .ref h0), (3, .int x3), (4, .int x4), (5, .int x5)]) hx hb dX7_worst_79 rfl hl (by decide) rfl (fun ls hl => ?_)
    refine lv_iinc (v := (x4 + 1)) (lv' := [(4, .int (x4 + 1)), (2, .int x2), (1, .int t0), (0, .ref h0), (3, .int x3), (5, .int x5)]) hx hb dX7_worst_80 hl (k := 4) rfl rfl (by decide) rfl (fun ls hl => ?_)
    refine lv_goto (tgt := 17) hx hb dX7_worst_83 (by decide) ?_
    exact hk17 _ _ _ hf _ _ _ hw (lv_sub hl [3, 2, 1, 4, 0] rfl)
  · rw [if_neg c8] at hf
    refine lv_iload hx hb dX7_worst_73 (lv_at hl 5 rfl) ?_
    refine lv_goto (tgt := 79) hx hb dX7_worst_75 (by decide) ?_
    refine lv_istore_n (lv' := [(2, .int x5), (1, .int t0), (0, .ref h0), (3, .int x3), (4, .int x4), (5, .int x5)]) hx hb dX7_worst_79 rfl hl (by decide) rfl (fun ls hl => ?_)
    refine lv_iinc (v := (x4 + 1)) (lv' := [(4, .int (x4 + 1)), (2, .int x5), (1, .int t0), (0, .ref h0), (3, .int x3), (5, .int x5)]) hx hb dX7_worst_80 hl (k := 4) rfl rfl (by decide) rfl (fun ls hl => ?_)
    refine lv_goto (tgt := 17) hx hb dX7_worst_83 (by decide) ?_
    exact hk17 _ _ _ hf _ _ _ hw (lv_sub hl [3, 2, 1, 4, 0] rfl)
def f_X7_worst_17 (k6 : Int32 → Int32 → Int32 → Option (Int32)) (N : Nat) (x3 : Int32) (mn : Int32) (st : (Nat → Int32)) : Nat → Int32 → Int32 → Int32 → Option (Int32)
  | 0, _, _, _ => none
  | n + 1, x1, x2, x4 =>
    if mn ≤ x4 then
     k6 x1 x2 (x3 + 1)
    else
     (f_X7_isArc x3 x4 mn st).bind fun q3 =>
     if q3 = 0 then
      if (-1) ≤ x2 then
       f_X7_worst_66 (fun x1 x2 x4 => f_X7_worst_17 k6 N x3 mn st n x1 x2 x4) x2 x4 (-1) x1
      else
       f_X7_worst_66 (fun x1 x2 x4 => f_X7_worst_17 k6 N x3 mn st n x1 x2 x4) x2 x4 (-1) ((10 * x3) + x4)
     else
      (f_X7_lossOf N x3 x4 mn st).bind fun q6 =>
      if q6 ≤ x2 then
       f_X7_worst_66 (fun x1 x2 x4 => f_X7_worst_17 k6 N x3 mn st n x1 x2 x4) x2 x4 q6 x1
      else
       f_X7_worst_66 (fun x1 x2 x4 => f_X7_worst_17 k6 N x3 mn st n x1 x2 x4) x2 x4 q6 ((10 * x3) + x4)
set_option maxHeartbeats 4000000 in
set_option maxRecDepth 100000 in
theorem b_X7_worst_17 {p : Program} {l : Launch} {e : Env} {s : State} {m : MethodId} {args : Array Value} {below : List Frame} {meth : Method} {c : Code} {D : va_G} {cI cZ cN cC : ClassId} {ws0 : va_W} {h0 h1 h2 h3 h4 h5 h6 h7 h8 h9 h10 h11 h12 h13 h14 h15 : Nat} {x3 : Int32} {mn : Int32} {um : Int32} {len : Int32} {plc : Int32} {srt : Int32} {frm : Int32} {num : Int32} {wrg : Int32} {cm : Int32} {mpt : Int32} {st : (Nat → Int32)} {pst : (Nat → Int32)} {kep : (Nat → Int32)} {isk : (Nat → Int32)} {pil : (Nat → Int32)} {nxs : (Nat → Int32)} {txt : (Nat → Int32)} {cls : (Nat → Int32)} {asd : (Nat → Int32)} {opn : (Nat → Int32)} {byy : (Nat → Int32)} {twc : (Nat → Int32)} {szs : (Nat → Int32)} {sos : (Nat → Int32)} {ths : (Nat → Int32)} {N : Nat} {res : Int32} (E : xE p s m args meth c cX7_worst 6 (some .int) RX7 D (xtys cI cZ cN cC) (xA ws0)) {k6 : Int32 → Int32 → Int32 → Option (Int32)} (hk6 : ∀ (x1 : Int32) (x2 : Int32) (x3 : Int32), k6 x1 x2 x3 = some res → ∀ (H : Heap) (locs : List Loc) (ls : Array Slot), xw D (xA ws0) s.heap (wMod cI cZ cN cC h0 h1 h2 h3 h4 h5 h6 h7 h8 h9 h10 h11 h12 h13 h14 h15 mn um len plc srt frm num wrg cm mpt st pst kep isk pil nxs txt cls asd opn byy twc szs sos ths) H locs → lv_has ls 6 [(0, .ref h0), (1, .int x1), (2, .int x2), (3, .int x3)] → xG p l e 4 90 s m args below meth c D ws0 (wMod cI cZ cN cC h0 h1 h2 h3 h4 h5 h6 h7 h8 h9 h10 h11 h12 h13 h14 h15 mn um len plc srt frm num wrg cm mpt st pst kep isk pil nxs txt cls asd opn byy twc szs sos ths) (some (.int res)) H locs (F0 m 6 ls [])) : ∀ (n : Nat) (x1 : Int32) (x2 : Int32) (x4 : Int32), f_X7_worst_17 k6 N x3 mn st n x1 x2 x4 = some res → ∀ (H : Heap) (locs : List Loc) (ls : Array Slot), xw D (xA ws0) s.heap (wMod cI cZ cN cC h0 h1 h2 h3 h4 h5 h6 h7 h8 h9 h10 h11 h12 h13 h14 h15 mn um len plc srt frm num wrg cm mpt st pst kep isk pil nxs txt cls asd opn byy twc szs sos ths) H locs → lv_has ls 6 [(0, .ref h0), (1, .int x1), (2, .int x2), (3, .int x3), (4, .int x4)] → xG p l e 4 90 s m args below meth c D ws0 (wMod cI cZ cN cC h0 h1 h2 h3 h4 h5 h6 h7 h8 h9 h10 h11 h12 h13 h14 h15 mn um len plc srt frm num wrg cm mpt st pst kep isk pil nxs txt cls asd opn byy twc szs sos ths) (some (.int res)) H locs (F0 m 17 ls []) := by
  obtain ⟨hx, hb, -⟩ := id E
  intro n
  induction n with
  | zero =>
    intro _ _ _ hf
    rw [f_X7_worst_17] at hf; cases hf
  | succ n ih =>
    intro x1 x2 x4 hf H locs ls hw hl
    rw [f_X7_worst_17] at hf
    refine lv_iload hx hb dX7_worst_17 (lv_at hl 4 rfl) ?_
    refine lv_aload_n hx hb dX7_worst_19 rfl (lv_at hl 0 rfl) ?_
    refine x_get E hw kin_X7 0 rfl rfl 0 (by decide) kF_X7_7 (v := .int mn) rfl dX7_worst_20 ?_
    refine lv_icmp_ge (tgt := 86) hx hb dX7_worst_23 (by decide) (fun c2 => ?_) (fun c2 => ?_)
    · rw [if_pos c2] at hf
      refine lv_iinc (v := (x3 + 1)) (lv' := [(3, .int (x3 + 1)), (0, .ref h0), (1, .int x1), (2, .int x2), (4, .int x4)]) hx hb dX7_worst_86 hl (k := 3) rfl rfl (by decide) rfl (fun ls hl => ?_)
      refine lv_goto (tgt := 6) hx hb dX7_worst_89 (by decide) ?_
      exact hk6 _ _ _ hf _ _ _ hw (lv_sub hl [1, 2, 3, 0] rfl)
    · rw [if_neg c2] at hf
      refine lv_aload_n hx hb dX7_worst_26 rfl (lv_at hl 0 rfl) ?_
      refine lv_iload_n hx hb dX7_worst_27 rfl (lv_at hl 3 rfl) ?_
      refine lv_iload hx hb dX7_worst_28 (lv_at hl 4 rfl) ?_
      obtain ⟨q3, hq3, hf⟩ := Option.bind_eq_some_iff.mp hf
      refine x_callVI (ws' := (wMod cI cZ cN cC h0 h1 h2 h3 h4 h5 h6 h7 h8 h9 h10 h11 h12 h13 h14 h15 mn um len plc srt frm num wrg cm mpt st pst kep isk pil nxs txt cls asd opn byy twc szs sos ths)) (st1 := [.int q3]) (As := [.int x3, .int x4]) (rest := []) E hw vc_X7_171 (c_X7_isArc (cI := cI) (cZ := cZ) (cN := cN) (cC := cC) (h0 := h0) (h1 := h1) (h2 := h2) (h3 := h3) (h4 := h4) (h5 := h5) (h6 := h6) (h7 := h7) (h8 := h8) (h9 := h9) (h10 := h10) (h11 := h11) (h12 := h12) (h13 := h13) (h14 := h14) (h15 := h15)  (mn := mn) (um := um) (len := len) (plc := plc) (srt := srt) (frm := frm) (num := num) (wrg := wrg) (cm := cm) (mpt := mpt) (st := st) (pst := pst) (kep := kep) (isk := isk) (pil := pil) (nxs := nxs) (txt := txt) (cls := cls) (asd := asd) (opn := opn) (byy := byy) (twc := twc) (szs := szs) (sos := sos) (ths := ths) (x1 := x3) (x2 := x4) hq3) 0 7 rfl rfl rfl rfl rfl ⟨Nat.le_of_ble_eq_true rfl, Nat.le_of_ble_eq_true rfl⟩ ⟨Nat.le_refl _, Nat.le_refl _⟩ hl.1 rfl rfl (Nat.le_of_ble_eq_true rfl) dX7_worst_30 (fun H locs hw => ?_)
      refine lv_if_eq (tgt := 46) hx hb dX7_worst_33 (by decide) (fun c4 => ?_) (fun c4 => ?_)
      · rw [if_pos c4] at hf
        refine lv_iconst (v := (-1)) hx hb dX7_worst_46 (by decide) ?_
        refine lv_istore (lv' := [(5, .int (-1)), (0, .ref h0), (1, .int x1), (2, .int x2), (3, .int x3), (4, .int x4)]) hx hb dX7_worst_47 hl (by decide) rfl (fun ls hl => ?_)
        refine lv_iload hx hb dX7_worst_49 (lv_at hl 0 rfl) ?_
        refine lv_iload_n hx hb dX7_worst_51 rfl (lv_at hl 3 rfl) ?_
        refine lv_icmp_le (tgt := 65) hx hb dX7_worst_52 (by decide) (fun c5 => ?_) (fun c5 => ?_)
        · rw [if_pos c5] at hf
          refine lv_iload_n hx hb dX7_worst_65 rfl (lv_at hl 2 rfl) ?_
          exact b_X7_worst_66 E ih  hf _ _ _ hw (lv_sub hl [1, 3, 4, 5, 0] rfl)
        · rw [if_neg c5] at hf
          refine lv_bipush (v := 10) hx hb dX7_worst_55 (by decide) ?_
          refine lv_iload_n hx hb dX7_worst_57 rfl (lv_at hl 4 rfl) ?_
          refine lv_imul hx hb dX7_worst_58 ?_
          refine lv_iload hx hb dX7_worst_59 (lv_at hl 5 rfl) ?_
          refine lv_iadd hx hb dX7_worst_61 ?_
          refine lv_goto (tgt := 66) hx hb dX7_worst_62 (by decide) ?_
          exact b_X7_worst_66 E ih  hf _ _ _ hw (lv_sub hl [1, 3, 4, 5, 0] rfl)
      · rw [if_neg c4] at hf
        refine lv_aload_n hx hb dX7_worst_36 rfl (lv_at hl 0 rfl) ?_
        refine lv_iload_n hx hb dX7_worst_37 rfl (lv_at hl 3 rfl) ?_
        refine lv_iload hx hb dX7_worst_38 (lv_at hl 4 rfl) ?_
        obtain ⟨q6, hq6, hf⟩ := Option.bind_eq_some_iff.mp hf
        refine x_callVI (ws' := (wMod cI cZ cN cC h0 h1 h2 h3 h4 h5 h6 h7 h8 h9 h10 h11 h12 h13 h14 h15 mn um len plc srt frm num wrg cm mpt st pst kep isk pil nxs txt cls asd opn byy twc szs sos ths)) (st1 := [.int q6]) (As := [.int x3, .int x4]) (rest := []) E hw vc_X7_220 (c_X7_lossOf (cI := cI) (cZ := cZ) (cN := cN) (cC := cC) (h0 := h0) (h1 := h1) (h2 := h2) (h3 := h3) (h4 := h4) (h5 := h5) (h6 := h6) (h7 := h7) (h8 := h8) (h9 := h9) (h10 := h10) (h11 := h11) (h12 := h12) (h13 := h13) (h14 := h14) (h15 := h15)  (mn := mn) (um := um) (len := len) (plc := plc) (srt := srt) (frm := frm) (num := num) (wrg := wrg) (cm := cm) (mpt := mpt) (st := st) (pst := pst) (kep := kep) (isk := isk) (pil := pil) (nxs := nxs) (txt := txt) (cls := cls) (asd := asd) (opn := opn) (byy := byy) (twc := twc) (szs := szs) (sos := sos) (ths := ths) (x1 := x3) (x2 := x4) hq6) 0 7 rfl rfl rfl rfl rfl ⟨Nat.le_of_ble_eq_true rfl, Nat.le_of_ble_eq_true rfl⟩ ⟨Nat.le_refl _, Nat.le_refl _⟩ hl.1 rfl rfl (Nat.le_of_ble_eq_true rfl) dX7_worst_40 (fun H locs hw => ?_)
        refine lv_goto (tgt := 47) hx hb dX7_worst_43 (by decide) ?_
        refine lv_istore (lv' := [(5, .int q6), (0, .ref h0), (1, .int x1), (2, .int x2), (3, .int x3), (4, .int x4)]) hx hb dX7_worst_47 hl (by decide) rfl (fun ls hl => ?_)
        refine lv_iload hx hb dX7_worst_49 (lv_at hl 0 rfl) ?_
        refine lv_iload_n hx hb dX7_worst_51 rfl (lv_at hl 3 rfl) ?_
        refine lv_icmp_le (tgt := 65) hx hb dX7_worst_52 (by decide) (fun c7 => ?_) (fun c7 => ?_)
        · rw [if_pos c7] at hf
          refine lv_iload_n hx hb dX7_worst_65 rfl (lv_at hl 2 rfl) ?_
          exact b_X7_worst_66 E ih  hf _ _ _ hw (lv_sub hl [1, 3, 4, 5, 0] rfl)
        · rw [if_neg c7] at hf
          refine lv_bipush (v := 10) hx hb dX7_worst_55 (by decide) ?_
          refine lv_iload_n hx hb dX7_worst_57 rfl (lv_at hl 4 rfl) ?_
          refine lv_imul hx hb dX7_worst_58 ?_
          refine lv_iload hx hb dX7_worst_59 (lv_at hl 5 rfl) ?_
          refine lv_iadd hx hb dX7_worst_61 ?_
          refine lv_goto (tgt := 66) hx hb dX7_worst_62 (by decide) ?_
          exact b_X7_worst_66 E ih  hf _ _ _ hw (lv_sub hl [1, 3, 4, 5, 0] rfl)
def f_X7_worst_6 (N : Nat) (mn : Int32) (st : (Nat → Int32)) : Nat → Int32 → Int32 → Int32 → Option (Int32)
  | 0, _, _, _ => none
  | n + 1, x1, x2, x3 =>
    if mn ≤ x3 then
     some x1
    else
     f_X7_worst_17 (fun x1 x2 x3 => f_X7_worst_6 N mn st n x1 x2 x3) N x3 mn st N x1 x2 0
set_option maxHeartbeats 4000000 in
set_option maxRecDepth 100000 in
theorem b_X7_worst_6 {p : Program} {l : Launch} {e : Env} {s : State} {m : MethodId} {args : Array Value} {below : List Frame} {meth : Method} {c : Code} {D : va_G} {cI cZ cN cC : ClassId} {ws0 : va_W} {h0 h1 h2 h3 h4 h5 h6 h7 h8 h9 h10 h11 h12 h13 h14 h15 : Nat} {mn : Int32} {um : Int32} {len : Int32} {plc : Int32} {srt : Int32} {frm : Int32} {num : Int32} {wrg : Int32} {cm : Int32} {mpt : Int32} {st : (Nat → Int32)} {pst : (Nat → Int32)} {kep : (Nat → Int32)} {isk : (Nat → Int32)} {pil : (Nat → Int32)} {nxs : (Nat → Int32)} {txt : (Nat → Int32)} {cls : (Nat → Int32)} {asd : (Nat → Int32)} {opn : (Nat → Int32)} {byy : (Nat → Int32)} {twc : (Nat → Int32)} {szs : (Nat → Int32)} {sos : (Nat → Int32)} {ths : (Nat → Int32)} {N : Nat} {res : Int32} (E : xE p s m args meth c cX7_worst 6 (some .int) RX7 D (xtys cI cZ cN cC) (xA ws0)) : ∀ (n : Nat) (x1 : Int32) (x2 : Int32) (x3 : Int32), f_X7_worst_6 N mn st n x1 x2 x3 = some res → ∀ (H : Heap) (locs : List Loc) (ls : Array Slot), xw D (xA ws0) s.heap (wMod cI cZ cN cC h0 h1 h2 h3 h4 h5 h6 h7 h8 h9 h10 h11 h12 h13 h14 h15 mn um len plc srt frm num wrg cm mpt st pst kep isk pil nxs txt cls asd opn byy twc szs sos ths) H locs → lv_has ls 6 [(0, .ref h0), (1, .int x1), (2, .int x2), (3, .int x3)] → xG p l e 4 90 s m args below meth c D ws0 (wMod cI cZ cN cC h0 h1 h2 h3 h4 h5 h6 h7 h8 h9 h10 h11 h12 h13 h14 h15 mn um len plc srt frm num wrg cm mpt st pst kep isk pil nxs txt cls asd opn byy twc szs sos ths) (some (.int res)) H locs (F0 m 6 ls []) := by
  obtain ⟨hx, hb, -⟩ := id E
  intro n
  induction n with
  | zero =>
    intro _ _ _ hf
    rw [f_X7_worst_6] at hf; cases hf
  | succ n ih =>
    intro x1 x2 x3 hf H locs ls hw hl
    rw [f_X7_worst_6] at hf
    refine lv_iload_n hx hb dX7_worst_6 rfl (lv_at hl 3 rfl) ?_
    refine lv_aload_n hx hb dX7_worst_7 rfl (lv_at hl 0 rfl) ?_
    refine x_get E hw kin_X7 0 rfl rfl 0 (by decide) kF_X7_7 (v := .int mn) rfl dX7_worst_8 ?_
    refine lv_icmp_ge (tgt := 92) hx hb dX7_worst_11 (by decide) (fun c1 => ?_) (fun c1 => ?_)
    · rw [if_pos c1] at hf
      refine lv_iload_n hx hb dX7_worst_92 rfl (lv_at hl 1 rfl) ?_
      have hf := Option.some.inj hf; subst hf
      exact x_iret E hw dX7_worst_93
    · rw [if_neg c1] at hf
      refine lv_iconst (v := 0) hx hb dX7_worst_14 (by decide) ?_
      refine lv_istore (lv' := [(4, .int 0), (0, .ref h0), (1, .int x1), (2, .int x2), (3, .int x3)]) hx hb dX7_worst_15 hl (by decide) rfl (fun ls hl => ?_)
      exact b_X7_worst_17 E ih N _ _ _ hf _ _ _ hw (lv_sub hl [1, 2, 3, 4, 0] rfl)
def f_X7_worst (N : Nat) (mn : Int32) (st : (Nat → Int32)) : Option (Int32) :=
  f_X7_worst_6 N mn st N (-1) (-1) 0
set_option maxHeartbeats 4000000 in
set_option maxRecDepth 100000 in
theorem c_X7_worst {l : Launch} {D : va_G} {cI cZ cN cC : ClassId} {h0 h1 h2 h3 h4 h5 h6 h7 h8 h9 h10 h11 h12 h13 h14 h15 : Nat} {mn : Int32} {um : Int32} {len : Int32} {plc : Int32} {srt : Int32} {frm : Int32} {num : Int32} {wrg : Int32} {cm : Int32} {mpt : Int32} {st : (Nat → Int32)} {pst : (Nat → Int32)} {kep : (Nat → Int32)} {isk : (Nat → Int32)} {pil : (Nat → Int32)} {nxs : (Nat → Int32)} {txt : (Nat → Int32)} {cls : (Nat → Int32)} {asd : (Nat → Int32)} {opn : (Nat → Int32)} {byy : (Nat → Int32)} {twc : (Nat → Int32)} {szs : (Nat → Int32)} {sos : (Nat → Int32)} {ths : (Nat → Int32)}  {N : Nat} {res : Int32} (hf : f_X7_worst N mn st = some res) : xMet l D (xtys cI cZ cN cC) yX7_worst cX7_worst 6 (some .int) 4 90 [.ref h0] (wMod cI cZ cN cC h0 h1 h2 h3 h4 h5 h6 h7 h8 h9 h10 h11 h12 h13 h14 h15 mn um len plc srt frm num wrg cm mpt st pst kep isk pil nxs txt cls asd opn byy twc szs sos ths) (wMod cI cZ cN cC h0 h1 h2 h3 h4 h5 h6 h7 h8 h9 h10 h11 h12 h13 h14 h15 mn um len plc srt frm num wrg cm mpt st pst kep isk pil nxs txt cls asd opn byy twc szs sos ths) (some (.int res)) := by
  refine x_enter (by decide) (Nat.le_of_ble_eq_true rfl) ?_
  intro p e s m args below meth c E ls hl hw
  have E : xE p s m args meth c cX7_worst 6 (some .int) RX7 D (xtys cI cZ cN cC) (xA (wMod cI cZ cN cC h0 h1 h2 h3 h4 h5 h6 h7 h8 h9 h10 h11 h12 h13 h14 h15 mn um len plc srt frm num wrg cm mpt st pst kep isk pil nxs txt cls asd opn byy twc szs sos ths)) := E
  obtain ⟨hx, hb, -⟩ := id E
  have hl : lv_has ls 6 [(0, .ref h0)] := hl
  unfold f_X7_worst at hf
  refine lv_iconst (v := (-1)) hx hb dX7_worst_0 (by decide) ?_
  refine lv_istore_n (lv' := [(1, .int (-1)), (0, .ref h0)]) hx hb dX7_worst_1 rfl hl (by decide) rfl (fun ls hl => ?_)
  refine lv_iconst (v := (-1)) hx hb dX7_worst_2 (by decide) ?_
  refine lv_istore_n (lv' := [(2, .int (-1)), (1, .int (-1)), (0, .ref h0)]) hx hb dX7_worst_3 rfl hl (by decide) rfl (fun ls hl => ?_)
  refine lv_iconst (v := 0) hx hb dX7_worst_4 (by decide) ?_
  refine lv_istore_n (lv' := [(3, .int 0), (2, .int (-1)), (1, .int (-1)), (0, .ref h0)]) hx hb dX7_worst_5 rfl hl (by decide) rfl (fun ls hl => ?_)
  exact b_X7_worst_6 E N _ _ _ hf _ _ _ hw (lv_sub hl [3, 2, 1, 0] rfl)

def f_X7_findsWay_64 (k52 : Int32 → Int32 → (Nat → Int32) → Option (Int32 × (Nat → Int32))) (x4 : Int32) (mn : Int32) (opn : (Nat → Int32)) : Nat → Int32 → Int32 → (Nat → Int32) → Option (Int32 × (Nat → Int32))
  | 0, _, _, _ => none
  | n + 1, x3, x5, byy =>
    if mn ≤ x5 then
     k52 x3 (x4 + 1) byy
    else
     if xin x4 10 then
     if (byy (Int32.toNatClampNeg x4)) < 0 then
      f_X7_findsWay_64 k52 x4 mn opn n x3 (x5 + 1) byy
     else
      if xin x5 10 then
      if 0 ≤ (byy (Int32.toNatClampNeg x5)) then
       f_X7_findsWay_64 k52 x4 mn opn n x3 (x5 + 1) byy
      else
       if xin x4 10 then
       if (f_X7_has (opn (Int32.toNatClampNeg x4)) x5) = 0 then
        f_X7_findsWay_64 k52 x4 mn opn n x3 (x5 + 1) byy
       else
        if xin x5 10 then
        f_X7_findsWay_64 k52 x4 mn opn n 1 (x5 + 1) (upd byy (Int32.toNatClampNeg x5) x4)
        else none
       else none
      else none
     else none
set_option maxHeartbeats 4000000 in
set_option maxRecDepth 100000 in
theorem b_X7_findsWay_64 {p : Program} {l : Launch} {e : Env} {s : State} {m : MethodId} {args : Array Value} {below : List Frame} {meth : Method} {c : Code} {D : va_G} {cI cZ cN cC : ClassId} {ws0 : va_W} {h0 h1 h2 h3 h4 h5 h6 h7 h8 h9 h10 h11 h12 h13 h14 h15 : Nat} {x2 : Int32} {x4 : Int32} {mn : Int32} {um : Int32} {len : Int32} {plc : Int32} {srt : Int32} {frm : Int32} {num : Int32} {wrg : Int32} {cm : Int32} {mpt : Int32} {st : (Nat → Int32)} {pst : (Nat → Int32)} {kep : (Nat → Int32)} {isk : (Nat → Int32)} {pil : (Nat → Int32)} {nxs : (Nat → Int32)} {txt : (Nat → Int32)} {cls : (Nat → Int32)} {asd : (Nat → Int32)} {opn : (Nat → Int32)} {twc : (Nat → Int32)} {szs : (Nat → Int32)} {sos : (Nat → Int32)} {ths : (Nat → Int32)} {res : Int32 × (Nat → Int32)} (E : xE p s m args meth c cX7_findsWay 6 (some .boolean) RX7 D (xtys cI cZ cN cC) (xA ws0)) {k52 : Int32 → Int32 → (Nat → Int32) → Option (Int32 × (Nat → Int32))} (hk52 : ∀ (x3 : Int32) (x4 : Int32) (byy : (Nat → Int32)), k52 x3 x4 byy = some res → ∀ (H : Heap) (locs : List Loc) (ls : Array Slot), xw D (xA ws0) s.heap (wMod cI cZ cN cC h0 h1 h2 h3 h4 h5 h6 h7 h8 h9 h10 h11 h12 h13 h14 h15 mn um len plc srt frm num wrg cm mpt st pst kep isk pil nxs txt cls asd opn byy twc szs sos ths) H locs → lv_has ls 6 [(0, .ref h0), (2, .int x2), (3, .int x3), (4, .int x4)] → xG p l e 1 21 s m args below meth c D ws0 (wMod cI cZ cN cC h0 h1 h2 h3 h4 h5 h6 h7 h8 h9 h10 h11 h12 h13 h14 h15 mn um len plc srt frm num wrg cm mpt st pst kep isk pil nxs txt cls asd opn res.2 twc szs sos ths) (some (.int res.1)) H locs (F0 m 52 ls [])) : ∀ (n : Nat) (x3 : Int32) (x5 : Int32) (byy : (Nat → Int32)), f_X7_findsWay_64 k52 x4 mn opn n x3 x5 byy = some res → ∀ (H : Heap) (locs : List Loc) (ls : Array Slot), xw D (xA ws0) s.heap (wMod cI cZ cN cC h0 h1 h2 h3 h4 h5 h6 h7 h8 h9 h10 h11 h12 h13 h14 h15 mn um len plc srt frm num wrg cm mpt st pst kep isk pil nxs txt cls asd opn byy twc szs sos ths) H locs → lv_has ls 6 [(0, .ref h0), (2, .int x2), (3, .int x3), (4, .int x4), (5, .int x5)] → xG p l e 1 21 s m args below meth c D ws0 (wMod cI cZ cN cC h0 h1 h2 h3 h4 h5 h6 h7 h8 h9 h10 h11 h12 h13 h14 h15 mn um len plc srt frm num wrg cm mpt st pst kep isk pil nxs txt cls asd opn res.2 twc szs sos ths) (some (.int res.1)) H locs (F0 m 64 ls []) := by
  obtain ⟨hx, hb, -⟩ := id E
  intro n
  induction n with
  | zero =>
    intro _ _ _ hf
    rw [f_X7_findsWay_64] at hf; cases hf
  | succ n ih =>
    intro x3 x5 byy hf H locs ls hw hl
    rw [f_X7_findsWay_64] at hf
    refine lv_iload hx hb dX7_findsWay_64 (lv_at hl 4 rfl) ?_
    refine lv_aload_n hx hb dX7_findsWay_66 rfl (lv_at hl 0 rfl) ?_
    refine x_get E hw kin_X7 0 rfl rfl 0 (by decide) kF_X7_7 (v := .int mn) rfl dX7_findsWay_67 ?_
    refine lv_icmp_ge (tgt := 125) hx hb dX7_findsWay_70 (by decide) (fun c13 => ?_) (fun c13 => ?_)
    · rw [if_pos c13] at hf
      refine lv_iinc (v := (x4 + 1)) (lv' := [(4, .int (x4 + 1)), (0, .ref h0), (2, .int x2), (3, .int x3), (5, .int x5)]) hx hb dX7_findsWay_125 hl (k := 3) rfl rfl (by decide) rfl (fun ls hl => ?_)
      refine lv_goto (tgt := 52) hx hb dX7_findsWay_128 (by decide) ?_
      exact hk52 _ _ _ hf _ _ _ hw (lv_sub hl [1, 2, 3, 0] rfl)
    · rw [if_neg c13] at hf
      refine lv_aload_n hx hb dX7_findsWay_73 rfl (lv_at hl 0 rfl) ?_
      refine x_get E hw kin_X7 0 rfl rfl 20 (by decide) kF_X7_44 (v := .ref h11) rfl dX7_findsWay_74 ?_
      refine lv_iload hx hb dX7_findsWay_77 (lv_at hl 3 rfl) ?_
      obtain ⟨g14, hf⟩ := xgd hf
      refine x_iald E hw 11 0 rfl rfl (xin_vp g14) dX7_findsWay_79 ?_
      refine lv_if_lt (tgt := 119) hx hb dX7_findsWay_80 (by decide) (fun c15 => ?_) (fun c15 => ?_)
      · rw [if_pos c15] at hf
        refine lv_iinc (v := (x5 + 1)) (lv' := [(5, .int (x5 + 1)), (0, .ref h0), (2, .int x2), (3, .int x3), (4, .int x4)]) hx hb dX7_findsWay_119 hl (k := 4) rfl rfl (by decide) rfl (fun ls hl => ?_)
        refine lv_goto (tgt := 64) hx hb dX7_findsWay_122 (by decide) ?_
        exact ih _ _ _ hf _ _ _ hw (lv_sub hl [1, 2, 3, 4, 0] rfl)
      · rw [if_neg c15] at hf
        refine lv_aload_n hx hb dX7_findsWay_83 rfl (lv_at hl 0 rfl) ?_
        refine x_get E hw kin_X7 0 rfl rfl 20 (by decide) kF_X7_44 (v := .ref h11) rfl dX7_findsWay_84 ?_
        refine lv_iload hx hb dX7_findsWay_87 (lv_at hl 4 rfl) ?_
        obtain ⟨g16, hf⟩ := xgd hf
        refine x_iald E hw 11 0 rfl rfl (xin_vp g16) dX7_findsWay_89 ?_
        refine lv_if_ge (tgt := 119) hx hb dX7_findsWay_90 (by decide) (fun c17 => ?_) (fun c17 => ?_)
        · rw [if_pos c17] at hf
          refine lv_iinc (v := (x5 + 1)) (lv' := [(5, .int (x5 + 1)), (0, .ref h0), (2, .int x2), (3, .int x3), (4, .int x4)]) hx hb dX7_findsWay_119 hl (k := 4) rfl rfl (by decide) rfl (fun ls hl => ?_)
          refine lv_goto (tgt := 64) hx hb dX7_findsWay_122 (by decide) ?_
          exact ih _ _ _ hf _ _ _ hw (lv_sub hl [1, 2, 3, 4, 0] rfl)
        · rw [if_neg c17] at hf
          refine lv_aload_n hx hb dX7_findsWay_93 rfl (lv_at hl 0 rfl) ?_
          refine x_get E hw kin_X7 0 rfl rfl 19 (by decide) kF_X7_41 (v := .ref h10) rfl dX7_findsWay_94 ?_
          refine lv_iload hx hb dX7_findsWay_97 (lv_at hl 3 rfl) ?_
          obtain ⟨g18, hf⟩ := xgd hf
          refine x_iald E hw 10 0 rfl rfl (xin_vp g18) dX7_findsWay_99 ?_
          refine lv_iload hx hb dX7_findsWay_100 (lv_at hl 4 rfl) ?_
          refine x_callS (isC := []) (ws' := (wMod cI cZ cN cC h0 h1 h2 h3 h4 h5 h6 h7 h8 h9 h10 h11 h12 h13 h14 h15 mn um len plc srt frm num wrg cm mpt st pst kep isk pil nxs txt cls asd opn byy twc szs sos ths)) (st1 := [.int (f_X7_has (opn (Int32.toNatClampNeg x4)) x5)]) (As := [.int (opn (Int32.toNatClampNeg x4)), .int x5]) (rest := []) E hw vc_X7_78 (c_X7_has (cI := cI) (cZ := cZ) (cN := cN) (cC := cC)    (x0 := (opn (Int32.toNatClampNeg x4))) (x1 := x5) rfl) rfl rfl rfl rfl rfl rfl ⟨Nat.le_of_ble_eq_true rfl, Nat.le_of_ble_eq_true rfl⟩ ⟨Nat.le_refl _, Nat.le_refl _⟩ hl.1 rfl rfl (Nat.le_of_ble_eq_true rfl) dX7_findsWay_102 (fun H locs hw => ?_)
          refine lv_if_eq (tgt := 119) hx hb dX7_findsWay_105 (by decide) (fun c19 => ?_) (fun c19 => ?_)
          · rw [if_pos c19] at hf
            refine lv_iinc (v := (x5 + 1)) (lv' := [(5, .int (x5 + 1)), (0, .ref h0), (2, .int x2), (3, .int x3), (4, .int x4)]) hx hb dX7_findsWay_119 hl (k := 4) rfl rfl (by decide) rfl (fun ls hl => ?_)
            refine lv_goto (tgt := 64) hx hb dX7_findsWay_122 (by decide) ?_
            exact ih _ _ _ hf _ _ _ hw (lv_sub hl [1, 2, 3, 4, 0] rfl)
          · rw [if_neg c19] at hf
            refine lv_aload_n hx hb dX7_findsWay_108 rfl (lv_at hl 0 rfl) ?_
            refine x_get E hw kin_X7 0 rfl rfl 20 (by decide) kF_X7_44 (v := .ref h11) rfl dX7_findsWay_109 ?_
            refine lv_iload hx hb dX7_findsWay_112 (lv_at hl 4 rfl) ?_
            refine lv_iload hx hb dX7_findsWay_114 (lv_at hl 3 rfl) ?_
            obtain ⟨g20, hf⟩ := xgd hf
            refine x_iast (ws' := (wMod cI cZ cN cC h0 h1 h2 h3 h4 h5 h6 h7 h8 h9 h10 h11 h12 h13 h14 h15 mn um len plc srt frm num wrg cm mpt st pst kep isk pil nxs txt cls asd opn (upd byy (Int32.toNatClampNeg x5) x4) twc szs sos ths)) E hw 11 0 rfl rfl (xin_vp g20) rfl dX7_findsWay_116 (fun H locs hw => ?_)
            refine lv_iconst (v := 1) hx hb dX7_findsWay_117 (by decide) ?_
            refine lv_istore_n (lv' := [(3, .int 1), (0, .ref h0), (2, .int x2), (4, .int x4), (5, .int x5)]) hx hb dX7_findsWay_118 rfl hl (by decide) rfl (fun ls hl => ?_)
            refine lv_iinc (v := (x5 + 1)) (lv' := [(5, .int (x5 + 1)), (3, .int 1), (0, .ref h0), (2, .int x2), (4, .int x4)]) hx hb dX7_findsWay_119 hl (k := 4) rfl rfl (by decide) rfl (fun ls hl => ?_)
            refine lv_goto (tgt := 64) hx hb dX7_findsWay_122 (by decide) ?_
            exact ih _ _ _ hf _ _ _ hw (lv_sub hl [2, 3, 1, 4, 0] rfl)
def f_X7_findsWay_52 (k34 : Int32 → (Nat → Int32) → Option (Int32 × (Nat → Int32))) (N : Nat) (mn : Int32) (opn : (Nat → Int32)) : Nat → Int32 → Int32 → (Nat → Int32) → Option (Int32 × (Nat → Int32))
  | 0, _, _, _ => none
  | n + 1, x3, x4, byy =>
    if mn ≤ x4 then
     k34 x3 byy
    else
     f_X7_findsWay_64 (fun x3 x4 byy => f_X7_findsWay_52 k34 N mn opn n x3 x4 byy) x4 mn opn N x3 0 byy
set_option maxHeartbeats 4000000 in
set_option maxRecDepth 100000 in
theorem b_X7_findsWay_52 {p : Program} {l : Launch} {e : Env} {s : State} {m : MethodId} {args : Array Value} {below : List Frame} {meth : Method} {c : Code} {D : va_G} {cI cZ cN cC : ClassId} {ws0 : va_W} {h0 h1 h2 h3 h4 h5 h6 h7 h8 h9 h10 h11 h12 h13 h14 h15 : Nat} {x2 : Int32} {mn : Int32} {um : Int32} {len : Int32} {plc : Int32} {srt : Int32} {frm : Int32} {num : Int32} {wrg : Int32} {cm : Int32} {mpt : Int32} {st : (Nat → Int32)} {pst : (Nat → Int32)} {kep : (Nat → Int32)} {isk : (Nat → Int32)} {pil : (Nat → Int32)} {nxs : (Nat → Int32)} {txt : (Nat → Int32)} {cls : (Nat → Int32)} {asd : (Nat → Int32)} {opn : (Nat → Int32)} {twc : (Nat → Int32)} {szs : (Nat → Int32)} {sos : (Nat → Int32)} {ths : (Nat → Int32)} {N : Nat} {res : Int32 × (Nat → Int32)} (E : xE p s m args meth c cX7_findsWay 6 (some .boolean) RX7 D (xtys cI cZ cN cC) (xA ws0)) {k34 : Int32 → (Nat → Int32) → Option (Int32 × (Nat → Int32))} (hk34 : ∀ (x3 : Int32) (byy : (Nat → Int32)), k34 x3 byy = some res → ∀ (H : Heap) (locs : List Loc) (ls : Array Slot), xw D (xA ws0) s.heap (wMod cI cZ cN cC h0 h1 h2 h3 h4 h5 h6 h7 h8 h9 h10 h11 h12 h13 h14 h15 mn um len plc srt frm num wrg cm mpt st pst kep isk pil nxs txt cls asd opn byy twc szs sos ths) H locs → lv_has ls 6 [(0, .ref h0), (2, .int x2), (3, .int x3)] → xG p l e 1 21 s m args below meth c D ws0 (wMod cI cZ cN cC h0 h1 h2 h3 h4 h5 h6 h7 h8 h9 h10 h11 h12 h13 h14 h15 mn um len plc srt frm num wrg cm mpt st pst kep isk pil nxs txt cls asd opn res.2 twc szs sos ths) (some (.int res.1)) H locs (F0 m 34 ls [])) : ∀ (n : Nat) (x3 : Int32) (x4 : Int32) (byy : (Nat → Int32)), f_X7_findsWay_52 k34 N mn opn n x3 x4 byy = some res → ∀ (H : Heap) (locs : List Loc) (ls : Array Slot), xw D (xA ws0) s.heap (wMod cI cZ cN cC h0 h1 h2 h3 h4 h5 h6 h7 h8 h9 h10 h11 h12 h13 h14 h15 mn um len plc srt frm num wrg cm mpt st pst kep isk pil nxs txt cls asd opn byy twc szs sos ths) H locs → lv_has ls 6 [(0, .ref h0), (2, .int x2), (3, .int x3), (4, .int x4)] → xG p l e 1 21 s m args below meth c D ws0 (wMod cI cZ cN cC h0 h1 h2 h3 h4 h5 h6 h7 h8 h9 h10 h11 h12 h13 h14 h15 mn um len plc srt frm num wrg cm mpt st pst kep isk pil nxs txt cls asd opn res.2 twc szs sos ths) (some (.int res.1)) H locs (F0 m 52 ls []) := by
  obtain ⟨hx, hb, -⟩ := id E
  intro n
  induction n with
  | zero =>
    intro _ _ _ hf
    rw [f_X7_findsWay_52] at hf; cases hf
  | succ n ih =>
    intro x3 x4 byy hf H locs ls hw hl
    rw [f_X7_findsWay_52] at hf
    refine lv_iload hx hb dX7_findsWay_52 (lv_at hl 3 rfl) ?_
    refine lv_aload_n hx hb dX7_findsWay_54 rfl (lv_at hl 0 rfl) ?_
    refine x_get E hw kin_X7 0 rfl rfl 0 (by decide) kF_X7_7 (v := .int mn) rfl dX7_findsWay_55 ?_
    refine lv_icmp_ge (tgt := 131) hx hb dX7_findsWay_58 (by decide) (fun c12 => ?_) (fun c12 => ?_)
    · rw [if_pos c12] at hf
      refine lv_goto (tgt := 34) hx hb dX7_findsWay_131 (by decide) ?_
      exact hk34 _ _ hf _ _ _ hw (lv_sub hl [0, 1, 2] rfl)
    · rw [if_neg c12] at hf
      refine lv_iconst (v := 0) hx hb dX7_findsWay_61 (by decide) ?_
      refine lv_istore (lv' := [(5, .int 0), (0, .ref h0), (2, .int x2), (3, .int x3), (4, .int x4)]) hx hb dX7_findsWay_62 hl (by decide) rfl (fun ls hl => ?_)
      exact b_X7_findsWay_64 E ih N _ _ _ hf _ _ _ hw (lv_sub hl [1, 2, 3, 4, 0] rfl)
def f_X7_findsWay_34 (N : Nat) (x2 : Int32) (mn : Int32) (opn : (Nat → Int32)) : Nat → Int32 → (Nat → Int32) → Option (Int32 × (Nat → Int32))
  | 0, _, _ => none
  | n + 1, x3, byy =>
    if x3 = 0 then
     if xin x2 10 then
     if (byy (Int32.toNatClampNeg x2)) < 0 then
      some (0, byy)
     else
      some (1, byy)
     else none
    else
     if xin x2 10 then
     if 0 ≤ (byy (Int32.toNatClampNeg x2)) then
      if xin x2 10 then
      if (byy (Int32.toNatClampNeg x2)) < 0 then
       some (0, byy)
      else
       some (1, byy)
      else none
     else
      f_X7_findsWay_52 (fun x3 byy => f_X7_findsWay_34 N x2 mn opn n x3 byy) N mn opn N 0 0 byy
     else none
set_option maxHeartbeats 4000000 in
set_option maxRecDepth 100000 in
theorem b_X7_findsWay_34 {p : Program} {l : Launch} {e : Env} {s : State} {m : MethodId} {args : Array Value} {below : List Frame} {meth : Method} {c : Code} {D : va_G} {cI cZ cN cC : ClassId} {ws0 : va_W} {h0 h1 h2 h3 h4 h5 h6 h7 h8 h9 h10 h11 h12 h13 h14 h15 : Nat} {x2 : Int32} {mn : Int32} {um : Int32} {len : Int32} {plc : Int32} {srt : Int32} {frm : Int32} {num : Int32} {wrg : Int32} {cm : Int32} {mpt : Int32} {st : (Nat → Int32)} {pst : (Nat → Int32)} {kep : (Nat → Int32)} {isk : (Nat → Int32)} {pil : (Nat → Int32)} {nxs : (Nat → Int32)} {txt : (Nat → Int32)} {cls : (Nat → Int32)} {asd : (Nat → Int32)} {opn : (Nat → Int32)} {twc : (Nat → Int32)} {szs : (Nat → Int32)} {sos : (Nat → Int32)} {ths : (Nat → Int32)} {N : Nat} {res : Int32 × (Nat → Int32)} (E : xE p s m args meth c cX7_findsWay 6 (some .boolean) RX7 D (xtys cI cZ cN cC) (xA ws0)) : ∀ (n : Nat) (x3 : Int32) (byy : (Nat → Int32)), f_X7_findsWay_34 N x2 mn opn n x3 byy = some res → ∀ (H : Heap) (locs : List Loc) (ls : Array Slot), xw D (xA ws0) s.heap (wMod cI cZ cN cC h0 h1 h2 h3 h4 h5 h6 h7 h8 h9 h10 h11 h12 h13 h14 h15 mn um len plc srt frm num wrg cm mpt st pst kep isk pil nxs txt cls asd opn byy twc szs sos ths) H locs → lv_has ls 6 [(0, .ref h0), (2, .int x2), (3, .int x3)] → xG p l e 1 21 s m args below meth c D ws0 (wMod cI cZ cN cC h0 h1 h2 h3 h4 h5 h6 h7 h8 h9 h10 h11 h12 h13 h14 h15 mn um len plc srt frm num wrg cm mpt st pst kep isk pil nxs txt cls asd opn res.2 twc szs sos ths) (some (.int res.1)) H locs (F0 m 34 ls []) := by
  obtain ⟨hx, hb, -⟩ := id E
  intro n
  induction n with
  | zero =>
    intro _ _ hf
    rw [f_X7_findsWay_34] at hf; cases hf
  | succ n ih =>
    intro x3 byy hf H locs ls hw hl
    rw [f_X7_findsWay_34] at hf
    refine lv_iload_n hx hb dX7_findsWay_34 rfl (lv_at hl 2 rfl) ?_
    refine lv_if_eq (tgt := 134) hx hb dX7_findsWay_35 (by decide) (fun c5 => ?_) (fun c5 => ?_)
    · rw [if_pos c5] at hf
      refine lv_aload_n hx hb dX7_findsWay_134 rfl (lv_at hl 0 rfl) ?_
      refine x_get E hw kin_X7 0 rfl rfl 20 (by decide) kF_X7_44 (v := .ref h11) rfl dX7_findsWay_135 ?_
      refine lv_iload_n hx hb dX7_findsWay_138 rfl (lv_at hl 1 rfl) ?_
      obtain ⟨g6, hf⟩ := xgd hf
      refine x_iald E hw 11 0 rfl rfl (xin_vp g6) dX7_findsWay_139 ?_
      refine lv_if_lt (tgt := 147) hx hb dX7_findsWay_140 (by decide) (fun c7 => ?_) (fun c7 => ?_)
      · rw [if_pos c7] at hf
        refine lv_iconst (v := 0) hx hb dX7_findsWay_147 (by decide) ?_
        have hf := Option.some.inj hf; subst hf
        exact x_zret E hw (xz_n (v := 0) (by decide)) dX7_findsWay_148
      · rw [if_neg c7] at hf
        refine lv_iconst (v := 1) hx hb dX7_findsWay_143 (by decide) ?_
        refine lv_goto (tgt := 148) hx hb dX7_findsWay_144 (by decide) ?_
        have hf := Option.some.inj hf; subst hf
        exact x_zret E hw (xz_n (v := 1) (by decide)) dX7_findsWay_148
    · rw [if_neg c5] at hf
      refine lv_aload_n hx hb dX7_findsWay_38 rfl (lv_at hl 0 rfl) ?_
      refine x_get E hw kin_X7 0 rfl rfl 20 (by decide) kF_X7_44 (v := .ref h11) rfl dX7_findsWay_39 ?_
      refine lv_iload_n hx hb dX7_findsWay_42 rfl (lv_at hl 1 rfl) ?_
      obtain ⟨g8, hf⟩ := xgd hf
      refine x_iald E hw 11 0 rfl rfl (xin_vp g8) dX7_findsWay_43 ?_
      refine lv_if_ge (tgt := 134) hx hb dX7_findsWay_44 (by decide) (fun c9 => ?_) (fun c9 => ?_)
      · rw [if_pos c9] at hf
        refine lv_aload_n hx hb dX7_findsWay_134 rfl (lv_at hl 0 rfl) ?_
        refine x_get E hw kin_X7 0 rfl rfl 20 (by decide) kF_X7_44 (v := .ref h11) rfl dX7_findsWay_135 ?_
        refine lv_iload_n hx hb dX7_findsWay_138 rfl (lv_at hl 1 rfl) ?_
        obtain ⟨g10, hf⟩ := xgd hf
        refine x_iald E hw 11 0 rfl rfl (xin_vp g10) dX7_findsWay_139 ?_
        refine lv_if_lt (tgt := 147) hx hb dX7_findsWay_140 (by decide) (fun c11 => ?_) (fun c11 => ?_)
        · rw [if_pos c11] at hf
          refine lv_iconst (v := 0) hx hb dX7_findsWay_147 (by decide) ?_
          have hf := Option.some.inj hf; subst hf
          exact x_zret E hw (xz_n (v := 0) (by decide)) dX7_findsWay_148
        · rw [if_neg c11] at hf
          refine lv_iconst (v := 1) hx hb dX7_findsWay_143 (by decide) ?_
          refine lv_goto (tgt := 148) hx hb dX7_findsWay_144 (by decide) ?_
          have hf := Option.some.inj hf; subst hf
          exact x_zret E hw (xz_n (v := 1) (by decide)) dX7_findsWay_148
      · rw [if_neg c9] at hf
        refine lv_iconst (v := 0) hx hb dX7_findsWay_47 (by decide) ?_
        refine lv_istore_n (lv' := [(3, .int 0), (0, .ref h0), (2, .int x2)]) hx hb dX7_findsWay_48 rfl hl (by decide) rfl (fun ls hl => ?_)
        refine lv_iconst (v := 0) hx hb dX7_findsWay_49 (by decide) ?_
        refine lv_istore (lv' := [(4, .int 0), (3, .int 0), (0, .ref h0), (2, .int x2)]) hx hb dX7_findsWay_50 hl (by decide) rfl (fun ls hl => ?_)
        exact b_X7_findsWay_52 E ih N _ _ _ hf _ _ _ hw (lv_sub hl [2, 3, 1, 0] rfl)
def f_X7_findsWay_2 (N : Nat) (x1 : Int32) (x2 : Int32) (mn : Int32) (opn : (Nat → Int32)) : Nat → Int32 → (Nat → Int32) → Option (Int32 × (Nat → Int32))
  | 0, _, _ => none
  | n + 1, x3, byy =>
    if mn ≤ x3 then
     f_X7_findsWay_34 N x2 mn opn N 1 byy
    else
     if x3 = x1 then
      if xin x3 10 then
      f_X7_findsWay_2 N x1 x2 mn opn n (x3 + 1) (upd byy (Int32.toNatClampNeg x3) x1)
      else none
     else
      if xin x3 10 then
      f_X7_findsWay_2 N x1 x2 mn opn n (x3 + 1) (upd byy (Int32.toNatClampNeg x3) (-1))
      else none
set_option maxHeartbeats 4000000 in
set_option maxRecDepth 100000 in
theorem b_X7_findsWay_2 {p : Program} {l : Launch} {e : Env} {s : State} {m : MethodId} {args : Array Value} {below : List Frame} {meth : Method} {c : Code} {D : va_G} {cI cZ cN cC : ClassId} {ws0 : va_W} {h0 h1 h2 h3 h4 h5 h6 h7 h8 h9 h10 h11 h12 h13 h14 h15 : Nat} {x1 : Int32} {x2 : Int32} {mn : Int32} {um : Int32} {len : Int32} {plc : Int32} {srt : Int32} {frm : Int32} {num : Int32} {wrg : Int32} {cm : Int32} {mpt : Int32} {st : (Nat → Int32)} {pst : (Nat → Int32)} {kep : (Nat → Int32)} {isk : (Nat → Int32)} {pil : (Nat → Int32)} {nxs : (Nat → Int32)} {txt : (Nat → Int32)} {cls : (Nat → Int32)} {asd : (Nat → Int32)} {opn : (Nat → Int32)} {twc : (Nat → Int32)} {szs : (Nat → Int32)} {sos : (Nat → Int32)} {ths : (Nat → Int32)} {N : Nat} {res : Int32 × (Nat → Int32)} (E : xE p s m args meth c cX7_findsWay 6 (some .boolean) RX7 D (xtys cI cZ cN cC) (xA ws0)) : ∀ (n : Nat) (x3 : Int32) (byy : (Nat → Int32)), f_X7_findsWay_2 N x1 x2 mn opn n x3 byy = some res → ∀ (H : Heap) (locs : List Loc) (ls : Array Slot), xw D (xA ws0) s.heap (wMod cI cZ cN cC h0 h1 h2 h3 h4 h5 h6 h7 h8 h9 h10 h11 h12 h13 h14 h15 mn um len plc srt frm num wrg cm mpt st pst kep isk pil nxs txt cls asd opn byy twc szs sos ths) H locs → lv_has ls 6 [(0, .ref h0), (1, .int x1), (2, .int x2), (3, .int x3)] → xG p l e 1 21 s m args below meth c D ws0 (wMod cI cZ cN cC h0 h1 h2 h3 h4 h5 h6 h7 h8 h9 h10 h11 h12 h13 h14 h15 mn um len plc srt frm num wrg cm mpt st pst kep isk pil nxs txt cls asd opn res.2 twc szs sos ths) (some (.int res.1)) H locs (F0 m 2 ls []) := by
  obtain ⟨hx, hb, -⟩ := id E
  intro n
  induction n with
  | zero =>
    intro _ _ hf
    rw [f_X7_findsWay_2] at hf; cases hf
  | succ n ih =>
    intro x3 byy hf H locs ls hw hl
    rw [f_X7_findsWay_2] at hf
    refine lv_iload_n hx hb dX7_findsWay_2 rfl (lv_at hl 3 rfl) ?_
    refine lv_aload_n hx hb dX7_findsWay_3 rfl (lv_at hl 0 rfl) ?_
    refine x_get E hw kin_X7 0 rfl rfl 0 (by decide) kF_X7_7 (v := .int mn) rfl dX7_findsWay_4 ?_
    refine lv_icmp_ge (tgt := 32) hx hb dX7_findsWay_7 (by decide) (fun c1 => ?_) (fun c1 => ?_)
    · rw [if_pos c1] at hf
      refine lv_iconst (v := 1) hx hb dX7_findsWay_32 (by decide) ?_
      refine lv_istore_n (lv' := [(3, .int 1), (0, .ref h0), (1, .int x1), (2, .int x2)]) hx hb dX7_findsWay_33 rfl hl (by decide) rfl (fun ls hl => ?_)
      exact b_X7_findsWay_34 E N _ _ hf _ _ _ hw (lv_sub hl [1, 3, 0] rfl)
    · rw [if_neg c1] at hf
      refine lv_aload_n hx hb dX7_findsWay_10 rfl (lv_at hl 0 rfl) ?_
      refine x_get E hw kin_X7 0 rfl rfl 20 (by decide) kF_X7_44 (v := .ref h11) rfl dX7_findsWay_11 ?_
      refine lv_iload_n hx hb dX7_findsWay_14 rfl (lv_at hl 3 rfl) ?_
      refine lv_iload_n hx hb dX7_findsWay_15 rfl (lv_at hl 3 rfl) ?_
      refine lv_iload_n hx hb dX7_findsWay_16 rfl (lv_at hl 1 rfl) ?_
      refine lv_icmp_ne (tgt := 24) hx hb dX7_findsWay_17 (by decide) (fun c2 => ?_) (fun c2 => ?_)
      · rw [if_neg c2] at hf
        refine lv_iconst (v := (-1)) hx hb dX7_findsWay_24 (by decide) ?_
        obtain ⟨g3, hf⟩ := xgd hf
        refine x_iast (ws' := (wMod cI cZ cN cC h0 h1 h2 h3 h4 h5 h6 h7 h8 h9 h10 h11 h12 h13 h14 h15 mn um len plc srt frm num wrg cm mpt st pst kep isk pil nxs txt cls asd opn (upd byy (Int32.toNatClampNeg x3) (-1)) twc szs sos ths)) E hw 11 0 rfl rfl (xin_vp g3) rfl dX7_findsWay_25 (fun H locs hw => ?_)
        refine lv_iinc (v := (x3 + 1)) (lv' := [(3, .int (x3 + 1)), (0, .ref h0), (1, .int x1), (2, .int x2)]) hx hb dX7_findsWay_26 hl (k := 3) rfl rfl (by decide) rfl (fun ls hl => ?_)
        refine lv_goto (tgt := 2) hx hb dX7_findsWay_29 (by decide) ?_
        exact ih _ _ hf _ _ _ hw (lv_sub hl [1, 2, 3, 0] rfl)
      · rw [if_pos c2] at hf
        refine lv_iload_n hx hb dX7_findsWay_20 rfl (lv_at hl 1 rfl) ?_
        refine lv_goto (tgt := 25) hx hb dX7_findsWay_21 (by decide) ?_
        obtain ⟨g4, hf⟩ := xgd hf
        refine x_iast (ws' := (wMod cI cZ cN cC h0 h1 h2 h3 h4 h5 h6 h7 h8 h9 h10 h11 h12 h13 h14 h15 mn um len plc srt frm num wrg cm mpt st pst kep isk pil nxs txt cls asd opn (upd byy (Int32.toNatClampNeg x3) x1) twc szs sos ths)) E hw 11 0 rfl rfl (xin_vp g4) rfl dX7_findsWay_25 (fun H locs hw => ?_)
        refine lv_iinc (v := (x3 + 1)) (lv' := [(3, .int (x3 + 1)), (0, .ref h0), (1, .int x1), (2, .int x2)]) hx hb dX7_findsWay_26 hl (k := 3) rfl rfl (by decide) rfl (fun ls hl => ?_)
        refine lv_goto (tgt := 2) hx hb dX7_findsWay_29 (by decide) ?_
        exact ih _ _ hf _ _ _ hw (lv_sub hl [1, 2, 3, 0] rfl)
def f_X7_findsWay (N : Nat) (x1 : Int32) (x2 : Int32) (mn : Int32) (opn : (Nat → Int32)) (byy : (Nat → Int32)) : Option (Int32 × (Nat → Int32)) :=
  f_X7_findsWay_2 N x1 x2 mn opn N 0 byy
set_option maxHeartbeats 4000000 in
set_option maxRecDepth 100000 in
theorem c_X7_findsWay {l : Launch} {D : va_G} {cI cZ cN cC : ClassId} {h0 h1 h2 h3 h4 h5 h6 h7 h8 h9 h10 h11 h12 h13 h14 h15 : Nat} {mn : Int32} {um : Int32} {len : Int32} {plc : Int32} {srt : Int32} {frm : Int32} {num : Int32} {wrg : Int32} {cm : Int32} {mpt : Int32} {st : (Nat → Int32)} {pst : (Nat → Int32)} {kep : (Nat → Int32)} {isk : (Nat → Int32)} {pil : (Nat → Int32)} {nxs : (Nat → Int32)} {txt : (Nat → Int32)} {cls : (Nat → Int32)} {asd : (Nat → Int32)} {opn : (Nat → Int32)} {byy : (Nat → Int32)} {twc : (Nat → Int32)} {szs : (Nat → Int32)} {sos : (Nat → Int32)} {ths : (Nat → Int32)} {x1 : Int32} {x2 : Int32} {N : Nat} {res : Int32 × (Nat → Int32)} (hf : f_X7_findsWay N x1 x2 mn opn byy = some res) : xMet l D (xtys cI cZ cN cC) yX7_findsWay cX7_findsWay 6 (some .boolean) 1 21 [.ref h0, .int x1, .int x2] (wMod cI cZ cN cC h0 h1 h2 h3 h4 h5 h6 h7 h8 h9 h10 h11 h12 h13 h14 h15 mn um len plc srt frm num wrg cm mpt st pst kep isk pil nxs txt cls asd opn byy twc szs sos ths) (wMod cI cZ cN cC h0 h1 h2 h3 h4 h5 h6 h7 h8 h9 h10 h11 h12 h13 h14 h15 mn um len plc srt frm num wrg cm mpt st pst kep isk pil nxs txt cls asd opn res.2 twc szs sos ths) (some (.int res.1)) := by
  refine x_enter (by decide) (Nat.le_of_ble_eq_true rfl) ?_
  intro p e s m args below meth c E ls hl hw
  have E : xE p s m args meth c cX7_findsWay 6 (some .boolean) RX7 D (xtys cI cZ cN cC) (xA (wMod cI cZ cN cC h0 h1 h2 h3 h4 h5 h6 h7 h8 h9 h10 h11 h12 h13 h14 h15 mn um len plc srt frm num wrg cm mpt st pst kep isk pil nxs txt cls asd opn byy twc szs sos ths)) := E
  obtain ⟨hx, hb, -⟩ := id E
  have hl : lv_has ls 6 [(0, .ref h0), (1, .int x1), (2, .int x2)] := hl
  unfold f_X7_findsWay at hf
  refine lv_iconst (v := 0) hx hb dX7_findsWay_0 (by decide) ?_
  refine lv_istore_n (lv' := [(3, .int 0), (0, .ref h0), (1, .int x1), (2, .int x2)]) hx hb dX7_findsWay_1 rfl hl (by decide) rfl (fun ls hl => ?_)
  exact b_X7_findsWay_2 E N _ _ hf _ _ _ hw (lv_sub hl [1, 2, 3, 0] rfl)

def f_X7_goAlong_36 (x1 : Int32) (x2 : Int32) (t0 : Int32) (t1 : Int32) (t2 : Int32) (opn : (Nat → Int32)) (twc : (Nat → Int32)) : Option ((Nat → Int32) × (Nat → Int32)) :=
  if xin t2 10 then
  if xin x1 10 then
  if xin x1 10 then
  if xin x2 10 then
  if xin x2 10 then
  if (f_X7_has ((upd opn (Int32.toNatClampNeg t2) (t1 &&& t0)) (Int32.toNatClampNeg x2)) x1) = 0 then
   if xin x2 10 then
   if xin x2 10 then
   if xin x2 10 then
   some ((upd (upd opn (Int32.toNatClampNeg t2) (t1 &&& t0)) (Int32.toNatClampNeg x2) (((upd opn (Int32.toNatClampNeg t2) (t1 &&& t0)) (Int32.toNatClampNeg x2)) ||| (1 <<< (x1 &&& 31)))), (upd (upd twc (Int32.toNatClampNeg x1) ((twc (Int32.toNatClampNeg x1)) &&& ((1 <<< (x2 &&& 31)) ^^^ (-1)))) (Int32.toNatClampNeg x2) (((upd twc (Int32.toNatClampNeg x1) ((twc (Int32.toNatClampNeg x1)) &&& ((1 <<< (x2 &&& 31)) ^^^ (-1)))) (Int32.toNatClampNeg x2)) ||| 0)))
   else none
   else none
   else none
  else
   if xin x2 10 then
   if xin x2 10 then
   if xin x2 10 then
   some ((upd (upd opn (Int32.toNatClampNeg t2) (t1 &&& t0)) (Int32.toNatClampNeg x2) (((upd opn (Int32.toNatClampNeg t2) (t1 &&& t0)) (Int32.toNatClampNeg x2)) ||| (1 <<< (x1 &&& 31)))), (upd (upd twc (Int32.toNatClampNeg x1) ((twc (Int32.toNatClampNeg x1)) &&& ((1 <<< (x2 &&& 31)) ^^^ (-1)))) (Int32.toNatClampNeg x2) (((upd twc (Int32.toNatClampNeg x1) ((twc (Int32.toNatClampNeg x1)) &&& ((1 <<< (x2 &&& 31)) ^^^ (-1)))) (Int32.toNatClampNeg x2)) ||| (1 <<< (x1 &&& 31)))))
   else none
   else none
   else none
  else none
  else none
  else none
  else none
  else none
set_option maxHeartbeats 4000000 in
set_option maxRecDepth 100000 in
theorem b_X7_goAlong_36 {p : Program} {l : Launch} {e : Env} {s : State} {m : MethodId} {args : Array Value} {below : List Frame} {meth : Method} {c : Code} {D : va_G} {cI cZ cN cC : ClassId} {ws0 : va_W} {h0 h1 h2 h3 h4 h5 h6 h7 h8 h9 h10 h11 h12 h13 h14 h15 : Nat} {x1 : Int32} {x2 : Int32} {t0 : Int32} {t1 : Int32} {t2 : Int32} {mn : Int32} {um : Int32} {len : Int32} {plc : Int32} {srt : Int32} {frm : Int32} {num : Int32} {wrg : Int32} {cm : Int32} {mpt : Int32} {st : (Nat → Int32)} {pst : (Nat → Int32)} {kep : (Nat → Int32)} {isk : (Nat → Int32)} {pil : (Nat → Int32)} {nxs : (Nat → Int32)} {txt : (Nat → Int32)} {cls : (Nat → Int32)} {asd : (Nat → Int32)} {opn : (Nat → Int32)} {byy : (Nat → Int32)} {twc : (Nat → Int32)} {szs : (Nat → Int32)} {sos : (Nat → Int32)} {ths : (Nat → Int32)} {res : (Nat → Int32) × (Nat → Int32)} (E : xE p s m args meth c cX7_goAlong 4 none RX7 D (xtys cI cZ cN cC) (xA ws0)) : f_X7_goAlong_36 x1 x2 t0 t1 t2 opn twc = some res → ∀ (H : Heap) (locs : List Loc) (ls : Array Slot), xw D (xA ws0) s.heap (wMod cI cZ cN cC h0 h1 h2 h3 h4 h5 h6 h7 h8 h9 h10 h11 h12 h13 h14 h15 mn um len plc srt frm num wrg cm mpt st pst kep isk pil nxs txt cls asd opn byy twc szs sos ths) H locs → lv_has ls 4 [(0, .ref h0), (1, .int x1), (2, .int x2)] → xG p l e 1 21 s m args below meth c D ws0 (wMod cI cZ cN cC h0 h1 h2 h3 h4 h5 h6 h7 h8 h9 h10 h11 h12 h13 h14 h15 mn um len plc srt frm num wrg cm mpt st pst kep isk pil nxs txt cls asd res.1 byy res.2 szs sos ths) none H locs (F0 m 36 ls [.int t0, .int t1, .int t2, .ref h10]) := by
  obtain ⟨hx, hb, -⟩ := id E
  intro hf H locs ls hw hl
  unfold f_X7_goAlong_36 at hf
  refine lv_iand hx hb dX7_goAlong_36 ?_
  obtain ⟨g5, hf⟩ := xgd hf
  refine x_iast (ws' := (wMod cI cZ cN cC h0 h1 h2 h3 h4 h5 h6 h7 h8 h9 h10 h11 h12 h13 h14 h15 mn um len plc srt frm num wrg cm mpt st pst kep isk pil nxs txt cls asd (upd opn (Int32.toNatClampNeg t2) (t1 &&& t0)) byy twc szs sos ths)) E hw 10 0 rfl rfl (xin_vp g5) rfl dX7_goAlong_37 (fun H locs hw => ?_)
  refine lv_aload_n hx hb dX7_goAlong_38 rfl (lv_at hl 0 rfl) ?_
  refine x_get E hw kin_X7 0 rfl rfl 21 (by decide) kF_X7_47 (v := .ref h12) rfl dX7_goAlong_39 ?_
  refine lv_iload_n hx hb dX7_goAlong_42 rfl (lv_at hl 1 rfl) ?_
  refine lv_dup2_11 hx hb dX7_goAlong_43 rfl rfl ?_
  obtain ⟨g6, hf⟩ := xgd hf
  refine x_iald E hw 12 0 rfl rfl (xin_vp g6) dX7_goAlong_44 ?_
  refine lv_iconst (v := 1) hx hb dX7_goAlong_45 (by decide) ?_
  refine lv_iload_n hx hb dX7_goAlong_46 rfl (lv_at hl 2 rfl) ?_
  refine lv_ishl hx hb dX7_goAlong_47 ?_
  refine lv_iconst (v := (-1)) hx hb dX7_goAlong_48 (by decide) ?_
  refine lv_ixor hx hb dX7_goAlong_49 ?_
  refine lv_iand hx hb dX7_goAlong_50 ?_
  obtain ⟨g7, hf⟩ := xgd hf
  refine x_iast (ws' := (wMod cI cZ cN cC h0 h1 h2 h3 h4 h5 h6 h7 h8 h9 h10 h11 h12 h13 h14 h15 mn um len plc srt frm num wrg cm mpt st pst kep isk pil nxs txt cls asd (upd opn (Int32.toNatClampNeg t2) (t1 &&& t0)) byy (upd twc (Int32.toNatClampNeg x1) ((twc (Int32.toNatClampNeg x1)) &&& ((1 <<< (x2 &&& 31)) ^^^ (-1)))) szs sos ths)) E hw 12 0 rfl rfl (xin_vp g7) rfl dX7_goAlong_51 (fun H locs hw => ?_)
  refine lv_aload_n hx hb dX7_goAlong_52 rfl (lv_at hl 0 rfl) ?_
  refine x_get E hw kin_X7 0 rfl rfl 21 (by decide) kF_X7_47 (v := .ref h12) rfl dX7_goAlong_53 ?_
  refine lv_iload_n hx hb dX7_goAlong_56 rfl (lv_at hl 2 rfl) ?_
  refine lv_dup2_11 hx hb dX7_goAlong_57 rfl rfl ?_
  obtain ⟨g8, hf⟩ := xgd hf
  refine x_iald E hw 12 0 rfl rfl (xin_vp g8) dX7_goAlong_58 ?_
  refine lv_aload_n hx hb dX7_goAlong_59 rfl (lv_at hl 0 rfl) ?_
  refine x_get E hw kin_X7 0 rfl rfl 19 (by decide) kF_X7_41 (v := .ref h10) rfl dX7_goAlong_60 ?_
  refine lv_iload_n hx hb dX7_goAlong_63 rfl (lv_at hl 2 rfl) ?_
  obtain ⟨g9, hf⟩ := xgd hf
  refine x_iald E hw 10 0 rfl rfl (xin_vp g9) dX7_goAlong_64 ?_
  refine lv_iload_n hx hb dX7_goAlong_65 rfl (lv_at hl 1 rfl) ?_
  refine x_callS (isC := []) (ws' := (wMod cI cZ cN cC h0 h1 h2 h3 h4 h5 h6 h7 h8 h9 h10 h11 h12 h13 h14 h15 mn um len plc srt frm num wrg cm mpt st pst kep isk pil nxs txt cls asd (upd opn (Int32.toNatClampNeg t2) (t1 &&& t0)) byy (upd twc (Int32.toNatClampNeg x1) ((twc (Int32.toNatClampNeg x1)) &&& ((1 <<< (x2 &&& 31)) ^^^ (-1)))) szs sos ths)) (st1 := [.int (f_X7_has ((upd opn (Int32.toNatClampNeg t2) (t1 &&& t0)) (Int32.toNatClampNeg x2)) x1), .int ((upd twc (Int32.toNatClampNeg x1) ((twc (Int32.toNatClampNeg x1)) &&& ((1 <<< (x2 &&& 31)) ^^^ (-1)))) (Int32.toNatClampNeg x2)), .int x2, .ref h12]) (As := [.int ((upd opn (Int32.toNatClampNeg t2) (t1 &&& t0)) (Int32.toNatClampNeg x2)), .int x1]) (rest := [.int ((upd twc (Int32.toNatClampNeg x1) ((twc (Int32.toNatClampNeg x1)) &&& ((1 <<< (x2 &&& 31)) ^^^ (-1)))) (Int32.toNatClampNeg x2)), .int x2, .ref h12]) E hw vc_X7_78 (c_X7_has (cI := cI) (cZ := cZ) (cN := cN) (cC := cC)    (x0 := ((upd opn (Int32.toNatClampNeg t2) (t1 &&& t0)) (Int32.toNatClampNeg x2))) (x1 := x1) rfl) rfl rfl rfl rfl rfl rfl ⟨Nat.le_of_ble_eq_true rfl, Nat.le_of_ble_eq_true rfl⟩ ⟨Nat.le_refl _, Nat.le_refl _⟩ hl.1 rfl rfl (Nat.le_of_ble_eq_true rfl) dX7_goAlong_66 (fun H locs hw => ?_)
  refine lv_if_eq (tgt := 78) hx hb dX7_goAlong_69 (by decide) (fun c10 => ?_) (fun c10 => ?_)
  · rw [if_pos c10] at hf
    refine lv_iconst (v := 0) hx hb dX7_goAlong_78 (by decide) ?_
    refine lv_ior hx hb dX7_goAlong_79 ?_
    obtain ⟨g11, hf⟩ := xgd hf
    refine x_iast (ws' := (wMod cI cZ cN cC h0 h1 h2 h3 h4 h5 h6 h7 h8 h9 h10 h11 h12 h13 h14 h15 mn um len plc srt frm num wrg cm mpt st pst kep isk pil nxs txt cls asd (upd opn (Int32.toNatClampNeg t2) (t1 &&& t0)) byy (upd (upd twc (Int32.toNatClampNeg x1) ((twc (Int32.toNatClampNeg x1)) &&& ((1 <<< (x2 &&& 31)) ^^^ (-1)))) (Int32.toNatClampNeg x2) (((upd twc (Int32.toNatClampNeg x1) ((twc (Int32.toNatClampNeg x1)) &&& ((1 <<< (x2 &&& 31)) ^^^ (-1)))) (Int32.toNatClampNeg x2)) ||| 0)) szs sos ths)) E hw 12 0 rfl rfl (xin_vp g11) rfl dX7_goAlong_80 (fun H locs hw => ?_)
    refine lv_aload_n hx hb dX7_goAlong_81 rfl (lv_at hl 0 rfl) ?_
    refine x_get E hw kin_X7 0 rfl rfl 19 (by decide) kF_X7_41 (v := .ref h10) rfl dX7_goAlong_82 ?_
    refine lv_iload_n hx hb dX7_goAlong_85 rfl (lv_at hl 2 rfl) ?_
    refine lv_dup2_11 hx hb dX7_goAlong_86 rfl rfl ?_
    obtain ⟨g12, hf⟩ := xgd hf
    refine x_iald E hw 10 0 rfl rfl (xin_vp g12) dX7_goAlong_87 ?_
    refine lv_iconst (v := 1) hx hb dX7_goAlong_88 (by decide) ?_
    refine lv_iload_n hx hb dX7_goAlong_89 rfl (lv_at hl 1 rfl) ?_
    refine lv_ishl hx hb dX7_goAlong_90 ?_
    refine lv_ior hx hb dX7_goAlong_91 ?_
    obtain ⟨g13, hf⟩ := xgd hf
    refine x_iast (ws' := (wMod cI cZ cN cC h0 h1 h2 h3 h4 h5 h6 h7 h8 h9 h10 h11 h12 h13 h14 h15 mn um len plc srt frm num wrg cm mpt st pst kep isk pil nxs txt cls asd (upd (upd opn (Int32.toNatClampNeg t2) (t1 &&& t0)) (Int32.toNatClampNeg x2) (((upd opn (Int32.toNatClampNeg t2) (t1 &&& t0)) (Int32.toNatClampNeg x2)) ||| (1 <<< (x1 &&& 31)))) byy (upd (upd twc (Int32.toNatClampNeg x1) ((twc (Int32.toNatClampNeg x1)) &&& ((1 <<< (x2 &&& 31)) ^^^ (-1)))) (Int32.toNatClampNeg x2) (((upd twc (Int32.toNatClampNeg x1) ((twc (Int32.toNatClampNeg x1)) &&& ((1 <<< (x2 &&& 31)) ^^^ (-1)))) (Int32.toNatClampNeg x2)) ||| 0)) szs sos ths)) E hw 10 0 rfl rfl (xin_vp g13) rfl dX7_goAlong_92 (fun H locs hw => ?_)
    have hf := Option.some.inj hf; subst hf
    exact x_vret E hw dX7_goAlong_93
  · rw [if_neg c10] at hf
    refine lv_iconst (v := 1) hx hb dX7_goAlong_72 (by decide) ?_
    refine lv_iload_n hx hb dX7_goAlong_73 rfl (lv_at hl 1 rfl) ?_
    refine lv_ishl hx hb dX7_goAlong_74 ?_
    refine lv_goto (tgt := 79) hx hb dX7_goAlong_75 (by decide) ?_
    refine lv_ior hx hb dX7_goAlong_79 ?_
    obtain ⟨g14, hf⟩ := xgd hf
    refine x_iast (ws' := (wMod cI cZ cN cC h0 h1 h2 h3 h4 h5 h6 h7 h8 h9 h10 h11 h12 h13 h14 h15 mn um len plc srt frm num wrg cm mpt st pst kep isk pil nxs txt cls asd (upd opn (Int32.toNatClampNeg t2) (t1 &&& t0)) byy (upd (upd twc (Int32.toNatClampNeg x1) ((twc (Int32.toNatClampNeg x1)) &&& ((1 <<< (x2 &&& 31)) ^^^ (-1)))) (Int32.toNatClampNeg x2) (((upd twc (Int32.toNatClampNeg x1) ((twc (Int32.toNatClampNeg x1)) &&& ((1 <<< (x2 &&& 31)) ^^^ (-1)))) (Int32.toNatClampNeg x2)) ||| (1 <<< (x1 &&& 31)))) szs sos ths)) E hw 12 0 rfl rfl (xin_vp g14) rfl dX7_goAlong_80 (fun H locs hw => ?_)
    refine lv_aload_n hx hb dX7_goAlong_81 rfl (lv_at hl 0 rfl) ?_
    refine x_get E hw kin_X7 0 rfl rfl 19 (by decide) kF_X7_41 (v := .ref h10) rfl dX7_goAlong_82 ?_
    refine lv_iload_n hx hb dX7_goAlong_85 rfl (lv_at hl 2 rfl) ?_
    refine lv_dup2_11 hx hb dX7_goAlong_86 rfl rfl ?_
    obtain ⟨g15, hf⟩ := xgd hf
    refine x_iald E hw 10 0 rfl rfl (xin_vp g15) dX7_goAlong_87 ?_
    refine lv_iconst (v := 1) hx hb dX7_goAlong_88 (by decide) ?_
    refine lv_iload_n hx hb dX7_goAlong_89 rfl (lv_at hl 1 rfl) ?_
    refine lv_ishl hx hb dX7_goAlong_90 ?_
    refine lv_ior hx hb dX7_goAlong_91 ?_
    obtain ⟨g16, hf⟩ := xgd hf
    refine x_iast (ws' := (wMod cI cZ cN cC h0 h1 h2 h3 h4 h5 h6 h7 h8 h9 h10 h11 h12 h13 h14 h15 mn um len plc srt frm num wrg cm mpt st pst kep isk pil nxs txt cls asd (upd (upd opn (Int32.toNatClampNeg t2) (t1 &&& t0)) (Int32.toNatClampNeg x2) (((upd opn (Int32.toNatClampNeg t2) (t1 &&& t0)) (Int32.toNatClampNeg x2)) ||| (1 <<< (x1 &&& 31)))) byy (upd (upd twc (Int32.toNatClampNeg x1) ((twc (Int32.toNatClampNeg x1)) &&& ((1 <<< (x2 &&& 31)) ^^^ (-1)))) (Int32.toNatClampNeg x2) (((upd twc (Int32.toNatClampNeg x1) ((twc (Int32.toNatClampNeg x1)) &&& ((1 <<< (x2 &&& 31)) ^^^ (-1)))) (Int32.toNatClampNeg x2)) ||| (1 <<< (x1 &&& 31)))) szs sos ths)) E hw 10 0 rfl rfl (xin_vp g16) rfl dX7_goAlong_92 (fun H locs hw => ?_)
    have hf := Option.some.inj hf; subst hf
    exact x_vret E hw dX7_goAlong_93
def f_X7_goAlong (x1 : Int32) (x2 : Int32) (opn : (Nat → Int32)) (twc : (Nat → Int32)) : Option ((Nat → Int32) × (Nat → Int32)) :=
  if xin x1 10 then
  if xin x1 10 then
  if (f_X7_has (twc (Int32.toNatClampNeg x1)) x2) = 0 then
   f_X7_goAlong_36 x1 x2 ((1 <<< (x2 &&& 31)) ^^^ (-1)) (opn (Int32.toNatClampNeg x1)) x1 opn twc
  else
   if xin x1 10 then
   f_X7_goAlong_36 x1 x2 (opn (Int32.toNatClampNeg x1)) (opn (Int32.toNatClampNeg x1)) x1 opn twc
   else none
  else none
  else none
set_option maxHeartbeats 4000000 in
set_option maxRecDepth 100000 in
theorem c_X7_goAlong {l : Launch} {D : va_G} {cI cZ cN cC : ClassId} {h0 h1 h2 h3 h4 h5 h6 h7 h8 h9 h10 h11 h12 h13 h14 h15 : Nat} {mn : Int32} {um : Int32} {len : Int32} {plc : Int32} {srt : Int32} {frm : Int32} {num : Int32} {wrg : Int32} {cm : Int32} {mpt : Int32} {st : (Nat → Int32)} {pst : (Nat → Int32)} {kep : (Nat → Int32)} {isk : (Nat → Int32)} {pil : (Nat → Int32)} {nxs : (Nat → Int32)} {txt : (Nat → Int32)} {cls : (Nat → Int32)} {asd : (Nat → Int32)} {opn : (Nat → Int32)} {byy : (Nat → Int32)} {twc : (Nat → Int32)} {szs : (Nat → Int32)} {sos : (Nat → Int32)} {ths : (Nat → Int32)} {x1 : Int32} {x2 : Int32} {res : (Nat → Int32) × (Nat → Int32)} (hf : f_X7_goAlong x1 x2 opn twc = some res) : xMet l D (xtys cI cZ cN cC) yX7_goAlong cX7_goAlong 4 none 1 21 [.ref h0, .int x1, .int x2] (wMod cI cZ cN cC h0 h1 h2 h3 h4 h5 h6 h7 h8 h9 h10 h11 h12 h13 h14 h15 mn um len plc srt frm num wrg cm mpt st pst kep isk pil nxs txt cls asd opn byy twc szs sos ths) (wMod cI cZ cN cC h0 h1 h2 h3 h4 h5 h6 h7 h8 h9 h10 h11 h12 h13 h14 h15 mn um len plc srt frm num wrg cm mpt st pst kep isk pil nxs txt cls asd res.1 byy res.2 szs sos ths) none := by
  refine x_enter (by decide) (Nat.le_of_ble_eq_true rfl) ?_
  intro p e s m args below meth c E ls hl hw
  have E : xE p s m args meth c cX7_goAlong 4 none RX7 D (xtys cI cZ cN cC) (xA (wMod cI cZ cN cC h0 h1 h2 h3 h4 h5 h6 h7 h8 h9 h10 h11 h12 h13 h14 h15 mn um len plc srt frm num wrg cm mpt st pst kep isk pil nxs txt cls asd opn byy twc szs sos ths)) := E
  obtain ⟨hx, hb, -⟩ := id E
  have hl : lv_has ls 4 [(0, .ref h0), (1, .int x1), (2, .int x2)] := hl
  unfold f_X7_goAlong at hf
  refine lv_aload_n hx hb dX7_goAlong_0 rfl (lv_at hl 0 rfl) ?_
  refine x_get E hw kin_X7 0 rfl rfl 21 (by decide) kF_X7_47 (v := .ref h12) rfl dX7_goAlong_1 ?_
  refine lv_iload_n hx hb dX7_goAlong_4 rfl (lv_at hl 1 rfl) ?_
  obtain ⟨g1, hf⟩ := xgd hf
  refine x_iald E hw 12 0 rfl rfl (xin_vp g1) dX7_goAlong_5 ?_
  refine lv_iload_n hx hb dX7_goAlong_6 rfl (lv_at hl 2 rfl) ?_
  refine x_callS (isC := []) (ws' := (wMod cI cZ cN cC h0 h1 h2 h3 h4 h5 h6 h7 h8 h9 h10 h11 h12 h13 h14 h15 mn um len plc srt frm num wrg cm mpt st pst kep isk pil nxs txt cls asd opn byy twc szs sos ths)) (st1 := [.int (f_X7_has (twc (Int32.toNatClampNeg x1)) x2)]) (As := [.int (twc (Int32.toNatClampNeg x1)), .int x2]) (rest := []) E hw vc_X7_78 (c_X7_has (cI := cI) (cZ := cZ) (cN := cN) (cC := cC)    (x0 := (twc (Int32.toNatClampNeg x1))) (x1 := x2) rfl) rfl rfl rfl rfl rfl rfl ⟨Nat.le_of_ble_eq_true rfl, Nat.le_of_ble_eq_true rfl⟩ ⟨Nat.le_refl _, Nat.le_refl _⟩ hl.1 rfl rfl (Nat.le_of_ble_eq_true rfl) dX7_goAlong_7 (fun H locs hw => ?_)
  refine lv_istore_n (lv' := [(3, .int (f_X7_has (twc (Int32.toNatClampNeg x1)) x2)), (0, .ref h0), (1, .int x1), (2, .int x2)]) hx hb dX7_goAlong_10 rfl hl (by decide) rfl (fun ls hl => ?_)
  refine lv_aload_n hx hb dX7_goAlong_11 rfl (lv_at hl 1 rfl) ?_
  refine x_get E hw kin_X7 0 rfl rfl 19 (by decide) kF_X7_41 (v := .ref h10) rfl dX7_goAlong_12 ?_
  refine lv_iload_n hx hb dX7_goAlong_15 rfl (lv_at hl 2 rfl) ?_
  refine lv_dup2_11 hx hb dX7_goAlong_16 rfl rfl ?_
  obtain ⟨g2, hf⟩ := xgd hf
  refine x_iald E hw 10 0 rfl rfl (xin_vp g2) dX7_goAlong_17 ?_
  refine lv_iload_n hx hb dX7_goAlong_18 rfl (lv_at hl 0 rfl) ?_
  refine lv_if_eq (tgt := 31) hx hb dX7_goAlong_19 (by decide) (fun c3 => ?_) (fun c3 => ?_)
  · rw [if_pos c3] at hf
    refine lv_iconst (v := 1) hx hb dX7_goAlong_31 (by decide) ?_
    refine lv_iload_n hx hb dX7_goAlong_32 rfl (lv_at hl 3 rfl) ?_
    refine lv_ishl hx hb dX7_goAlong_33 ?_
    refine lv_iconst (v := (-1)) hx hb dX7_goAlong_34 (by decide) ?_
    refine lv_ixor hx hb dX7_goAlong_35 ?_
    exact b_X7_goAlong_36 E  hf _ _ _ hw (lv_sub hl [1, 2, 3] rfl)
  · rw [if_neg c3] at hf
    refine lv_aload_n hx hb dX7_goAlong_22 rfl (lv_at hl 1 rfl) ?_
    refine x_get E hw kin_X7 0 rfl rfl 19 (by decide) kF_X7_41 (v := .ref h10) rfl dX7_goAlong_23 ?_
    refine lv_iload_n hx hb dX7_goAlong_26 rfl (lv_at hl 2 rfl) ?_
    obtain ⟨g4, hf⟩ := xgd hf
    refine x_iald E hw 10 0 rfl rfl (xin_vp g4) dX7_goAlong_27 ?_
    refine lv_goto (tgt := 36) hx hb dX7_goAlong_28 (by decide) ?_
    exact b_X7_goAlong_36 E  hf _ _ _ hw (lv_sub hl [1, 2, 3] rfl)

def f_X7_sever_63 (k51 : Int32 → (Nat → Int32) → (Nat → Int32) → (Nat → Int32) → Option (Int32 × (Nat → Int32) × (Nat → Int32) × (Nat → Int32))) (x1 : Int32) (x3 : Int32) (byy : (Nat → Int32)) : Nat → Int32 → (Nat → Int32) → (Nat → Int32) → Option (Int32 × (Nat → Int32) × (Nat → Int32) × (Nat → Int32))
  | 0, _, _, _ => none
  | n + 1, x4, opn, twc =>
    if x4 = x1 then
     k51 (x3 + 1) opn byy twc
    else
     if xin x4 10 then
     (f_X7_goAlong (byy (Int32.toNatClampNeg x4)) x4 opn twc).bind fun q10 =>
     if xin x4 10 then
     f_X7_sever_63 k51 x1 x3 byy n (byy (Int32.toNatClampNeg x4)) q10.1 q10.2
     else none
     else none
set_option maxHeartbeats 4000000 in
set_option maxRecDepth 100000 in
theorem b_X7_sever_63 {p : Program} {l : Launch} {e : Env} {s : State} {m : MethodId} {args : Array Value} {below : List Frame} {meth : Method} {c : Code} {D : va_G} {cI cZ cN cC : ClassId} {ws0 : va_W} {h0 h1 h2 h3 h4 h5 h6 h7 h8 h9 h10 h11 h12 h13 h14 h15 : Nat} {x1 : Int32} {x2 : Int32} {x3 : Int32} {mn : Int32} {um : Int32} {len : Int32} {plc : Int32} {srt : Int32} {frm : Int32} {num : Int32} {wrg : Int32} {cm : Int32} {mpt : Int32} {st : (Nat → Int32)} {pst : (Nat → Int32)} {kep : (Nat → Int32)} {isk : (Nat → Int32)} {pil : (Nat → Int32)} {nxs : (Nat → Int32)} {txt : (Nat → Int32)} {cls : (Nat → Int32)} {asd : (Nat → Int32)} {byy : (Nat → Int32)} {szs : (Nat → Int32)} {sos : (Nat → Int32)} {ths : (Nat → Int32)} {res : Int32 × (Nat → Int32) × (Nat → Int32) × (Nat → Int32)} (E : xE p s m args meth c cX7_sever 5 (some .int) RX7 D (xtys cI cZ cN cC) (xA ws0)) {k51 : Int32 → (Nat → Int32) → (Nat → Int32) → (Nat → Int32) → Option (Int32 × (Nat → Int32) × (Nat → Int32) × (Nat → Int32))} (hk51 : ∀ (x3 : Int32) (opn : (Nat → Int32)) (byy : (Nat → Int32)) (twc : (Nat → Int32)), k51 x3 opn byy twc = some res → ∀ (H : Heap) (locs : List Loc) (ls : Array Slot), xw D (xA ws0) s.heap (wMod cI cZ cN cC h0 h1 h2 h3 h4 h5 h6 h7 h8 h9 h10 h11 h12 h13 h14 h15 mn um len plc srt frm num wrg cm mpt st pst kep isk pil nxs txt cls asd opn byy twc szs sos ths) H locs → lv_has ls 5 [(0, .ref h0), (1, .int x1), (2, .int x2), (3, .int x3)] → xG p l e 3 68 s m args below meth c D ws0 (wMod cI cZ cN cC h0 h1 h2 h3 h4 h5 h6 h7 h8 h9 h10 h11 h12 h13 h14 h15 mn um len plc srt frm num wrg cm mpt st pst kep isk pil nxs txt cls asd res.2.1 res.2.2.1 res.2.2.2 szs sos ths) (some (.int res.1)) H locs (F0 m 51 ls [])) : ∀ (n : Nat) (x4 : Int32) (opn : (Nat → Int32)) (twc : (Nat → Int32)), f_X7_sever_63 k51 x1 x3 byy n x4 opn twc = some res → ∀ (H : Heap) (locs : List Loc) (ls : Array Slot), xw D (xA ws0) s.heap (wMod cI cZ cN cC h0 h1 h2 h3 h4 h5 h6 h7 h8 h9 h10 h11 h12 h13 h14 h15 mn um len plc srt frm num wrg cm mpt st pst kep isk pil nxs txt cls asd opn byy twc szs sos ths) H locs → lv_has ls 5 [(0, .ref h0), (1, .int x1), (2, .int x2), (3, .int x3), (4, .int x4)] → xG p l e 3 68 s m args below meth c D ws0 (wMod cI cZ cN cC h0 h1 h2 h3 h4 h5 h6 h7 h8 h9 h10 h11 h12 h13 h14 h15 mn um len plc srt frm num wrg cm mpt st pst kep isk pil nxs txt cls asd res.2.1 res.2.2.1 res.2.2.2 szs sos ths) (some (.int res.1)) H locs (F0 m 63 ls []) := by
  obtain ⟨hx, hb, -⟩ := id E
  intro n
  induction n with
  | zero =>
    intro _ _ _ hf
    rw [f_X7_sever_63] at hf; cases hf
  | succ n ih =>
    intro x4 opn twc hf H locs ls hw hl
    rw [f_X7_sever_63] at hf
    refine lv_iload hx hb dX7_sever_63 (lv_at hl 4 rfl) ?_
    refine lv_iload_n hx hb dX7_sever_65 rfl (lv_at hl 1 rfl) ?_
    refine lv_icmp_eq (tgt := 94) hx hb dX7_sever_66 (by decide) (fun c8 => ?_) (fun c8 => ?_)
    · rw [if_pos c8] at hf
      refine lv_iinc (v := (x3 + 1)) (lv' := [(3, .int (x3 + 1)), (0, .ref h0), (1, .int x1), (2, .int x2), (4, .int x4)]) hx hb dX7_sever_94 hl (k := 3) rfl rfl (by decide) rfl (fun ls hl => ?_)
      refine lv_goto (tgt := 51) hx hb dX7_sever_97 (by decide) ?_
      exact hk51 _ _ _ _ hf _ _ _ hw (lv_sub hl [1, 2, 3, 0] rfl)
    · rw [if_neg c8] at hf
      refine lv_aload_n hx hb dX7_sever_69 rfl (lv_at hl 0 rfl) ?_
      refine lv_aload_n hx hb dX7_sever_70 rfl (lv_at hl 0 rfl) ?_
      refine x_get E hw kin_X7 0 rfl rfl 20 (by decide) kF_X7_44 (v := .ref h11) rfl dX7_sever_71 ?_
      refine lv_iload hx hb dX7_sever_74 (lv_at hl 4 rfl) ?_
      obtain ⟨g9, hf⟩ := xgd hf
      refine x_iald E hw 11 0 rfl rfl (xin_vp g9) dX7_sever_76 ?_
      refine lv_iload hx hb dX7_sever_77 (lv_at hl 4 rfl) ?_
      obtain ⟨q10, hq10, hf⟩ := Option.bind_eq_some_iff.mp hf
      refine x_callVI (ws' := (wMod cI cZ cN cC h0 h1 h2 h3 h4 h5 h6 h7 h8 h9 h10 h11 h12 h13 h14 h15 mn um len plc srt frm num wrg cm mpt st pst kep isk pil nxs txt cls asd q10.1 byy q10.2 szs sos ths)) (st1 := []) (As := [.int (byy (Int32.toNatClampNeg x4)), .int x4]) (rest := []) E hw vc_X7_226 (c_X7_goAlong (cI := cI) (cZ := cZ) (cN := cN) (cC := cC) (h0 := h0) (h1 := h1) (h2 := h2) (h3 := h3) (h4 := h4) (h5 := h5) (h6 := h6) (h7 := h7) (h8 := h8) (h9 := h9) (h10 := h10) (h11 := h11) (h12 := h12) (h13 := h13) (h14 := h14) (h15 := h15)  (mn := mn) (um := um) (len := len) (plc := plc) (srt := srt) (frm := frm) (num := num) (wrg := wrg) (cm := cm) (mpt := mpt) (st := st) (pst := pst) (kep := kep) (isk := isk) (pil := pil) (nxs := nxs) (txt := txt) (cls := cls) (asd := asd) (opn := opn) (byy := byy) (twc := twc) (szs := szs) (sos := sos) (ths := ths) (x1 := (byy (Int32.toNatClampNeg x4))) (x2 := x4) hq10) 0 7 rfl rfl rfl rfl rfl ⟨Nat.le_of_ble_eq_true rfl, Nat.le_of_ble_eq_true rfl⟩ ⟨Nat.le_refl _, Nat.le_refl _⟩ hl.1 rfl rfl (Nat.le_of_ble_eq_true rfl) dX7_sever_79 (fun H locs hw => ?_)
      refine lv_aload_n hx hb dX7_sever_82 rfl (lv_at hl 0 rfl) ?_
      refine x_get E hw kin_X7 0 rfl rfl 20 (by decide) kF_X7_44 (v := .ref h11) rfl dX7_sever_83 ?_
      refine lv_iload hx hb dX7_sever_86 (lv_at hl 4 rfl) ?_
      obtain ⟨g11, hf⟩ := xgd hf
      refine x_iald E hw 11 0 rfl rfl (xin_vp g11) dX7_sever_88 ?_
      refine lv_istore (lv' := [(4, .int (byy (Int32.toNatClampNeg x4))), (0, .ref h0), (1, .int x1), (2, .int x2), (3, .int x3)]) hx hb dX7_sever_89 hl (by decide) rfl (fun ls hl => ?_)
      refine lv_goto (tgt := 63) hx hb dX7_sever_91 (by decide) ?_
      exact ih _ _ _ hf _ _ _ hw (lv_sub hl [1, 2, 3, 4, 0] rfl)
def f_X7_sever_51 (N : Nat) (x1 : Int32) (x2 : Int32) (mn : Int32) : Nat → Int32 → (Nat → Int32) → (Nat → Int32) → (Nat → Int32) → Option (Int32 × (Nat → Int32) × (Nat → Int32) × (Nat → Int32))
  | 0, _, _, _, _ => none
  | n + 1, x3, opn, byy, twc =>
    (f_X7_findsWay N x1 x2 mn opn byy).bind fun q6 =>
    if q6.1 = 0 then
     some (x3, opn, q6.2, twc)
    else
     f_X7_sever_63 (fun x3 opn byy twc => f_X7_sever_51 N x1 x2 mn n x3 opn byy twc) x1 x3 q6.2 N x2 opn twc
set_option maxHeartbeats 4000000 in
set_option maxRecDepth 100000 in
theorem b_X7_sever_51 {p : Program} {l : Launch} {e : Env} {s : State} {m : MethodId} {args : Array Value} {below : List Frame} {meth : Method} {c : Code} {D : va_G} {cI cZ cN cC : ClassId} {ws0 : va_W} {h0 h1 h2 h3 h4 h5 h6 h7 h8 h9 h10 h11 h12 h13 h14 h15 : Nat} {x1 : Int32} {x2 : Int32} {mn : Int32} {um : Int32} {len : Int32} {plc : Int32} {srt : Int32} {frm : Int32} {num : Int32} {wrg : Int32} {cm : Int32} {mpt : Int32} {st : (Nat → Int32)} {pst : (Nat → Int32)} {kep : (Nat → Int32)} {isk : (Nat → Int32)} {pil : (Nat → Int32)} {nxs : (Nat → Int32)} {txt : (Nat → Int32)} {cls : (Nat → Int32)} {asd : (Nat → Int32)} {szs : (Nat → Int32)} {sos : (Nat → Int32)} {ths : (Nat → Int32)} {N : Nat} {res : Int32 × (Nat → Int32) × (Nat → Int32) × (Nat → Int32)} (E : xE p s m args meth c cX7_sever 5 (some .int) RX7 D (xtys cI cZ cN cC) (xA ws0)) : ∀ (n : Nat) (x3 : Int32) (opn : (Nat → Int32)) (byy : (Nat → Int32)) (twc : (Nat → Int32)), f_X7_sever_51 N x1 x2 mn n x3 opn byy twc = some res → ∀ (H : Heap) (locs : List Loc) (ls : Array Slot), xw D (xA ws0) s.heap (wMod cI cZ cN cC h0 h1 h2 h3 h4 h5 h6 h7 h8 h9 h10 h11 h12 h13 h14 h15 mn um len plc srt frm num wrg cm mpt st pst kep isk pil nxs txt cls asd opn byy twc szs sos ths) H locs → lv_has ls 5 [(0, .ref h0), (1, .int x1), (2, .int x2), (3, .int x3)] → xG p l e 3 68 s m args below meth c D ws0 (wMod cI cZ cN cC h0 h1 h2 h3 h4 h5 h6 h7 h8 h9 h10 h11 h12 h13 h14 h15 mn um len plc srt frm num wrg cm mpt st pst kep isk pil nxs txt cls asd res.2.1 res.2.2.1 res.2.2.2 szs sos ths) (some (.int res.1)) H locs (F0 m 51 ls []) := by
  obtain ⟨hx, hb, -⟩ := id E
  intro n
  induction n with
  | zero =>
    intro _ _ _ _ hf
    rw [f_X7_sever_51] at hf; cases hf
  | succ n ih =>
    intro x3 opn byy twc hf H locs ls hw hl
    rw [f_X7_sever_51] at hf
    refine lv_aload_n hx hb dX7_sever_51 rfl (lv_at hl 0 rfl) ?_
    refine lv_iload_n hx hb dX7_sever_52 rfl (lv_at hl 1 rfl) ?_
    refine lv_iload_n hx hb dX7_sever_53 rfl (lv_at hl 2 rfl) ?_
    obtain ⟨q6, hq6, hf⟩ := Option.bind_eq_some_iff.mp hf
    refine x_callVI (ws' := (wMod cI cZ cN cC h0 h1 h2 h3 h4 h5 h6 h7 h8 h9 h10 h11 h12 h13 h14 h15 mn um len plc srt frm num wrg cm mpt st pst kep isk pil nxs txt cls asd opn q6.2 twc szs sos ths)) (st1 := [.int q6.1]) (As := [.int x1, .int x2]) (rest := []) E hw vc_X7_223 (c_X7_findsWay (cI := cI) (cZ := cZ) (cN := cN) (cC := cC) (h0 := h0) (h1 := h1) (h2 := h2) (h3 := h3) (h4 := h4) (h5 := h5) (h6 := h6) (h7 := h7) (h8 := h8) (h9 := h9) (h10 := h10) (h11 := h11) (h12 := h12) (h13 := h13) (h14 := h14) (h15 := h15)  (mn := mn) (um := um) (len := len) (plc := plc) (srt := srt) (frm := frm) (num := num) (wrg := wrg) (cm := cm) (mpt := mpt) (st := st) (pst := pst) (kep := kep) (isk := isk) (pil := pil) (nxs := nxs) (txt := txt) (cls := cls) (asd := asd) (opn := opn) (byy := byy) (twc := twc) (szs := szs) (sos := sos) (ths := ths) (x1 := x1) (x2 := x2) hq6) 0 7 rfl rfl rfl rfl rfl ⟨Nat.le_of_ble_eq_true rfl, Nat.le_of_ble_eq_true rfl⟩ ⟨Nat.le_refl _, Nat.le_refl _⟩ hl.1 rfl rfl (Nat.le_of_ble_eq_true rfl) dX7_sever_54 (fun H locs hw => ?_)
    refine lv_if_eq (tgt := 100) hx hb dX7_sever_57 (by decide) (fun c7 => ?_) (fun c7 => ?_)
    · rw [if_pos c7] at hf
      refine lv_iload_n hx hb dX7_sever_100 rfl (lv_at hl 3 rfl) ?_
      have hf := Option.some.inj hf; subst hf
      exact x_iret E hw dX7_sever_101
    · rw [if_neg c7] at hf
      refine lv_iload_n hx hb dX7_sever_60 rfl (lv_at hl 2 rfl) ?_
      refine lv_istore (lv' := [(4, .int x2), (0, .ref h0), (1, .int x1), (2, .int x2), (3, .int x3)]) hx hb dX7_sever_61 hl (by decide) rfl (fun ls hl => ?_)
      exact b_X7_sever_63 E ih N _ _ _ hf _ _ _ hw (lv_sub hl [1, 2, 3, 4, 0] rfl)
def f_X7_sever_14 (N : Nat) (x1 : Int32) (x2 : Int32) (mn : Int32) (st : (Nat → Int32)) (byy : (Nat → Int32)) : Nat → Int32 → (Nat → Int32) → (Nat → Int32) → Option (Int32 × (Nat → Int32) × (Nat → Int32) × (Nat → Int32))
  | 0, _, _, _ => none
  | n + 1, x3, opn, twc =>
    if mn ≤ x3 then
     f_X7_sever_51 N x1 x2 mn N 0 opn byy twc
    else
     if xin (0 + x3) 111 then
     if xin x3 10 then
     if xin x3 10 then
     f_X7_sever_14 N x1 x2 mn st byy n (x3 + 1) (upd opn (Int32.toNatClampNeg x3) (st (Int32.toNatClampNeg (0 + x3)))) (upd twc (Int32.toNatClampNeg x3) 0)
     else none
     else none
     else none
set_option maxHeartbeats 4000000 in
set_option maxRecDepth 100000 in
theorem b_X7_sever_14 {p : Program} {l : Launch} {e : Env} {s : State} {m : MethodId} {args : Array Value} {below : List Frame} {meth : Method} {c : Code} {D : va_G} {cI cZ cN cC : ClassId} {ws0 : va_W} {h0 h1 h2 h3 h4 h5 h6 h7 h8 h9 h10 h11 h12 h13 h14 h15 : Nat} {x1 : Int32} {x2 : Int32} {mn : Int32} {um : Int32} {len : Int32} {plc : Int32} {srt : Int32} {frm : Int32} {num : Int32} {wrg : Int32} {cm : Int32} {mpt : Int32} {st : (Nat → Int32)} {pst : (Nat → Int32)} {kep : (Nat → Int32)} {isk : (Nat → Int32)} {pil : (Nat → Int32)} {nxs : (Nat → Int32)} {txt : (Nat → Int32)} {cls : (Nat → Int32)} {asd : (Nat → Int32)} {byy : (Nat → Int32)} {szs : (Nat → Int32)} {sos : (Nat → Int32)} {ths : (Nat → Int32)} {N : Nat} {res : Int32 × (Nat → Int32) × (Nat → Int32) × (Nat → Int32)} (E : xE p s m args meth c cX7_sever 5 (some .int) RX7 D (xtys cI cZ cN cC) (xA ws0)) : ∀ (n : Nat) (x3 : Int32) (opn : (Nat → Int32)) (twc : (Nat → Int32)), f_X7_sever_14 N x1 x2 mn st byy n x3 opn twc = some res → ∀ (H : Heap) (locs : List Loc) (ls : Array Slot), xw D (xA ws0) s.heap (wMod cI cZ cN cC h0 h1 h2 h3 h4 h5 h6 h7 h8 h9 h10 h11 h12 h13 h14 h15 mn um len plc srt frm num wrg cm mpt st pst kep isk pil nxs txt cls asd opn byy twc szs sos ths) H locs → lv_has ls 5 [(0, .ref h0), (1, .int x1), (2, .int x2), (3, .int x3)] → xG p l e 3 68 s m args below meth c D ws0 (wMod cI cZ cN cC h0 h1 h2 h3 h4 h5 h6 h7 h8 h9 h10 h11 h12 h13 h14 h15 mn um len plc srt frm num wrg cm mpt st pst kep isk pil nxs txt cls asd res.2.1 res.2.2.1 res.2.2.2 szs sos ths) (some (.int res.1)) H locs (F0 m 14 ls []) := by
  obtain ⟨hx, hb, -⟩ := id E
  intro n
  induction n with
  | zero =>
    intro _ _ _ hf
    rw [f_X7_sever_14] at hf; cases hf
  | succ n ih =>
    intro x3 opn twc hf H locs ls hw hl
    rw [f_X7_sever_14] at hf
    refine lv_iload_n hx hb dX7_sever_14 rfl (lv_at hl 3 rfl) ?_
    refine lv_aload_n hx hb dX7_sever_15 rfl (lv_at hl 0 rfl) ?_
    refine x_get E hw kin_X7 0 rfl rfl 0 (by decide) kF_X7_7 (v := .int mn) rfl dX7_sever_16 ?_
    refine lv_icmp_ge (tgt := 49) hx hb dX7_sever_19 (by decide) (fun c2 => ?_) (fun c2 => ?_)
    · rw [if_pos c2] at hf
      refine lv_iconst (v := 0) hx hb dX7_sever_49 (by decide) ?_
      refine lv_istore_n (lv' := [(3, .int 0), (0, .ref h0), (1, .int x1), (2, .int x2)]) hx hb dX7_sever_50 rfl hl (by decide) rfl (fun ls hl => ?_)
      exact b_X7_sever_51 E N _ _ _ _ hf _ _ _ hw (lv_sub hl [1, 2, 3, 0] rfl)
    · rw [if_neg c2] at hf
      refine lv_aload_n hx hb dX7_sever_22 rfl (lv_at hl 0 rfl) ?_
      refine x_get E hw kin_X7 0 rfl rfl 19 (by decide) kF_X7_41 (v := .ref h10) rfl dX7_sever_23 ?_
      refine lv_iload_n hx hb dX7_sever_26 rfl (lv_at hl 3 rfl) ?_
      refine lv_aload_n hx hb dX7_sever_27 rfl (lv_at hl 0 rfl) ?_
      refine x_get E hw kin_X7 0 rfl rfl 1 (by decide) kF_X7_13 (v := .ref h1) rfl dX7_sever_28 ?_
      refine lv_iconst (v := 0) hx hb dX7_sever_31 (by decide) ?_
      refine lv_iload_n hx hb dX7_sever_32 rfl (lv_at hl 3 rfl) ?_
      refine lv_iadd hx hb dX7_sever_33 ?_
      obtain ⟨g3, hf⟩ := xgd hf
      refine x_iald E hw 1 0 rfl rfl (xin_vp g3) dX7_sever_34 ?_
      obtain ⟨g4, hf⟩ := xgd hf
      refine x_iast (ws' := (wMod cI cZ cN cC h0 h1 h2 h3 h4 h5 h6 h7 h8 h9 h10 h11 h12 h13 h14 h15 mn um len plc srt frm num wrg cm mpt st pst kep isk pil nxs txt cls asd (upd opn (Int32.toNatClampNeg x3) (st (Int32.toNatClampNeg (0 + x3)))) byy twc szs sos ths)) E hw 10 0 rfl rfl (xin_vp g4) rfl dX7_sever_35 (fun H locs hw => ?_)
      refine lv_aload_n hx hb dX7_sever_36 rfl (lv_at hl 0 rfl) ?_
      refine x_get E hw kin_X7 0 rfl rfl 21 (by decide) kF_X7_47 (v := .ref h12) rfl dX7_sever_37 ?_
      refine lv_iload_n hx hb dX7_sever_40 rfl (lv_at hl 3 rfl) ?_
      refine lv_iconst (v := 0) hx hb dX7_sever_41 (by decide) ?_
      obtain ⟨g5, hf⟩ := xgd hf
      refine x_iast (ws' := (wMod cI cZ cN cC h0 h1 h2 h3 h4 h5 h6 h7 h8 h9 h10 h11 h12 h13 h14 h15 mn um len plc srt frm num wrg cm mpt st pst kep isk pil nxs txt cls asd (upd opn (Int32.toNatClampNeg x3) (st (Int32.toNatClampNeg (0 + x3)))) byy (upd twc (Int32.toNatClampNeg x3) 0) szs sos ths)) E hw 12 0 rfl rfl (xin_vp g5) rfl dX7_sever_42 (fun H locs hw => ?_)
      refine lv_iinc (v := (x3 + 1)) (lv' := [(3, .int (x3 + 1)), (0, .ref h0), (1, .int x1), (2, .int x2)]) hx hb dX7_sever_43 hl (k := 3) rfl rfl (by decide) rfl (fun ls hl => ?_)
      refine lv_goto (tgt := 14) hx hb dX7_sever_46 (by decide) ?_
      exact ih _ _ _ hf _ _ _ hw (lv_sub hl [1, 2, 3, 0] rfl)
def f_X7_sever (N : Nat) (x1 : Int32) (x2 : Int32) (mn : Int32) (st : (Nat → Int32)) (opn : (Nat → Int32)) (byy : (Nat → Int32)) (twc : (Nat → Int32)) : Option (Int32 × (Nat → Int32) × (Nat → Int32) × (Nat → Int32)) :=
  if (f_X7_areTwo x1 x2 mn) = 0 then
   some ((-2), opn, byy, twc)
  else
   f_X7_sever_14 N x1 x2 mn st byy N 0 opn twc
set_option maxHeartbeats 4000000 in
set_option maxRecDepth 100000 in
theorem c_X7_sever {l : Launch} {D : va_G} {cI cZ cN cC : ClassId} {h0 h1 h2 h3 h4 h5 h6 h7 h8 h9 h10 h11 h12 h13 h14 h15 : Nat} {mn : Int32} {um : Int32} {len : Int32} {plc : Int32} {srt : Int32} {frm : Int32} {num : Int32} {wrg : Int32} {cm : Int32} {mpt : Int32} {st : (Nat → Int32)} {pst : (Nat → Int32)} {kep : (Nat → Int32)} {isk : (Nat → Int32)} {pil : (Nat → Int32)} {nxs : (Nat → Int32)} {txt : (Nat → Int32)} {cls : (Nat → Int32)} {asd : (Nat → Int32)} {opn : (Nat → Int32)} {byy : (Nat → Int32)} {twc : (Nat → Int32)} {szs : (Nat → Int32)} {sos : (Nat → Int32)} {ths : (Nat → Int32)} {x1 : Int32} {x2 : Int32} {N : Nat} {res : Int32 × (Nat → Int32) × (Nat → Int32) × (Nat → Int32)} (hf : f_X7_sever N x1 x2 mn st opn byy twc = some res) : xMet l D (xtys cI cZ cN cC) yX7_sever cX7_sever 5 (some .int) 3 68 [.ref h0, .int x1, .int x2] (wMod cI cZ cN cC h0 h1 h2 h3 h4 h5 h6 h7 h8 h9 h10 h11 h12 h13 h14 h15 mn um len plc srt frm num wrg cm mpt st pst kep isk pil nxs txt cls asd opn byy twc szs sos ths) (wMod cI cZ cN cC h0 h1 h2 h3 h4 h5 h6 h7 h8 h9 h10 h11 h12 h13 h14 h15 mn um len plc srt frm num wrg cm mpt st pst kep isk pil nxs txt cls asd res.2.1 res.2.2.1 res.2.2.2 szs sos ths) (some (.int res.1)) := by
  refine x_enter (by decide) (Nat.le_of_ble_eq_true rfl) ?_
  intro p e s m args below meth c E ls hl hw
  have E : xE p s m args meth c cX7_sever 5 (some .int) RX7 D (xtys cI cZ cN cC) (xA (wMod cI cZ cN cC h0 h1 h2 h3 h4 h5 h6 h7 h8 h9 h10 h11 h12 h13 h14 h15 mn um len plc srt frm num wrg cm mpt st pst kep isk pil nxs txt cls asd opn byy twc szs sos ths)) := E
  obtain ⟨hx, hb, -⟩ := id E
  have hl : lv_has ls 5 [(0, .ref h0), (1, .int x1), (2, .int x2)] := hl
  unfold f_X7_sever at hf
  refine lv_aload_n hx hb dX7_sever_0 rfl (lv_at hl 0 rfl) ?_
  refine lv_iload_n hx hb dX7_sever_1 rfl (lv_at hl 1 rfl) ?_
  refine lv_iload_n hx hb dX7_sever_2 rfl (lv_at hl 2 rfl) ?_
  refine x_callVI (ws' := (wMod cI cZ cN cC h0 h1 h2 h3 h4 h5 h6 h7 h8 h9 h10 h11 h12 h13 h14 h15 mn um len plc srt frm num wrg cm mpt st pst kep isk pil nxs txt cls asd opn byy twc szs sos ths)) (st1 := [.int (f_X7_areTwo x1 x2 mn)]) (As := [.int x1, .int x2]) (rest := []) E hw vc_X7_74 (c_X7_areTwo (cI := cI) (cZ := cZ) (cN := cN) (cC := cC) (h0 := h0) (h1 := h1) (h2 := h2) (h3 := h3) (h4 := h4) (h5 := h5) (h6 := h6) (h7 := h7) (h8 := h8) (h9 := h9) (h10 := h10) (h11 := h11) (h12 := h12) (h13 := h13) (h14 := h14) (h15 := h15)  (mn := mn) (um := um) (len := len) (plc := plc) (srt := srt) (frm := frm) (num := num) (wrg := wrg) (cm := cm) (mpt := mpt) (st := st) (pst := pst) (kep := kep) (isk := isk) (pil := pil) (nxs := nxs) (txt := txt) (cls := cls) (asd := asd) (opn := opn) (byy := byy) (twc := twc) (szs := szs) (sos := sos) (ths := ths) (x1 := x1) (x2 := x2) rfl) 0 7 rfl rfl rfl rfl rfl ⟨Nat.le_of_ble_eq_true rfl, Nat.le_of_ble_eq_true rfl⟩ ⟨Nat.le_refl _, Nat.le_refl _⟩ hl.1 rfl rfl (Nat.le_of_ble_eq_true rfl) dX7_sever_3 (fun H locs hw => ?_)
  refine lv_if_ne (tgt := 12) hx hb dX7_sever_6 (by decide) (fun c1 => ?_) (fun c1 => ?_)
  · rw [if_neg c1] at hf
    refine lv_iconst (v := 0) hx hb dX7_sever_12 (by decide) ?_
    refine lv_istore_n (lv' := [(3, .int 0), (0, .ref h0), (1, .int x1), (2, .int x2)]) hx hb dX7_sever_13 rfl hl (by decide) rfl (fun ls hl => ?_)
    exact b_X7_sever_14 E N _ _ _ hf _ _ _ hw (lv_sub hl [1, 2, 3, 0] rfl)
  · rw [if_pos c1] at hf
    refine lv_bipush (v := (-2)) hx hb dX7_sever_9 (by decide) ?_
    have hf := Option.some.inj hf; subst hf
    exact x_iret E hw dX7_sever_11

def f_X7_chain (x1 : Int32) (szs : (Nat → Int32)) : Option (Int32 × (Nat → Int32)) :=
  if (f_X7_isChain x1) = 0 then
   some ((-2), szs)
  else
   if xin x1 3 then
   some (0, (upd szs (Int32.toNatClampNeg x1) 0))
   else none
set_option maxHeartbeats 4000000 in
set_option maxRecDepth 100000 in
theorem c_X7_chain {l : Launch} {D : va_G} {cI cZ cN cC : ClassId} {h0 h1 h2 h3 h4 h5 h6 h7 h8 h9 h10 h11 h12 h13 h14 h15 : Nat} {mn : Int32} {um : Int32} {len : Int32} {plc : Int32} {srt : Int32} {frm : Int32} {num : Int32} {wrg : Int32} {cm : Int32} {mpt : Int32} {st : (Nat → Int32)} {pst : (Nat → Int32)} {kep : (Nat → Int32)} {isk : (Nat → Int32)} {pil : (Nat → Int32)} {nxs : (Nat → Int32)} {txt : (Nat → Int32)} {cls : (Nat → Int32)} {asd : (Nat → Int32)} {opn : (Nat → Int32)} {byy : (Nat → Int32)} {twc : (Nat → Int32)} {szs : (Nat → Int32)} {sos : (Nat → Int32)} {ths : (Nat → Int32)} {x1 : Int32} {res : Int32 × (Nat → Int32)} (hf : f_X7_chain x1 szs = some res) : xMet l D (xtys cI cZ cN cC) yX7_chain cX7_chain 2 (some .int) 2 45 [.ref h0, .int x1] (wMod cI cZ cN cC h0 h1 h2 h3 h4 h5 h6 h7 h8 h9 h10 h11 h12 h13 h14 h15 mn um len plc srt frm num wrg cm mpt st pst kep isk pil nxs txt cls asd opn byy twc szs sos ths) (wMod cI cZ cN cC h0 h1 h2 h3 h4 h5 h6 h7 h8 h9 h10 h11 h12 h13 h14 h15 mn um len plc srt frm num wrg cm mpt st pst kep isk pil nxs txt cls asd opn byy twc res.2 sos ths) (some (.int res.1)) := by
  refine x_enter (by decide) (Nat.le_of_ble_eq_true rfl) ?_
  intro p e s m args below meth c E ls hl hw
  have E : xE p s m args meth c cX7_chain 2 (some .int) RX7 D (xtys cI cZ cN cC) (xA (wMod cI cZ cN cC h0 h1 h2 h3 h4 h5 h6 h7 h8 h9 h10 h11 h12 h13 h14 h15 mn um len plc srt frm num wrg cm mpt st pst kep isk pil nxs txt cls asd opn byy twc szs sos ths)) := E
  obtain ⟨hx, hb, -⟩ := id E
  have hl : lv_has ls 2 [(0, .ref h0), (1, .int x1)] := hl
  unfold f_X7_chain at hf
  refine lv_iload_n hx hb dX7_chain_0 rfl (lv_at hl 1 rfl) ?_
  refine x_callS (isC := []) (ws' := (wMod cI cZ cN cC h0 h1 h2 h3 h4 h5 h6 h7 h8 h9 h10 h11 h12 h13 h14 h15 mn um len plc srt frm num wrg cm mpt st pst kep isk pil nxs txt cls asd opn byy twc szs sos ths)) (st1 := [.int (f_X7_isChain x1)]) (As := [.int x1]) (rest := []) E hw vc_X7_231 (c_X7_isChain (cI := cI) (cZ := cZ) (cN := cN) (cC := cC)    (x0 := x1) rfl) rfl rfl rfl rfl rfl rfl ⟨Nat.le_of_ble_eq_true rfl, Nat.le_of_ble_eq_true rfl⟩ ⟨Nat.le_refl _, Nat.le_refl _⟩ hl.1 rfl rfl (Nat.le_of_ble_eq_true rfl) dX7_chain_1 (fun H locs hw => ?_)
  refine lv_if_ne (tgt := 10) hx hb dX7_chain_4 (by decide) (fun c1 => ?_) (fun c1 => ?_)
  · rw [if_neg c1] at hf
    refine lv_aload_n hx hb dX7_chain_10 rfl (lv_at hl 0 rfl) ?_
    refine x_get E hw kin_X7 0 rfl rfl 22 (by decide) kF_X7_50 (v := .ref h13) rfl dX7_chain_11 ?_
    refine lv_iload_n hx hb dX7_chain_14 rfl (lv_at hl 1 rfl) ?_
    refine lv_iconst (v := 0) hx hb dX7_chain_15 (by decide) ?_
    obtain ⟨g2, hf⟩ := xgd hf
    refine x_iast (ws' := (wMod cI cZ cN cC h0 h1 h2 h3 h4 h5 h6 h7 h8 h9 h10 h11 h12 h13 h14 h15 mn um len plc srt frm num wrg cm mpt st pst kep isk pil nxs txt cls asd opn byy twc (upd szs (Int32.toNatClampNeg x1) 0) sos ths)) E hw 13 0 rfl rfl (xin_vp g2) rfl dX7_chain_16 (fun H locs hw => ?_)
    refine lv_iconst (v := 0) hx hb dX7_chain_17 (by decide) ?_
    have hf := Option.some.inj hf; subst hf
    exact x_iret E hw dX7_chain_18
  · rw [if_pos c1] at hf
    refine lv_bipush (v := (-2)) hx hb dX7_chain_7 (by decide) ?_
    have hf := Option.some.inj hf; subst hf
    exact x_iret E hw dX7_chain_9

def f_X7_add_132 (x1 : Int32) (x2 : Int32) (x4 : Int32) (x5 : Int32) (x6 : Int32) (szs : (Nat → Int32)) : Nat → Int32 → (Nat → Int32) → (Nat → Int32) → Option (Int32 × (Nat → Int32) × (Nat → Int32) × (Nat → Int32))
  | 0, _, _, _ => none
  | n + 1, x7, sos, ths =>
    if x7 ≤ x6 then
     if xin (x5 + x6) 24 then
     if xin (x5 + x6) 24 then
     if xin x1 3 then
     if xin x1 3 then
     if xin x1 3 then
     some (((upd szs (Int32.toNatClampNeg x1) ((szs (Int32.toNatClampNeg x1)) + 1)) (Int32.toNatClampNeg x1)), (upd szs (Int32.toNatClampNeg x1) ((szs (Int32.toNatClampNeg x1)) + 1)), (upd sos (Int32.toNatClampNeg (x5 + x6)) x2), (upd ths (Int32.toNatClampNeg (x5 + x6)) x4))
     else none
     else none
     else none
     else none
     else none
    else
     if xin ((x5 + x7) - 1) 24 then
     if xin (x5 + x7) 24 then
     if xin ((x5 + x7) - 1) 24 then
     if xin (x5 + x7) 24 then
     f_X7_add_132 x1 x2 x4 x5 x6 szs n (x7 + (-1)) (upd sos (Int32.toNatClampNeg (x5 + x7)) (sos (Int32.toNatClampNeg ((x5 + x7) - 1)))) (upd ths (Int32.toNatClampNeg (x5 + x7)) (ths (Int32.toNatClampNeg ((x5 + x7) - 1))))
     else none
     else none
     else none
     else none
set_option maxHeartbeats 4000000 in
set_option maxRecDepth 100000 in
theorem b_X7_add_132 {p : Program} {l : Launch} {e : Env} {s : State} {m : MethodId} {args : Array Value} {below : List Frame} {meth : Method} {c : Code} {D : va_G} {cI cZ cN cC : ClassId} {ws0 : va_W} {h0 h1 h2 h3 h4 h5 h6 h7 h8 h9 h10 h11 h12 h13 h14 h15 : Nat} {x1 : Int32} {x2 : Int32} {x4 : Int32} {x5 : Int32} {x6 : Int32} {mn : Int32} {um : Int32} {len : Int32} {plc : Int32} {srt : Int32} {frm : Int32} {num : Int32} {wrg : Int32} {cm : Int32} {mpt : Int32} {st : (Nat → Int32)} {pst : (Nat → Int32)} {kep : (Nat → Int32)} {isk : (Nat → Int32)} {pil : (Nat → Int32)} {nxs : (Nat → Int32)} {txt : (Nat → Int32)} {cls : (Nat → Int32)} {asd : (Nat → Int32)} {opn : (Nat → Int32)} {byy : (Nat → Int32)} {twc : (Nat → Int32)} {szs : (Nat → Int32)} {res : Int32 × (Nat → Int32) × (Nat → Int32) × (Nat → Int32)} (E : xE p s m args meth c cX7_add 8 (some .int) RX7 D (xtys cI cZ cN cC) (xA ws0)) : ∀ (n : Nat) (x7 : Int32) (sos : (Nat → Int32)) (ths : (Nat → Int32)), f_X7_add_132 x1 x2 x4 x5 x6 szs n x7 sos ths = some res → ∀ (H : Heap) (locs : List Loc) (ls : Array Slot), xw D (xA ws0) s.heap (wMod cI cZ cN cC h0 h1 h2 h3 h4 h5 h6 h7 h8 h9 h10 h11 h12 h13 h14 h15 mn um len plc srt frm num wrg cm mpt st pst kep isk pil nxs txt cls asd opn byy twc szs sos ths) H locs → lv_has ls 8 [(0, .ref h0), (1, .int x1), (2, .int x2), (4, .int x4), (5, .int x5), (6, .int x6), (7, .int x7)] → xG p l e 3 68 s m args below meth c D ws0 (wMod cI cZ cN cC h0 h1 h2 h3 h4 h5 h6 h7 h8 h9 h10 h11 h12 h13 h14 h15 mn um len plc srt frm num wrg cm mpt st pst kep isk pil nxs txt cls asd opn byy twc res.2.1 res.2.2.1 res.2.2.2) (some (.int res.1)) H locs (F0 m 132 ls []) := by
  obtain ⟨hx, hb, -⟩ := id E
  intro n
  induction n with
  | zero =>
    intro _ _ _ hf
    rw [f_X7_add_132] at hf; cases hf
  | succ n ih =>
    intro x7 sos ths hf H locs ls hw hl
    rw [f_X7_add_132] at hf
    refine lv_iload hx hb dX7_add_132 (lv_at hl 6 rfl) ?_
    refine lv_iload hx hb dX7_add_134 (lv_at hl 5 rfl) ?_
    refine lv_icmp_le (tgt := 189) hx hb dX7_add_136 (by decide) (fun c17 => ?_) (fun c17 => ?_)
    · rw [if_pos c17] at hf
      refine lv_aload_n hx hb dX7_add_189 rfl (lv_at hl 0 rfl) ?_
      refine x_get E hw kin_X7 0 rfl rfl 23 (by decide) kF_X7_53 (v := .ref h14) rfl dX7_add_190 ?_
      refine lv_iload hx hb dX7_add_193 (lv_at hl 4 rfl) ?_
      refine lv_iload hx hb dX7_add_195 (lv_at hl 5 rfl) ?_
      refine lv_iadd hx hb dX7_add_197 ?_
      refine lv_iload_n hx hb dX7_add_198 rfl (lv_at hl 2 rfl) ?_
      obtain ⟨g18, hf⟩ := xgd hf
      refine x_iast (ws' := (wMod cI cZ cN cC h0 h1 h2 h3 h4 h5 h6 h7 h8 h9 h10 h11 h12 h13 h14 h15 mn um len plc srt frm num wrg cm mpt st pst kep isk pil nxs txt cls asd opn byy twc szs (upd sos (Int32.toNatClampNeg (x5 + x6)) x2) ths)) E hw 14 0 rfl rfl (xin_vp g18) rfl dX7_add_199 (fun H locs hw => ?_)
      refine lv_aload_n hx hb dX7_add_200 rfl (lv_at hl 0 rfl) ?_
      refine x_get E hw kin_X7 0 rfl rfl 24 (by decide) kF_X7_56 (v := .ref h15) rfl dX7_add_201 ?_
      refine lv_iload hx hb dX7_add_204 (lv_at hl 4 rfl) ?_
      refine lv_iload hx hb dX7_add_206 (lv_at hl 5 rfl) ?_
      refine lv_iadd hx hb dX7_add_208 ?_
      refine lv_iload hx hb dX7_add_209 (lv_at hl 3 rfl) ?_
      obtain ⟨g19, hf⟩ := xgd hf
      refine x_iast (ws' := (wMod cI cZ cN cC h0 h1 h2 h3 h4 h5 h6 h7 h8 h9 h10 h11 h12 h13 h14 h15 mn um len plc srt frm num wrg cm mpt st pst kep isk pil nxs txt cls asd opn byy twc szs (upd sos (Int32.toNatClampNeg (x5 + x6)) x2) (upd ths (Int32.toNatClampNeg (x5 + x6)) x4))) E hw 15 0 rfl rfl (xin_vp g19) rfl dX7_add_211 (fun H locs hw => ?_)
      refine lv_aload_n hx hb dX7_add_212 rfl (lv_at hl 0 rfl) ?_
      refine x_get E hw kin_X7 0 rfl rfl 22 (by decide) kF_X7_50 (v := .ref h13) rfl dX7_add_213 ?_
      refine lv_iload_n hx hb dX7_add_216 rfl (lv_at hl 1 rfl) ?_
      refine lv_dup2_11 hx hb dX7_add_217 rfl rfl ?_
      obtain ⟨g20, hf⟩ := xgd hf
      refine x_iald E hw 13 0 rfl rfl (xin_vp g20) dX7_add_218 ?_
      refine lv_iconst (v := 1) hx hb dX7_add_219 (by decide) ?_
      refine lv_iadd hx hb dX7_add_220 ?_
      obtain ⟨g21, hf⟩ := xgd hf
      refine x_iast (ws' := (wMod cI cZ cN cC h0 h1 h2 h3 h4 h5 h6 h7 h8 h9 h10 h11 h12 h13 h14 h15 mn um len plc srt frm num wrg cm mpt st pst kep isk pil nxs txt cls asd opn byy twc (upd szs (Int32.toNatClampNeg x1) ((szs (Int32.toNatClampNeg x1)) + 1)) (upd sos (Int32.toNatClampNeg (x5 + x6)) x2) (upd ths (Int32.toNatClampNeg (x5 + x6)) x4))) E hw 13 0 rfl rfl (xin_vp g21) rfl dX7_add_221 (fun H locs hw => ?_)
      refine lv_aload_n hx hb dX7_add_222 rfl (lv_at hl 0 rfl) ?_
      refine x_get E hw kin_X7 0 rfl rfl 22 (by decide) kF_X7_50 (v := .ref h13) rfl dX7_add_223 ?_
      refine lv_iload_n hx hb dX7_add_226 rfl (lv_at hl 1 rfl) ?_
      obtain ⟨g22, hf⟩ := xgd hf
      refine x_iald E hw 13 0 rfl rfl (xin_vp g22) dX7_add_227 ?_
      have hf := Option.some.inj hf; subst hf
      exact x_iret E hw dX7_add_228
    · rw [if_neg c17] at hf
      refine lv_aload_n hx hb dX7_add_139 rfl (lv_at hl 0 rfl) ?_
      refine x_get E hw kin_X7 0 rfl rfl 23 (by decide) kF_X7_53 (v := .ref h14) rfl dX7_add_140 ?_
      refine lv_iload hx hb dX7_add_143 (lv_at hl 4 rfl) ?_
      refine lv_iload hx hb dX7_add_145 (lv_at hl 6 rfl) ?_
      refine lv_iadd hx hb dX7_add_147 ?_
      refine lv_aload_n hx hb dX7_add_148 rfl (lv_at hl 0 rfl) ?_
      refine x_get E hw kin_X7 0 rfl rfl 23 (by decide) kF_X7_53 (v := .ref h14) rfl dX7_add_149 ?_
      refine lv_iload hx hb dX7_add_152 (lv_at hl 4 rfl) ?_
      refine lv_iload hx hb dX7_add_154 (lv_at hl 6 rfl) ?_
      refine lv_iadd hx hb dX7_add_156 ?_
      refine lv_iconst (v := 1) hx hb dX7_add_157 (by decide) ?_
      refine lv_isub hx hb dX7_add_158 ?_
      obtain ⟨g23, hf⟩ := xgd hf
      refine x_iald E hw 14 0 rfl rfl (xin_vp g23) dX7_add_159 ?_
      obtain ⟨g24, hf⟩ := xgd hf
      refine x_iast (ws' := (wMod cI cZ cN cC h0 h1 h2 h3 h4 h5 h6 h7 h8 h9 h10 h11 h12 h13 h14 h15 mn um len plc srt frm num wrg cm mpt st pst kep isk pil nxs txt cls asd opn byy twc szs (upd sos (Int32.toNatClampNeg (x5 + x7)) (sos (Int32.toNatClampNeg ((x5 + x7) - 1)))) ths)) E hw 14 0 rfl rfl (xin_vp g24) rfl dX7_add_160 (fun H locs hw => ?_)
      refine lv_aload_n hx hb dX7_add_161 rfl (lv_at hl 0 rfl) ?_
      refine x_get E hw kin_X7 0 rfl rfl 24 (by decide) kF_X7_56 (v := .ref h15) rfl dX7_add_162 ?_
      refine lv_iload hx hb dX7_add_165 (lv_at hl 4 rfl) ?_
      refine lv_iload hx hb dX7_add_167 (lv_at hl 6 rfl) ?_
      refine lv_iadd hx hb dX7_add_169 ?_
      refine lv_aload_n hx hb dX7_add_170 rfl (lv_at hl 0 rfl) ?_
      refine x_get E hw kin_X7 0 rfl rfl 24 (by decide) kF_X7_56 (v := .ref h15) rfl dX7_add_171 ?_
      refine lv_iload hx hb dX7_add_174 (lv_at hl 4 rfl) ?_
      refine lv_iload hx hb dX7_add_176 (lv_at hl 6 rfl) ?_
      refine lv_iadd hx hb dX7_add_178 ?_
      refine lv_iconst (v := 1) hx hb dX7_add_179 (by decide) ?_
      refine lv_isub hx hb dX7_add_180 ?_
      obtain ⟨g25, hf⟩ := xgd hf
      refine x_iald E hw 15 0 rfl rfl (xin_vp g25) dX7_add_181 ?_
      obtain ⟨g26, hf⟩ := xgd hf
      refine x_iast (ws' := (wMod cI cZ cN cC h0 h1 h2 h3 h4 h5 h6 h7 h8 h9 h10 h11 h12 h13 h14 h15 mn um len plc srt frm num wrg cm mpt st pst kep isk pil nxs txt cls asd opn byy twc szs (upd sos (Int32.toNatClampNeg (x5 + x7)) (sos (Int32.toNatClampNeg ((x5 + x7) - 1)))) (upd ths (Int32.toNatClampNeg (x5 + x7)) (ths (Int32.toNatClampNeg ((x5 + x7) - 1)))))) E hw 15 0 rfl rfl (xin_vp g26) rfl dX7_add_182 (fun H locs hw => ?_)
      refine lv_iinc (v := (x7 + (-1))) (lv' := [(7, .int (x7 + (-1))), (0, .ref h0), (1, .int x1), (2, .int x2), (4, .int x4), (5, .int x5), (6, .int x6)]) hx hb dX7_add_183 hl (k := 6) rfl rfl (by decide) rfl (fun ls hl => ?_)
      refine lv_goto (tgt := 132) hx hb dX7_add_186 (by decide) ?_
      exact ih _ _ _ hf _ _ _ hw (lv_sub hl [1, 2, 3, 4, 5, 6, 0] rfl)
def f_X7_add_75 (N : Nat) (x1 : Int32) (x2 : Int32) (x3 : Int32) (x4 : Int32) (szs : (Nat → Int32)) (sos : (Nat → Int32)) (ths : (Nat → Int32)) : Option (Int32 × (Nat → Int32) × (Nat → Int32) × (Nat → Int32)) :=
  if xin x1 3 then
  if 0 ≤ (szs (Int32.toNatClampNeg x1)) then
   if xin x1 3 then
   if (szs (Int32.toNatClampNeg x1)) = 8 then
    some ((-14), szs, sos, ths)
   else
    if x3 = 1 then
     if xin x1 3 then
     if xin x1 3 then
     f_X7_add_132 x1 x2 x4 (8 * x1) (szs (Int32.toNatClampNeg x1)) szs N (szs (Int32.toNatClampNeg x1)) sos ths
     else none
     else none
    else
     if xin x1 3 then
     f_X7_add_132 x1 x2 x4 (8 * x1) 0 szs N (szs (Int32.toNatClampNeg x1)) sos ths
     else none
   else none
  else
   some ((-11), szs, sos, ths)
  else none
set_option maxHeartbeats 4000000 in
set_option maxRecDepth 100000 in
theorem b_X7_add_75 {p : Program} {l : Launch} {e : Env} {s : State} {m : MethodId} {args : Array Value} {below : List Frame} {meth : Method} {c : Code} {D : va_G} {cI cZ cN cC : ClassId} {ws0 : va_W} {h0 h1 h2 h3 h4 h5 h6 h7 h8 h9 h10 h11 h12 h13 h14 h15 : Nat} {x1 : Int32} {x2 : Int32} {x3 : Int32} {x4 : Int32} {mn : Int32} {um : Int32} {len : Int32} {plc : Int32} {srt : Int32} {frm : Int32} {num : Int32} {wrg : Int32} {cm : Int32} {mpt : Int32} {st : (Nat → Int32)} {pst : (Nat → Int32)} {kep : (Nat → Int32)} {isk : (Nat → Int32)} {pil : (Nat → Int32)} {nxs : (Nat → Int32)} {txt : (Nat → Int32)} {cls : (Nat → Int32)} {asd : (Nat → Int32)} {opn : (Nat → Int32)} {byy : (Nat → Int32)} {twc : (Nat → Int32)} {szs : (Nat → Int32)} {sos : (Nat → Int32)} {ths : (Nat → Int32)} {N : Nat} {res : Int32 × (Nat → Int32) × (Nat → Int32) × (Nat → Int32)} (E : xE p s m args meth c cX7_add 8 (some .int) RX7 D (xtys cI cZ cN cC) (xA ws0)) : f_X7_add_75 N x1 x2 x3 x4 szs sos ths = some res → ∀ (H : Heap) (locs : List Loc) (ls : Array Slot), xw D (xA ws0) s.heap (wMod cI cZ cN cC h0 h1 h2 h3 h4 h5 h6 h7 h8 h9 h10 h11 h12 h13 h14 h15 mn um len plc srt frm num wrg cm mpt st pst kep isk pil nxs txt cls asd opn byy twc szs sos ths) H locs → lv_has ls 8 [(0, .ref h0), (1, .int x1), (2, .int x2), (3, .int x3), (4, .int x4)] → xG p l e 3 68 s m args below meth c D ws0 (wMod cI cZ cN cC h0 h1 h2 h3 h4 h5 h6 h7 h8 h9 h10 h11 h12 h13 h14 h15 mn um len plc srt frm num wrg cm mpt st pst kep isk pil nxs txt cls asd opn byy twc res.2.1 res.2.2.1 res.2.2.2) (some (.int res.1)) H locs (F0 m 75 ls []) := by
  obtain ⟨hx, hb, -⟩ := id E
  intro hf H locs ls hw hl
  unfold f_X7_add_75 at hf
  refine lv_aload_n hx hb dX7_add_75 rfl (lv_at hl 0 rfl) ?_
  refine x_get E hw kin_X7 0 rfl rfl 22 (by decide) kF_X7_50 (v := .ref h13) rfl dX7_add_76 ?_
  refine lv_iload_n hx hb dX7_add_79 rfl (lv_at hl 1 rfl) ?_
  obtain ⟨g9, hf⟩ := xgd hf
  refine x_iald E hw 13 0 rfl rfl (xin_vp g9) dX7_add_80 ?_
  refine lv_if_ge (tgt := 87) hx hb dX7_add_81 (by decide) (fun c10 => ?_) (fun c10 => ?_)
  · rw [if_pos c10] at hf
    refine lv_aload_n hx hb dX7_add_87 rfl (lv_at hl 0 rfl) ?_
    refine x_get E hw kin_X7 0 rfl rfl 22 (by decide) kF_X7_50 (v := .ref h13) rfl dX7_add_88 ?_
    refine lv_iload_n hx hb dX7_add_91 rfl (lv_at hl 1 rfl) ?_
    obtain ⟨g11, hf⟩ := xgd hf
    refine x_iald E hw 13 0 rfl rfl (xin_vp g11) dX7_add_92 ?_
    refine lv_bipush (v := 8) hx hb dX7_add_93 (by decide) ?_
    refine lv_icmp_ne (tgt := 101) hx hb dX7_add_95 (by decide) (fun c12 => ?_) (fun c12 => ?_)
    · rw [if_neg c12] at hf
      refine lv_bipush (v := 8) hx hb dX7_add_101 (by decide) ?_
      refine lv_iload_n hx hb dX7_add_103 rfl (lv_at hl 1 rfl) ?_
      refine lv_imul hx hb dX7_add_104 ?_
      refine lv_istore (lv' := [(5, .int (8 * x1)), (0, .ref h0), (1, .int x1), (2, .int x2), (3, .int x3), (4, .int x4)]) hx hb dX7_add_105 hl (by decide) rfl (fun ls hl => ?_)
      refine lv_iload_n hx hb dX7_add_107 rfl (lv_at hl 4 rfl) ?_
      refine lv_iconst (v := 1) hx hb dX7_add_108 (by decide) ?_
      refine lv_icmp_ne (tgt := 121) hx hb dX7_add_109 (by decide) (fun c13 => ?_) (fun c13 => ?_)
      · rw [if_neg c13] at hf
        refine lv_iconst (v := 0) hx hb dX7_add_121 (by decide) ?_
        refine lv_istore (lv' := [(6, .int 0), (5, .int (8 * x1)), (0, .ref h0), (1, .int x1), (2, .int x2), (3, .int x3), (4, .int x4)]) hx hb dX7_add_122 hl (by decide) rfl (fun ls hl => ?_)
        refine lv_aload_n hx hb dX7_add_124 rfl (lv_at hl 2 rfl) ?_
        refine x_get E hw kin_X7 0 rfl rfl 22 (by decide) kF_X7_50 (v := .ref h13) rfl dX7_add_125 ?_
        refine lv_iload_n hx hb dX7_add_128 rfl (lv_at hl 3 rfl) ?_
        obtain ⟨g14, hf⟩ := xgd hf
        refine x_iald E hw 13 0 rfl rfl (xin_vp g14) dX7_add_129 ?_
        refine lv_istore (lv' := [(7, .int (szs (Int32.toNatClampNeg x1))), (6, .int 0), (5, .int (8 * x1)), (0, .ref h0), (1, .int x1), (2, .int x2), (3, .int x3), (4, .int x4)]) hx hb dX7_add_130 hl (by decide) rfl (fun ls hl => ?_)
        exact b_X7_add_132 E N _ _ _ hf _ _ _ hw (lv_sub hl [3, 4, 5, 7, 2, 1, 0] rfl)
      · rw [if_pos c13] at hf
        refine lv_aload_n hx hb dX7_add_112 rfl (lv_at hl 1 rfl) ?_
        refine x_get E hw kin_X7 0 rfl rfl 22 (by decide) kF_X7_50 (v := .ref h13) rfl dX7_add_113 ?_
        refine lv_iload_n hx hb dX7_add_116 rfl (lv_at hl 2 rfl) ?_
        obtain ⟨g15, hf⟩ := xgd hf
        refine x_iald E hw 13 0 rfl rfl (xin_vp g15) dX7_add_117 ?_
        refine lv_goto (tgt := 122) hx hb dX7_add_118 (by decide) ?_
        refine lv_istore (lv' := [(6, .int (szs (Int32.toNatClampNeg x1))), (5, .int (8 * x1)), (0, .ref h0), (1, .int x1), (2, .int x2), (3, .int x3), (4, .int x4)]) hx hb dX7_add_122 hl (by decide) rfl (fun ls hl => ?_)
        refine lv_aload_n hx hb dX7_add_124 rfl (lv_at hl 2 rfl) ?_
        refine x_get E hw kin_X7 0 rfl rfl 22 (by decide) kF_X7_50 (v := .ref h13) rfl dX7_add_125 ?_
        refine lv_iload_n hx hb dX7_add_128 rfl (lv_at hl 3 rfl) ?_
        obtain ⟨g16, hf⟩ := xgd hf
        refine x_iald E hw 13 0 rfl rfl (xin_vp g16) dX7_add_129 ?_
        refine lv_istore (lv' := [(7, .int (szs (Int32.toNatClampNeg x1))), (6, .int (szs (Int32.toNatClampNeg x1))), (5, .int (8 * x1)), (0, .ref h0), (1, .int x1), (2, .int x2), (3, .int x3), (4, .int x4)]) hx hb dX7_add_130 hl (by decide) rfl (fun ls hl => ?_)
        exact b_X7_add_132 E N _ _ _ hf _ _ _ hw (lv_sub hl [3, 4, 5, 7, 2, 1, 0] rfl)
    · rw [if_pos c12] at hf
      refine lv_bipush (v := (-14)) hx hb dX7_add_98 (by decide) ?_
      have hf := Option.some.inj hf; subst hf
      exact x_iret E hw dX7_add_100
  · rw [if_neg c10] at hf
    refine lv_bipush (v := (-11)) hx hb dX7_add_84 (by decide) ?_
    have hf := Option.some.inj hf; subst hf
    exact x_iret E hw dX7_add_86
def f_X7_add_37 (N : Nat) (x1 : Int32) (x2 : Int32) (x3 : Int32) (x4 : Int32) (szs : (Nat → Int32)) (sos : (Nat → Int32)) (ths : (Nat → Int32)) : Option (Int32 × (Nat → Int32) × (Nat → Int32) × (Nat → Int32)) :=
  if (f_X7_isOneOf x2 1) = 0 then
   some ((-3), szs, sos, ths)
  else
   if (f_X7_isOneOf x3 1) = 0 then
    some ((-3), szs, sos, ths)
   else
    if x2 = 0 then
     if (f_X7_in (Int32.toInt64 x4) (-9999) 9999) = 0 then
      some ((-3), szs, sos, ths)
     else
      f_X7_add_75 N x1 x2 x3 x4 szs sos ths
    else
     f_X7_add_75 N x1 x2 x3 x4 szs sos ths
set_option maxHeartbeats 4000000 in
set_option maxRecDepth 100000 in
theorem b_X7_add_37 {p : Program} {l : Launch} {e : Env} {s : State} {m : MethodId} {args : Array Value} {below : List Frame} {meth : Method} {c : Code} {D : va_G} {cI cZ cN cC : ClassId} {ws0 : va_W} {h0 h1 h2 h3 h4 h5 h6 h7 h8 h9 h10 h11 h12 h13 h14 h15 : Nat} {x1 : Int32} {x2 : Int32} {x3 : Int32} {x4 : Int32} {mn : Int32} {um : Int32} {len : Int32} {plc : Int32} {srt : Int32} {frm : Int32} {num : Int32} {wrg : Int32} {cm : Int32} {mpt : Int32} {st : (Nat → Int32)} {pst : (Nat → Int32)} {kep : (Nat → Int32)} {isk : (Nat → Int32)} {pil : (Nat → Int32)} {nxs : (Nat → Int32)} {txt : (Nat → Int32)} {cls : (Nat → Int32)} {asd : (Nat → Int32)} {opn : (Nat → Int32)} {byy : (Nat → Int32)} {twc : (Nat → Int32)} {szs : (Nat → Int32)} {sos : (Nat → Int32)} {ths : (Nat → Int32)} {N : Nat} {res : Int32 × (Nat → Int32) × (Nat → Int32) × (Nat → Int32)} (E : xE p s m args meth c cX7_add 8 (some .int) RX7 D (xtys cI cZ cN cC) (xA ws0)) : f_X7_add_37 N x1 x2 x3 x4 szs sos ths = some res → ∀ (H : Heap) (locs : List Loc) (ls : Array Slot), xw D (xA ws0) s.heap (wMod cI cZ cN cC h0 h1 h2 h3 h4 h5 h6 h7 h8 h9 h10 h11 h12 h13 h14 h15 mn um len plc srt frm num wrg cm mpt st pst kep isk pil nxs txt cls asd opn byy twc szs sos ths) H locs → lv_has ls 8 [(0, .ref h0), (1, .int x1), (2, .int x2), (3, .int x3), (4, .int x4)] → xG p l e 3 68 s m args below meth c D ws0 (wMod cI cZ cN cC h0 h1 h2 h3 h4 h5 h6 h7 h8 h9 h10 h11 h12 h13 h14 h15 mn um len plc srt frm num wrg cm mpt st pst kep isk pil nxs txt cls asd opn byy twc res.2.1 res.2.2.1 res.2.2.2) (some (.int res.1)) H locs (F0 m 37 ls []) := by
  obtain ⟨hx, hb, -⟩ := id E
  intro hf H locs ls hw hl
  unfold f_X7_add_37 at hf
  refine lv_iload_n hx hb dX7_add_37 rfl (lv_at hl 2 rfl) ?_
  refine lv_iconst (v := 1) hx hb dX7_add_38 (by decide) ?_
  refine x_callS (isC := []) (ws' := (wMod cI cZ cN cC h0 h1 h2 h3 h4 h5 h6 h7 h8 h9 h10 h11 h12 h13 h14 h15 mn um len plc srt frm num wrg cm mpt st pst kep isk pil nxs txt cls asd opn byy twc szs sos ths)) (st1 := [.int (f_X7_isOneOf x2 1)]) (As := [.int x2, .int 1]) (rest := []) E hw vc_X7_234 (c_X7_isOneOf (cI := cI) (cZ := cZ) (cN := cN) (cC := cC)    (x0 := x2) (x1 := 1) rfl) rfl rfl rfl rfl rfl rfl ⟨Nat.le_of_ble_eq_true rfl, Nat.le_of_ble_eq_true rfl⟩ ⟨Nat.le_refl _, Nat.le_refl _⟩ hl.1 rfl rfl (Nat.le_of_ble_eq_true rfl) dX7_add_39 (fun H locs hw => ?_)
  refine lv_if_eq (tgt := 72) hx hb dX7_add_42 (by decide) (fun c5 => ?_) (fun c5 => ?_)
  · rw [if_pos c5] at hf
    refine lv_bipush (v := (-3)) hx hb dX7_add_72 (by decide) ?_
    have hf := Option.some.inj hf; subst hf
    exact x_iret E hw dX7_add_74
  · rw [if_neg c5] at hf
    refine lv_iload_n hx hb dX7_add_45 rfl (lv_at hl 3 rfl) ?_
    refine lv_iconst (v := 1) hx hb dX7_add_46 (by decide) ?_
    refine x_callS (isC := []) (ws' := (wMod cI cZ cN cC h0 h1 h2 h3 h4 h5 h6 h7 h8 h9 h10 h11 h12 h13 h14 h15 mn um len plc srt frm num wrg cm mpt st pst kep isk pil nxs txt cls asd opn byy twc szs sos ths)) (st1 := [.int (f_X7_isOneOf x3 1)]) (As := [.int x3, .int 1]) (rest := []) E hw vc_X7_234 (c_X7_isOneOf (cI := cI) (cZ := cZ) (cN := cN) (cC := cC)    (x0 := x3) (x1 := 1) rfl) rfl rfl rfl rfl rfl rfl ⟨Nat.le_of_ble_eq_true rfl, Nat.le_of_ble_eq_true rfl⟩ ⟨Nat.le_refl _, Nat.le_refl _⟩ hl.1 rfl rfl (Nat.le_of_ble_eq_true rfl) dX7_add_47 (fun H locs hw => ?_)
    refine lv_if_eq (tgt := 72) hx hb dX7_add_50 (by decide) (fun c6 => ?_) (fun c6 => ?_)
    · rw [if_pos c6] at hf
      refine lv_bipush (v := (-3)) hx hb dX7_add_72 (by decide) ?_
      have hf := Option.some.inj hf; subst hf
      exact x_iret E hw dX7_add_74
    · rw [if_neg c6] at hf
      refine lv_iload_n hx hb dX7_add_53 rfl (lv_at hl 2 rfl) ?_
      refine lv_if_ne (tgt := 75) hx hb dX7_add_54 (by decide) (fun c7 => ?_) (fun c7 => ?_)
      · rw [if_neg c7] at hf
        exact b_X7_add_75 E  hf _ _ _ hw (lv_sub hl [0, 1, 2, 3, 4] rfl)
      · rw [if_pos c7] at hf
        refine lv_iload hx hb dX7_add_57 (lv_at hl 4 rfl) ?_
        refine lv_i2l (v := (Int32.toInt64 x4)) hx hb dX7_add_59 rfl ?_
        refine lv_ldc2 hx hb E.2.2.2.2.1 (E.2.2.2.2.2.1.2.use kQ_X7_237) dX7_add_60 ?_
        refine lv_ldc2 hx hb E.2.2.2.2.1 (E.2.2.2.2.2.1.2.use kQ_X7_239) dX7_add_63 ?_
        refine x_callS (isC := []) (ws' := (wMod cI cZ cN cC h0 h1 h2 h3 h4 h5 h6 h7 h8 h9 h10 h11 h12 h13 h14 h15 mn um len plc srt frm num wrg cm mpt st pst kep isk pil nxs txt cls asd opn byy twc szs sos ths)) (st1 := [.int (f_X7_in (Int32.toInt64 x4) (-9999) 9999)]) (As := [.long (Int32.toInt64 x4), .long (-9999), .long 9999]) (rest := []) E hw vc_X7_66 (c_X7_in (cI := cI) (cZ := cZ) (cN := cN) (cC := cC)    (x0 := (Int32.toInt64 x4)) (x2 := (-9999)) (x4 := 9999) rfl) rfl rfl rfl rfl rfl rfl ⟨Nat.le_of_ble_eq_true rfl, Nat.le_of_ble_eq_true rfl⟩ ⟨Nat.le_refl _, Nat.le_refl _⟩ hl.1 rfl rfl (Nat.le_of_ble_eq_true rfl) dX7_add_66 (fun H locs hw => ?_)
        refine lv_if_ne (tgt := 75) hx hb dX7_add_69 (by decide) (fun c8 => ?_) (fun c8 => ?_)
        · rw [if_neg c8] at hf
          exact b_X7_add_75 E  hf _ _ _ hw (lv_sub hl [0, 1, 2, 3, 4] rfl)
        · rw [if_pos c8] at hf
          refine lv_bipush (v := (-3)) hx hb dX7_add_72 (by decide) ?_
          have hf := Option.some.inj hf; subst hf
          exact x_iret E hw dX7_add_74
def f_X7_add (N : Nat) (x1 : Int32) (x2 : Int32) (x3 : Int32) (x4 : Int32) (mn : Int32) (szs : (Nat → Int32)) (sos : (Nat → Int32)) (ths : (Nat → Int32)) : Option (Int32 × (Nat → Int32) × (Nat → Int32) × (Nat → Int32)) :=
  if (f_X7_isChain x1) = 0 then
   some ((-2), szs, sos, ths)
  else
   if x2 = 1 then
    if x4 < 0 then
     some ((-2), szs, sos, ths)
    else
     if (f_X7_areTwo (x4 / 10) (x4 - (x4 / 10) * 10) mn) = 0 then
      some ((-2), szs, sos, ths)
     else
      f_X7_add_37 N x1 x2 x3 x4 szs sos ths
   else
    f_X7_add_37 N x1 x2 x3 x4 szs sos ths
set_option maxHeartbeats 4000000 in
set_option maxRecDepth 100000 in
theorem c_X7_add {l : Launch} {D : va_G} {cI cZ cN cC : ClassId} {h0 h1 h2 h3 h4 h5 h6 h7 h8 h9 h10 h11 h12 h13 h14 h15 : Nat} {mn : Int32} {um : Int32} {len : Int32} {plc : Int32} {srt : Int32} {frm : Int32} {num : Int32} {wrg : Int32} {cm : Int32} {mpt : Int32} {st : (Nat → Int32)} {pst : (Nat → Int32)} {kep : (Nat → Int32)} {isk : (Nat → Int32)} {pil : (Nat → Int32)} {nxs : (Nat → Int32)} {txt : (Nat → Int32)} {cls : (Nat → Int32)} {asd : (Nat → Int32)} {opn : (Nat → Int32)} {byy : (Nat → Int32)} {twc : (Nat → Int32)} {szs : (Nat → Int32)} {sos : (Nat → Int32)} {ths : (Nat → Int32)} {x1 : Int32} {x2 : Int32} {x3 : Int32} {x4 : Int32} {N : Nat} {res : Int32 × (Nat → Int32) × (Nat → Int32) × (Nat → Int32)} (hf : f_X7_add N x1 x2 x3 x4 mn szs sos ths = some res) : xMet l D (xtys cI cZ cN cC) yX7_add cX7_add 8 (some .int) 3 68 [.ref h0, .int x1, .int x2, .int x3, .int x4] (wMod cI cZ cN cC h0 h1 h2 h3 h4 h5 h6 h7 h8 h9 h10 h11 h12 h13 h14 h15 mn um len plc srt frm num wrg cm mpt st pst kep isk pil nxs txt cls asd opn byy twc szs sos ths) (wMod cI cZ cN cC h0 h1 h2 h3 h4 h5 h6 h7 h8 h9 h10 h11 h12 h13 h14 h15 mn um len plc srt frm num wrg cm mpt st pst kep isk pil nxs txt cls asd opn byy twc res.2.1 res.2.2.1 res.2.2.2) (some (.int res.1)) := by
  refine x_enter (by decide) (Nat.le_of_ble_eq_true rfl) ?_
  intro p e s m args below meth c E ls hl hw
  have E : xE p s m args meth c cX7_add 8 (some .int) RX7 D (xtys cI cZ cN cC) (xA (wMod cI cZ cN cC h0 h1 h2 h3 h4 h5 h6 h7 h8 h9 h10 h11 h12 h13 h14 h15 mn um len plc srt frm num wrg cm mpt st pst kep isk pil nxs txt cls asd opn byy twc szs sos ths)) := E
  obtain ⟨hx, hb, -⟩ := id E
  have hl : lv_has ls 8 [(0, .ref h0), (1, .int x1), (2, .int x2), (3, .int x3), (4, .int x4)] := hl
  unfold f_X7_add at hf
  refine lv_iload_n hx hb dX7_add_0 rfl (lv_at hl 1 rfl) ?_
  refine x_callS (isC := []) (ws' := (wMod cI cZ cN cC h0 h1 h2 h3 h4 h5 h6 h7 h8 h9 h10 h11 h12 h13 h14 h15 mn um len plc srt frm num wrg cm mpt st pst kep isk pil nxs txt cls asd opn byy twc szs sos ths)) (st1 := [.int (f_X7_isChain x1)]) (As := [.int x1]) (rest := []) E hw vc_X7_231 (c_X7_isChain (cI := cI) (cZ := cZ) (cN := cN) (cC := cC)    (x0 := x1) rfl) rfl rfl rfl rfl rfl rfl ⟨Nat.le_of_ble_eq_true rfl, Nat.le_of_ble_eq_true rfl⟩ ⟨Nat.le_refl _, Nat.le_refl _⟩ hl.1 rfl rfl (Nat.le_of_ble_eq_true rfl) dX7_add_1 (fun H locs hw => ?_)
  refine lv_if_eq (tgt := 34) hx hb dX7_add_4 (by decide) (fun c1 => ?_) (fun c1 => ?_)
  · rw [if_pos c1] at hf
    refine lv_bipush (v := (-2)) hx hb dX7_add_34 (by decide) ?_
    have hf := Option.some.inj hf; subst hf
    exact x_iret E hw dX7_add_36
  · rw [if_neg c1] at hf
    refine lv_iload_n hx hb dX7_add_7 rfl (lv_at hl 2 rfl) ?_
    refine lv_iconst (v := 1) hx hb dX7_add_8 (by decide) ?_
    refine lv_icmp_ne (tgt := 37) hx hb dX7_add_9 (by decide) (fun c2 => ?_) (fun c2 => ?_)
    · rw [if_neg c2] at hf
      exact b_X7_add_37 E  hf _ _ _ hw (lv_sub hl [0, 1, 2, 3, 4] rfl)
    · rw [if_pos c2] at hf
      refine lv_iload hx hb dX7_add_12 (lv_at hl 4 rfl) ?_
      refine lv_if_lt (tgt := 34) hx hb dX7_add_14 (by decide) (fun c3 => ?_) (fun c3 => ?_)
      · rw [if_pos c3] at hf
        refine lv_bipush (v := (-2)) hx hb dX7_add_34 (by decide) ?_
        have hf := Option.some.inj hf; subst hf
        exact x_iret E hw dX7_add_36
      · rw [if_neg c3] at hf
        refine lv_aload_n hx hb dX7_add_17 rfl (lv_at hl 0 rfl) ?_
        refine lv_iload hx hb dX7_add_18 (lv_at hl 4 rfl) ?_
        refine lv_bipush (v := 10) hx hb dX7_add_20 (by decide) ?_
        refine lv_idiv hx hb dX7_add_22 (by decide) ?_
        refine lv_iload hx hb dX7_add_23 (lv_at hl 4 rfl) ?_
        refine lv_bipush (v := 10) hx hb dX7_add_25 (by decide) ?_
        refine lv_irem hx hb dX7_add_27 (by decide) ?_
        refine x_callVI (ws' := (wMod cI cZ cN cC h0 h1 h2 h3 h4 h5 h6 h7 h8 h9 h10 h11 h12 h13 h14 h15 mn um len plc srt frm num wrg cm mpt st pst kep isk pil nxs txt cls asd opn byy twc szs sos ths)) (st1 := [.int (f_X7_areTwo (x4 / 10) (x4 - (x4 / 10) * 10) mn)]) (As := [.int (x4 / 10), .int (x4 - (x4 / 10) * 10)]) (rest := []) E hw vc_X7_74 (c_X7_areTwo (cI := cI) (cZ := cZ) (cN := cN) (cC := cC) (h0 := h0) (h1 := h1) (h2 := h2) (h3 := h3) (h4 := h4) (h5 := h5) (h6 := h6) (h7 := h7) (h8 := h8) (h9 := h9) (h10 := h10) (h11 := h11) (h12 := h12) (h13 := h13) (h14 := h14) (h15 := h15)  (mn := mn) (um := um) (len := len) (plc := plc) (srt := srt) (frm := frm) (num := num) (wrg := wrg) (cm := cm) (mpt := mpt) (st := st) (pst := pst) (kep := kep) (isk := isk) (pil := pil) (nxs := nxs) (txt := txt) (cls := cls) (asd := asd) (opn := opn) (byy := byy) (twc := twc) (szs := szs) (sos := sos) (ths := ths) (x1 := (x4 / 10)) (x2 := (x4 - (x4 / 10) * 10)) rfl) 0 7 rfl rfl rfl rfl rfl ⟨Nat.le_of_ble_eq_true rfl, Nat.le_of_ble_eq_true rfl⟩ ⟨Nat.le_refl _, Nat.le_refl _⟩ hl.1 rfl rfl (Nat.le_of_ble_eq_true rfl) dX7_add_28 (fun H locs hw => ?_)
        refine lv_if_ne (tgt := 37) hx hb dX7_add_31 (by decide) (fun c4 => ?_) (fun c4 => ?_)
        · rw [if_neg c4] at hf
          exact b_X7_add_37 E  hf _ _ _ hw (lv_sub hl [0, 1, 2, 3, 4] rfl)
        · rw [if_pos c4] at hf
          refine lv_bipush (v := (-2)) hx hb dX7_add_34 (by decide) ?_
          have hf := Option.some.inj hf; subst hf
          exact x_iret E hw dX7_add_36

def f_X7_last (x1 : Int32) (x2 : Int32) (szs : (Nat → Int32)) (sos : (Nat → Int32)) (ths : (Nat → Int32)) : Option (Int32 × (Nat → Int32)) :=
  if (f_X7_isChain x1) = 0 then
   some ((-2), szs)
  else
   if (f_X7_isOneOf x2 1) = 0 then
    some ((-3), szs)
   else
    if xin x1 3 then
    if 0 < (szs (Int32.toNatClampNeg x1)) then
     if xin x1 3 then
     if xin (((8 * x1) + (szs (Int32.toNatClampNeg x1))) - 1) 24 then
     if (sos (Int32.toNatClampNeg (((8 * x1) + (szs (Int32.toNatClampNeg x1))) - 1))) = x2 then
      if xin x1 3 then
      if xin x1 3 then
      if x2 = 0 then
       if xin (((8 * x1) + (szs (Int32.toNatClampNeg x1))) - 1) 24 then
       some (((ths (Int32.toNatClampNeg (((8 * x1) + (szs (Int32.toNatClampNeg x1))) - 1))) + 50000), (upd szs (Int32.toNatClampNeg x1) ((szs (Int32.toNatClampNeg x1)) - 1)))
       else none
      else
       if xin (((8 * x1) + (szs (Int32.toNatClampNeg x1))) - 1) 24 then
       some ((ths (Int32.toNatClampNeg (((8 * x1) + (szs (Int32.toNatClampNeg x1))) - 1))), (upd szs (Int32.toNatClampNeg x1) ((szs (Int32.toNatClampNeg x1)) - 1)))
       else none
      else none
      else none
     else
      some ((-13), szs)
     else none
     else none
    else
     if xin x1 3 then
     if 0 ≤ (szs (Int32.toNatClampNeg x1)) then
      some ((-12), szs)
     else
      some ((-11), szs)
     else none
    else none
set_option maxHeartbeats 4000000 in
set_option maxRecDepth 100000 in
theorem c_X7_last {l : Launch} {D : va_G} {cI cZ cN cC : ClassId} {h0 h1 h2 h3 h4 h5 h6 h7 h8 h9 h10 h11 h12 h13 h14 h15 : Nat} {mn : Int32} {um : Int32} {len : Int32} {plc : Int32} {srt : Int32} {frm : Int32} {num : Int32} {wrg : Int32} {cm : Int32} {mpt : Int32} {st : (Nat → Int32)} {pst : (Nat → Int32)} {kep : (Nat → Int32)} {isk : (Nat → Int32)} {pil : (Nat → Int32)} {nxs : (Nat → Int32)} {txt : (Nat → Int32)} {cls : (Nat → Int32)} {asd : (Nat → Int32)} {opn : (Nat → Int32)} {byy : (Nat → Int32)} {twc : (Nat → Int32)} {szs : (Nat → Int32)} {sos : (Nat → Int32)} {ths : (Nat → Int32)} {x1 : Int32} {x2 : Int32} {res : Int32 × (Nat → Int32)} (hf : f_X7_last x1 x2 szs sos ths = some res) : xMet l D (xtys cI cZ cN cC) yX7_last cX7_last 4 (some .int) 2 46 [.ref h0, .int x1, .int x2] (wMod cI cZ cN cC h0 h1 h2 h3 h4 h5 h6 h7 h8 h9 h10 h11 h12 h13 h14 h15 mn um len plc srt frm num wrg cm mpt st pst kep isk pil nxs txt cls asd opn byy twc szs sos ths) (wMod cI cZ cN cC h0 h1 h2 h3 h4 h5 h6 h7 h8 h9 h10 h11 h12 h13 h14 h15 mn um len plc srt frm num wrg cm mpt st pst kep isk pil nxs txt cls asd opn byy twc res.2 sos ths) (some (.int res.1)) := by
  refine x_enter (by decide) (Nat.le_of_ble_eq_true rfl) ?_
  intro p e s m args below meth c E ls hl hw
  have E : xE p s m args meth c cX7_last 4 (some .int) RX7 D (xtys cI cZ cN cC) (xA (wMod cI cZ cN cC h0 h1 h2 h3 h4 h5 h6 h7 h8 h9 h10 h11 h12 h13 h14 h15 mn um len plc srt frm num wrg cm mpt st pst kep isk pil nxs txt cls asd opn byy twc szs sos ths)) := E
  obtain ⟨hx, hb, -⟩ := id E
  have hl : lv_has ls 4 [(0, .ref h0), (1, .int x1), (2, .int x2)] := hl
  unfold f_X7_last at hf
  refine lv_iload_n hx hb dX7_last_0 rfl (lv_at hl 1 rfl) ?_
  refine x_callS (isC := []) (ws' := (wMod cI cZ cN cC h0 h1 h2 h3 h4 h5 h6 h7 h8 h9 h10 h11 h12 h13 h14 h15 mn um len plc srt frm num wrg cm mpt st pst kep isk pil nxs txt cls asd opn byy twc szs sos ths)) (st1 := [.int (f_X7_isChain x1)]) (As := [.int x1]) (rest := []) E hw vc_X7_231 (c_X7_isChain (cI := cI) (cZ := cZ) (cN := cN) (cC := cC)    (x0 := x1) rfl) rfl rfl rfl rfl rfl rfl ⟨Nat.le_of_ble_eq_true rfl, Nat.le_of_ble_eq_true rfl⟩ ⟨Nat.le_refl _, Nat.le_refl _⟩ hl.1 rfl rfl (Nat.le_of_ble_eq_true rfl) dX7_last_1 (fun H locs hw => ?_)
  refine lv_if_ne (tgt := 10) hx hb dX7_last_4 (by decide) (fun c1 => ?_) (fun c1 => ?_)
  · rw [if_neg c1] at hf
    refine lv_iload_n hx hb dX7_last_10 rfl (lv_at hl 2 rfl) ?_
    refine lv_iconst (v := 1) hx hb dX7_last_11 (by decide) ?_
    refine x_callS (isC := []) (ws' := (wMod cI cZ cN cC h0 h1 h2 h3 h4 h5 h6 h7 h8 h9 h10 h11 h12 h13 h14 h15 mn um len plc srt frm num wrg cm mpt st pst kep isk pil nxs txt cls asd opn byy twc szs sos ths)) (st1 := [.int (f_X7_isOneOf x2 1)]) (As := [.int x2, .int 1]) (rest := []) E hw vc_X7_234 (c_X7_isOneOf (cI := cI) (cZ := cZ) (cN := cN) (cC := cC)    (x0 := x2) (x1 := 1) rfl) rfl rfl rfl rfl rfl rfl ⟨Nat.le_of_ble_eq_true rfl, Nat.le_of_ble_eq_true rfl⟩ ⟨Nat.le_refl _, Nat.le_refl _⟩ hl.1 rfl rfl (Nat.le_of_ble_eq_true rfl) dX7_last_12 (fun H locs hw => ?_)
    refine lv_if_ne (tgt := 21) hx hb dX7_last_15 (by decide) (fun c2 => ?_) (fun c2 => ?_)
    · rw [if_neg c2] at hf
      refine lv_aload_n hx hb dX7_last_21 rfl (lv_at hl 0 rfl) ?_
      refine x_get E hw kin_X7 0 rfl rfl 22 (by decide) kF_X7_50 (v := .ref h13) rfl dX7_last_22 ?_
      refine lv_iload_n hx hb dX7_last_25 rfl (lv_at hl 1 rfl) ?_
      obtain ⟨g3, hf⟩ := xgd hf
      refine x_iald E hw 13 0 rfl rfl (xin_vp g3) dX7_last_26 ?_
      refine lv_if_gt (tgt := 47) hx hb dX7_last_27 (by decide) (fun c4 => ?_) (fun c4 => ?_)
      · rw [if_pos c4] at hf
        refine lv_bipush (v := 8) hx hb dX7_last_47 (by decide) ?_
        refine lv_iload_n hx hb dX7_last_49 rfl (lv_at hl 1 rfl) ?_
        refine lv_imul hx hb dX7_last_50 ?_
        refine lv_aload_n hx hb dX7_last_51 rfl (lv_at hl 0 rfl) ?_
        refine x_get E hw kin_X7 0 rfl rfl 22 (by decide) kF_X7_50 (v := .ref h13) rfl dX7_last_52 ?_
        refine lv_iload_n hx hb dX7_last_55 rfl (lv_at hl 1 rfl) ?_
        obtain ⟨g5, hf⟩ := xgd hf
        refine x_iald E hw 13 0 rfl rfl (xin_vp g5) dX7_last_56 ?_
        refine lv_iadd hx hb dX7_last_57 ?_
        refine lv_iconst (v := 1) hx hb dX7_last_58 (by decide) ?_
        refine lv_isub hx hb dX7_last_59 ?_
        refine lv_istore_n (lv' := [(3, .int (((8 * x1) + (szs (Int32.toNatClampNeg x1))) - 1)), (0, .ref h0), (1, .int x1), (2, .int x2)]) hx hb dX7_last_60 rfl hl (by decide) rfl (fun ls hl => ?_)
        refine lv_aload_n hx hb dX7_last_61 rfl (lv_at hl 1 rfl) ?_
        refine x_get E hw kin_X7 0 rfl rfl 23 (by decide) kF_X7_53 (v := .ref h14) rfl dX7_last_62 ?_
        refine lv_iload_n hx hb dX7_last_65 rfl (lv_at hl 0 rfl) ?_
        obtain ⟨g6, hf⟩ := xgd hf
        refine x_iald E hw 14 0 rfl rfl (xin_vp g6) dX7_last_66 ?_
        refine lv_iload_n hx hb dX7_last_67 rfl (lv_at hl 3 rfl) ?_
        refine lv_icmp_eq (tgt := 74) hx hb dX7_last_68 (by decide) (fun c7 => ?_) (fun c7 => ?_)
        · rw [if_pos c7] at hf
          refine lv_aload_n hx hb dX7_last_74 rfl (lv_at hl 1 rfl) ?_
          refine x_get E hw kin_X7 0 rfl rfl 22 (by decide) kF_X7_50 (v := .ref h13) rfl dX7_last_75 ?_
          refine lv_iload_n hx hb dX7_last_78 rfl (lv_at hl 2 rfl) ?_
          refine lv_dup2_11 hx hb dX7_last_79 rfl rfl ?_
          obtain ⟨g8, hf⟩ := xgd hf
          refine x_iald E hw 13 0 rfl rfl (xin_vp g8) dX7_last_80 ?_
          refine lv_iconst (v := 1) hx hb dX7_last_81 (by decide) ?_
          refine lv_isub hx hb dX7_last_82 ?_
          obtain ⟨g9, hf⟩ := xgd hf
          refine x_iast (ws' := (wMod cI cZ cN cC h0 h1 h2 h3 h4 h5 h6 h7 h8 h9 h10 h11 h12 h13 h14 h15 mn um len plc srt frm num wrg cm mpt st pst kep isk pil nxs txt cls asd opn byy twc (upd szs (Int32.toNatClampNeg x1) ((szs (Int32.toNatClampNeg x1)) - 1)) sos ths)) E hw 13 0 rfl rfl (xin_vp g9) rfl dX7_last_83 (fun H locs hw => ?_)
          refine lv_iload_n hx hb dX7_last_84 rfl (lv_at hl 3 rfl) ?_
          refine lv_if_ne (tgt := 100) hx hb dX7_last_85 (by decide) (fun c10 => ?_) (fun c10 => ?_)
          · rw [if_neg c10] at hf
            refine lv_aload_n hx hb dX7_last_100 rfl (lv_at hl 1 rfl) ?_
            refine x_get E hw kin_X7 0 rfl rfl 24 (by decide) kF_X7_56 (v := .ref h15) rfl dX7_last_101 ?_
            refine lv_iload_n hx hb dX7_last_104 rfl (lv_at hl 0 rfl) ?_
            obtain ⟨g11, hf⟩ := xgd hf
            refine x_iald E hw 15 0 rfl rfl (xin_vp g11) dX7_last_105 ?_
            have hf := Option.some.inj hf; subst hf
            exact x_iret E hw dX7_last_106
          · rw [if_pos c10] at hf
            refine lv_aload_n hx hb dX7_last_88 rfl (lv_at hl 1 rfl) ?_
            refine x_get E hw kin_X7 0 rfl rfl 24 (by decide) kF_X7_56 (v := .ref h15) rfl dX7_last_89 ?_
            refine lv_iload_n hx hb dX7_last_92 rfl (lv_at hl 0 rfl) ?_
            obtain ⟨g12, hf⟩ := xgd hf
            refine x_iald E hw 15 0 rfl rfl (xin_vp g12) dX7_last_93 ?_
            refine lv_ldc hx hb E.2.2.2.2.1 (E.2.2.2.2.2.1.2.use kK_X7_241) dX7_last_94 ?_
            refine lv_iadd hx hb dX7_last_96 ?_
            refine lv_goto (tgt := 106) hx hb dX7_last_97 (by decide) ?_
            have hf := Option.some.inj hf; subst hf
            exact x_iret E hw dX7_last_106
        · rw [if_neg c7] at hf
          refine lv_bipush (v := (-13)) hx hb dX7_last_71 (by decide) ?_
          have hf := Option.some.inj hf; subst hf
          exact x_iret E hw dX7_last_73
      · rw [if_neg c4] at hf
        refine lv_aload_n hx hb dX7_last_30 rfl (lv_at hl 0 rfl) ?_
        refine x_get E hw kin_X7 0 rfl rfl 22 (by decide) kF_X7_50 (v := .ref h13) rfl dX7_last_31 ?_
        refine lv_iload_n hx hb dX7_last_34 rfl (lv_at hl 1 rfl) ?_
        obtain ⟨g13, hf⟩ := xgd hf
        refine x_iald E hw 13 0 rfl rfl (xin_vp g13) dX7_last_35 ?_
        refine lv_if_ge (tgt := 44) hx hb dX7_last_36 (by decide) (fun c14 => ?_) (fun c14 => ?_)
        · rw [if_pos c14] at hf
          refine lv_bipush (v := (-12)) hx hb dX7_last_44 (by decide) ?_
          have hf := Option.some.inj hf; subst hf
          exact x_iret E hw dX7_last_46
        · rw [if_neg c14] at hf
          refine lv_bipush (v := (-11)) hx hb dX7_last_39 (by decide) ?_
          refine lv_goto (tgt := 46) hx hb dX7_last_41 (by decide) ?_
          have hf := Option.some.inj hf; subst hf
          exact x_iret E hw dX7_last_46
    · rw [if_pos c2] at hf
      refine lv_bipush (v := (-3)) hx hb dX7_last_18 (by decide) ?_
      have hf := Option.some.inj hf; subst hf
      exact x_iret E hw dX7_last_20
  · rw [if_pos c1] at hf
    refine lv_bipush (v := (-2)) hx hb dX7_last_7 (by decide) ?_
    have hf := Option.some.inj hf; subst hf
    exact x_iret E hw dX7_last_9

def f_X7_sum_39 (x1 : Int32) (x2 : Int32) (szs : (Nat → Int32)) (sos : (Nat → Int32)) (ths : (Nat → Int32)) : Nat → Int32 → Int32 → Option (Int32)
  | 0, _, _ => none
  | n + 1, x3, x4 =>
    if xin x1 3 then
    if (szs (Int32.toNatClampNeg x1)) ≤ x4 then
     some x3
    else
     if x2 = 2 then
      if xin ((8 * x1) + x4) 24 then
      f_X7_sum_39 x1 x2 szs sos ths n (x3 + (ths (Int32.toNatClampNeg ((8 * x1) + x4)))) (x4 + 1)
      else none
     else
      if xin ((8 * x1) + x4) 24 then
      if (sos (Int32.toNatClampNeg ((8 * x1) + x4))) = x2 then
       if xin ((8 * x1) + x4) 24 then
       f_X7_sum_39 x1 x2 szs sos ths n (x3 + (ths (Int32.toNatClampNeg ((8 * x1) + x4)))) (x4 + 1)
       else none
      else
       f_X7_sum_39 x1 x2 szs sos ths n (x3 + 0) (x4 + 1)
      else none
    else none
set_option maxHeartbeats 4000000 in
set_option maxRecDepth 100000 in
theorem b_X7_sum_39 {p : Program} {l : Launch} {e : Env} {s : State} {m : MethodId} {args : Array Value} {below : List Frame} {meth : Method} {c : Code} {D : va_G} {cI cZ cN cC : ClassId} {ws0 : va_W} {h0 h1 h2 h3 h4 h5 h6 h7 h8 h9 h10 h11 h12 h13 h14 h15 : Nat} {x1 : Int32} {x2 : Int32} {mn : Int32} {um : Int32} {len : Int32} {plc : Int32} {srt : Int32} {frm : Int32} {num : Int32} {wrg : Int32} {cm : Int32} {mpt : Int32} {st : (Nat → Int32)} {pst : (Nat → Int32)} {kep : (Nat → Int32)} {isk : (Nat → Int32)} {pil : (Nat → Int32)} {nxs : (Nat → Int32)} {txt : (Nat → Int32)} {cls : (Nat → Int32)} {asd : (Nat → Int32)} {opn : (Nat → Int32)} {byy : (Nat → Int32)} {twc : (Nat → Int32)} {szs : (Nat → Int32)} {sos : (Nat → Int32)} {ths : (Nat → Int32)} {res : Int32} (E : xE p s m args meth c cX7_sum 6 (some .int) RX7 D (xtys cI cZ cN cC) (xA ws0)) : ∀ (n : Nat) (x3 : Int32) (x4 : Int32), f_X7_sum_39 x1 x2 szs sos ths n x3 x4 = some res → ∀ (H : Heap) (locs : List Loc) (ls : Array Slot), xw D (xA ws0) s.heap (wMod cI cZ cN cC h0 h1 h2 h3 h4 h5 h6 h7 h8 h9 h10 h11 h12 h13 h14 h15 mn um len plc srt frm num wrg cm mpt st pst kep isk pil nxs txt cls asd opn byy twc szs sos ths) H locs → lv_has ls 6 [(0, .ref h0), (1, .int x1), (2, .int x2), (3, .int x3), (4, .int x4)] → xG p l e 2 46 s m args below meth c D ws0 (wMod cI cZ cN cC h0 h1 h2 h3 h4 h5 h6 h7 h8 h9 h10 h11 h12 h13 h14 h15 mn um len plc srt frm num wrg cm mpt st pst kep isk pil nxs txt cls asd opn byy twc szs sos ths) (some (.int res)) H locs (F0 m 39 ls []) := by
  obtain ⟨hx, hb, -⟩ := id E
  intro n
  induction n with
  | zero =>
    intro _ _ hf
    rw [f_X7_sum_39] at hf; cases hf
  | succ n ih =>
    intro x3 x4 hf H locs ls hw hl
    rw [f_X7_sum_39] at hf
    refine lv_iload hx hb dX7_sum_39 (lv_at hl 4 rfl) ?_
    refine lv_aload_n hx hb dX7_sum_41 rfl (lv_at hl 0 rfl) ?_
    refine x_get E hw kin_X7 0 rfl rfl 22 (by decide) kF_X7_50 (v := .ref h13) rfl dX7_sum_42 ?_
    refine lv_iload_n hx hb dX7_sum_45 rfl (lv_at hl 1 rfl) ?_
    obtain ⟨g5, hf⟩ := xgd hf
    refine x_iald E hw 13 0 rfl rfl (xin_vp g5) dX7_sum_46 ?_
    refine lv_icmp_ge (tgt := 95) hx hb dX7_sum_47 (by decide) (fun c6 => ?_) (fun c6 => ?_)
    · rw [if_pos c6] at hf
      refine lv_iload_n hx hb dX7_sum_95 rfl (lv_at hl 3 rfl) ?_
      have hf := Option.some.inj hf; subst hf
      exact x_iret E hw dX7_sum_96
    · rw [if_neg c6] at hf
      refine lv_bipush (v := 8) hx hb dX7_sum_50 (by decide) ?_
      refine lv_iload_n hx hb dX7_sum_52 rfl (lv_at hl 1 rfl) ?_
      refine lv_imul hx hb dX7_sum_53 ?_
      refine lv_iload hx hb dX7_sum_54 (lv_at hl 4 rfl) ?_
      refine lv_iadd hx hb dX7_sum_56 ?_
      refine lv_istore (lv' := [(5, .int ((8 * x1) + x4)), (0, .ref h0), (1, .int x1), (2, .int x2), (3, .int x3), (4, .int x4)]) hx hb dX7_sum_57 hl (by decide) rfl (fun ls hl => ?_)
      refine lv_iload_n hx hb dX7_sum_59 rfl (lv_at hl 4 rfl) ?_
      refine lv_iload_n hx hb dX7_sum_60 rfl (lv_at hl 3 rfl) ?_
      refine lv_iconst (v := 2) hx hb dX7_sum_61 (by decide) ?_
      refine lv_icmp_eq (tgt := 76) hx hb dX7_sum_62 (by decide) (fun c7 => ?_) (fun c7 => ?_)
      · rw [if_pos c7] at hf
        refine lv_aload_n hx hb dX7_sum_76 rfl (lv_at hl 1 rfl) ?_
        refine x_get E hw kin_X7 0 rfl rfl 24 (by decide) kF_X7_56 (v := .ref h15) rfl dX7_sum_77 ?_
        refine lv_iload hx hb dX7_sum_80 (lv_at hl 0 rfl) ?_
        obtain ⟨g8, hf⟩ := xgd hf
        refine x_iald E hw 15 0 rfl rfl (xin_vp g8) dX7_sum_82 ?_
        refine lv_goto (tgt := 87) hx hb dX7_sum_83 (by decide) ?_
        refine lv_iadd hx hb dX7_sum_87 ?_
        refine lv_istore_n (lv' := [(3, .int (x3 + (ths (Int32.toNatClampNeg ((8 * x1) + x4))))), (5, .int ((8 * x1) + x4)), (0, .ref h0), (1, .int x1), (2, .int x2), (4, .int x4)]) hx hb dX7_sum_88 rfl hl (by decide) rfl (fun ls hl => ?_)
        refine lv_iinc (v := (x4 + 1)) (lv' := [(4, .int (x4 + 1)), (3, .int (x3 + (ths (Int32.toNatClampNeg ((8 * x1) + x4))))), (5, .int ((8 * x1) + x4)), (0, .ref h0), (1, .int x1), (2, .int x2)]) hx hb dX7_sum_89 hl (k := 5) rfl rfl (by decide) rfl (fun ls hl => ?_)
        refine lv_goto (tgt := 39) hx hb dX7_sum_92 (by decide) ?_
        exact ih _ _ hf _ _ _ hw (lv_sub hl [3, 4, 5, 1, 0] rfl)
      · rw [if_neg c7] at hf
        refine lv_aload_n hx hb dX7_sum_65 rfl (lv_at hl 1 rfl) ?_
        refine x_get E hw kin_X7 0 rfl rfl 23 (by decide) kF_X7_53 (v := .ref h14) rfl dX7_sum_66 ?_
        refine lv_iload hx hb dX7_sum_69 (lv_at hl 0 rfl) ?_
        obtain ⟨g9, hf⟩ := xgd hf
        refine x_iald E hw 14 0 rfl rfl (xin_vp g9) dX7_sum_71 ?_
        refine lv_iload_n hx hb dX7_sum_72 rfl (lv_at hl 3 rfl) ?_
        refine lv_icmp_ne (tgt := 86) hx hb dX7_sum_73 (by decide) (fun c10 => ?_) (fun c10 => ?_)
        · rw [if_neg c10] at hf
          refine lv_iconst (v := 0) hx hb dX7_sum_86 (by decide) ?_
          refine lv_iadd hx hb dX7_sum_87 ?_
          refine lv_istore_n (lv' := [(3, .int (x3 + 0)), (5, .int ((8 * x1) + x4)), (0, .ref h0), (1, .int x1), (2, .int x2), (4, .int x4)]) hx hb dX7_sum_88 rfl hl (by decide) rfl (fun ls hl => ?_)
          refine lv_iinc (v := (x4 + 1)) (lv' := [(4, .int (x4 + 1)), (3, .int (x3 + 0)), (5, .int ((8 * x1) + x4)), (0, .ref h0), (1, .int x1), (2, .int x2)]) hx hb dX7_sum_89 hl (k := 5) rfl rfl (by decide) rfl (fun ls hl => ?_)
          refine lv_goto (tgt := 39) hx hb dX7_sum_92 (by decide) ?_
          exact ih _ _ hf _ _ _ hw (lv_sub hl [3, 4, 5, 1, 0] rfl)
        · rw [if_pos c10] at hf
          refine lv_aload_n hx hb dX7_sum_76 rfl (lv_at hl 1 rfl) ?_
          refine x_get E hw kin_X7 0 rfl rfl 24 (by decide) kF_X7_56 (v := .ref h15) rfl dX7_sum_77 ?_
          refine lv_iload hx hb dX7_sum_80 (lv_at hl 0 rfl) ?_
          obtain ⟨g11, hf⟩ := xgd hf
          refine x_iald E hw 15 0 rfl rfl (xin_vp g11) dX7_sum_82 ?_
          refine lv_goto (tgt := 87) hx hb dX7_sum_83 (by decide) ?_
          refine lv_iadd hx hb dX7_sum_87 ?_
          refine lv_istore_n (lv' := [(3, .int (x3 + (ths (Int32.toNatClampNeg ((8 * x1) + x4))))), (5, .int ((8 * x1) + x4)), (0, .ref h0), (1, .int x1), (2, .int x2), (4, .int x4)]) hx hb dX7_sum_88 rfl hl (by decide) rfl (fun ls hl => ?_)
          refine lv_iinc (v := (x4 + 1)) (lv' := [(4, .int (x4 + 1)), (3, .int (x3 + (ths (Int32.toNatClampNeg ((8 * x1) + x4))))), (5, .int ((8 * x1) + x4)), (0, .ref h0), (1, .int x1), (2, .int x2)]) hx hb dX7_sum_89 hl (k := 5) rfl rfl (by decide) rfl (fun ls hl => ?_)
          refine lv_goto (tgt := 39) hx hb dX7_sum_92 (by decide) ?_
          exact ih _ _ hf _ _ _ hw (lv_sub hl [3, 4, 5, 1, 0] rfl)
def f_X7_sum (N : Nat) (x1 : Int32) (x2 : Int32) (szs : (Nat → Int32)) (sos : (Nat → Int32)) (ths : (Nat → Int32)) : Option (Int32) :=
  if (f_X7_isChain x1) = 0 then
   some (-2)
  else
   if (f_X7_isOneOf x2 2) = 0 then
    some (-3)
   else
    if xin x1 3 then
    if 0 ≤ (szs (Int32.toNatClampNeg x1)) then
     f_X7_sum_39 x1 x2 szs sos ths N 500000 0
    else
     some (-11)
    else none
set_option maxHeartbeats 4000000 in
set_option maxRecDepth 100000 in
theorem c_X7_sum {l : Launch} {D : va_G} {cI cZ cN cC : ClassId} {h0 h1 h2 h3 h4 h5 h6 h7 h8 h9 h10 h11 h12 h13 h14 h15 : Nat} {mn : Int32} {um : Int32} {len : Int32} {plc : Int32} {srt : Int32} {frm : Int32} {num : Int32} {wrg : Int32} {cm : Int32} {mpt : Int32} {st : (Nat → Int32)} {pst : (Nat → Int32)} {kep : (Nat → Int32)} {isk : (Nat → Int32)} {pil : (Nat → Int32)} {nxs : (Nat → Int32)} {txt : (Nat → Int32)} {cls : (Nat → Int32)} {asd : (Nat → Int32)} {opn : (Nat → Int32)} {byy : (Nat → Int32)} {twc : (Nat → Int32)} {szs : (Nat → Int32)} {sos : (Nat → Int32)} {ths : (Nat → Int32)} {x1 : Int32} {x2 : Int32} {N : Nat} {res : Int32} (hf : f_X7_sum N x1 x2 szs sos ths = some res) : xMet l D (xtys cI cZ cN cC) yX7_sum cX7_sum 6 (some .int) 2 46 [.ref h0, .int x1, .int x2] (wMod cI cZ cN cC h0 h1 h2 h3 h4 h5 h6 h7 h8 h9 h10 h11 h12 h13 h14 h15 mn um len plc srt frm num wrg cm mpt st pst kep isk pil nxs txt cls asd opn byy twc szs sos ths) (wMod cI cZ cN cC h0 h1 h2 h3 h4 h5 h6 h7 h8 h9 h10 h11 h12 h13 h14 h15 mn um len plc srt frm num wrg cm mpt st pst kep isk pil nxs txt cls asd opn byy twc szs sos ths) (some (.int res)) := by
  refine x_enter (by decide) (Nat.le_of_ble_eq_true rfl) ?_
  intro p e s m args below meth c E ls hl hw
  have E : xE p s m args meth c cX7_sum 6 (some .int) RX7 D (xtys cI cZ cN cC) (xA (wMod cI cZ cN cC h0 h1 h2 h3 h4 h5 h6 h7 h8 h9 h10 h11 h12 h13 h14 h15 mn um len plc srt frm num wrg cm mpt st pst kep isk pil nxs txt cls asd opn byy twc szs sos ths)) := E
  obtain ⟨hx, hb, -⟩ := id E
  have hl : lv_has ls 6 [(0, .ref h0), (1, .int x1), (2, .int x2)] := hl
  unfold f_X7_sum at hf
  refine lv_iload_n hx hb dX7_sum_0 rfl (lv_at hl 1 rfl) ?_
  refine x_callS (isC := []) (ws' := (wMod cI cZ cN cC h0 h1 h2 h3 h4 h5 h6 h7 h8 h9 h10 h11 h12 h13 h14 h15 mn um len plc srt frm num wrg cm mpt st pst kep isk pil nxs txt cls asd opn byy twc szs sos ths)) (st1 := [.int (f_X7_isChain x1)]) (As := [.int x1]) (rest := []) E hw vc_X7_231 (c_X7_isChain (cI := cI) (cZ := cZ) (cN := cN) (cC := cC)    (x0 := x1) rfl) rfl rfl rfl rfl rfl rfl ⟨Nat.le_of_ble_eq_true rfl, Nat.le_of_ble_eq_true rfl⟩ ⟨Nat.le_refl _, Nat.le_refl _⟩ hl.1 rfl rfl (Nat.le_of_ble_eq_true rfl) dX7_sum_1 (fun H locs hw => ?_)
  refine lv_if_ne (tgt := 10) hx hb dX7_sum_4 (by decide) (fun c1 => ?_) (fun c1 => ?_)
  · rw [if_neg c1] at hf
    refine lv_iload_n hx hb dX7_sum_10 rfl (lv_at hl 2 rfl) ?_
    refine lv_iconst (v := 2) hx hb dX7_sum_11 (by decide) ?_
    refine x_callS (isC := []) (ws' := (wMod cI cZ cN cC h0 h1 h2 h3 h4 h5 h6 h7 h8 h9 h10 h11 h12 h13 h14 h15 mn um len plc srt frm num wrg cm mpt st pst kep isk pil nxs txt cls asd opn byy twc szs sos ths)) (st1 := [.int (f_X7_isOneOf x2 2)]) (As := [.int x2, .int 2]) (rest := []) E hw vc_X7_234 (c_X7_isOneOf (cI := cI) (cZ := cZ) (cN := cN) (cC := cC)    (x0 := x2) (x1 := 2) rfl) rfl rfl rfl rfl rfl rfl ⟨Nat.le_of_ble_eq_true rfl, Nat.le_of_ble_eq_true rfl⟩ ⟨Nat.le_refl _, Nat.le_refl _⟩ hl.1 rfl rfl (Nat.le_of_ble_eq_true rfl) dX7_sum_12 (fun H locs hw => ?_)
    refine lv_if_ne (tgt := 21) hx hb dX7_sum_15 (by decide) (fun c2 => ?_) (fun c2 => ?_)
    · rw [if_neg c2] at hf
      refine lv_aload_n hx hb dX7_sum_21 rfl (lv_at hl 0 rfl) ?_
      refine x_get E hw kin_X7 0 rfl rfl 22 (by decide) kF_X7_50 (v := .ref h13) rfl dX7_sum_22 ?_
      refine lv_iload_n hx hb dX7_sum_25 rfl (lv_at hl 1 rfl) ?_
      obtain ⟨g3, hf⟩ := xgd hf
      refine x_iald E hw 13 0 rfl rfl (xin_vp g3) dX7_sum_26 ?_
      refine lv_if_ge (tgt := 33) hx hb dX7_sum_27 (by decide) (fun c4 => ?_) (fun c4 => ?_)
      · rw [if_pos c4] at hf
        refine lv_ldc hx hb E.2.2.2.2.1 (E.2.2.2.2.2.1.2.use kK_X7_242) dX7_sum_33 ?_
        refine lv_istore_n (lv' := [(3, .int 500000), (0, .ref h0), (1, .int x1), (2, .int x2)]) hx hb dX7_sum_35 rfl hl (by decide) rfl (fun ls hl => ?_)
        refine lv_iconst (v := 0) hx hb dX7_sum_36 (by decide) ?_
        refine lv_istore (lv' := [(4, .int 0), (3, .int 500000), (0, .ref h0), (1, .int x1), (2, .int x2)]) hx hb dX7_sum_37 hl (by decide) rfl (fun ls hl => ?_)
        exact b_X7_sum_39 E N _ _ hf _ _ _ hw (lv_sub hl [2, 3, 4, 1, 0] rfl)
      · rw [if_neg c4] at hf
        refine lv_bipush (v := (-11)) hx hb dX7_sum_30 (by decide) ?_
        have hf := Option.some.inj hf; subst hf
        exact x_iret E hw dX7_sum_32
    · rw [if_pos c2] at hf
      refine lv_bipush (v := (-3)) hx hb dX7_sum_18 (by decide) ?_
      have hf := Option.some.inj hf; subst hf
      exact x_iret E hw dX7_sum_20
  · rw [if_pos c1] at hf
    refine lv_bipush (v := (-2)) hx hb dX7_sum_7 (by decide) ?_
    have hf := Option.some.inj hf; subst hf
    exact x_iret E hw dX7_sum_9

def f_X7_strike_115 (k46 : Int32 → Int32 → (Nat → Int32) → (Nat → Int32) → Option (Int32 × (Nat → Int32) × (Nat → Int32) × (Nat → Int32))) (x1 : Int32) (x3 : Int32) (x5 : Int32) (x6 : Int32) (t0 : Int32) (sos : (Nat → Int32)) (ths : (Nat → Int32)) : Option (Int32 × (Nat → Int32) × (Nat → Int32) × (Nat → Int32)) :=
  if t0 = 0 then
   if xin x6 24 then
   if xin ((8 * x1) + x3) 24 then
   if xin x6 24 then
   if xin ((8 * x1) + x3) 24 then
   k46 (x3 + 1) (x5 + 1) (upd sos (Int32.toNatClampNeg ((8 * x1) + x3)) (sos (Int32.toNatClampNeg x6))) (upd ths (Int32.toNatClampNeg ((8 * x1) + x3)) (ths (Int32.toNatClampNeg x6)))
   else none
   else none
   else none
   else none
  else
   k46 x3 (x5 + 1) sos ths
set_option maxHeartbeats 4000000 in
set_option maxRecDepth 100000 in
theorem b_X7_strike_115 {p : Program} {l : Launch} {e : Env} {s : State} {m : MethodId} {args : Array Value} {below : List Frame} {meth : Method} {c : Code} {D : va_G} {cI cZ cN cC : ClassId} {ws0 : va_W} {h0 h1 h2 h3 h4 h5 h6 h7 h8 h9 h10 h11 h12 h13 h14 h15 : Nat} {x1 : Int32} {x2 : Int32} {x3 : Int32} {x4 : Int32} {x5 : Int32} {x6 : Int32} {t0 : Int32} {mn : Int32} {um : Int32} {len : Int32} {plc : Int32} {srt : Int32} {frm : Int32} {num : Int32} {wrg : Int32} {cm : Int32} {mpt : Int32} {st : (Nat → Int32)} {pst : (Nat → Int32)} {kep : (Nat → Int32)} {isk : (Nat → Int32)} {pil : (Nat → Int32)} {nxs : (Nat → Int32)} {txt : (Nat → Int32)} {cls : (Nat → Int32)} {asd : (Nat → Int32)} {opn : (Nat → Int32)} {byy : (Nat → Int32)} {twc : (Nat → Int32)} {szs : (Nat → Int32)} {sos : (Nat → Int32)} {ths : (Nat → Int32)} {res : Int32 × (Nat → Int32) × (Nat → Int32) × (Nat → Int32)} (E : xE p s m args meth c cX7_strike 8 (some .int) RX7 D (xtys cI cZ cN cC) (xA ws0)) {k46 : Int32 → Int32 → (Nat → Int32) → (Nat → Int32) → Option (Int32 × (Nat → Int32) × (Nat → Int32) × (Nat → Int32))} (hk46 : ∀ (x3 : Int32) (x5 : Int32) (sos : (Nat → Int32)) (ths : (Nat → Int32)), k46 x3 x5 sos ths = some res → ∀ (H : Heap) (locs : List Loc) (ls : Array Slot), xw D (xA ws0) s.heap (wMod cI cZ cN cC h0 h1 h2 h3 h4 h5 h6 h7 h8 h9 h10 h11 h12 h13 h14 h15 mn um len plc srt frm num wrg cm mpt st pst kep isk pil nxs txt cls asd opn byy twc szs sos ths) H locs → lv_has ls 8 [(0, .ref h0), (1, .int x1), (2, .int x2), (3, .int x3), (4, .int x4), (5, .int x5)] → xG p l e 4 90 s m args below meth c D ws0 (wMod cI cZ cN cC h0 h1 h2 h3 h4 h5 h6 h7 h8 h9 h10 h11 h12 h13 h14 h15 mn um len plc srt frm num wrg cm mpt st pst kep isk pil nxs txt cls asd opn byy twc res.2.1 res.2.2.1 res.2.2.2) (some (.int res.1)) H locs (F0 m 46 ls [])) : f_X7_strike_115 k46 x1 x3 x5 x6 t0 sos ths = some res → ∀ (H : Heap) (locs : List Loc) (ls : Array Slot), xw D (xA ws0) s.heap (wMod cI cZ cN cC h0 h1 h2 h3 h4 h5 h6 h7 h8 h9 h10 h11 h12 h13 h14 h15 mn um len plc srt frm num wrg cm mpt st pst kep isk pil nxs txt cls asd opn byy twc szs sos ths) H locs → lv_has ls 8 [(0, .ref h0), (1, .int x1), (2, .int x2), (3, .int x3), (4, .int x4), (5, .int x5), (6, .int x6)] → xG p l e 4 90 s m args below meth c D ws0 (wMod cI cZ cN cC h0 h1 h2 h3 h4 h5 h6 h7 h8 h9 h10 h11 h12 h13 h14 h15 mn um len plc srt frm num wrg cm mpt st pst kep isk pil nxs txt cls asd opn byy twc res.2.1 res.2.2.1 res.2.2.2) (some (.int res.1)) H locs (F0 m 115 ls [.int t0]) := by
  obtain ⟨hx, hb, -⟩ := id E
  intro hf H locs ls hw hl
  unfold f_X7_strike_115 at hf
  refine lv_istore (lv' := [(7, .int t0), (0, .ref h0), (1, .int x1), (2, .int x2), (3, .int x3), (4, .int x4), (5, .int x5), (6, .int x6)]) hx hb dX7_strike_115 hl (by decide) rfl (fun ls hl => ?_)
  refine lv_iload hx hb dX7_strike_117 (lv_at hl 0 rfl) ?_
  refine lv_if_ne (tgt := 161) hx hb dX7_strike_119 (by decide) (fun c16 => ?_) (fun c16 => ?_)
  · rw [if_neg c16] at hf
    refine lv_iinc (v := (x5 + 1)) (lv' := [(5, .int (x5 + 1)), (7, .int t0), (0, .ref h0), (1, .int x1), (2, .int x2), (3, .int x3), (4, .int x4), (6, .int x6)]) hx hb dX7_strike_161 hl (k := 6) rfl rfl (by decide) rfl (fun ls hl => ?_)
    refine lv_goto (tgt := 46) hx hb dX7_strike_164 (by decide) ?_
    exact hk46 _ _ _ _ hf _ _ _ hw (lv_sub hl [2, 3, 4, 5, 6, 0] rfl)
  · rw [if_pos c16] at hf
    refine lv_aload_n hx hb dX7_strike_122 rfl (lv_at hl 1 rfl) ?_
    refine x_get E hw kin_X7 0 rfl rfl 23 (by decide) kF_X7_53 (v := .ref h14) rfl dX7_strike_123 ?_
    refine lv_bipush (v := 8) hx hb dX7_strike_126 (by decide) ?_
    refine lv_iload_n hx hb dX7_strike_128 rfl (lv_at hl 2 rfl) ?_
    refine lv_imul hx hb dX7_strike_129 ?_
    refine lv_iload_n hx hb dX7_strike_130 rfl (lv_at hl 4 rfl) ?_
    refine lv_iadd hx hb dX7_strike_131 ?_
    refine lv_aload_n hx hb dX7_strike_132 rfl (lv_at hl 1 rfl) ?_
    refine x_get E hw kin_X7 0 rfl rfl 23 (by decide) kF_X7_53 (v := .ref h14) rfl dX7_strike_133 ?_
    refine lv_iload hx hb dX7_strike_136 (lv_at hl 7 rfl) ?_
    obtain ⟨g17, hf⟩ := xgd hf
    refine x_iald E hw 14 0 rfl rfl (xin_vp g17) dX7_strike_138 ?_
    obtain ⟨g18, hf⟩ := xgd hf
    refine x_iast (ws' := (wMod cI cZ cN cC h0 h1 h2 h3 h4 h5 h6 h7 h8 h9 h10 h11 h12 h13 h14 h15 mn um len plc srt frm num wrg cm mpt st pst kep isk pil nxs txt cls asd opn byy twc szs (upd sos (Int32.toNatClampNeg ((8 * x1) + x3)) (sos (Int32.toNatClampNeg x6))) ths)) E hw 14 0 rfl rfl (xin_vp g18) rfl dX7_strike_139 (fun H locs hw => ?_)
    refine lv_aload_n hx hb dX7_strike_140 rfl (lv_at hl 1 rfl) ?_
    refine x_get E hw kin_X7 0 rfl rfl 24 (by decide) kF_X7_56 (v := .ref h15) rfl dX7_strike_141 ?_
    refine lv_bipush (v := 8) hx hb dX7_strike_144 (by decide) ?_
    refine lv_iload_n hx hb dX7_strike_146 rfl (lv_at hl 2 rfl) ?_
    refine lv_imul hx hb dX7_strike_147 ?_
    refine lv_iload_n hx hb dX7_strike_148 rfl (lv_at hl 4 rfl) ?_
    refine lv_iadd hx hb dX7_strike_149 ?_
    refine lv_aload_n hx hb dX7_strike_150 rfl (lv_at hl 1 rfl) ?_
    refine x_get E hw kin_X7 0 rfl rfl 24 (by decide) kF_X7_56 (v := .ref h15) rfl dX7_strike_151 ?_
    refine lv_iload hx hb dX7_strike_154 (lv_at hl 7 rfl) ?_
    obtain ⟨g19, hf⟩ := xgd hf
    refine x_iald E hw 15 0 rfl rfl (xin_vp g19) dX7_strike_156 ?_
    obtain ⟨g20, hf⟩ := xgd hf
    refine x_iast (ws' := (wMod cI cZ cN cC h0 h1 h2 h3 h4 h5 h6 h7 h8 h9 h10 h11 h12 h13 h14 h15 mn um len plc srt frm num wrg cm mpt st pst kep isk pil nxs txt cls asd opn byy twc szs (upd sos (Int32.toNatClampNeg ((8 * x1) + x3)) (sos (Int32.toNatClampNeg x6))) (upd ths (Int32.toNatClampNeg ((8 * x1) + x3)) (ths (Int32.toNatClampNeg x6))))) E hw 15 0 rfl rfl (xin_vp g20) rfl dX7_strike_157 (fun H locs hw => ?_)
    refine lv_iinc (v := (x3 + 1)) (lv' := [(3, .int (x3 + 1)), (7, .int t0), (0, .ref h0), (1, .int x1), (2, .int x2), (4, .int x4), (5, .int x5), (6, .int x6)]) hx hb dX7_strike_158 hl (k := 4) rfl rfl (by decide) rfl (fun ls hl => ?_)
    refine lv_iinc (v := (x5 + 1)) (lv' := [(5, .int (x5 + 1)), (3, .int (x3 + 1)), (7, .int t0), (0, .ref h0), (1, .int x1), (2, .int x2), (4, .int x4), (6, .int x6)]) hx hb dX7_strike_161 hl (k := 6) rfl rfl (by decide) rfl (fun ls hl => ?_)
    refine lv_goto (tgt := 46) hx hb dX7_strike_164 (by decide) ?_
    exact hk46 _ _ _ _ hf _ _ _ hw (lv_sub hl [3, 4, 5, 1, 6, 0] rfl)
def f_X7_strike_46 (x1 : Int32) (x2 : Int32) (x4 : Int32) (mn : Int32) (st : (Nat → Int32)) (szs : (Nat → Int32)) : Nat → Int32 → Int32 → (Nat → Int32) → (Nat → Int32) → Option (Int32 × (Nat → Int32) × (Nat → Int32) × (Nat → Int32))
  | 0, _, _, _, _ => none
  | n + 1, x3, x5, sos, ths =>
    if x4 ≤ x5 then
     if xin x1 3 then
     some ((x4 - x3), (upd szs (Int32.toNatClampNeg x1) x3), sos, ths)
     else none
    else
     if xin ((8 * x1) + x5) 24 then
     if (sos (Int32.toNatClampNeg ((8 * x1) + x5))) = 1 then
      if xin ((8 * x1) + x5) 24 then
      if xin ((8 * x1) + x5) 24 then
      (f_X7_isArc ((ths (Int32.toNatClampNeg ((8 * x1) + x5))) / 10) ((ths (Int32.toNatClampNeg ((8 * x1) + x5))) - ((ths (Int32.toNatClampNeg ((8 * x1) + x5))) / 10) * 10) mn st).bind fun q12 =>
      if x2 = 1 then
       if q12 = 1 then
        f_X7_strike_115 (fun x3 x5 sos ths => f_X7_strike_46 x1 x2 x4 mn st szs n x3 x5 sos ths) x1 x3 x5 ((8 * x1) + x5) 1 sos ths
       else
        f_X7_strike_115 (fun x3 x5 sos ths => f_X7_strike_46 x1 x2 x4 mn st szs n x3 x5 sos ths) x1 x3 x5 ((8 * x1) + x5) 0 sos ths
      else
       if q12 = 0 then
        f_X7_strike_115 (fun x3 x5 sos ths => f_X7_strike_46 x1 x2 x4 mn st szs n x3 x5 sos ths) x1 x3 x5 ((8 * x1) + x5) 1 sos ths
       else
        f_X7_strike_115 (fun x3 x5 sos ths => f_X7_strike_46 x1 x2 x4 mn st szs n x3 x5 sos ths) x1 x3 x5 ((8 * x1) + x5) 0 sos ths
      else none
      else none
     else
      f_X7_strike_115 (fun x3 x5 sos ths => f_X7_strike_46 x1 x2 x4 mn st szs n x3 x5 sos ths) x1 x3 x5 ((8 * x1) + x5) 0 sos ths
     else none
set_option maxHeartbeats 4000000 in
set_option maxRecDepth 100000 in
theorem b_X7_strike_46 {p : Program} {l : Launch} {e : Env} {s : State} {m : MethodId} {args : Array Value} {below : List Frame} {meth : Method} {c : Code} {D : va_G} {cI cZ cN cC : ClassId} {ws0 : va_W} {h0 h1 h2 h3 h4 h5 h6 h7 h8 h9 h10 h11 h12 h13 h14 h15 : Nat} {x1 : Int32} {x2 : Int32} {x4 : Int32} {mn : Int32} {um : Int32} {len : Int32} {plc : Int32} {srt : Int32} {frm : Int32} {num : Int32} {wrg : Int32} {cm : Int32} {mpt : Int32} {st : (Nat → Int32)} {pst : (Nat → Int32)} {kep : (Nat → Int32)} {isk : (Nat → Int32)} {pil : (Nat → Int32)} {nxs : (Nat → Int32)} {txt : (Nat → Int32)} {cls : (Nat → Int32)} {asd : (Nat → Int32)} {opn : (Nat → Int32)} {byy : (Nat → Int32)} {twc : (Nat → Int32)} {szs : (Nat → Int32)} {res : Int32 × (Nat → Int32) × (Nat → Int32) × (Nat → Int32)} (E : xE p s m args meth c cX7_strike 8 (some .int) RX7 D (xtys cI cZ cN cC) (xA ws0)) : ∀ (n : Nat) (x3 : Int32) (x5 : Int32) (sos : (Nat → Int32)) (ths : (Nat → Int32)), f_X7_strike_46 x1 x2 x4 mn st szs n x3 x5 sos ths = some res → ∀ (H : Heap) (locs : List Loc) (ls : Array Slot), xw D (xA ws0) s.heap (wMod cI cZ cN cC h0 h1 h2 h3 h4 h5 h6 h7 h8 h9 h10 h11 h12 h13 h14 h15 mn um len plc srt frm num wrg cm mpt st pst kep isk pil nxs txt cls asd opn byy twc szs sos ths) H locs → lv_has ls 8 [(0, .ref h0), (1, .int x1), (2, .int x2), (3, .int x3), (4, .int x4), (5, .int x5)] → xG p l e 4 90 s m args below meth c D ws0 (wMod cI cZ cN cC h0 h1 h2 h3 h4 h5 h6 h7 h8 h9 h10 h11 h12 h13 h14 h15 mn um len plc srt frm num wrg cm mpt st pst kep isk pil nxs txt cls asd opn byy twc res.2.1 res.2.2.1 res.2.2.2) (some (.int res.1)) H locs (F0 m 46 ls []) := by
  obtain ⟨hx, hb, -⟩ := id E
  intro n
  induction n with
  | zero =>
    intro _ _ _ _ hf
    rw [f_X7_strike_46] at hf; cases hf
  | succ n ih =>
    intro x3 x5 sos ths hf H locs ls hw hl
    rw [f_X7_strike_46] at hf
    refine lv_iload hx hb dX7_strike_46 (lv_at hl 5 rfl) ?_
    refine lv_iload hx hb dX7_strike_48 (lv_at hl 4 rfl) ?_
    refine lv_icmp_ge (tgt := 167) hx hb dX7_strike_50 (by decide) (fun c6 => ?_) (fun c6 => ?_)
    · rw [if_pos c6] at hf
      refine lv_aload_n hx hb dX7_strike_167 rfl (lv_at hl 0 rfl) ?_
      refine x_get E hw kin_X7 0 rfl rfl 22 (by decide) kF_X7_50 (v := .ref h13) rfl dX7_strike_168 ?_
      refine lv_iload_n hx hb dX7_strike_171 rfl (lv_at hl 1 rfl) ?_
      refine lv_iload_n hx hb dX7_strike_172 rfl (lv_at hl 3 rfl) ?_
      obtain ⟨g7, hf⟩ := xgd hf
      refine x_iast (ws' := (wMod cI cZ cN cC h0 h1 h2 h3 h4 h5 h6 h7 h8 h9 h10 h11 h12 h13 h14 h15 mn um len plc srt frm num wrg cm mpt st pst kep isk pil nxs txt cls asd opn byy twc (upd szs (Int32.toNatClampNeg x1) x3) sos ths)) E hw 13 0 rfl rfl (xin_vp g7) rfl dX7_strike_173 (fun H locs hw => ?_)
      refine lv_iload hx hb dX7_strike_174 (lv_at hl 4 rfl) ?_
      refine lv_iload_n hx hb dX7_strike_176 rfl (lv_at hl 3 rfl) ?_
      refine lv_isub hx hb dX7_strike_177 ?_
      have hf := Option.some.inj hf; subst hf
      exact x_iret E hw dX7_strike_178
    · rw [if_neg c6] at hf
      refine lv_bipush (v := 8) hx hb dX7_strike_53 (by decide) ?_
      refine lv_iload_n hx hb dX7_strike_55 rfl (lv_at hl 1 rfl) ?_
      refine lv_imul hx hb dX7_strike_56 ?_
      refine lv_iload hx hb dX7_strike_57 (lv_at hl 5 rfl) ?_
      refine lv_iadd hx hb dX7_strike_59 ?_
      refine lv_istore (lv' := [(6, .int ((8 * x1) + x5)), (0, .ref h0), (1, .int x1), (2, .int x2), (3, .int x3), (4, .int x4), (5, .int x5)]) hx hb dX7_strike_60 hl (by decide) rfl (fun ls hl => ?_)
      refine lv_aload_n hx hb dX7_strike_62 rfl (lv_at hl 1 rfl) ?_
      refine x_get E hw kin_X7 0 rfl rfl 23 (by decide) kF_X7_53 (v := .ref h14) rfl dX7_strike_63 ?_
      refine lv_iload hx hb dX7_strike_66 (lv_at hl 0 rfl) ?_
      obtain ⟨g8, hf⟩ := xgd hf
      refine x_iald E hw 14 0 rfl rfl (xin_vp g8) dX7_strike_68 ?_
      refine lv_iconst (v := 1) hx hb dX7_strike_69 (by decide) ?_
      refine lv_icmp_ne (tgt := 114) hx hb dX7_strike_70 (by decide) (fun c9 => ?_) (fun c9 => ?_)
      · rw [if_neg c9] at hf
        refine lv_iconst (v := 0) hx hb dX7_strike_114 (by decide) ?_
        exact b_X7_strike_115 E ih  hf _ _ _ hw (lv_sub hl [1, 2, 3, 4, 5, 6, 0] rfl)
      · rw [if_pos c9] at hf
        refine lv_aload_n hx hb dX7_strike_73 rfl (lv_at hl 1 rfl) ?_
        refine lv_aload_n hx hb dX7_strike_74 rfl (lv_at hl 1 rfl) ?_
        refine x_get E hw kin_X7 0 rfl rfl 24 (by decide) kF_X7_56 (v := .ref h15) rfl dX7_strike_75 ?_
        refine lv_iload hx hb dX7_strike_78 (lv_at hl 0 rfl) ?_
        obtain ⟨g10, hf⟩ := xgd hf
        refine x_iald E hw 15 0 rfl rfl (xin_vp g10) dX7_strike_80 ?_
        refine lv_bipush (v := 10) hx hb dX7_strike_81 (by decide) ?_
        refine lv_idiv hx hb dX7_strike_83 (by decide) ?_
        refine lv_aload_n hx hb dX7_strike_84 rfl (lv_at hl 1 rfl) ?_
        refine x_get E hw kin_X7 0 rfl rfl 24 (by decide) kF_X7_56 (v := .ref h15) rfl dX7_strike_85 ?_
        refine lv_iload hx hb dX7_strike_88 (lv_at hl 0 rfl) ?_
        obtain ⟨g11, hf⟩ := xgd hf
        refine x_iald E hw 15 0 rfl rfl (xin_vp g11) dX7_strike_90 ?_
        refine lv_bipush (v := 10) hx hb dX7_strike_91 (by decide) ?_
        refine lv_irem hx hb dX7_strike_93 (by decide) ?_
        obtain ⟨q12, hq12, hf⟩ := Option.bind_eq_some_iff.mp hf
        refine x_callVI (ws' := (wMod cI cZ cN cC h0 h1 h2 h3 h4 h5 h6 h7 h8 h9 h10 h11 h12 h13 h14 h15 mn um len plc srt frm num wrg cm mpt st pst kep isk pil nxs txt cls asd opn byy twc szs sos ths)) (st1 := [.int q12]) (As := [.int ((ths (Int32.toNatClampNeg ((8 * x1) + x5))) / 10), .int ((ths (Int32.toNatClampNeg ((8 * x1) + x5))) - ((ths (Int32.toNatClampNeg ((8 * x1) + x5))) / 10) * 10)]) (rest := []) E hw vc_X7_171 (c_X7_isArc (cI := cI) (cZ := cZ) (cN := cN) (cC := cC) (h0 := h0) (h1 := h1) (h2 := h2) (h3 := h3) (h4 := h4) (h5 := h5) (h6 := h6) (h7 := h7) (h8 := h8) (h9 := h9) (h10 := h10) (h11 := h11) (h12 := h12) (h13 := h13) (h14 := h14) (h15 := h15)  (mn := mn) (um := um) (len := len) (plc := plc) (srt := srt) (frm := frm) (num := num) (wrg := wrg) (cm := cm) (mpt := mpt) (st := st) (pst := pst) (kep := kep) (isk := isk) (pil := pil) (nxs := nxs) (txt := txt) (cls := cls) (asd := asd) (opn := opn) (byy := byy) (twc := twc) (szs := szs) (sos := sos) (ths := ths) (x1 := ((ths (Int32.toNatClampNeg ((8 * x1) + x5))) / 10)) (x2 := ((ths (Int32.toNatClampNeg ((8 * x1) + x5))) - ((ths (Int32.toNatClampNeg ((8 * x1) + x5))) / 10) * 10)) hq12) 0 7 rfl rfl rfl rfl rfl ⟨Nat.le_of_ble_eq_true rfl, Nat.le_of_ble_eq_true rfl⟩ ⟨Nat.le_refl _, Nat.le_refl _⟩ hl.1 rfl rfl (Nat.le_of_ble_eq_true rfl) dX7_strike_94 (fun H locs hw => ?_)
        refine lv_iload_n hx hb dX7_strike_97 rfl (lv_at hl 3 rfl) ?_
        refine lv_iconst (v := 1) hx hb dX7_strike_98 (by decide) ?_
        refine lv_icmp_ne (tgt := 106) hx hb dX7_strike_99 (by decide) (fun c13 => ?_) (fun c13 => ?_)
        · rw [if_neg c13] at hf
          refine lv_iconst (v := 0) hx hb dX7_strike_106 (by decide) ?_
          refine lv_icmp_ne (tgt := 114) hx hb dX7_strike_107 (by decide) (fun c14 => ?_) (fun c14 => ?_)
          · rw [if_neg c14] at hf
            refine lv_iconst (v := 0) hx hb dX7_strike_114 (by decide) ?_
            exact b_X7_strike_115 E ih  hf _ _ _ hw (lv_sub hl [1, 2, 3, 4, 5, 6, 0] rfl)
          · rw [if_pos c14] at hf
            refine lv_iconst (v := 1) hx hb dX7_strike_110 (by decide) ?_
            refine lv_goto (tgt := 115) hx hb dX7_strike_111 (by decide) ?_
            exact b_X7_strike_115 E ih  hf _ _ _ hw (lv_sub hl [1, 2, 3, 4, 5, 6, 0] rfl)
        · rw [if_pos c13] at hf
          refine lv_iconst (v := 1) hx hb dX7_strike_102 (by decide) ?_
          refine lv_goto (tgt := 107) hx hb dX7_strike_103 (by decide) ?_
          refine lv_icmp_ne (tgt := 114) hx hb dX7_strike_107 (by decide) (fun c15 => ?_) (fun c15 => ?_)
          · rw [if_neg c15] at hf
            refine lv_iconst (v := 0) hx hb dX7_strike_114 (by decide) ?_
            exact b_X7_strike_115 E ih  hf _ _ _ hw (lv_sub hl [1, 2, 3, 4, 5, 6, 0] rfl)
          · rw [if_pos c15] at hf
            refine lv_iconst (v := 1) hx hb dX7_strike_110 (by decide) ?_
            refine lv_goto (tgt := 115) hx hb dX7_strike_111 (by decide) ?_
            exact b_X7_strike_115 E ih  hf _ _ _ hw (lv_sub hl [1, 2, 3, 4, 5, 6, 0] rfl)
def f_X7_strike (N : Nat) (x1 : Int32) (x2 : Int32) (mn : Int32) (st : (Nat → Int32)) (szs : (Nat → Int32)) (sos : (Nat → Int32)) (ths : (Nat → Int32)) : Option (Int32 × (Nat → Int32) × (Nat → Int32) × (Nat → Int32)) :=
  if (f_X7_isChain x1) = 0 then
   some ((-2), szs, sos, ths)
  else
   if (f_X7_isOneOf x2 1) = 0 then
    some ((-3), szs, sos, ths)
   else
    if xin x1 3 then
    if 0 ≤ (szs (Int32.toNatClampNeg x1)) then
     if xin x1 3 then
     f_X7_strike_46 x1 x2 (szs (Int32.toNatClampNeg x1)) mn st szs N 0 0 sos ths
     else none
    else
     some ((-11), szs, sos, ths)
    else none
set_option maxHeartbeats 4000000 in
set_option maxRecDepth 100000 in
theorem c_X7_strike {l : Launch} {D : va_G} {cI cZ cN cC : ClassId} {h0 h1 h2 h3 h4 h5 h6 h7 h8 h9 h10 h11 h12 h13 h14 h15 : Nat} {mn : Int32} {um : Int32} {len : Int32} {plc : Int32} {srt : Int32} {frm : Int32} {num : Int32} {wrg : Int32} {cm : Int32} {mpt : Int32} {st : (Nat → Int32)} {pst : (Nat → Int32)} {kep : (Nat → Int32)} {isk : (Nat → Int32)} {pil : (Nat → Int32)} {nxs : (Nat → Int32)} {txt : (Nat → Int32)} {cls : (Nat → Int32)} {asd : (Nat → Int32)} {opn : (Nat → Int32)} {byy : (Nat → Int32)} {twc : (Nat → Int32)} {szs : (Nat → Int32)} {sos : (Nat → Int32)} {ths : (Nat → Int32)} {x1 : Int32} {x2 : Int32} {N : Nat} {res : Int32 × (Nat → Int32) × (Nat → Int32) × (Nat → Int32)} (hf : f_X7_strike N x1 x2 mn st szs sos ths = some res) : xMet l D (xtys cI cZ cN cC) yX7_strike cX7_strike 8 (some .int) 4 90 [.ref h0, .int x1, .int x2] (wMod cI cZ cN cC h0 h1 h2 h3 h4 h5 h6 h7 h8 h9 h10 h11 h12 h13 h14 h15 mn um len plc srt frm num wrg cm mpt st pst kep isk pil nxs txt cls asd opn byy twc szs sos ths) (wMod cI cZ cN cC h0 h1 h2 h3 h4 h5 h6 h7 h8 h9 h10 h11 h12 h13 h14 h15 mn um len plc srt frm num wrg cm mpt st pst kep isk pil nxs txt cls asd opn byy twc res.2.1 res.2.2.1 res.2.2.2) (some (.int res.1)) := by
  refine x_enter (by decide) (Nat.le_of_ble_eq_true rfl) ?_
  intro p e s m args below meth c E ls hl hw
  have E : xE p s m args meth c cX7_strike 8 (some .int) RX7 D (xtys cI cZ cN cC) (xA (wMod cI cZ cN cC h0 h1 h2 h3 h4 h5 h6 h7 h8 h9 h10 h11 h12 h13 h14 h15 mn um len plc srt frm num wrg cm mpt st pst kep isk pil nxs txt cls asd opn byy twc szs sos ths)) := E
  obtain ⟨hx, hb, -⟩ := id E
  have hl : lv_has ls 8 [(0, .ref h0), (1, .int x1), (2, .int x2)] := hl
  unfold f_X7_strike at hf
  refine lv_iload_n hx hb dX7_strike_0 rfl (lv_at hl 1 rfl) ?_
  refine x_callS (isC := []) (ws' := (wMod cI cZ cN cC h0 h1 h2 h3 h4 h5 h6 h7 h8 h9 h10 h11 h12 h13 h14 h15 mn um len plc srt frm num wrg cm mpt st pst kep isk pil nxs txt cls asd opn byy twc szs sos ths)) (st1 := [.int (f_X7_isChain x1)]) (As := [.int x1]) (rest := []) E hw vc_X7_231 (c_X7_isChain (cI := cI) (cZ := cZ) (cN := cN) (cC := cC)    (x0 := x1) rfl) rfl rfl rfl rfl rfl rfl ⟨Nat.le_of_ble_eq_true rfl, Nat.le_of_ble_eq_true rfl⟩ ⟨Nat.le_refl _, Nat.le_refl _⟩ hl.1 rfl rfl (Nat.le_of_ble_eq_true rfl) dX7_strike_1 (fun H locs hw => ?_)
  refine lv_if_ne (tgt := 10) hx hb dX7_strike_4 (by decide) (fun c1 => ?_) (fun c1 => ?_)
  · rw [if_neg c1] at hf
    refine lv_iload_n hx hb dX7_strike_10 rfl (lv_at hl 2 rfl) ?_
    refine lv_iconst (v := 1) hx hb dX7_strike_11 (by decide) ?_
    refine x_callS (isC := []) (ws' := (wMod cI cZ cN cC h0 h1 h2 h3 h4 h5 h6 h7 h8 h9 h10 h11 h12 h13 h14 h15 mn um len plc srt frm num wrg cm mpt st pst kep isk pil nxs txt cls asd opn byy twc szs sos ths)) (st1 := [.int (f_X7_isOneOf x2 1)]) (As := [.int x2, .int 1]) (rest := []) E hw vc_X7_234 (c_X7_isOneOf (cI := cI) (cZ := cZ) (cN := cN) (cC := cC)    (x0 := x2) (x1 := 1) rfl) rfl rfl rfl rfl rfl rfl ⟨Nat.le_of_ble_eq_true rfl, Nat.le_of_ble_eq_true rfl⟩ ⟨Nat.le_refl _, Nat.le_refl _⟩ hl.1 rfl rfl (Nat.le_of_ble_eq_true rfl) dX7_strike_12 (fun H locs hw => ?_)
    refine lv_if_ne (tgt := 21) hx hb dX7_strike_15 (by decide) (fun c2 => ?_) (fun c2 => ?_)
    · rw [if_neg c2] at hf
      refine lv_aload_n hx hb dX7_strike_21 rfl (lv_at hl 0 rfl) ?_
      refine x_get E hw kin_X7 0 rfl rfl 22 (by decide) kF_X7_50 (v := .ref h13) rfl dX7_strike_22 ?_
      refine lv_iload_n hx hb dX7_strike_25 rfl (lv_at hl 1 rfl) ?_
      obtain ⟨g3, hf⟩ := xgd hf
      refine x_iald E hw 13 0 rfl rfl (xin_vp g3) dX7_strike_26 ?_
      refine lv_if_ge (tgt := 33) hx hb dX7_strike_27 (by decide) (fun c4 => ?_) (fun c4 => ?_)
      · rw [if_pos c4] at hf
        refine lv_iconst (v := 0) hx hb dX7_strike_33 (by decide) ?_
        refine lv_istore_n (lv' := [(3, .int 0), (0, .ref h0), (1, .int x1), (2, .int x2)]) hx hb dX7_strike_34 rfl hl (by decide) rfl (fun ls hl => ?_)
        refine lv_aload_n hx hb dX7_strike_35 rfl (lv_at hl 1 rfl) ?_
        refine x_get E hw kin_X7 0 rfl rfl 22 (by decide) kF_X7_50 (v := .ref h13) rfl dX7_strike_36 ?_
        refine lv_iload_n hx hb dX7_strike_39 rfl (lv_at hl 2 rfl) ?_
        obtain ⟨g5, hf⟩ := xgd hf
        refine x_iald E hw 13 0 rfl rfl (xin_vp g5) dX7_strike_40 ?_
        refine lv_istore (lv' := [(4, .int (szs (Int32.toNatClampNeg x1))), (3, .int 0), (0, .ref h0), (1, .int x1), (2, .int x2)]) hx hb dX7_strike_41 hl (by decide) rfl (fun ls hl => ?_)
        refine lv_iconst (v := 0) hx hb dX7_strike_43 (by decide) ?_
        refine lv_istore (lv' := [(5, .int 0), (4, .int (szs (Int32.toNatClampNeg x1))), (3, .int 0), (0, .ref h0), (1, .int x1), (2, .int x2)]) hx hb dX7_strike_44 hl (by decide) rfl (fun ls hl => ?_)
        exact b_X7_strike_46 E N _ _ _ _ hf _ _ _ hw (lv_sub hl [3, 4, 5, 2, 1, 0] rfl)
      · rw [if_neg c4] at hf
        refine lv_bipush (v := (-11)) hx hb dX7_strike_30 (by decide) ?_
        have hf := Option.some.inj hf; subst hf
        exact x_iret E hw dX7_strike_32
    · rw [if_pos c2] at hf
      refine lv_bipush (v := (-3)) hx hb dX7_strike_18 (by decide) ?_
      have hf := Option.some.inj hf; subst hf
      exact x_iret E hw dX7_strike_20
  · rw [if_pos c1] at hf
    refine lv_bipush (v := (-2)) hx hb dX7_strike_7 (by decide) ?_
    have hf := Option.some.inj hf; subst hf
    exact x_iret E hw dX7_strike_9

def f_X7_append_64 (x1 : Int32) (x2 : Int32) (x3 : Int32) : Nat → Int32 → (Nat → Int32) → (Nat → Int32) → (Nat → Int32) → Option (Int32 × (Nat → Int32) × (Nat → Int32) × (Nat → Int32))
  | 0, _, _, _, _ => none
  | n + 1, x4, szs, sos, ths =>
    if x3 ≤ x4 then
     if xin x2 3 then
     some ((szs (Int32.toNatClampNeg x2)), szs, sos, ths)
     else none
    else
     if xin x2 3 then
     if xin ((8 * x1) + x4) 24 then
     if xin ((8 * x2) + (szs (Int32.toNatClampNeg x2))) 24 then
     if xin x2 3 then
     if xin ((8 * x1) + x4) 24 then
     if xin ((8 * x2) + (szs (Int32.toNatClampNeg x2))) 24 then
     if xin x2 3 then
     if xin x2 3 then
     f_X7_append_64 x1 x2 x3 n (x4 + 1) (upd szs (Int32.toNatClampNeg x2) ((szs (Int32.toNatClampNeg x2)) + 1)) (upd sos (Int32.toNatClampNeg ((8 * x2) + (szs (Int32.toNatClampNeg x2)))) (sos (Int32.toNatClampNeg ((8 * x1) + x4)))) (upd ths (Int32.toNatClampNeg ((8 * x2) + (szs (Int32.toNatClampNeg x2)))) (ths (Int32.toNatClampNeg ((8 * x1) + x4))))
     else none
     else none
     else none
     else none
     else none
     else none
     else none
     else none
set_option maxHeartbeats 4000000 in
set_option maxRecDepth 100000 in
theorem b_X7_append_64 {p : Program} {l : Launch} {e : Env} {s : State} {m : MethodId} {args : Array Value} {below : List Frame} {meth : Method} {c : Code} {D : va_G} {cI cZ cN cC : ClassId} {ws0 : va_W} {h0 h1 h2 h3 h4 h5 h6 h7 h8 h9 h10 h11 h12 h13 h14 h15 : Nat} {x1 : Int32} {x2 : Int32} {x3 : Int32} {mn : Int32} {um : Int32} {len : Int32} {plc : Int32} {srt : Int32} {frm : Int32} {num : Int32} {wrg : Int32} {cm : Int32} {mpt : Int32} {st : (Nat → Int32)} {pst : (Nat → Int32)} {kep : (Nat → Int32)} {isk : (Nat → Int32)} {pil : (Nat → Int32)} {nxs : (Nat → Int32)} {txt : (Nat → Int32)} {cls : (Nat → Int32)} {asd : (Nat → Int32)} {opn : (Nat → Int32)} {byy : (Nat → Int32)} {twc : (Nat → Int32)} {res : Int32 × (Nat → Int32) × (Nat → Int32) × (Nat → Int32)} (E : xE p s m args meth c cX7_append 5 (some .int) RX7 D (xtys cI cZ cN cC) (xA ws0)) : ∀ (n : Nat) (x4 : Int32) (szs : (Nat → Int32)) (sos : (Nat → Int32)) (ths : (Nat → Int32)), f_X7_append_64 x1 x2 x3 n x4 szs sos ths = some res → ∀ (H : Heap) (locs : List Loc) (ls : Array Slot), xw D (xA ws0) s.heap (wMod cI cZ cN cC h0 h1 h2 h3 h4 h5 h6 h7 h8 h9 h10 h11 h12 h13 h14 h15 mn um len plc srt frm num wrg cm mpt st pst kep isk pil nxs txt cls asd opn byy twc szs sos ths) H locs → lv_has ls 5 [(0, .ref h0), (1, .int x1), (2, .int x2), (3, .int x3), (4, .int x4)] → xG p l e 2 45 s m args below meth c D ws0 (wMod cI cZ cN cC h0 h1 h2 h3 h4 h5 h6 h7 h8 h9 h10 h11 h12 h13 h14 h15 mn um len plc srt frm num wrg cm mpt st pst kep isk pil nxs txt cls asd opn byy twc res.2.1 res.2.2.1 res.2.2.2) (some (.int res.1)) H locs (F0 m 64 ls []) := by
  obtain ⟨hx, hb, -⟩ := id E
  intro n
  induction n with
  | zero =>
    intro _ _ _ _ hf
    rw [f_X7_append_64] at hf; cases hf
  | succ n ih =>
    intro x4 szs sos ths hf H locs ls hw hl
    rw [f_X7_append_64] at hf
    refine lv_iload hx hb dX7_append_64 (lv_at hl 4 rfl) ?_
    refine lv_iload_n hx hb dX7_append_66 rfl (lv_at hl 3 rfl) ?_
    refine lv_icmp_ge (tgt := 142) hx hb dX7_append_67 (by decide) (fun c10 => ?_) (fun c10 => ?_)
    · rw [if_pos c10] at hf
      refine lv_aload_n hx hb dX7_append_142 rfl (lv_at hl 0 rfl) ?_
      refine x_get E hw kin_X7 0 rfl rfl 22 (by decide) kF_X7_50 (v := .ref h13) rfl dX7_append_143 ?_
      refine lv_iload_n hx hb dX7_append_146 rfl (lv_at hl 2 rfl) ?_
      obtain ⟨g11, hf⟩ := xgd hf
      refine x_iald E hw 13 0 rfl rfl (xin_vp g11) dX7_append_147 ?_
      have hf := Option.some.inj hf; subst hf
      exact x_iret E hw dX7_append_148
    · rw [if_neg c10] at hf
      refine lv_aload_n hx hb dX7_append_70 rfl (lv_at hl 0 rfl) ?_
      refine x_get E hw kin_X7 0 rfl rfl 23 (by decide) kF_X7_53 (v := .ref h14) rfl dX7_append_71 ?_
      refine lv_bipush (v := 8) hx hb dX7_append_74 (by decide) ?_
      refine lv_iload_n hx hb dX7_append_76 rfl (lv_at hl 2 rfl) ?_
      refine lv_imul hx hb dX7_append_77 ?_
      refine lv_aload_n hx hb dX7_append_78 rfl (lv_at hl 0 rfl) ?_
      refine x_get E hw kin_X7 0 rfl rfl 22 (by decide) kF_X7_50 (v := .ref h13) rfl dX7_append_79 ?_
      refine lv_iload_n hx hb dX7_append_82 rfl (lv_at hl 2 rfl) ?_
      obtain ⟨g12, hf⟩ := xgd hf
      refine x_iald E hw 13 0 rfl rfl (xin_vp g12) dX7_append_83 ?_
      refine lv_iadd hx hb dX7_append_84 ?_
      refine lv_aload_n hx hb dX7_append_85 rfl (lv_at hl 0 rfl) ?_
      refine x_get E hw kin_X7 0 rfl rfl 23 (by decide) kF_X7_53 (v := .ref h14) rfl dX7_append_86 ?_
      refine lv_bipush (v := 8) hx hb dX7_append_89 (by decide) ?_
      refine lv_iload_n hx hb dX7_append_91 rfl (lv_at hl 1 rfl) ?_
      refine lv_imul hx hb dX7_append_92 ?_
      refine lv_iload hx hb dX7_append_93 (lv_at hl 4 rfl) ?_
      refine lv_iadd hx hb dX7_append_95 ?_
      obtain ⟨g13, hf⟩ := xgd hf
      refine x_iald E hw 14 0 rfl rfl (xin_vp g13) dX7_append_96 ?_
      obtain ⟨g14, hf⟩ := xgd hf
      refine x_iast (ws' := (wMod cI cZ cN cC h0 h1 h2 h3 h4 h5 h6 h7 h8 h9 h10 h11 h12 h13 h14 h15 mn um len plc srt frm num wrg cm mpt st pst kep isk pil nxs txt cls asd opn byy twc szs (upd sos (Int32.toNatClampNeg ((8 * x2) + (szs (Int32.toNatClampNeg x2)))) (sos (Int32.toNatClampNeg ((8 * x1) + x4)))) ths)) E hw 14 0 rfl rfl (xin_vp g14) rfl dX7_append_97 (fun H locs hw => ?_)
      refine lv_aload_n hx hb dX7_append_98 rfl (lv_at hl 0 rfl) ?_
      refine x_get E hw kin_X7 0 rfl rfl 24 (by decide) kF_X7_56 (v := .ref h15) rfl dX7_append_99 ?_
      refine lv_bipush (v := 8) hx hb dX7_append_102 (by decide) ?_
      refine lv_iload_n hx hb dX7_append_104 rfl (lv_at hl 2 rfl) ?_
      refine lv_imul hx hb dX7_append_105 ?_
      refine lv_aload_n hx hb dX7_append_106 rfl (lv_at hl 0 rfl) ?_
      refine x_get E hw kin_X7 0 rfl rfl 22 (by decide) kF_X7_50 (v := .ref h13) rfl dX7_append_107 ?_
      refine lv_iload_n hx hb dX7_append_110 rfl (lv_at hl 2 rfl) ?_
      obtain ⟨g15, hf⟩ := xgd hf
      refine x_iald E hw 13 0 rfl rfl (xin_vp g15) dX7_append_111 ?_
      refine lv_iadd hx hb dX7_append_112 ?_
      refine lv_aload_n hx hb dX7_append_113 rfl (lv_at hl 0 rfl) ?_
      refine x_get E hw kin_X7 0 rfl rfl 24 (by decide) kF_X7_56 (v := .ref h15) rfl dX7_append_114 ?_
      refine lv_bipush (v := 8) hx hb dX7_append_117 (by decide) ?_
      refine lv_iload_n hx hb dX7_append_119 rfl (lv_at hl 1 rfl) ?_
      refine lv_imul hx hb dX7_append_120 ?_
      refine lv_iload hx hb dX7_append_121 (lv_at hl 4 rfl) ?_
      refine lv_iadd hx hb dX7_append_123 ?_
      obtain ⟨g16, hf⟩ := xgd hf
      refine x_iald E hw 15 0 rfl rfl (xin_vp g16) dX7_append_124 ?_
      obtain ⟨g17, hf⟩ := xgd hf
      refine x_iast (ws' := (wMod cI cZ cN cC h0 h1 h2 h3 h4 h5 h6 h7 h8 h9 h10 h11 h12 h13 h14 h15 mn um len plc srt frm num wrg cm mpt st pst kep isk pil nxs txt cls asd opn byy twc szs (upd sos (Int32.toNatClampNeg ((8 * x2) + (szs (Int32.toNatClampNeg x2)))) (sos (Int32.toNatClampNeg ((8 * x1) + x4)))) (upd ths (Int32.toNatClampNeg ((8 * x2) + (szs (Int32.toNatClampNeg x2)))) (ths (Int32.toNatClampNeg ((8 * x1) + x4)))))) E hw 15 0 rfl rfl (xin_vp g17) rfl dX7_append_125 (fun H locs hw => ?_)
      refine lv_aload_n hx hb dX7_append_126 rfl (lv_at hl 0 rfl) ?_
      refine x_get E hw kin_X7 0 rfl rfl 22 (by decide) kF_X7_50 (v := .ref h13) rfl dX7_append_127 ?_
      refine lv_iload_n hx hb dX7_append_130 rfl (lv_at hl 2 rfl) ?_
      refine lv_dup2_11 hx hb dX7_append_131 rfl rfl ?_
      obtain ⟨g18, hf⟩ := xgd hf
      refine x_iald E hw 13 0 rfl rfl (xin_vp g18) dX7_append_132 ?_
      refine lv_iconst (v := 1) hx hb dX7_append_133 (by decide) ?_
      refine lv_iadd hx hb dX7_append_134 ?_
      obtain ⟨g19, hf⟩ := xgd hf
      refine x_iast (ws' := (wMod cI cZ cN cC h0 h1 h2 h3 h4 h5 h6 h7 h8 h9 h10 h11 h12 h13 h14 h15 mn um len plc srt frm num wrg cm mpt st pst kep isk pil nxs txt cls asd opn byy twc (upd szs (Int32.toNatClampNeg x2) ((szs (Int32.toNatClampNeg x2)) + 1)) (upd sos (Int32.toNatClampNeg ((8 * x2) + (szs (Int32.toNatClampNeg x2)))) (sos (Int32.toNatClampNeg ((8 * x1) + x4)))) (upd ths (Int32.toNatClampNeg ((8 * x2) + (szs (Int32.toNatClampNeg x2)))) (ths (Int32.toNatClampNeg ((8 * x1) + x4)))))) E hw 13 0 rfl rfl (xin_vp g19) rfl dX7_append_135 (fun H locs hw => ?_)
      refine lv_iinc (v := (x4 + 1)) (lv' := [(4, .int (x4 + 1)), (0, .ref h0), (1, .int x1), (2, .int x2), (3, .int x3)]) hx hb dX7_append_136 hl (k := 4) rfl rfl (by decide) rfl (fun ls hl => ?_)
      refine lv_goto (tgt := 64) hx hb dX7_append_139 (by decide) ?_
      exact ih _ _ _ _ hf _ _ _ hw (lv_sub hl [1, 2, 3, 4, 0] rfl)
def f_X7_append (N : Nat) (x1 : Int32) (x2 : Int32) (szs : (Nat → Int32)) (sos : (Nat → Int32)) (ths : (Nat → Int32)) : Option (Int32 × (Nat → Int32) × (Nat → Int32) × (Nat → Int32)) :=
  if (f_X7_isChain x1) = 0 then
   some ((-2), szs, sos, ths)
  else
   if (f_X7_isChain x2) = 0 then
    some ((-2), szs, sos, ths)
   else
    if xin x1 3 then
    if (szs (Int32.toNatClampNeg x1)) < 0 then
     some ((-11), szs, sos, ths)
    else
     if xin x2 3 then
     if 0 ≤ (szs (Int32.toNatClampNeg x2)) then
      if xin x1 3 then
      if xin x2 3 then
      if ((szs (Int32.toNatClampNeg x1)) + (szs (Int32.toNatClampNeg x2))) ≤ 8 then
       f_X7_append_64 x1 x2 (szs (Int32.toNatClampNeg x1)) N 0 szs sos ths
      else
       some ((-14), szs, sos, ths)
      else none
      else none
     else
      some ((-11), szs, sos, ths)
     else none
    else none
set_option maxHeartbeats 4000000 in
set_option maxRecDepth 100000 in
theorem c_X7_append {l : Launch} {D : va_G} {cI cZ cN cC : ClassId} {h0 h1 h2 h3 h4 h5 h6 h7 h8 h9 h10 h11 h12 h13 h14 h15 : Nat} {mn : Int32} {um : Int32} {len : Int32} {plc : Int32} {srt : Int32} {frm : Int32} {num : Int32} {wrg : Int32} {cm : Int32} {mpt : Int32} {st : (Nat → Int32)} {pst : (Nat → Int32)} {kep : (Nat → Int32)} {isk : (Nat → Int32)} {pil : (Nat → Int32)} {nxs : (Nat → Int32)} {txt : (Nat → Int32)} {cls : (Nat → Int32)} {asd : (Nat → Int32)} {opn : (Nat → Int32)} {byy : (Nat → Int32)} {twc : (Nat → Int32)} {szs : (Nat → Int32)} {sos : (Nat → Int32)} {ths : (Nat → Int32)} {x1 : Int32} {x2 : Int32} {N : Nat} {res : Int32 × (Nat → Int32) × (Nat → Int32) × (Nat → Int32)} (hf : f_X7_append N x1 x2 szs sos ths = some res) : xMet l D (xtys cI cZ cN cC) yX7_append cX7_append 5 (some .int) 2 45 [.ref h0, .int x1, .int x2] (wMod cI cZ cN cC h0 h1 h2 h3 h4 h5 h6 h7 h8 h9 h10 h11 h12 h13 h14 h15 mn um len plc srt frm num wrg cm mpt st pst kep isk pil nxs txt cls asd opn byy twc szs sos ths) (wMod cI cZ cN cC h0 h1 h2 h3 h4 h5 h6 h7 h8 h9 h10 h11 h12 h13 h14 h15 mn um len plc srt frm num wrg cm mpt st pst kep isk pil nxs txt cls asd opn byy twc res.2.1 res.2.2.1 res.2.2.2) (some (.int res.1)) := by
  refine x_enter (by decide) (Nat.le_of_ble_eq_true rfl) ?_
  intro p e s m args below meth c E ls hl hw
  have E : xE p s m args meth c cX7_append 5 (some .int) RX7 D (xtys cI cZ cN cC) (xA (wMod cI cZ cN cC h0 h1 h2 h3 h4 h5 h6 h7 h8 h9 h10 h11 h12 h13 h14 h15 mn um len plc srt frm num wrg cm mpt st pst kep isk pil nxs txt cls asd opn byy twc szs sos ths)) := E
  obtain ⟨hx, hb, -⟩ := id E
  have hl : lv_has ls 5 [(0, .ref h0), (1, .int x1), (2, .int x2)] := hl
  unfold f_X7_append at hf
  refine lv_iload_n hx hb dX7_append_0 rfl (lv_at hl 1 rfl) ?_
  refine x_callS (isC := []) (ws' := (wMod cI cZ cN cC h0 h1 h2 h3 h4 h5 h6 h7 h8 h9 h10 h11 h12 h13 h14 h15 mn um len plc srt frm num wrg cm mpt st pst kep isk pil nxs txt cls asd opn byy twc szs sos ths)) (st1 := [.int (f_X7_isChain x1)]) (As := [.int x1]) (rest := []) E hw vc_X7_231 (c_X7_isChain (cI := cI) (cZ := cZ) (cN := cN) (cC := cC)    (x0 := x1) rfl) rfl rfl rfl rfl rfl rfl ⟨Nat.le_of_ble_eq_true rfl, Nat.le_of_ble_eq_true rfl⟩ ⟨Nat.le_refl _, Nat.le_refl _⟩ hl.1 rfl rfl (Nat.le_of_ble_eq_true rfl) dX7_append_1 (fun H locs hw => ?_)
  refine lv_if_eq (tgt := 14) hx hb dX7_append_4 (by decide) (fun c1 => ?_) (fun c1 => ?_)
  · rw [if_pos c1] at hf
    refine lv_bipush (v := (-2)) hx hb dX7_append_14 (by decide) ?_
    have hf := Option.some.inj hf; subst hf
    exact x_iret E hw dX7_append_16
  · rw [if_neg c1] at hf
    refine lv_iload_n hx hb dX7_append_7 rfl (lv_at hl 2 rfl) ?_
    refine x_callS (isC := []) (ws' := (wMod cI cZ cN cC h0 h1 h2 h3 h4 h5 h6 h7 h8 h9 h10 h11 h12 h13 h14 h15 mn um len plc srt frm num wrg cm mpt st pst kep isk pil nxs txt cls asd opn byy twc szs sos ths)) (st1 := [.int (f_X7_isChain x2)]) (As := [.int x2]) (rest := []) E hw vc_X7_231 (c_X7_isChain (cI := cI) (cZ := cZ) (cN := cN) (cC := cC)    (x0 := x2) rfl) rfl rfl rfl rfl rfl rfl ⟨Nat.le_of_ble_eq_true rfl, Nat.le_of_ble_eq_true rfl⟩ ⟨Nat.le_refl _, Nat.le_refl _⟩ hl.1 rfl rfl (Nat.le_of_ble_eq_true rfl) dX7_append_8 (fun H locs hw => ?_)
    refine lv_if_ne (tgt := 17) hx hb dX7_append_11 (by decide) (fun c2 => ?_) (fun c2 => ?_)
    · rw [if_neg c2] at hf
      refine lv_aload_n hx hb dX7_append_17 rfl (lv_at hl 0 rfl) ?_
      refine x_get E hw kin_X7 0 rfl rfl 22 (by decide) kF_X7_50 (v := .ref h13) rfl dX7_append_18 ?_
      refine lv_iload_n hx hb dX7_append_21 rfl (lv_at hl 1 rfl) ?_
      obtain ⟨g3, hf⟩ := xgd hf
      refine x_iald E hw 13 0 rfl rfl (xin_vp g3) dX7_append_22 ?_
      refine lv_if_lt (tgt := 35) hx hb dX7_append_23 (by decide) (fun c4 => ?_) (fun c4 => ?_)
      · rw [if_pos c4] at hf
        refine lv_bipush (v := (-11)) hx hb dX7_append_35 (by decide) ?_
        have hf := Option.some.inj hf; subst hf
        exact x_iret E hw dX7_append_37
      · rw [if_neg c4] at hf
        refine lv_aload_n hx hb dX7_append_26 rfl (lv_at hl 0 rfl) ?_
        refine x_get E hw kin_X7 0 rfl rfl 22 (by decide) kF_X7_50 (v := .ref h13) rfl dX7_append_27 ?_
        refine lv_iload_n hx hb dX7_append_30 rfl (lv_at hl 2 rfl) ?_
        obtain ⟨g5, hf⟩ := xgd hf
        refine x_iald E hw 13 0 rfl rfl (xin_vp g5) dX7_append_31 ?_
        refine lv_if_ge (tgt := 38) hx hb dX7_append_32 (by decide) (fun c6 => ?_) (fun c6 => ?_)
        · rw [if_pos c6] at hf
          refine lv_aload_n hx hb dX7_append_38 rfl (lv_at hl 0 rfl) ?_
          refine x_get E hw kin_X7 0 rfl rfl 22 (by decide) kF_X7_50 (v := .ref h13) rfl dX7_append_39 ?_
          refine lv_iload_n hx hb dX7_append_42 rfl (lv_at hl 1 rfl) ?_
          obtain ⟨g7, hf⟩ := xgd hf
          refine x_iald E hw 13 0 rfl rfl (xin_vp g7) dX7_append_43 ?_
          refine lv_istore_n (lv' := [(3, .int (szs (Int32.toNatClampNeg x1))), (0, .ref h0), (1, .int x1), (2, .int x2)]) hx hb dX7_append_44 rfl hl (by decide) rfl (fun ls hl => ?_)
          refine lv_iload_n hx hb dX7_append_45 rfl (lv_at hl 0 rfl) ?_
          refine lv_aload_n hx hb dX7_append_46 rfl (lv_at hl 1 rfl) ?_
          refine x_get E hw kin_X7 0 rfl rfl 22 (by decide) kF_X7_50 (v := .ref h13) rfl dX7_append_47 ?_
          refine lv_iload_n hx hb dX7_append_50 rfl (lv_at hl 3 rfl) ?_
          obtain ⟨g8, hf⟩ := xgd hf
          refine x_iald E hw 13 0 rfl rfl (xin_vp g8) dX7_append_51 ?_
          refine lv_iadd hx hb dX7_append_52 ?_
          refine lv_bipush (v := 8) hx hb dX7_append_53 (by decide) ?_
          refine lv_icmp_le (tgt := 61) hx hb dX7_append_55 (by decide) (fun c9 => ?_) (fun c9 => ?_)
          · rw [if_pos c9] at hf
            refine lv_iconst (v := 0) hx hb dX7_append_61 (by decide) ?_
            refine lv_istore (lv' := [(4, .int 0), (3, .int (szs (Int32.toNatClampNeg x1))), (0, .ref h0), (1, .int x1), (2, .int x2)]) hx hb dX7_append_62 hl (by decide) rfl (fun ls hl => ?_)
            exact b_X7_append_64 E N _ _ _ _ hf _ _ _ hw (lv_sub hl [2, 3, 4, 1, 0] rfl)
          · rw [if_neg c9] at hf
            refine lv_bipush (v := (-14)) hx hb dX7_append_58 (by decide) ?_
            have hf := Option.some.inj hf; subst hf
            exact x_iret E hw dX7_append_60
        · rw [if_neg c6] at hf
          refine lv_bipush (v := (-11)) hx hb dX7_append_35 (by decide) ?_
          have hf := Option.some.inj hf; subst hf
          exact x_iret E hw dX7_append_37
    · rw [if_pos c2] at hf
      refine lv_bipush (v := (-2)) hx hb dX7_append_14 (by decide) ?_
      have hf := Option.some.inj hf; subst hf
      exact x_iret E hw dX7_append_16

def f_X7_drop (x1 : Int32) (szs : (Nat → Int32)) : Option (Int32 × (Nat → Int32)) :=
  if (f_X7_isChain x1) = 0 then
   some ((-2), szs)
  else
   if xin x1 3 then
   if xin x1 3 then
   if 0 ≤ (szs (Int32.toNatClampNeg x1)) then
    some ((szs (Int32.toNatClampNeg x1)), (upd szs (Int32.toNatClampNeg x1) (-1)))
   else
    some ((-11), (upd szs (Int32.toNatClampNeg x1) (-1)))
   else none
   else none
set_option maxHeartbeats 4000000 in
set_option maxRecDepth 100000 in
theorem c_X7_drop {l : Launch} {D : va_G} {cI cZ cN cC : ClassId} {h0 h1 h2 h3 h4 h5 h6 h7 h8 h9 h10 h11 h12 h13 h14 h15 : Nat} {mn : Int32} {um : Int32} {len : Int32} {plc : Int32} {srt : Int32} {frm : Int32} {num : Int32} {wrg : Int32} {cm : Int32} {mpt : Int32} {st : (Nat → Int32)} {pst : (Nat → Int32)} {kep : (Nat → Int32)} {isk : (Nat → Int32)} {pil : (Nat → Int32)} {nxs : (Nat → Int32)} {txt : (Nat → Int32)} {cls : (Nat → Int32)} {asd : (Nat → Int32)} {opn : (Nat → Int32)} {byy : (Nat → Int32)} {twc : (Nat → Int32)} {szs : (Nat → Int32)} {sos : (Nat → Int32)} {ths : (Nat → Int32)} {x1 : Int32} {res : Int32 × (Nat → Int32)} (hf : f_X7_drop x1 szs = some res) : xMet l D (xtys cI cZ cN cC) yX7_drop cX7_drop 3 (some .int) 2 45 [.ref h0, .int x1] (wMod cI cZ cN cC h0 h1 h2 h3 h4 h5 h6 h7 h8 h9 h10 h11 h12 h13 h14 h15 mn um len plc srt frm num wrg cm mpt st pst kep isk pil nxs txt cls asd opn byy twc szs sos ths) (wMod cI cZ cN cC h0 h1 h2 h3 h4 h5 h6 h7 h8 h9 h10 h11 h12 h13 h14 h15 mn um len plc srt frm num wrg cm mpt st pst kep isk pil nxs txt cls asd opn byy twc res.2 sos ths) (some (.int res.1)) := by
  refine x_enter (by decide) (Nat.le_of_ble_eq_true rfl) ?_
  intro p e s m args below meth c E ls hl hw
  have E : xE p s m args meth c cX7_drop 3 (some .int) RX7 D (xtys cI cZ cN cC) (xA (wMod cI cZ cN cC h0 h1 h2 h3 h4 h5 h6 h7 h8 h9 h10 h11 h12 h13 h14 h15 mn um len plc srt frm num wrg cm mpt st pst kep isk pil nxs txt cls asd opn byy twc szs sos ths)) := E
  obtain ⟨hx, hb, -⟩ := id E
  have hl : lv_has ls 3 [(0, .ref h0), (1, .int x1)] := hl
  unfold f_X7_drop at hf
  refine lv_iload_n hx hb dX7_drop_0 rfl (lv_at hl 1 rfl) ?_
  refine x_callS (isC := []) (ws' := (wMod cI cZ cN cC h0 h1 h2 h3 h4 h5 h6 h7 h8 h9 h10 h11 h12 h13 h14 h15 mn um len plc srt frm num wrg cm mpt st pst kep isk pil nxs txt cls asd opn byy twc szs sos ths)) (st1 := [.int (f_X7_isChain x1)]) (As := [.int x1]) (rest := []) E hw vc_X7_231 (c_X7_isChain (cI := cI) (cZ := cZ) (cN := cN) (cC := cC)    (x0 := x1) rfl) rfl rfl rfl rfl rfl rfl ⟨Nat.le_of_ble_eq_true rfl, Nat.le_of_ble_eq_true rfl⟩ ⟨Nat.le_refl _, Nat.le_refl _⟩ hl.1 rfl rfl (Nat.le_of_ble_eq_true rfl) dX7_drop_1 (fun H locs hw => ?_)
  refine lv_if_ne (tgt := 10) hx hb dX7_drop_4 (by decide) (fun c1 => ?_) (fun c1 => ?_)
  · rw [if_neg c1] at hf
    refine lv_aload_n hx hb dX7_drop_10 rfl (lv_at hl 0 rfl) ?_
    refine x_get E hw kin_X7 0 rfl rfl 22 (by decide) kF_X7_50 (v := .ref h13) rfl dX7_drop_11 ?_
    refine lv_iload_n hx hb dX7_drop_14 rfl (lv_at hl 1 rfl) ?_
    obtain ⟨g2, hf⟩ := xgd hf
    refine x_iald E hw 13 0 rfl rfl (xin_vp g2) dX7_drop_15 ?_
    refine lv_istore_n (lv' := [(2, .int (szs (Int32.toNatClampNeg x1))), (0, .ref h0), (1, .int x1)]) hx hb dX7_drop_16 rfl hl (by decide) rfl (fun ls hl => ?_)
    refine lv_aload_n hx hb dX7_drop_17 rfl (lv_at hl 1 rfl) ?_
    refine x_get E hw kin_X7 0 rfl rfl 22 (by decide) kF_X7_50 (v := .ref h13) rfl dX7_drop_18 ?_
    refine lv_iload_n hx hb dX7_drop_21 rfl (lv_at hl 2 rfl) ?_
    refine lv_iconst (v := (-1)) hx hb dX7_drop_22 (by decide) ?_
    obtain ⟨g3, hf⟩ := xgd hf
    refine x_iast (ws' := (wMod cI cZ cN cC h0 h1 h2 h3 h4 h5 h6 h7 h8 h9 h10 h11 h12 h13 h14 h15 mn um len plc srt frm num wrg cm mpt st pst kep isk pil nxs txt cls asd opn byy twc (upd szs (Int32.toNatClampNeg x1) (-1)) sos ths)) E hw 13 0 rfl rfl (xin_vp g3) rfl dX7_drop_23 (fun H locs hw => ?_)
    refine lv_iload_n hx hb dX7_drop_24 rfl (lv_at hl 0 rfl) ?_
    refine lv_if_ge (tgt := 33) hx hb dX7_drop_25 (by decide) (fun c4 => ?_) (fun c4 => ?_)
    · rw [if_pos c4] at hf
      refine lv_iload_n hx hb dX7_drop_33 rfl (lv_at hl 0 rfl) ?_
      have hf := Option.some.inj hf; subst hf
      exact x_iret E hw dX7_drop_34
    · rw [if_neg c4] at hf
      refine lv_bipush (v := (-11)) hx hb dX7_drop_28 (by decide) ?_
      refine lv_goto (tgt := 34) hx hb dX7_drop_30 (by decide) ?_
      have hf := Option.some.inj hf; subst hf
      exact x_iret E hw dX7_drop_34
  · rw [if_pos c1] at hf
    refine lv_bipush (v := (-2)) hx hb dX7_drop_7 (by decide) ?_
    have hf := Option.some.inj hf; subst hf
    exact x_iret E hw dX7_drop_9

def f_X7_allThings_4 (szs : (Nat → Int32)) : Nat → Int32 → Int32 → Option (Int32)
  | 0, _, _ => none
  | n + 1, x1, x2 =>
    if 3 ≤ x2 then
     some x1
    else
     if xin x2 3 then
     if (szs (Int32.toNatClampNeg x2)) ≤ 0 then
      f_X7_allThings_4 szs n (x1 + 0) (x2 + 1)
     else
      if xin x2 3 then
      f_X7_allThings_4 szs n (x1 + (szs (Int32.toNatClampNeg x2))) (x2 + 1)
      else none
     else none
set_option maxHeartbeats 4000000 in
set_option maxRecDepth 100000 in
theorem b_X7_allThings_4 {p : Program} {l : Launch} {e : Env} {s : State} {m : MethodId} {args : Array Value} {below : List Frame} {meth : Method} {c : Code} {D : va_G} {cI cZ cN cC : ClassId} {ws0 : va_W} {h0 h1 h2 h3 h4 h5 h6 h7 h8 h9 h10 h11 h12 h13 h14 h15 : Nat} {mn : Int32} {um : Int32} {len : Int32} {plc : Int32} {srt : Int32} {frm : Int32} {num : Int32} {wrg : Int32} {cm : Int32} {mpt : Int32} {st : (Nat → Int32)} {pst : (Nat → Int32)} {kep : (Nat → Int32)} {isk : (Nat → Int32)} {pil : (Nat → Int32)} {nxs : (Nat → Int32)} {txt : (Nat → Int32)} {cls : (Nat → Int32)} {asd : (Nat → Int32)} {opn : (Nat → Int32)} {byy : (Nat → Int32)} {twc : (Nat → Int32)} {szs : (Nat → Int32)} {sos : (Nat → Int32)} {ths : (Nat → Int32)} {res : Int32} (E : xE p s m args meth c cX7_allThings 3 (some .int) RX7 D (xtys cI cZ cN cC) (xA ws0)) : ∀ (n : Nat) (x1 : Int32) (x2 : Int32), f_X7_allThings_4 szs n x1 x2 = some res → ∀ (H : Heap) (locs : List Loc) (ls : Array Slot), xw D (xA ws0) s.heap (wMod cI cZ cN cC h0 h1 h2 h3 h4 h5 h6 h7 h8 h9 h10 h11 h12 h13 h14 h15 mn um len plc srt frm num wrg cm mpt st pst kep isk pil nxs txt cls asd opn byy twc szs sos ths) H locs → lv_has ls 3 [(0, .ref h0), (1, .int x1), (2, .int x2)] → xG p l e 0 0 s m args below meth c D ws0 (wMod cI cZ cN cC h0 h1 h2 h3 h4 h5 h6 h7 h8 h9 h10 h11 h12 h13 h14 h15 mn um len plc srt frm num wrg cm mpt st pst kep isk pil nxs txt cls asd opn byy twc szs sos ths) (some (.int res)) H locs (F0 m 4 ls []) := by
  obtain ⟨hx, hb, -⟩ := id E
  intro n
  induction n with
  | zero =>
    intro _ _ hf
    rw [f_X7_allThings_4] at hf; cases hf
  | succ n ih =>
    intro x1 x2 hf H locs ls hw hl
    rw [f_X7_allThings_4] at hf
    refine lv_iload_n hx hb dX7_allThings_4 rfl (lv_at hl 2 rfl) ?_
    refine lv_iconst (v := 3) hx hb dX7_allThings_5 (by decide) ?_
    refine lv_icmp_ge (tgt := 37) hx hb dX7_allThings_6 (by decide) (fun c1 => ?_) (fun c1 => ?_)
    · rw [if_pos c1] at hf
      refine lv_iload_n hx hb dX7_allThings_37 rfl (lv_at hl 1 rfl) ?_
      have hf := Option.some.inj hf; subst hf
      exact x_iret E hw dX7_allThings_38
    · rw [if_neg c1] at hf
      refine lv_iload_n hx hb dX7_allThings_9 rfl (lv_at hl 1 rfl) ?_
      refine lv_aload_n hx hb dX7_allThings_10 rfl (lv_at hl 0 rfl) ?_
      refine x_get E hw kin_X7 0 rfl rfl 22 (by decide) kF_X7_50 (v := .ref h13) rfl dX7_allThings_11 ?_
      refine lv_iload_n hx hb dX7_allThings_14 rfl (lv_at hl 2 rfl) ?_
      obtain ⟨g2, hf⟩ := xgd hf
      refine x_iald E hw 13 0 rfl rfl (xin_vp g2) dX7_allThings_15 ?_
      refine lv_if_le (tgt := 28) hx hb dX7_allThings_16 (by decide) (fun c3 => ?_) (fun c3 => ?_)
      · rw [if_pos c3] at hf
        refine lv_iconst (v := 0) hx hb dX7_allThings_28 (by decide) ?_
        refine lv_iadd hx hb dX7_allThings_29 ?_
        refine lv_istore_n (lv' := [(1, .int (x1 + 0)), (0, .ref h0), (2, .int x2)]) hx hb dX7_allThings_30 rfl hl (by decide) rfl (fun ls hl => ?_)
        refine lv_iinc (v := (x2 + 1)) (lv' := [(2, .int (x2 + 1)), (1, .int (x1 + 0)), (0, .ref h0)]) hx hb dX7_allThings_31 hl (k := 2) rfl rfl (by decide) rfl (fun ls hl => ?_)
        refine lv_goto (tgt := 4) hx hb dX7_allThings_34 (by decide) ?_
        exact ih _ _ hf _ _ _ hw (lv_sub hl [2, 1, 0] rfl)
      · rw [if_neg c3] at hf
        refine lv_aload_n hx hb dX7_allThings_19 rfl (lv_at hl 0 rfl) ?_
        refine x_get E hw kin_X7 0 rfl rfl 22 (by decide) kF_X7_50 (v := .ref h13) rfl dX7_allThings_20 ?_
        refine lv_iload_n hx hb dX7_allThings_23 rfl (lv_at hl 2 rfl) ?_
        obtain ⟨g4, hf⟩ := xgd hf
        refine x_iald E hw 13 0 rfl rfl (xin_vp g4) dX7_allThings_24 ?_
        refine lv_goto (tgt := 29) hx hb dX7_allThings_25 (by decide) ?_
        refine lv_iadd hx hb dX7_allThings_29 ?_
        refine lv_istore_n (lv' := [(1, .int (x1 + (szs (Int32.toNatClampNeg x2)))), (0, .ref h0), (2, .int x2)]) hx hb dX7_allThings_30 rfl hl (by decide) rfl (fun ls hl => ?_)
        refine lv_iinc (v := (x2 + 1)) (lv' := [(2, .int (x2 + 1)), (1, .int (x1 + (szs (Int32.toNatClampNeg x2)))), (0, .ref h0)]) hx hb dX7_allThings_31 hl (k := 2) rfl rfl (by decide) rfl (fun ls hl => ?_)
        refine lv_goto (tgt := 4) hx hb dX7_allThings_34 (by decide) ?_
        exact ih _ _ hf _ _ _ hw (lv_sub hl [2, 1, 0] rfl)
def f_X7_allThings (N : Nat) (szs : (Nat → Int32)) : Option (Int32) :=
  f_X7_allThings_4 szs N 0 0
set_option maxHeartbeats 4000000 in
set_option maxRecDepth 100000 in
theorem c_X7_allThings {l : Launch} {D : va_G} {cI cZ cN cC : ClassId} {h0 h1 h2 h3 h4 h5 h6 h7 h8 h9 h10 h11 h12 h13 h14 h15 : Nat} {mn : Int32} {um : Int32} {len : Int32} {plc : Int32} {srt : Int32} {frm : Int32} {num : Int32} {wrg : Int32} {cm : Int32} {mpt : Int32} {st : (Nat → Int32)} {pst : (Nat → Int32)} {kep : (Nat → Int32)} {isk : (Nat → Int32)} {pil : (Nat → Int32)} {nxs : (Nat → Int32)} {txt : (Nat → Int32)} {cls : (Nat → Int32)} {asd : (Nat → Int32)} {opn : (Nat → Int32)} {byy : (Nat → Int32)} {twc : (Nat → Int32)} {szs : (Nat → Int32)} {sos : (Nat → Int32)} {ths : (Nat → Int32)}  {N : Nat} {res : Int32} (hf : f_X7_allThings N szs = some res) : xMet l D (xtys cI cZ cN cC) yX7_allThings cX7_allThings 3 (some .int) 0 0 [.ref h0] (wMod cI cZ cN cC h0 h1 h2 h3 h4 h5 h6 h7 h8 h9 h10 h11 h12 h13 h14 h15 mn um len plc srt frm num wrg cm mpt st pst kep isk pil nxs txt cls asd opn byy twc szs sos ths) (wMod cI cZ cN cC h0 h1 h2 h3 h4 h5 h6 h7 h8 h9 h10 h11 h12 h13 h14 h15 mn um len plc srt frm num wrg cm mpt st pst kep isk pil nxs txt cls asd opn byy twc szs sos ths) (some (.int res)) := by
  refine x_enter (by decide) (Nat.le_of_ble_eq_true rfl) ?_
  intro p e s m args below meth c E ls hl hw
  have E : xE p s m args meth c cX7_allThings 3 (some .int) RX7 D (xtys cI cZ cN cC) (xA (wMod cI cZ cN cC h0 h1 h2 h3 h4 h5 h6 h7 h8 h9 h10 h11 h12 h13 h14 h15 mn um len plc srt frm num wrg cm mpt st pst kep isk pil nxs txt cls asd opn byy twc szs sos ths)) := E
  obtain ⟨hx, hb, -⟩ := id E
  have hl : lv_has ls 3 [(0, .ref h0)] := hl
  unfold f_X7_allThings at hf
  refine lv_iconst (v := 0) hx hb dX7_allThings_0 (by decide) ?_
  refine lv_istore_n (lv' := [(1, .int 0), (0, .ref h0)]) hx hb dX7_allThings_1 rfl hl (by decide) rfl (fun ls hl => ?_)
  refine lv_iconst (v := 0) hx hb dX7_allThings_2 (by decide) ?_
  refine lv_istore_n (lv' := [(2, .int 0), (1, .int 0), (0, .ref h0)]) hx hb dX7_allThings_3 rfl hl (by decide) rfl (fun ls hl => ?_)
  exact b_X7_allThings_4 E N _ _ hf _ _ _ hw (lv_sub hl [2, 1, 0] rfl)

def f_X7_count (N : Nat) (x1 : Int32) (mn : Int32) (um : Int32) (len : Int32) (st : (Nat → Int32)) (szs : (Nat → Int32)) : Option (Int32) :=
  if Int32.toInt x1 < 0 ∨ 8 < Int32.toInt x1 then
   some (-3)
  else if x1 = 0 then
   some mn
  else if x1 = 1 then
   (f_X7_arcs N mn st).bind fun q1 =>
   some q1
  else if x1 = 2 then
   (f_X7_pairs N mn st).bind fun q2 =>
   some q2
  else if x1 = 3 then
   some (st (Int32.toNatClampNeg 110))
  else if x1 = 4 then
   (f_X7_rings N mn st).bind fun q3 =>
   some q3
  else if x1 = 5 then
   (f_X7_needlessMany N mn st).bind fun q4 =>
   some q4
  else if x1 = 6 then
   (f_X7_allThings N szs).bind fun q5 =>
   some q5
  else if x1 = 7 then
   some um
  else
   some len
set_option maxHeartbeats 4000000 in
set_option maxRecDepth 100000 in
theorem c_X7_count {l : Launch} {D : va_G} {cI cZ cN cC : ClassId} {h0 h1 h2 h3 h4 h5 h6 h7 h8 h9 h10 h11 h12 h13 h14 h15 : Nat} {mn : Int32} {um : Int32} {len : Int32} {plc : Int32} {srt : Int32} {frm : Int32} {num : Int32} {wrg : Int32} {cm : Int32} {mpt : Int32} {st : (Nat → Int32)} {pst : (Nat → Int32)} {kep : (Nat → Int32)} {isk : (Nat → Int32)} {pil : (Nat → Int32)} {nxs : (Nat → Int32)} {txt : (Nat → Int32)} {cls : (Nat → Int32)} {asd : (Nat → Int32)} {opn : (Nat → Int32)} {byy : (Nat → Int32)} {twc : (Nat → Int32)} {szs : (Nat → Int32)} {sos : (Nat → Int32)} {ths : (Nat → Int32)} {x1 : Int32} {N : Nat} {res : Int32} (hf : f_X7_count N x1 mn um len st szs = some res) : xMet l D (xtys cI cZ cN cC) yX7_count cX7_count 2 (some .int) 5 113 [.ref h0, .int x1] (wMod cI cZ cN cC h0 h1 h2 h3 h4 h5 h6 h7 h8 h9 h10 h11 h12 h13 h14 h15 mn um len plc srt frm num wrg cm mpt st pst kep isk pil nxs txt cls asd opn byy twc szs sos ths) (wMod cI cZ cN cC h0 h1 h2 h3 h4 h5 h6 h7 h8 h9 h10 h11 h12 h13 h14 h15 mn um len plc srt frm num wrg cm mpt st pst kep isk pil nxs txt cls asd opn byy twc szs sos ths) (some (.int res)) := by
  refine x_enter (by decide) (Nat.le_of_ble_eq_true rfl) ?_
  intro p e s m args below meth c E ls hl hw
  have E : xE p s m args meth c cX7_count 2 (some .int) RX7 D (xtys cI cZ cN cC) (xA (wMod cI cZ cN cC h0 h1 h2 h3 h4 h5 h6 h7 h8 h9 h10 h11 h12 h13 h14 h15 mn um len plc srt frm num wrg cm mpt st pst kep isk pil nxs txt cls asd opn byy twc szs sos ths)) := E
  obtain ⟨hx, hb, -⟩ := id E
  have hl : lv_has ls 2 [(0, .ref h0), (1, .int x1)] := hl
  unfold f_X7_count at hf
  refine lv_iload_n hx hb dX7_count_0 rfl (lv_at hl 1 rfl) ?_
  by_cases c0 : Int32.toInt x1 < 0 ∨ 8 < Int32.toInt x1
  · rw [if_pos c0] at hf
    refine lv_tableOut (tgt := 100) hx hb dX7_count_1 c0 (by decide) ?_
    refine lv_bipush (v := (-3)) hx hb dX7_count_100 (by decide) ?_
    have hf := Option.some.inj hf; subst hf
    exact x_iret E hw dX7_count_102
  rw [if_neg c0] at hf
  by_cases c1 : x1 = 0
  · rw [if_pos c1] at hf
    refine lv_tableIn (tgt := 52) hx hb dX7_count_1 (by rw [c1]; decide) (by rw [c1]; decide) (by rw [c1]; rfl) (by decide) ?_
    refine lv_aload_n hx hb dX7_count_52 rfl (lv_at hl 0 rfl) ?_
    refine x_get E hw kin_X7 0 rfl rfl 0 (by decide) kF_X7_7 (v := .int mn) rfl dX7_count_53 ?_
    have hf := Option.some.inj hf; subst hf
    exact x_iret E hw dX7_count_56
  rw [if_neg c1] at hf
  by_cases c2 : x1 = 1
  · rw [if_pos c2] at hf
    refine lv_tableIn (tgt := 57) hx hb dX7_count_1 (by rw [c2]; decide) (by rw [c2]; decide) (by rw [c2]; rfl) (by decide) ?_
    refine lv_aload_n hx hb dX7_count_57 rfl (lv_at hl 0 rfl) ?_
    obtain ⟨q1, hq1, hf⟩ := Option.bind_eq_some_iff.mp hf
    refine x_callVI (ws' := (wMod cI cZ cN cC h0 h1 h2 h3 h4 h5 h6 h7 h8 h9 h10 h11 h12 h13 h14 h15 mn um len plc srt frm num wrg cm mpt st pst kep isk pil nxs txt cls asd opn byy twc szs sos ths)) (st1 := [.int q1]) (As := []) (rest := []) E hw vc_X7_159 (c_X7_arcs (cI := cI) (cZ := cZ) (cN := cN) (cC := cC) (h0 := h0) (h1 := h1) (h2 := h2) (h3 := h3) (h4 := h4) (h5 := h5) (h6 := h6) (h7 := h7) (h8 := h8) (h9 := h9) (h10 := h10) (h11 := h11) (h12 := h12) (h13 := h13) (h14 := h14) (h15 := h15)  (mn := mn) (um := um) (len := len) (plc := plc) (srt := srt) (frm := frm) (num := num) (wrg := wrg) (cm := cm) (mpt := mpt) (st := st) (pst := pst) (kep := kep) (isk := isk) (pil := pil) (nxs := nxs) (txt := txt) (cls := cls) (asd := asd) (opn := opn) (byy := byy) (twc := twc) (szs := szs) (sos := sos) (ths := ths)  hq1) 0 7 rfl rfl rfl rfl rfl ⟨Nat.le_of_ble_eq_true rfl, Nat.le_of_ble_eq_true rfl⟩ ⟨Nat.le_refl _, Nat.le_refl _⟩ hl.1 rfl rfl (Nat.le_of_ble_eq_true rfl) dX7_count_58 (fun H locs hw => ?_)
    have hf := Option.some.inj hf; subst hf
    exact x_iret E hw dX7_count_61
  rw [if_neg c2] at hf
  by_cases c3 : x1 = 2
  · rw [if_pos c3] at hf
    refine lv_tableIn (tgt := 62) hx hb dX7_count_1 (by rw [c3]; decide) (by rw [c3]; decide) (by rw [c3]; rfl) (by decide) ?_
    refine lv_aload_n hx hb dX7_count_62 rfl (lv_at hl 0 rfl) ?_
    obtain ⟨q2, hq2, hf⟩ := Option.bind_eq_some_iff.mp hf
    refine x_callVI (ws' := (wMod cI cZ cN cC h0 h1 h2 h3 h4 h5 h6 h7 h8 h9 h10 h11 h12 h13 h14 h15 mn um len plc srt frm num wrg cm mpt st pst kep isk pil nxs txt cls asd opn byy twc szs sos ths)) (st1 := [.int q2]) (As := []) (rest := []) E hw vc_X7_174 (c_X7_pairs (cI := cI) (cZ := cZ) (cN := cN) (cC := cC) (h0 := h0) (h1 := h1) (h2 := h2) (h3 := h3) (h4 := h4) (h5 := h5) (h6 := h6) (h7 := h7) (h8 := h8) (h9 := h9) (h10 := h10) (h11 := h11) (h12 := h12) (h13 := h13) (h14 := h14) (h15 := h15)  (mn := mn) (um := um) (len := len) (plc := plc) (srt := srt) (frm := frm) (num := num) (wrg := wrg) (cm := cm) (mpt := mpt) (st := st) (pst := pst) (kep := kep) (isk := isk) (pil := pil) (nxs := nxs) (txt := txt) (cls := cls) (asd := asd) (opn := opn) (byy := byy) (twc := twc) (szs := szs) (sos := sos) (ths := ths)  hq2) 0 7 rfl rfl rfl rfl rfl ⟨Nat.le_of_ble_eq_true rfl, Nat.le_of_ble_eq_true rfl⟩ ⟨Nat.le_refl _, Nat.le_refl _⟩ hl.1 rfl rfl (Nat.le_of_ble_eq_true rfl) dX7_count_63 (fun H locs hw => ?_)
    have hf := Option.some.inj hf; subst hf
    exact x_iret E hw dX7_count_66
  rw [if_neg c3] at hf
  by_cases c4 : x1 = 3
  · rw [if_pos c4] at hf
    refine lv_tableIn (tgt := 67) hx hb dX7_count_1 (by rw [c4]; decide) (by rw [c4]; decide) (by rw [c4]; rfl) (by decide) ?_
    refine lv_aload_n hx hb dX7_count_67 rfl (lv_at hl 0 rfl) ?_
    refine x_get E hw kin_X7 0 rfl rfl 1 (by decide) kF_X7_13 (v := .ref h1) rfl dX7_count_68 ?_
    refine lv_bipush (v := 110) hx hb dX7_count_71 (by decide) ?_
    refine x_iald E hw 1 0 rfl rfl (xin_vp (by decide)) dX7_count_73 ?_
    have hf := Option.some.inj hf; subst hf
    exact x_iret E hw dX7_count_74
  rw [if_neg c4] at hf
  by_cases c5 : x1 = 4
  · rw [if_pos c5] at hf
    refine lv_tableIn (tgt := 75) hx hb dX7_count_1 (by rw [c5]; decide) (by rw [c5]; decide) (by rw [c5]; rfl) (by decide) ?_
    refine lv_aload_n hx hb dX7_count_75 rfl (lv_at hl 0 rfl) ?_
    obtain ⟨q3, hq3, hf⟩ := Option.bind_eq_some_iff.mp hf
    refine x_callVI (ws' := (wMod cI cZ cN cC h0 h1 h2 h3 h4 h5 h6 h7 h8 h9 h10 h11 h12 h13 h14 h15 mn um len plc srt frm num wrg cm mpt st pst kep isk pil nxs txt cls asd opn byy twc szs sos ths)) (st1 := [.int q3]) (As := []) (rest := []) E hw vc_X7_207 (c_X7_rings (cI := cI) (cZ := cZ) (cN := cN) (cC := cC) (h0 := h0) (h1 := h1) (h2 := h2) (h3 := h3) (h4 := h4) (h5 := h5) (h6 := h6) (h7 := h7) (h8 := h8) (h9 := h9) (h10 := h10) (h11 := h11) (h12 := h12) (h13 := h13) (h14 := h14) (h15 := h15)  (mn := mn) (um := um) (len := len) (plc := plc) (srt := srt) (frm := frm) (num := num) (wrg := wrg) (cm := cm) (mpt := mpt) (st := st) (pst := pst) (kep := kep) (isk := isk) (pil := pil) (nxs := nxs) (txt := txt) (cls := cls) (asd := asd) (opn := opn) (byy := byy) (twc := twc) (szs := szs) (sos := sos) (ths := ths)  hq3) 0 7 rfl rfl rfl rfl rfl ⟨Nat.le_of_ble_eq_true rfl, Nat.le_of_ble_eq_true rfl⟩ ⟨Nat.le_refl _, Nat.le_refl _⟩ hl.1 rfl rfl (Nat.le_of_ble_eq_true rfl) dX7_count_76 (fun H locs hw => ?_)
    have hf := Option.some.inj hf; subst hf
    exact x_iret E hw dX7_count_79
  rw [if_neg c5] at hf
  by_cases c6 : x1 = 5
  · rw [if_pos c6] at hf
    refine lv_tableIn (tgt := 80) hx hb dX7_count_1 (by rw [c6]; decide) (by rw [c6]; decide) (by rw [c6]; rfl) (by decide) ?_
    refine lv_aload_n hx hb dX7_count_80 rfl (lv_at hl 0 rfl) ?_
    obtain ⟨q4, hq4, hf⟩ := Option.bind_eq_some_iff.mp hf
    refine x_callVI (ws' := (wMod cI cZ cN cC h0 h1 h2 h3 h4 h5 h6 h7 h8 h9 h10 h11 h12 h13 h14 h15 mn um len plc srt frm num wrg cm mpt st pst kep isk pil nxs txt cls asd opn byy twc szs sos ths)) (st1 := [.int q4]) (As := []) (rest := []) E hw vc_X7_210 (c_X7_needlessMany (cI := cI) (cZ := cZ) (cN := cN) (cC := cC) (h0 := h0) (h1 := h1) (h2 := h2) (h3 := h3) (h4 := h4) (h5 := h5) (h6 := h6) (h7 := h7) (h8 := h8) (h9 := h9) (h10 := h10) (h11 := h11) (h12 := h12) (h13 := h13) (h14 := h14) (h15 := h15)  (mn := mn) (um := um) (len := len) (plc := plc) (srt := srt) (frm := frm) (num := num) (wrg := wrg) (cm := cm) (mpt := mpt) (st := st) (pst := pst) (kep := kep) (isk := isk) (pil := pil) (nxs := nxs) (txt := txt) (cls := cls) (asd := asd) (opn := opn) (byy := byy) (twc := twc) (szs := szs) (sos := sos) (ths := ths)  hq4) 0 7 rfl rfl rfl rfl rfl ⟨Nat.le_of_ble_eq_true rfl, Nat.le_of_ble_eq_true rfl⟩ ⟨Nat.le_refl _, Nat.le_refl _⟩ hl.1 rfl rfl (Nat.le_of_ble_eq_true rfl) dX7_count_81 (fun H locs hw => ?_)
    have hf := Option.some.inj hf; subst hf
    exact x_iret E hw dX7_count_84
  rw [if_neg c6] at hf
  by_cases c7 : x1 = 6
  · rw [if_pos c7] at hf
    refine lv_tableIn (tgt := 85) hx hb dX7_count_1 (by rw [c7]; decide) (by rw [c7]; decide) (by rw [c7]; rfl) (by decide) ?_
    refine lv_aload_n hx hb dX7_count_85 rfl (lv_at hl 0 rfl) ?_
    obtain ⟨q5, hq5, hf⟩ := Option.bind_eq_some_iff.mp hf
    refine x_callVI (ws' := (wMod cI cZ cN cC h0 h1 h2 h3 h4 h5 h6 h7 h8 h9 h10 h11 h12 h13 h14 h15 mn um len plc srt frm num wrg cm mpt st pst kep isk pil nxs txt cls asd opn byy twc szs sos ths)) (st1 := [.int q5]) (As := []) (rest := []) E hw vc_X7_243 (c_X7_allThings (cI := cI) (cZ := cZ) (cN := cN) (cC := cC) (h0 := h0) (h1 := h1) (h2 := h2) (h3 := h3) (h4 := h4) (h5 := h5) (h6 := h6) (h7 := h7) (h8 := h8) (h9 := h9) (h10 := h10) (h11 := h11) (h12 := h12) (h13 := h13) (h14 := h14) (h15 := h15)  (mn := mn) (um := um) (len := len) (plc := plc) (srt := srt) (frm := frm) (num := num) (wrg := wrg) (cm := cm) (mpt := mpt) (st := st) (pst := pst) (kep := kep) (isk := isk) (pil := pil) (nxs := nxs) (txt := txt) (cls := cls) (asd := asd) (opn := opn) (byy := byy) (twc := twc) (szs := szs) (sos := sos) (ths := ths)  hq5) 0 7 rfl rfl rfl rfl rfl ⟨Nat.le_of_ble_eq_true rfl, Nat.le_of_ble_eq_true rfl⟩ ⟨Nat.le_refl _, Nat.le_refl _⟩ hl.1 rfl rfl (Nat.le_of_ble_eq_true rfl) dX7_count_86 (fun H locs hw => ?_)
    have hf := Option.some.inj hf; subst hf
    exact x_iret E hw dX7_count_89
  rw [if_neg c7] at hf
  by_cases c8 : x1 = 7
  · rw [if_pos c8] at hf
    refine lv_tableIn (tgt := 90) hx hb dX7_count_1 (by rw [c8]; decide) (by rw [c8]; decide) (by rw [c8]; rfl) (by decide) ?_
    refine lv_aload_n hx hb dX7_count_90 rfl (lv_at hl 0 rfl) ?_
    refine x_get E hw kin_X7 0 rfl rfl 3 (by decide) kF_X7_92 (v := .int um) rfl dX7_count_91 ?_
    have hf := Option.some.inj hf; subst hf
    exact x_iret E hw dX7_count_94
  rw [if_neg c8] at hf
  have c9 : x1 = 8 := Int32.toInt_inj.mp (by
    have e1 := x_neL (k := 0) (by decide) c1
    have e2 := x_neL (k := 1) (by decide) c2
    have e3 := x_neL (k := 2) (by decide) c3
    have e4 := x_neL (k := 3) (by decide) c4
    have e5 := x_neL (k := 4) (by decide) c5
    have e6 := x_neL (k := 5) (by decide) c6
    have e7 := x_neL (k := 6) (by decide) c7
    have e8 := x_neL (k := 7) (by decide) c8
    show Int32.toInt x1 = 8
    omega)
  refine lv_tableIn (tgt := 95) hx hb dX7_count_1 (by rw [c9]; decide) (by rw [c9]; decide) (by rw [c9]; rfl) (by decide) ?_
  refine lv_aload_n hx hb dX7_count_95 rfl (lv_at hl 0 rfl) ?_
  refine x_get E hw kin_X7 0 rfl rfl 9 (by decide) kF_X7_97 (v := .int len) rfl dX7_count_96 ?_
  have hf := Option.some.inj hf; subst hf
  exact x_iret E hw dX7_count_99

