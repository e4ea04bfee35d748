abbrev wCha (cI cZ cN cC : ClassId) (h0 h1 h2 : Nat) (mis : Int32) (siz : Int32) (val : Nat → Int32) (isa : Nat → Int32) : va_W := [(h0, .inr (0, [.ref h1, .ref h2, .int mis, .int siz])), (h1, .inl (cI, 8, .inl val)), (h2, .inl (cZ, 8, .inl isa))]
def f_X0_begin : (Int32 × Int32) :=
  (0, 0)
set_option maxHeartbeats 4000000 in
set_option maxRecDepth 100000 in
theorem c_X0_begin {l : Launch} {D : va_G} {cI cZ cN cC : ClassId} {h0 h1 h2 : Nat} {mis : Int32} {siz : Int32} {val : (Nat → Int32)} {isa : (Nat → Int32)}  {res : Int32 × Int32} (hf : f_X0_begin = res) : xMet l D (xtys cI cZ cN cC) yX0_begin cX0_begin 1 none 0 0 [.ref h0] (wCha cI cZ cN cC h0 h1 h2 mis siz val isa) (wCha cI cZ cN cC h0 h1 h2 res.1 res.2 val isa) none := by
  refine x_enter (by decide) (Nat.le_of_ble_eq_true rfl) ?_
  intro p e s m args below meth c E ls hl hw
  have E : xE p s m args meth c cX0_begin 1 none RX0 D (xtys cI cZ cN cC) (xA (wCha cI cZ cN cC h0 h1 h2 mis siz val isa)) := E
  obtain ⟨hx, hb, -⟩ := id E
  have hl : lv_has ls 1 [(0, .ref h0)] := hl
  unfold f_X0_begin at hf
  refine lv_aload_n hx hb dX0_begin_0 rfl (lv_at hl 0 rfl) ?_
  refine lv_iconst (v := 0) hx hb dX0_begin_1 (by decide) ?_
  refine x_put (ws' := (wCha cI cZ cN cC h0 h1 h2 0 siz val isa)) E hw kin_X0 tyX0 tyX0_ok nmX0 0 rfl rfl 2 (by decide) kF_X0_19 rfl (v := .int 0) (xz_n (by decide)) rfl (Nat.le_of_ble_eq_true rfl) rfl dX0_begin_2 (fun H locs hw => ?_)
  refine lv_aload_n hx hb dX0_begin_5 rfl (lv_at hl 0 rfl) ?_
  refine lv_iconst (v := 0) hx hb dX0_begin_6 (by decide) ?_
  refine x_put (ws' := (wCha cI cZ cN cC h0 h1 h2 0 0 val isa)) E hw kin_X0 tyX0 tyX0_ok nmX0 0 rfl rfl 3 (by decide) kF_X0_23 rfl (v := .int 0) rfl rfl (Nat.le_of_ble_eq_true rfl) rfl dX0_begin_7 (fun H locs hw => ?_)
  subst hf
  exact x_vret E hw dX0_begin_10

def f_X0_vanish : (Int32 × Int32) :=
  (1, 0)
set_option maxHeartbeats 4000000 in
set_option maxRecDepth 100000 in
theorem c_X0_vanish {l : Launch} {D : va_G} {cI cZ cN cC : ClassId} {h0 h1 h2 : Nat} {mis : Int32} {siz : Int32} {val : (Nat → Int32)} {isa : (Nat → Int32)}  {res : Int32 × Int32} (hf : f_X0_vanish = res) : xMet l D (xtys cI cZ cN cC) yX0_vanish cX0_vanish 1 none 0 0 [.ref h0] (wCha cI cZ cN cC h0 h1 h2 mis siz val isa) (wCha cI cZ cN cC h0 h1 h2 res.1 res.2 val isa) none := by
  refine x_enter (by decide) (Nat.le_of_ble_eq_true rfl) ?_
  intro p e s m args below meth c E ls hl hw
  have E : xE p s m args meth c cX0_vanish 1 none RX0 D (xtys cI cZ cN cC) (xA (wCha cI cZ cN cC h0 h1 h2 mis siz val isa)) := E
  obtain ⟨hx, hb, -⟩ := id E
  have hl : lv_has ls 1 [(0, .ref h0)] := hl
  unfold f_X0_vanish at hf
  refine lv_aload_n hx hb dX0_vanish_0 rfl (lv_at hl 0 rfl) ?_
  refine lv_iconst (v := 1) hx hb dX0_vanish_1 (by decide) ?_
  refine x_put (ws' := (wCha cI cZ cN cC h0 h1 h2 1 siz val isa)) E hw kin_X0 tyX0 tyX0_ok nmX0 0 rfl rfl 2 (by decide) kF_X0_19 rfl (v := .int 1) (xz_n (by decide)) rfl (Nat.le_of_ble_eq_true rfl) rfl dX0_vanish_2 (fun H locs hw => ?_)
  refine lv_aload_n hx hb dX0_vanish_5 rfl (lv_at hl 0 rfl) ?_
  refine lv_iconst (v := 0) hx hb dX0_vanish_6 (by decide) ?_
  refine x_put (ws' := (wCha cI cZ cN cC h0 h1 h2 1 0 val isa)) E hw kin_X0 tyX0 tyX0_ok nmX0 0 rfl rfl 3 (by decide) kF_X0_23 rfl (v := .int 0) rfl rfl (Nat.le_of_ble_eq_true rfl) rfl dX0_vanish_7 (fun H locs hw => ?_)
  subst hf
  exact x_vret E hw dX0_vanish_10

def f_X0_insert_6 (x1 : Int32) (x2 : Int32) (x3 : Int32) (siz : Int32) : Nat → Int32 → (Nat → Int32) → (Nat → Int32) → Option (Int32 × (Nat → Int32) × (Nat → Int32))
  | 0, _, _, _ => none
  | n + 1, x4, val, isa =>
    if x4 ≤ x1 then
     if xin x1 8 then
     if xin x1 8 then
     some ((siz + 1), (upd val (Int32.toNatClampNeg x1) x2), (upd isa (Int32.toNatClampNeg x1) (vp_nar .boolean x3)))
     else none
     else none
    else
     if xin (x4 - 1) 8 then
     if xin x4 8 then
     if xin (x4 - 1) 8 then
     if xin x4 8 then
     f_X0_insert_6 x1 x2 x3 siz n (x4 + (-1)) (upd val (Int32.toNatClampNeg x4) (val (Int32.toNatClampNeg (x4 - 1)))) (upd isa (Int32.toNatClampNeg x4) (vp_nar .boolean (isa (Int32.toNatClampNeg (x4 - 1)))))
     else none
     else none
     else none
     else none
set_option maxHeartbeats 4000000 in
set_option maxRecDepth 100000 in
theorem b_X0_insert_6 {p : Program} {l : Launch} {e : Env} {s : State} {m : MethodId} {args : Array Value} {below : List Frame} {meth : Method} {c : Code} {D : va_G} {cI cZ cN cC : ClassId} {ws0 : va_W} {h0 h1 h2 : Nat} {x1 : Int32} {x2 : Int32} {x3 : Int32} {mis : Int32} {siz : Int32} {res : Int32 × (Nat → Int32) × (Nat → Int32)} (E : xE p s m args meth c cX0_insert 5 none RX0 D (xtys cI cZ cN cC) (xA ws0)) : ∀ (n : Nat) (x4 : Int32) (val : (Nat → Int32)) (isa : (Nat → Int32)), f_X0_insert_6 x1 x2 x3 siz n x4 val isa = some res → ∀ (H : Heap) (locs : List Loc) (ls : Array Slot), xw D (xA ws0) s.heap (wCha cI cZ cN cC h0 h1 h2 mis siz val isa) H locs → lv_has ls 5 [(0, .ref h0), (1, .int x1), (2, .int x2), (3, .int x3), (4, .int x4)] → xG p l e 0 0 s m args below meth c D ws0 (wCha cI cZ cN cC h0 h1 h2 mis res.1 res.2.1 res.2.2) none H locs (F0 m 6 ls []) := by
  obtain ⟨hx, hb, -⟩ := id E
  intro n
  induction n with
  | zero =>
    intro _ _ _ hf
    rw [f_X0_insert_6] at hf; cases hf
  | succ n ih =>
    intro x4 val isa hf H locs ls hw hl
    rw [f_X0_insert_6] at hf
    refine lv_iload hx hb dX0_insert_6 (lv_at hl 4 rfl) ?_
    refine lv_iload_n hx hb dX0_insert_8 rfl (lv_at hl 1 rfl) ?_
    refine lv_icmp_le (tgt := 50) hx hb dX0_insert_9 (by decide) (fun c1 => ?_) (fun c1 => ?_)
    · rw [if_pos c1] at hf
      refine lv_aload_n hx hb dX0_insert_50 rfl (lv_at hl 0 rfl) ?_
      refine x_get E hw kin_X0 0 rfl rfl 0 (by decide) kF_X0_9 (v := .ref h1) rfl dX0_insert_51 ?_
      refine lv_iload_n hx hb dX0_insert_54 rfl (lv_at hl 1 rfl) ?_
      refine lv_iload_n hx hb dX0_insert_55 rfl (lv_at hl 2 rfl) ?_
      obtain ⟨g2, hf⟩ := xgd hf
      refine x_iast (ws' := (wCha cI cZ cN cC h0 h1 h2 mis siz (upd val (Int32.toNatClampNeg x1) x2) isa)) E hw 1 0 rfl rfl (xin_vp g2) rfl dX0_insert_56 (fun H locs hw => ?_)
      refine lv_aload_n hx hb dX0_insert_57 rfl (lv_at hl 0 rfl) ?_
      refine x_get E hw kin_X0 0 rfl rfl 1 (by decide) kF_X0_15 (v := .ref h2) rfl dX0_insert_58 ?_
      refine lv_iload_n hx hb dX0_insert_61 rfl (lv_at hl 1 rfl) ?_
      refine lv_iload_n hx hb dX0_insert_62 rfl (lv_at hl 3 rfl) ?_
      obtain ⟨g3, hf⟩ := xgd hf
      refine x_zast (ws' := (wCha cI cZ cN cC h0 h1 h2 mis siz (upd val (Int32.toNatClampNeg x1) x2) (upd isa (Int32.toNatClampNeg x1) (vp_nar .boolean x3)))) E hw 2 1 rfl rfl (xin_vp g3) rfl dX0_insert_63 (fun H locs hw => ?_)
      refine lv_aload_n hx hb dX0_insert_64 rfl (lv_at hl 0 rfl) ?_
      refine lv_dup hx hb dX0_insert_65 rfl ?_
      refine x_get E hw kin_X0 0 rfl rfl 3 (by decide) kF_X0_23 (v := .int siz) rfl dX0_insert_66 ?_
      refine lv_iconst (v := 1) hx hb dX0_insert_69 (by decide) ?_
      refine lv_iadd hx hb dX0_insert_70 ?_
      refine x_put (ws' := (wCha cI cZ cN cC h0 h1 h2 mis (siz + 1) (upd val (Int32.toNatClampNeg x1) x2) (upd isa (Int32.toNatClampNeg x1) (vp_nar .boolean x3)))) E hw kin_X0 tyX0 tyX0_ok nmX0 0 rfl rfl 3 (by decide) kF_X0_23 rfl (v := .int (siz + 1)) rfl rfl (Nat.le_of_ble_eq_true rfl) rfl dX0_insert_71 (fun H locs hw => ?_)
      have hf := Option.some.inj hf; subst hf
      exact x_vret E hw dX0_insert_74
    · rw [if_neg c1] at hf
      refine lv_aload_n hx hb dX0_insert_12 rfl (lv_at hl 0 rfl) ?_
      refine x_get E hw kin_X0 0 rfl rfl 0 (by decide) kF_X0_9 (v := .ref h1) rfl dX0_insert_13 ?_
      refine lv_iload hx hb dX0_insert_16 (lv_at hl 4 rfl) ?_
      refine lv_aload_n hx hb dX0_insert_18 rfl (lv_at hl 0 rfl) ?_
      refine x_get E hw kin_X0 0 rfl rfl 0 (by decide) kF_X0_9 (v := .ref h1) rfl dX0_insert_19 ?_
      refine lv_iload hx hb dX0_insert_22 (lv_at hl 4 rfl) ?_
      refine lv_iconst (v := 1) hx hb dX0_insert_24 (by decide) ?_
      refine lv_isub hx hb dX0_insert_25 ?_
      obtain ⟨g4, hf⟩ := xgd hf
      refine x_iald E hw 1 0 rfl rfl (xin_vp g4) dX0_insert_26 ?_
      obtain ⟨g5, hf⟩ := xgd hf
      refine x_iast (ws' := (wCha cI cZ cN cC h0 h1 h2 mis siz (upd val (Int32.toNatClampNeg x4) (val (Int32.toNatClampNeg (x4 - 1)))) isa)) E hw 1 0 rfl rfl (xin_vp g5) rfl dX0_insert_27 (fun H locs hw => ?_)
      refine lv_aload_n hx hb dX0_insert_28 rfl (lv_at hl 0 rfl) ?_
      refine x_get E hw kin_X0 0 rfl rfl 1 (by decide) kF_X0_15 (v := .ref h2) rfl dX0_insert_29 ?_
      refine lv_iload hx hb dX0_insert_32 (lv_at hl 4 rfl) ?_
      refine lv_aload_n hx hb dX0_insert_34 rfl (lv_at hl 0 rfl) ?_
      refine x_get E hw kin_X0 0 rfl rfl 1 (by decide) kF_X0_15 (v := .ref h2) rfl dX0_insert_35 ?_
      refine lv_iload hx hb dX0_insert_38 (lv_at hl 4 rfl) ?_
      refine lv_iconst (v := 1) hx hb dX0_insert_40 (by decide) ?_
      refine lv_isub hx hb dX0_insert_41 ?_
      obtain ⟨g6, hf⟩ := xgd hf
      refine x_zald E hw 2 1 rfl rfl (xin_vp g6) dX0_insert_42 ?_
      obtain ⟨g7, hf⟩ := xgd hf
      refine x_zast (ws' := (wCha cI cZ cN cC h0 h1 h2 mis siz (upd val (Int32.toNatClampNeg x4) (val (Int32.toNatClampNeg (x4 - 1)))) (upd isa (Int32.toNatClampNeg x4) (vp_nar .boolean (isa (Int32.toNatClampNeg (x4 - 1))))))) E hw 2 1 rfl rfl (xin_vp g7) rfl dX0_insert_43 (fun H locs hw => ?_)
      refine lv_iinc (v := (x4 + (-1))) (lv' := [(4, .int (x4 + (-1))), (0, .ref h0), (1, .int x1), (2, .int x2), (3, .int x3)]) hx hb dX0_insert_44 hl (k := 4) rfl rfl (by decide) rfl (fun ls hl => ?_)
      refine lv_goto (tgt := 6) hx hb dX0_insert_47 (by decide) ?_
      exact ih _ _ _ hf _ _ _ hw (lv_sub hl [1, 2, 3, 4, 0] rfl)
def f_X0_insert (N : Nat) (x1 : Int32) (x2 : Int32) (x3 : Int32) (siz : Int32) (val : (Nat → Int32)) (isa : (Nat → Int32)) : Option (Int32 × (Nat → Int32) × (Nat → Int32)) :=
  f_X0_insert_6 x1 x2 x3 siz N siz val isa
set_option maxHeartbeats 4000000 in
set_option maxRecDepth 100000 in
theorem c_X0_insert {l : Launch} {D : va_G} {cI cZ cN cC : ClassId} {h0 h1 h2 : Nat} {mis : Int32} {siz : Int32} {val : (Nat → Int32)} {isa : (Nat → Int32)} {x1 : Int32} {x2 : Int32} {x3 : Int32} {N : Nat} {res : Int32 × (Nat → Int32) × (Nat → Int32)} (hf : f_X0_insert N x1 x2 x3 siz val isa = some res) : xMet l D (xtys cI cZ cN cC) yX0_insert cX0_insert 5 none 0 0 [.ref h0, .int x1, .int x2, .int x3] (wCha cI cZ cN cC h0 h1 h2 mis siz val isa) (wCha cI cZ cN cC h0 h1 h2 mis res.1 res.2.1 res.2.2) none := by
  refine x_enter (by decide) (Nat.le_of_ble_eq_true rfl) ?_
  intro p e s m args below meth c E ls hl hw
  have E : xE p s m args meth c cX0_insert 5 none RX0 D (xtys cI cZ cN cC) (xA (wCha cI cZ cN cC h0 h1 h2 mis siz val isa)) := E
  obtain ⟨hx, hb, -⟩ := id E
  have hl : lv_has ls 5 [(0, .ref h0), (1, .int x1), (2, .int x2), (3, .int x3)] := hl
  unfold f_X0_insert at hf
  refine lv_aload_n hx hb dX0_insert_0 rfl (lv_at hl 0 rfl) ?_
  refine x_get E hw kin_X0 0 rfl rfl 3 (by decide) kF_X0_23 (v := .int siz) rfl dX0_insert_1 ?_
  refine lv_istore (lv' := [(4, .int siz), (0, .ref h0), (1, .int x1), (2, .int x2), (3, .int x3)]) hx hb dX0_insert_4 hl (by decide) rfl (fun ls hl => ?_)
  exact b_X0_insert_6 E N _ _ _ hf _ _ _ hw (lv_sub hl [1, 2, 3, 4, 0] rfl)

def f_X0_total_5 (x1 : Int32) (x2 : Int32) (siz : Int32) (val : (Nat → Int32)) (isa : (Nat → Int32)) : Nat → Int32 → Int32 → Option (Int32)
  | 0, _, _ => none
  | n + 1, x3, x4 =>
    if siz ≤ x4 then
     some x3
    else
     if xin x4 8 then
     if (isa (Int32.toNatClampNeg x4)) = 0 then
      if x1 = 0 then
       f_X0_total_5 x1 x2 siz val isa n x3 (x4 + 1)
      else
       if xin x4 8 then
       f_X0_total_5 x1 x2 siz val isa n (x3 + (val (Int32.toNatClampNeg x4))) (x4 + 1)
       else none
     else
      if x2 = 0 then
       f_X0_total_5 x1 x2 siz val isa n x3 (x4 + 1)
      else
       if xin x4 8 then
       f_X0_total_5 x1 x2 siz val isa n (x3 + (val (Int32.toNatClampNeg x4))) (x4 + 1)
       else none
     else none
set_option maxHeartbeats 4000000 in
set_option maxRecDepth 100000 in
theorem b_X0_total_5 {p : Program} {l : Launch} {e : Env} {s : State} {m : MethodId} {args : Array Value} {below : List Frame} {meth : Method} {c : Code} {D : va_G} {cI cZ cN cC : ClassId} {ws0 : va_W} {h0 h1 h2 : Nat} {x1 : Int32} {x2 : Int32} {mis : Int32} {siz : Int32} {val : (Nat → Int32)} {isa : (Nat → Int32)} {res : Int32} (E : xE p s m args meth c cX0_total 5 (some .int) RX0 D (xtys cI cZ cN cC) (xA ws0)) : ∀ (n : Nat) (x3 : Int32) (x4 : Int32), f_X0_total_5 x1 x2 siz val isa n x3 x4 = some res → ∀ (H : Heap) (locs : List Loc) (ls : Array Slot), xw D (xA ws0) s.heap (wCha cI cZ cN cC h0 h1 h2 mis siz val isa) H locs → lv_has ls 5 [(0, .ref h0), (1, .int x1), (2, .int x2), (3, .int x3), (4, .int x4)] → xG p l e 0 0 s m args below meth c D ws0 (wCha cI cZ cN cC h0 h1 h2 mis siz val isa) (some (.int res)) H locs (F0 m 5 ls []) := by
  obtain ⟨hx, hb, -⟩ := id E
  intro n
  induction n with
  | zero =>
    intro _ _ hf
    rw [f_X0_total_5] at hf; cases hf
  | succ n ih =>
    intro x3 x4 hf H locs ls hw hl
    rw [f_X0_total_5] at hf
    refine lv_iload hx hb dX0_total_5 (lv_at hl 4 rfl) ?_
    refine lv_aload_n hx hb dX0_total_7 rfl (lv_at hl 0 rfl) ?_
    refine x_get E hw kin_X0 0 rfl rfl 3 (by decide) kF_X0_23 (v := .int siz) rfl dX0_total_8 ?_
    refine lv_icmp_ge (tgt := 51) hx hb dX0_total_11 (by decide) (fun c1 => ?_) (fun c1 => ?_)
    · rw [if_pos c1] at hf
      refine lv_iload_n hx hb dX0_total_51 rfl (lv_at hl 3 rfl) ?_
      have hf := Option.some.inj hf; subst hf
      exact x_iret E hw dX0_total_52
    · rw [if_neg c1] at hf
      refine lv_aload_n hx hb dX0_total_14 rfl (lv_at hl 0 rfl) ?_
      refine x_get E hw kin_X0 0 rfl rfl 1 (by decide) kF_X0_15 (v := .ref h2) rfl dX0_total_15 ?_
      refine lv_iload hx hb dX0_total_18 (lv_at hl 4 rfl) ?_
      obtain ⟨g2, hf⟩ := xgd hf
      refine x_zald E hw 2 1 rfl rfl (xin_vp g2) dX0_total_20 ?_
      refine lv_if_eq (tgt := 31) hx hb dX0_total_21 (by decide) (fun c3 => ?_) (fun c3 => ?_)
      · rw [if_pos c3] at hf
        refine lv_iload_n hx hb dX0_total_31 rfl (lv_at hl 1 rfl) ?_
        refine lv_if_eq (tgt := 45) hx hb dX0_total_32 (by decide) (fun c4 => ?_) (fun c4 => ?_)
        · rw [if_pos c4] at hf
          refine lv_iinc (v := (x4 + 1)) (lv' := [(4, .int (x4 + 1)), (0, .ref h0), (1, .int x1), (2, .int x2), (3, .int x3)]) hx hb dX0_total_45 hl (k := 4) rfl rfl (by decide) rfl (fun ls hl => ?_)
          refine lv_goto (tgt := 5) hx hb dX0_total_48 (by decide) ?_
          exact ih _ _ hf _ _ _ hw (lv_sub hl [1, 2, 3, 4, 0] rfl)
        · rw [if_neg c4] at hf
          refine lv_iload_n hx hb dX0_total_35 rfl (lv_at hl 3 rfl) ?_
          refine lv_aload_n hx hb dX0_total_36 rfl (lv_at hl 0 rfl) ?_
          refine x_get E hw kin_X0 0 rfl rfl 0 (by decide) kF_X0_9 (v := .ref h1) rfl dX0_total_37 ?_
          refine lv_iload hx hb dX0_total_40 (lv_at hl 4 rfl) ?_
          obtain ⟨g5, hf⟩ := xgd hf
          refine x_iald E hw 1 0 rfl rfl (xin_vp g5) dX0_total_42 ?_
          refine lv_iadd hx hb dX0_total_43 ?_
          refine lv_istore_n (lv' := [(3, .int (x3 + (val (Int32.toNatClampNeg x4)))), (0, .ref h0), (1, .int x1), (2, .int x2), (4, .int x4)]) hx hb dX0_total_44 rfl hl (by decide) rfl (fun ls hl => ?_)
          refine lv_iinc (v := (x4 + 1)) (lv' := [(4, .int (x4 + 1)), (3, .int (x3 + (val (Int32.toNatClampNeg x4)))), (0, .ref h0), (1, .int x1), (2, .int x2)]) hx hb dX0_total_45 hl (k := 4) rfl rfl (by decide) rfl (fun ls hl => ?_)
          refine lv_goto (tgt := 5) hx hb dX0_total_48 (by decide) ?_
          exact ih _ _ hf _ _ _ hw (lv_sub hl [2, 3, 4, 1, 0] rfl)
      · rw [if_neg c3] at hf
        refine lv_iload_n hx hb dX0_total_24 rfl (lv_at hl 2 rfl) ?_
        refine lv_if_eq (tgt := 45) hx hb dX0_total_25 (by decide) (fun c6 => ?_) (fun c6 => ?_)
        · rw [if_pos c6] at hf
          refine lv_iinc (v := (x4 + 1)) (lv' := [(4, .int (x4 + 1)), (0, .ref h0), (1, .int x1), (2, .int x2), (3, .int x3)]) hx hb dX0_total_45 hl (k := 4) rfl rfl (by decide) rfl (fun ls hl => ?_)
          refine lv_goto (tgt := 5) hx hb dX0_total_48 (by decide) ?_
          exact ih _ _ hf _ _ _ hw (lv_sub hl [1, 2, 3, 4, 0] rfl)
        · rw [if_neg c6] at hf
          refine lv_goto (tgt := 35) hx hb dX0_total_28 (by decide) ?_
          refine lv_iload_n hx hb dX0_total_35 rfl (lv_at hl 3 rfl) ?_
          refine lv_aload_n hx hb dX0_total_36 rfl (lv_at hl 0 rfl) ?_
          refine x_get E hw kin_X0 0 rfl rfl 0 (by decide) kF_X0_9 (v := .ref h1) rfl dX0_total_37 ?_
          refine lv_iload hx hb dX0_total_40 (lv_at hl 4 rfl) ?_
          obtain ⟨g7, hf⟩ := xgd hf
          refine x_iald E hw 1 0 rfl rfl (xin_vp g7) dX0_total_42 ?_
          refine lv_iadd hx hb dX0_total_43 ?_
          refine lv_istore_n (lv' := [(3, .int (x3 + (val (Int32.toNatClampNeg x4)))), (0, .ref h0), (1, .int x1), (2, .int x2), (4, .int x4)]) hx hb dX0_total_44 rfl hl (by decide) rfl (fun ls hl => ?_)
          refine lv_iinc (v := (x4 + 1)) (lv' := [(4, .int (x4 + 1)), (3, .int (x3 + (val (Int32.toNatClampNeg x4)))), (0, .ref h0), (1, .int x1), (2, .int x2)]) hx hb dX0_total_45 hl (k := 4) rfl rfl (by decide) rfl (fun ls hl => ?_)
          refine lv_goto (tgt := 5) hx hb dX0_total_48 (by decide) ?_
          exact ih _ _ hf _ _ _ hw (lv_sub hl [2, 3, 4, 1, 0] rfl)
def f_X0_total (N : Nat) (x1 : Int32) (x2 : Int32) (siz : Int32) (val : (Nat → Int32)) (isa : (Nat → Int32)) : Option (Int32) :=
  f_X0_total_5 x1 x2 siz val isa N 0 0
set_option maxHeartbeats 4000000 in
set_option maxRecDepth 100000 in
theorem c_X0_total {l : Launch} {D : va_G} {cI cZ cN cC : ClassId} {h0 h1 h2 : Nat} {mis : Int32} {siz : Int32} {val : (Nat → Int32)} {isa : (Nat → Int32)} {x1 : Int32} {x2 : Int32} {N : Nat} {res : Int32} (hf : f_X0_total N x1 x2 siz val isa = some res) : xMet l D (xtys cI cZ cN cC) yX0_total cX0_total 5 (some .int) 0 0 [.ref h0, .int x1, .int x2] (wCha cI cZ cN cC h0 h1 h2 mis siz val isa) (wCha cI cZ cN cC h0 h1 h2 mis siz val isa) (some (.int res)) := by
  refine x_enter (by decide) (Nat.le_of_ble_eq_true rfl) ?_
  intro p e s m args below meth c E ls hl hw
  have E : xE p s m args meth c cX0_total 5 (some .int) RX0 D (xtys cI cZ cN cC) (xA (wCha cI cZ cN cC h0 h1 h2 mis siz val isa)) := E
  obtain ⟨hx, hb, -⟩ := id E
  have hl : lv_has ls 5 [(0, .ref h0), (1, .int x1), (2, .int x2)] := hl
  unfold f_X0_total at hf
  refine lv_iconst (v := 0) hx hb dX0_total_0 (by decide) ?_
  refine lv_istore_n (lv' := [(3, .int 0), (0, .ref h0), (1, .int x1), (2, .int x2)]) hx hb dX0_total_1 rfl hl (by decide) rfl (fun ls hl => ?_)
  refine lv_iconst (v := 0) hx hb dX0_total_2 (by decide) ?_
  refine lv_istore (lv' := [(4, .int 0), (3, .int 0), (0, .ref h0), (1, .int x1), (2, .int x2)]) hx hb dX0_total_3 hl (by decide) rfl (fun ls hl => ?_)
  exact b_X0_total_5 E N _ _ hf _ _ _ hw (lv_sub hl [2, 3, 4, 1, 0] rfl)

