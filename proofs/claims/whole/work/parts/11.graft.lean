def f_X3_followArcs_3 (gr : Int32 → Int32 → Int32 → Int32 → Int32 → Int32 → (Nat → Int32) → (Nat → Int32) → (Nat → Int32) → Option (Int32 × (Nat → Int32) × (Nat → Int32))) (x1 : Int32) (x2 : Int32) (x3 : Int32) (pts : Int32) (out : (Nat → Int32)) : Nat → Int32 → Int32 → (Nat → Int32) → (Nat → Int32) → Option (Int32 × (Nat → Int32) × (Nat → Int32))
  | 0, _, _, _, _ => none
  | n + 1, x4, wrk, mem, abv =>
    if pts ≤ x4 then
     some (wrk, mem, abv)
    else
     (f_X3_hasArc x2 x4 out).bind fun q2 =>
     if q2 = 0 then
      f_X3_followArcs_3 gr x1 x2 x3 pts out n (x4 + 1) wrk mem abv
     else
      (f_X3_comesTo x1 x4 mem).bind fun q4 =>
      if q4 = 0 then
       (gr x1 x4 x2 (x3 + 1) pts (wrk + 1) out mem abv).bind fun q6 =>
       f_X3_followArcs_3 gr x1 x2 x3 pts out n (x4 + 1) q6.1 q6.2.1 q6.2.2
      else
       f_X3_followArcs_3 gr x1 x2 x3 pts out n (x4 + 1) (wrk + 1) mem abv
set_option maxHeartbeats 4000000 in
set_option maxRecDepth 100000 in
theorem b_X3_followArcs_3 {p : Program} {l : Launch} {e : Env} {s : State} {m : MethodId} {args : Array Value} {below : List Frame} {meth : Method} {c : Code} {D : va_G} {cI cZ cN cC : ClassId} {ws0 : va_W} {h0 h1 h2 h3 : Nat} {x1 : Int32} {x2 : Int32} {x3 : Int32} {pts : Int32} {out : (Nat → Int32)} {res : Int32 × (Nat → Int32) × (Nat → Int32)} {gr : Int32 → Int32 → Int32 → Int32 → Int32 → Int32 → (Nat → Int32) → (Nat → Int32) → (Nat → Int32) → Option (Int32 × (Nat → Int32) × (Nat → Int32))} {fr lo fg lg : Nat} (gr_h : ∀ {h0 h1 h2 h3 : Nat} {pts : Int32} {wrk : Int32} {out : Nat → Int32} {mem : Nat → Int32} {abv : Nat → Int32} {x1 : Int32} {x2 : Int32} {x3 : Int32} {x4 : Int32} {res : Int32 × (Nat → Int32) × (Nat → Int32)}, gr x1 x2 x3 x4 pts wrk out mem abv = some res → xMet l D (xtys cI cZ cN cC) yX3_graft cX3_graft 5 none fg lg [.ref h0, .int x1, .int x2, .int x3, .int x4] (wNet cI cZ cN cC h0 h1 h2 h3 pts wrk out mem abv) (wNet cI cZ cN cC h0 h1 h2 h3 pts res.1 out res.2.1 res.2.2) none) (gr_r : fg + 1 ≤ fr ∧ 8 + (5 + 11) + lg ≤ lo) (gr_b : 2 ≤ fr ∧ 43 ≤ lo) (E : xE p s m args meth c cX3_followArcs 5 none RX3 D (xtys cI cZ cN cC) (xA ws0)) : ∀ (n : Nat) (x4 : Int32) (wrk : Int32) (mem : (Nat → Int32)) (abv : (Nat → Int32)), f_X3_followArcs_3 gr x1 x2 x3 pts out n x4 wrk mem abv = some res → ∀ (H : Heap) (locs : List Loc) (ls : Array Slot), xw D (xA ws0) s.heap (wNet cI cZ cN cC h0 h1 h2 h3 pts wrk out mem abv) H locs → lv_has ls 5 [(0, .ref h0), (1, .int x1), (2, .int x2), (3, .int x3), (4, .int x4)] → xG p l e fr lo s m args below meth c D ws0 (wNet cI cZ cN cC h0 h1 h2 h3 pts res.1 out res.2.1 res.2.2) none H locs (F0 m 3 ls []) := by
  obtain ⟨hx, hb, -⟩ := id E
  intro n
  induction n with
  | zero =>
    intro _ _ _ _ hf
    rw [f_X3_followArcs_3] at hf; cases hf
  | succ n ih =>
    intro x4 wrk mem abv hf H locs ls hw hl
    rw [f_X3_followArcs_3] at hf
    refine lv_iload hx hb dX3_followArcs_3 (lv_at hl 4 rfl) ?_
    refine lv_aload_n hx hb dX3_followArcs_5 rfl (lv_at hl 0 rfl) ?_
    refine x_get E hw kin_X3 0 rfl rfl 0 (by decide) kF_X3_25 (v := .int pts) rfl dX3_followArcs_6 ?_
    refine lv_icmp_ge (tgt := 59) hx hb dX3_followArcs_9 (by decide) (fun c1 => ?_) (fun c1 => ?_)
    · rw [if_pos c1] at hf
      have hf := Option.some.inj hf; subst hf
      exact x_vret E hw dX3_followArcs_59
    · rw [if_neg c1] at hf
      refine lv_aload_n hx hb dX3_followArcs_12 rfl (lv_at hl 0 rfl) ?_
      refine lv_iload_n hx hb dX3_followArcs_13 rfl (lv_at hl 2 rfl) ?_
      refine lv_iload hx hb dX3_followArcs_14 (lv_at hl 4 rfl) ?_
      obtain ⟨q2, hq2, hf⟩ := Option.bind_eq_some_iff.mp hf
      refine x_callVI (ws' := (wNet cI cZ cN cC h0 h1 h2 h3 pts wrk out mem abv)) (st1 := [.int q2]) (As := [.int x2, .int x4]) (rest := []) E hw vc_X3_76 (c_X3_hasArc (cI := cI) (cZ := cZ) (cN := cN) (cC := cC) (h0 := h0) (h1 := h1) (h2 := h2) (h3 := h3)  (pts := pts) (wrk := wrk) (out := out) (mem := mem) (abv := abv) (x1 := x2) (x2 := x4) hq2) 0 3 rfl rfl rfl rfl rfl ⟨Nat.le_trans (Nat.le_of_ble_eq_true rfl) gr_b.1, Nat.le_trans (Nat.le_of_ble_eq_true rfl) gr_b.2⟩ ⟨Nat.le_refl _, Nat.le_refl _⟩ hl.1 rfl rfl (Nat.le_of_ble_eq_true rfl) dX3_followArcs_16 (fun H locs hw => ?_)
      refine lv_if_eq (tgt := 53) hx hb dX3_followArcs_19 (by decide) (fun c3 => ?_) (fun c3 => ?_)
      · rw [if_pos c3] at hf
        refine lv_iinc (v := (x4 + 1)) (lv' := [(4, .int (x4 + 1)), (0, .ref h0), (1, .int x1), (2, .int x2), (3, .int x3)]) hx hb dX3_followArcs_53 hl (k := 4) rfl rfl (by decide) rfl (fun ls hl => ?_)
        refine lv_goto (tgt := 3) hx hb dX3_followArcs_56 (by decide) ?_
        exact ih _ _ _ _ hf _ _ _ hw (lv_sub hl [1, 2, 3, 4, 0] rfl)
      · rw [if_neg c3] at hf
        refine lv_aload_n hx hb dX3_followArcs_22 rfl (lv_at hl 0 rfl) ?_
        refine lv_dup hx hb dX3_followArcs_23 rfl ?_
        refine x_get E hw kin_X3 0 rfl rfl 1 (by decide) kF_X3_29 (v := .int wrk) rfl dX3_followArcs_24 ?_
        refine lv_iconst (v := 1) hx hb dX3_followArcs_27 (by decide) ?_
        refine lv_iadd hx hb dX3_followArcs_28 ?_
        refine x_put (ws' := (wNet cI cZ cN cC h0 h1 h2 h3 pts (wrk + 1) out mem abv)) E hw kin_X3 tyX3 tyX3_ok nmX3 0 rfl rfl 1 (by decide) kF_X3_29 rfl (v := .int (wrk + 1)) rfl rfl (Nat.le_of_ble_eq_true rfl) rfl dX3_followArcs_29 (fun H locs hw => ?_)
        refine lv_aload_n hx hb dX3_followArcs_32 rfl (lv_at hl 0 rfl) ?_
        refine lv_iload_n hx hb dX3_followArcs_33 rfl (lv_at hl 1 rfl) ?_
        refine lv_iload hx hb dX3_followArcs_34 (lv_at hl 4 rfl) ?_
        obtain ⟨q4, hq4, hf⟩ := Option.bind_eq_some_iff.mp hf
        refine x_callVI (ws' := (wNet cI cZ cN cC h0 h1 h2 h3 pts (wrk + 1) out mem abv)) (st1 := [.int q4]) (As := [.int x1, .int x4]) (rest := []) E hw vc_X3_65 (c_X3_comesTo (cI := cI) (cZ := cZ) (cN := cN) (cC := cC) (h0 := h0) (h1 := h1) (h2 := h2) (h3 := h3)  (pts := pts) (wrk := (wrk + 1)) (out := out) (mem := mem) (abv := abv) (x1 := x1) (x2 := x4) hq4) 0 3 rfl rfl rfl rfl rfl ⟨Nat.le_trans (Nat.le_of_ble_eq_true rfl) gr_b.1, Nat.le_trans (Nat.le_of_ble_eq_true rfl) gr_b.2⟩ ⟨Nat.le_refl _, Nat.le_refl _⟩ hl.1 rfl rfl (Nat.le_of_ble_eq_true rfl) dX3_followArcs_36 (fun H locs hw => ?_)
        refine lv_if_ne (tgt := 53) hx hb dX3_followArcs_39 (by decide) (fun c5 => ?_) (fun c5 => ?_)
        · rw [if_neg c5] at hf
          refine lv_iinc (v := (x4 + 1)) (lv' := [(4, .int (x4 + 1)), (0, .ref h0), (1, .int x1), (2, .int x2), (3, .int x3)]) hx hb dX3_followArcs_53 hl (k := 4) rfl rfl (by decide) rfl (fun ls hl => ?_)
          refine lv_goto (tgt := 3) hx hb dX3_followArcs_56 (by decide) ?_
          exact ih _ _ _ _ hf _ _ _ hw (lv_sub hl [1, 2, 3, 4, 0] rfl)
        · rw [if_pos c5] at hf
          refine lv_aload_n hx hb dX3_followArcs_42 rfl (lv_at hl 0 rfl) ?_
          refine lv_iload_n hx hb dX3_followArcs_43 rfl (lv_at hl 1 rfl) ?_
          refine lv_iload hx hb dX3_followArcs_44 (lv_at hl 4 rfl) ?_
          refine lv_iload_n hx hb dX3_followArcs_46 rfl (lv_at hl 2 rfl) ?_
          refine lv_iload_n hx hb dX3_followArcs_47 rfl (lv_at hl 3 rfl) ?_
          refine lv_iconst (v := 1) hx hb dX3_followArcs_48 (by decide) ?_
          refine lv_iadd hx hb dX3_followArcs_49 ?_
          obtain ⟨q6, hq6, hf⟩ := Option.bind_eq_some_iff.mp hf
          refine x_callVI (ws' := (wNet cI cZ cN cC h0 h1 h2 h3 pts q6.1 out q6.2.1 q6.2.2)) (st1 := []) (As := [.int x1, .int x4, .int x2, .int (x3 + 1)]) (rest := []) E hw vc_X3_68 (gr_h (h0 := h0) (h1 := h1) (h2 := h2) (h3 := h3)  (pts := pts) (wrk := (wrk + 1)) (out := out) (mem := mem) (abv := abv) (x1 := x1) (x2 := x4) (x3 := x2) (x4 := (x3 + 1)) hq6) 0 3 rfl rfl rfl rfl rfl (gr_r) ⟨Nat.le_refl _, Nat.le_refl _⟩ hl.1 rfl rfl (Nat.le_of_ble_eq_true rfl) dX3_followArcs_50 (fun H locs hw => ?_)
          refine lv_iinc (v := (x4 + 1)) (lv' := [(4, .int (x4 + 1)), (0, .ref h0), (1, .int x1), (2, .int x2), (3, .int x3)]) hx hb dX3_followArcs_53 hl (k := 4) rfl rfl (by decide) rfl (fun ls hl => ?_)
          refine lv_goto (tgt := 3) hx hb dX3_followArcs_56 (by decide) ?_
          exact ih _ _ _ _ hf _ _ _ hw (lv_sub hl [1, 2, 3, 4, 0] rfl)
def f_X3_followArcs (gr : Int32 → Int32 → Int32 → Int32 → Int32 → Int32 → (Nat → Int32) → (Nat → Int32) → (Nat → Int32) → Option (Int32 × (Nat → Int32) × (Nat → Int32))) (N : Nat) (x1 : Int32) (x2 : Int32) (x3 : Int32) (pts : Int32) (wrk : Int32) (out : (Nat → Int32)) (mem : (Nat → Int32)) (abv : (Nat → Int32)) : Option (Int32 × (Nat → Int32) × (Nat → Int32)) :=
  f_X3_followArcs_3 gr x1 x2 x3 pts out N 0 wrk mem abv
set_option maxHeartbeats 4000000 in
set_option maxRecDepth 100000 in
theorem c_X3_followArcs {l : Launch} {D : va_G} {cI cZ cN cC : ClassId} {h0 h1 h2 h3 : Nat} {pts : Int32} {wrk : Int32} {out : (Nat → Int32)} {mem : (Nat → Int32)} {abv : (Nat → Int32)} {x1 : Int32} {x2 : Int32} {x3 : Int32} {N : Nat} {res : Int32 × (Nat → Int32) × (Nat → Int32)} {gr : Int32 → Int32 → Int32 → Int32 → Int32 → Int32 → (Nat → Int32) → (Nat → Int32) → (Nat → Int32) → Option (Int32 × (Nat → Int32) × (Nat → Int32))} {fr lo fg lg : Nat} (gr_h : ∀ {h0 h1 h2 h3 : Nat} {pts : Int32} {wrk : Int32} {out : Nat → Int32} {mem : Nat → Int32} {abv : Nat → Int32} {x1 : Int32} {x2 : Int32} {x3 : Int32} {x4 : Int32} {res : Int32 × (Nat → Int32) × (Nat → Int32)}, gr x1 x2 x3 x4 pts wrk out mem abv = some res → xMet l D (xtys cI cZ cN cC) yX3_graft cX3_graft 5 none fg lg [.ref h0, .int x1, .int x2, .int x3, .int x4] (wNet cI cZ cN cC h0 h1 h2 h3 pts wrk out mem abv) (wNet cI cZ cN cC h0 h1 h2 h3 pts res.1 out res.2.1 res.2.2) none) (gr_r : fg + 1 ≤ fr ∧ 8 + (5 + 11) + lg ≤ lo) (gr_b : 2 ≤ fr ∧ 43 ≤ lo) (hf : f_X3_followArcs gr N x1 x2 x3 pts wrk out mem abv = some res) : xMet l D (xtys cI cZ cN cC) yX3_followArcs cX3_followArcs 5 none fr lo [.ref h0, .int x1, .int x2, .int x3] (wNet cI cZ cN cC h0 h1 h2 h3 pts wrk out mem abv) (wNet cI cZ cN cC h0 h1 h2 h3 pts res.1 out res.2.1 res.2.2) none := by
  refine x_enter (by decide) (Nat.le_of_ble_eq_true rfl) ?_
  intro p e s m args below meth c E ls hl hw
  have E : xE p s m args meth c cX3_followArcs 5 none RX3 D (xtys cI cZ cN cC) (xA (wNet cI cZ cN cC h0 h1 h2 h3 pts wrk out mem abv)) := E
  obtain ⟨hx, hb, -⟩ := id E
  have hl : lv_has ls 5 [(0, .ref h0), (1, .int x1), (2, .int x2), (3, .int x3)] := hl
  unfold f_X3_followArcs at hf
  refine lv_iconst (v := 0) hx hb dX3_followArcs_0 (by decide) ?_
  refine lv_istore (lv' := [(4, .int 0), (0, .ref h0), (1, .int x1), (2, .int x2), (3, .int x3)]) hx hb dX3_followArcs_1 hl (by decide) rfl (fun ls hl => ?_)
  exact b_X3_followArcs_3 (gr := gr) gr_h gr_r gr_b E N _ _ _ _ hf _ _ _ hw (lv_sub hl [1, 2, 3, 4, 0] rfl)

def f_X3_graft (fa : Int32 → Int32 → Int32 → Int32 → Int32 → (Nat → Int32) → (Nat → Int32) → (Nat → Int32) → Option (Int32 × (Nat → Int32) × (Nat → Int32))) (x1 : Int32) (x2 : Int32) (x3 : Int32) (x4 : Int32) (pts : Int32) (wrk : Int32) (out : (Nat → Int32)) (mem : (Nat → Int32)) (abv : (Nat → Int32)) : Option (Int32 × (Nat → Int32) × (Nat → Int32)) :=
  if x4 ≤ 10 then
   if xin x1 10 then
   if xin x1 10 then
   if xin ((x1 * 10) + x2) 100 then
   (fa x1 x2 x4 pts wrk out (upd mem (Int32.toNatClampNeg x1) ((mem (Int32.toNatClampNeg x1)) ||| (1 <<< (x2 &&& 31)))) (upd abv (Int32.toNatClampNeg ((x1 * 10) + x2)) x3)).bind fun q5 =>
   some (q5.1, q5.2.1, q5.2.2)
   else none
   else none
   else none
  else
   some (wrk, mem, abv)
set_option maxHeartbeats 4000000 in
set_option maxRecDepth 100000 in
theorem c_X3_graft {l : Launch} {D : va_G} {cI cZ cN cC : ClassId} {h0 h1 h2 h3 : Nat} {pts : Int32} {wrk : Int32} {out : (Nat → Int32)} {mem : (Nat → Int32)} {abv : (Nat → Int32)} {x1 : Int32} {x2 : Int32} {x3 : Int32} {x4 : Int32} {res : Int32 × (Nat → Int32) × (Nat → Int32)} {fa : Int32 → Int32 → Int32 → Int32 → Int32 → (Nat → Int32) → (Nat → Int32) → (Nat → Int32) → Option (Int32 × (Nat → Int32) × (Nat → Int32))} {fr lo fg lg : Nat} (fa_h : ∀ {h0 h1 h2 h3 : Nat} {pts : Int32} {wrk : Int32} {out : Nat → Int32} {mem : Nat → Int32} {abv : Nat → Int32} {x1 : Int32} {x2 : Int32} {x3 : Int32} {res : Int32 × (Nat → Int32) × (Nat → Int32)}, fa x1 x2 x3 pts wrk out mem abv = some res → xMet l D (xtys cI cZ cN cC) yX3_followArcs cX3_followArcs 5 none fg lg [.ref h0, .int x1, .int x2, .int x3] (wNet cI cZ cN cC h0 h1 h2 h3 pts wrk out mem abv) (wNet cI cZ cN cC h0 h1 h2 h3 pts res.1 out res.2.1 res.2.2) none) (fa_r : fg + 1 ≤ fr ∧ 8 + (5 + 11) + lg ≤ lo) (gr_b : 0 ≤ fr ∧ 0 ≤ lo) (hf : f_X3_graft fa x1 x2 x3 x4 pts wrk out mem abv = some res) : xMet l D (xtys cI cZ cN cC) yX3_graft cX3_graft 5 none fr lo [.ref h0, .int x1, .int x2, .int x3, .int x4] (wNet cI cZ cN cC h0 h1 h2 h3 pts wrk out mem abv) (wNet cI cZ cN cC h0 h1 h2 h3 pts res.1 out res.2.1 res.2.2) none := by
  refine x_enter (by decide) (Nat.le_of_ble_eq_true rfl) ?_
  intro p e s m args below meth c E ls hl hw
  have E : xE p s m args meth c cX3_graft 5 none RX3 D (xtys cI cZ cN cC) (xA (wNet cI cZ cN cC h0 h1 h2 h3 pts wrk out mem abv)) := E
  obtain ⟨hx, hb, -⟩ := id E
  have hl : lv_has ls 5 [(0, .ref h0), (1, .int x1), (2, .int x2), (3, .int x3), (4, .int x4)] := hl
  unfold f_X3_graft at hf
  refine lv_iload hx hb dX3_graft_0 (lv_at hl 4 rfl) ?_
  refine lv_bipush (v := 10) hx hb dX3_graft_2 (by decide) ?_
  refine lv_icmp_le (tgt := 8) hx hb dX3_graft_4 (by decide) (fun c1 => ?_) (fun c1 => ?_)
  · rw [if_pos c1] at hf
    refine lv_aload_n hx hb dX3_graft_8 rfl (lv_at hl 0 rfl) ?_
    refine x_get E hw kin_X3 0 rfl rfl 3 (by decide) kF_X3_15 (v := .ref h2) rfl dX3_graft_9 ?_
    refine lv_iload_n hx hb dX3_graft_12 rfl (lv_at hl 1 rfl) ?_
    refine lv_dup2_11 hx hb dX3_graft_13 rfl rfl ?_
    obtain ⟨g2, hf⟩ := xgd hf
    refine x_iald E hw 2 0 rfl rfl (xin_vp g2) dX3_graft_14 ?_
    refine lv_iconst (v := 1) hx hb dX3_graft_15 (by decide) ?_
    refine lv_iload_n hx hb dX3_graft_16 rfl (lv_at hl 2 rfl) ?_
    refine lv_ishl hx hb dX3_graft_17 ?_
    refine lv_ior hx hb dX3_graft_18 ?_
    obtain ⟨g3, hf⟩ := xgd hf
    refine x_iast (ws' := (wNet cI cZ cN cC h0 h1 h2 h3 pts wrk out (upd mem (Int32.toNatClampNeg x1) ((mem (Int32.toNatClampNeg x1)) ||| (1 <<< (x2 &&& 31)))) abv)) E hw 2 0 rfl rfl (xin_vp g3) rfl dX3_graft_19 (fun H locs hw => ?_)
    refine lv_aload_n hx hb dX3_graft_20 rfl (lv_at hl 0 rfl) ?_
    refine x_get E hw kin_X3 0 rfl rfl 4 (by decide) kF_X3_18 (v := .ref h3) rfl dX3_graft_21 ?_
    refine lv_iload_n hx hb dX3_graft_24 rfl (lv_at hl 1 rfl) ?_
    refine lv_bipush (v := 10) hx hb dX3_graft_25 (by decide) ?_
    refine lv_imul hx hb dX3_graft_27 ?_
    refine lv_iload_n hx hb dX3_graft_28 rfl (lv_at hl 2 rfl) ?_
    refine lv_iadd hx hb dX3_graft_29 ?_
    refine lv_iload_n hx hb dX3_graft_30 rfl (lv_at hl 3 rfl) ?_
    obtain ⟨g4, hf⟩ := xgd hf
    refine x_iast (ws' := (wNet cI cZ cN cC h0 h1 h2 h3 pts wrk out (upd mem (Int32.toNatClampNeg x1) ((mem (Int32.toNatClampNeg x1)) ||| (1 <<< (x2 &&& 31)))) (upd abv (Int32.toNatClampNeg ((x1 * 10) + x2)) x3))) E hw 3 0 rfl rfl (xin_vp g4) rfl dX3_graft_31 (fun H locs hw => ?_)
    refine lv_aload_n hx hb dX3_graft_32 rfl (lv_at hl 0 rfl) ?_
    refine lv_iload_n hx hb dX3_graft_33 rfl (lv_at hl 1 rfl) ?_
    refine lv_iload_n hx hb dX3_graft_34 rfl (lv_at hl 2 rfl) ?_
    refine lv_iload hx hb dX3_graft_35 (lv_at hl 4 rfl) ?_
    obtain ⟨q5, hq5, hf⟩ := Option.bind_eq_some_iff.mp hf
    refine x_callVI (ws' := (wNet cI cZ cN cC h0 h1 h2 h3 pts q5.1 out q5.2.1 q5.2.2)) (st1 := []) (As := [.int x1, .int x2, .int x4]) (rest := []) E hw vc_X3_72 (fa_h (h0 := h0) (h1 := h1) (h2 := h2) (h3 := h3)  (pts := pts) (wrk := wrk) (out := out) (mem := (upd mem (Int32.toNatClampNeg x1) ((mem (Int32.toNatClampNeg x1)) ||| (1 <<< (x2 &&& 31))))) (abv := (upd abv (Int32.toNatClampNeg ((x1 * 10) + x2)) x3)) (x1 := x1) (x2 := x2) (x3 := x4) hq5) 0 3 rfl rfl rfl rfl rfl (fa_r) ⟨Nat.le_refl _, Nat.le_refl _⟩ hl.1 rfl rfl (Nat.le_of_ble_eq_true rfl) dX3_graft_37 (fun H locs hw => ?_)
    have hf := Option.some.inj hf; subst hf
    exact x_vret E hw dX3_graft_40
  · rw [if_neg c1] at hf
    have hf := Option.some.inj hf; subst hf
    exact x_vret E hw dX3_graft_7

def f_gr (N : Nat) : Nat → Int32 → Int32 → Int32 → Int32 → Int32 → Int32 → (Nat → Int32) → (Nat → Int32) → (Nat → Int32) → Option (Int32 × (Nat → Int32) × (Nat → Int32))
  | 0, _, _, _, _, _, _, _, _, _ => none
  | d + 1, x1, x2, x3, x4, pts, wrk, out, mem, abv => f_X3_graft (fun x1 x2 x3 pts wrk out mem abv => f_X3_followArcs (f_gr N d) N x1 x2 x3 pts wrk out mem abv) x1 x2 x3 x4 pts wrk out mem abv
def f_fa (N d : Nat) (x1 x2 x3 pts wrk : Int32) (out mem abv : Nat → Int32) : Option (Int32 × (Nat → Int32) × (Nat → Int32)) := f_X3_followArcs (f_gr N d) N x1 x2 x3 pts wrk out mem abv
set_option maxHeartbeats 4000000 in
theorem c_gr {l : Launch} {D : va_G} {cI cZ cN cC : ClassId} {N : Nat} : ∀ (d : Nat) {h0 h1 h2 h3 : Nat} {pts wrk : Int32} {out mem abv : Nat → Int32} {x1 x2 x3 x4 : Int32} {res : Int32 × (Nat → Int32) × (Nat → Int32)}, f_gr N d x1 x2 x3 x4 pts wrk out mem abv = some res → xMet l D (xtys cI cZ cN cC) yX3_graft cX3_graft 5 none (2 * d + 4) (48 * d + 100) [.ref h0, .int x1, .int x2, .int x3, .int x4] (wNet cI cZ cN cC h0 h1 h2 h3 pts wrk out mem abv) (wNet cI cZ cN cC h0 h1 h2 h3 pts res.1 out res.2.1 res.2.2) none := by
  intro d
  induction d with
  | zero => intro h0 h1 h2 h3 pts wrk out mem abv x1 x2 x3 x4 res hf; rw [f_gr] at hf; cases hf
  | succ d ih =>
    intro h0 h1 h2 h3 pts wrk out mem abv x1 x2 x3 x4 res hf
    rw [f_gr] at hf
    refine c_X3_graft (fa := fun x1 x2 x3 pts wrk out mem abv => f_X3_followArcs (f_gr N d) N x1 x2 x3 pts wrk out mem abv) (fg := 2 * d + 5) (lg := 48 * d + 124) (fun hq => ?_) ⟨by omega, by omega⟩ ⟨by omega, by omega⟩ hf
    exact c_X3_followArcs (gr := f_gr N d) (fg := 2 * d + 4) (lg := 48 * d + 100) (fun hq => ih hq) ⟨by omega, by omega⟩ ⟨by omega, by omega⟩ hq
theorem c_fa {l : Launch} {D : va_G} {cI cZ cN cC : ClassId} {N : Nat} (d : Nat) {h0 h1 h2 h3 : Nat} {pts wrk : Int32} {out mem abv : Nat → Int32} {x1 x2 x3 : Int32} {res : Int32 × (Nat → Int32) × (Nat → Int32)} (hf : f_fa N d x1 x2 x3 pts wrk out mem abv = some res) : xMet l D (xtys cI cZ cN cC) yX3_followArcs cX3_followArcs 5 none (2 * d + 5) (48 * d + 124) [.ref h0, .int x1, .int x2, .int x3] (wNet cI cZ cN cC h0 h1 h2 h3 pts wrk out mem abv) (wNet cI cZ cN cC h0 h1 h2 h3 pts res.1 out res.2.1 res.2.2) none :=
  c_X3_followArcs (gr := f_gr N d) (fg := 2 * d + 4) (lg := 48 * d + 100) (fun hq => c_gr d hq) ⟨by omega, by omega⟩ ⟨by omega, by omega⟩ hf

def f_X3_putIn_14 (N : Nat) (x1 : Int32) (x2 : Int32) (pts : Int32) (out : (Nat → Int32)) : Nat → Int32 → Int32 → (Nat → Int32) → (Nat → Int32) → Option (Int32 × (Nat → Int32) × (Nat → Int32) × (Nat → Int32))
  | 0, _, _, _, _ => none
  | n + 1, x3, wrk, mem, abv =>
    if pts ≤ x3 then
     some (wrk, out, mem, abv)
    else
     (f_X3_comesTo x3 x1 mem).bind fun q4 =>
     if q4 = 0 then
      f_X3_putIn_14 N x1 x2 pts out n (x3 + 1) wrk mem abv
     else
      (f_X3_comesTo x3 x2 mem).bind fun q6 =>
      if q6 = 0 then
       (f_gr N 12 x3 x2 x1 1 pts (wrk + 1) out mem abv).bind fun q8 =>
       f_X3_putIn_14 N x1 x2 pts out n (x3 + 1) q8.1 q8.2.1 q8.2.2
      else
       f_X3_putIn_14 N x1 x2 pts out n (x3 + 1) (wrk + 1) mem abv
set_option maxHeartbeats 4000000 in
set_option maxRecDepth 100000 in
theorem b_X3_putIn_14 {p : Program} {l : Launch} {e : Env} {s : State} {m : MethodId} {args : Array Value} {below : List Frame} {meth : Method} {c : Code} {D : va_G} {cI cZ cN cC : ClassId} {ws0 : va_W} {h0 h1 h2 h3 : Nat} {x1 : Int32} {x2 : Int32} {pts : Int32} {out : (Nat → Int32)} {N : Nat} {res : Int32 × (Nat → Int32) × (Nat → Int32) × (Nat → Int32)} (E : xE p s m args meth c cX3_putIn 4 none RX3 D (xtys cI cZ cN cC) (xA ws0)) : ∀ (n : Nat) (x3 : Int32) (wrk : Int32) (mem : (Nat → Int32)) (abv : (Nat → Int32)), f_X3_putIn_14 N x1 x2 pts out n x3 wrk mem abv = some res → ∀ (H : Heap) (locs : List Loc) (ls : Array Slot), xw D (xA ws0) s.heap (wNet cI cZ cN cC h0 h1 h2 h3 pts wrk out mem abv) H locs → lv_has ls 4 [(0, .ref h0), (1, .int x1), (2, .int x2), (3, .int x3)] → xG p l e 29 700 s m args below meth c D ws0 (wNet cI cZ cN cC h0 h1 h2 h3 pts res.1 res.2.1 res.2.2.1 res.2.2.2) none H locs (F0 m 14 ls []) := by
  obtain ⟨hx, hb, -⟩ := id E
  intro n
  induction n with
  | zero =>
    intro _ _ _ _ hf
    rw [f_X3_putIn_14] at hf; cases hf
  | succ n ih =>
    intro x3 wrk mem abv hf H locs ls hw hl
    rw [f_X3_putIn_14] at hf
    refine lv_iload_n hx hb dX3_putIn_14 rfl (lv_at hl 3 rfl) ?_
    refine lv_aload_n hx hb dX3_putIn_15 rfl (lv_at hl 0 rfl) ?_
    refine x_get E hw kin_X3 0 rfl rfl 0 (by decide) kF_X3_25 (v := .int pts) rfl dX3_putIn_16 ?_
    refine lv_icmp_ge (tgt := 64) hx hb dX3_putIn_19 (by decide) (fun c3 => ?_) (fun c3 => ?_)
    · rw [if_pos c3] at hf
      have hf := Option.some.inj hf; subst hf
      exact x_vret E hw dX3_putIn_64
    · rw [if_neg c3] at hf
      refine lv_aload_n hx hb dX3_putIn_22 rfl (lv_at hl 0 rfl) ?_
      refine lv_iload_n hx hb dX3_putIn_23 rfl (lv_at hl 3 rfl) ?_
      refine lv_iload_n hx hb dX3_putIn_24 rfl (lv_at hl 1 rfl) ?_
      obtain ⟨q4, hq4, hf⟩ := Option.bind_eq_some_iff.mp hf
      refine x_callVI (ws' := (wNet cI cZ cN cC h0 h1 h2 h3 pts wrk out mem abv)) (st1 := [.int q4]) (As := [.int x3, .int x1]) (rest := []) E hw vc_X3_65 (c_X3_comesTo (cI := cI) (cZ := cZ) (cN := cN) (cC := cC) (h0 := h0) (h1 := h1) (h2 := h2) (h3 := h3)  (pts := pts) (wrk := wrk) (out := out) (mem := mem) (abv := abv) (x1 := x3) (x2 := x1) hq4) 0 3 rfl rfl rfl rfl rfl ⟨Nat.le_of_ble_eq_true rfl, Nat.le_of_ble_eq_true rfl⟩ ⟨Nat.le_refl _, Nat.le_refl _⟩ hl.1 rfl rfl (Nat.le_of_ble_eq_true rfl) dX3_putIn_25 (fun H locs hw => ?_)
      refine lv_if_eq (tgt := 58) hx hb dX3_putIn_28 (by decide) (fun c5 => ?_) (fun c5 => ?_)
      · rw [if_pos c5] at hf
        refine lv_iinc (v := (x3 + 1)) (lv' := [(3, .int (x3 + 1)), (0, .ref h0), (1, .int x1), (2, .int x2)]) hx hb dX3_putIn_58 hl (k := 3) rfl rfl (by decide) rfl (fun ls hl => ?_)
        refine lv_goto (tgt := 14) hx hb dX3_putIn_61 (by decide) ?_
        exact ih _ _ _ _ hf _ _ _ hw (lv_sub hl [1, 2, 3, 0] rfl)
      · rw [if_neg c5] at hf
        refine lv_aload_n hx hb dX3_putIn_31 rfl (lv_at hl 0 rfl) ?_
        refine lv_dup hx hb dX3_putIn_32 rfl ?_
        refine x_get E hw kin_X3 0 rfl rfl 1 (by decide) kF_X3_29 (v := .int wrk) rfl dX3_putIn_33 ?_
        refine lv_iconst (v := 1) hx hb dX3_putIn_36 (by decide) ?_
        refine lv_iadd hx hb dX3_putIn_37 ?_
        refine x_put (ws' := (wNet cI cZ cN cC h0 h1 h2 h3 pts (wrk + 1) out mem abv)) E hw kin_X3 tyX3 tyX3_ok nmX3 0 rfl rfl 1 (by decide) kF_X3_29 rfl (v := .int (wrk + 1)) rfl rfl (Nat.le_of_ble_eq_true rfl) rfl dX3_putIn_38 (fun H locs hw => ?_)
        refine lv_aload_n hx hb dX3_putIn_41 rfl (lv_at hl 0 rfl) ?_
        refine lv_iload_n hx hb dX3_putIn_42 rfl (lv_at hl 3 rfl) ?_
        refine lv_iload_n hx hb dX3_putIn_43 rfl (lv_at hl 2 rfl) ?_
        obtain ⟨q6, hq6, hf⟩ := Option.bind_eq_some_iff.mp hf
        refine x_callVI (ws' := (wNet cI cZ cN cC h0 h1 h2 h3 pts (wrk + 1) out mem abv)) (st1 := [.int q6]) (As := [.int x3, .int x2]) (rest := []) E hw vc_X3_65 (c_X3_comesTo (cI := cI) (cZ := cZ) (cN := cN) (cC := cC) (h0 := h0) (h1 := h1) (h2 := h2) (h3 := h3)  (pts := pts) (wrk := (wrk + 1)) (out := out) (mem := mem) (abv := abv) (x1 := x3) (x2 := x2) hq6) 0 3 rfl rfl rfl rfl rfl ⟨Nat.le_of_ble_eq_true rfl, Nat.le_of_ble_eq_true rfl⟩ ⟨Nat.le_refl _, Nat.le_refl _⟩ hl.1 rfl rfl (Nat.le_of_ble_eq_true rfl) dX3_putIn_44 (fun H locs hw => ?_)
        refine lv_if_ne (tgt := 58) hx hb dX3_putIn_47 (by decide) (fun c7 => ?_) (fun c7 => ?_)
        · rw [if_neg c7] at hf
          refine lv_iinc (v := (x3 + 1)) (lv' := [(3, .int (x3 + 1)), (0, .ref h0), (1, .int x1), (2, .int x2)]) hx hb dX3_putIn_58 hl (k := 3) rfl rfl (by decide) rfl (fun ls hl => ?_)
          refine lv_goto (tgt := 14) hx hb dX3_putIn_61 (by decide) ?_
          exact ih _ _ _ _ hf _ _ _ hw (lv_sub hl [1, 2, 3, 0] rfl)
        · rw [if_pos c7] at hf
          refine lv_aload_n hx hb dX3_putIn_50 rfl (lv_at hl 0 rfl) ?_
          refine lv_iload_n hx hb dX3_putIn_51 rfl (lv_at hl 3 rfl) ?_
          refine lv_iload_n hx hb dX3_putIn_52 rfl (lv_at hl 2 rfl) ?_
          refine lv_iload_n hx hb dX3_putIn_53 rfl (lv_at hl 1 rfl) ?_
          refine lv_iconst (v := 1) hx hb dX3_putIn_54 (by decide) ?_
          obtain ⟨q8, hq8, hf⟩ := Option.bind_eq_some_iff.mp hf
          refine x_callVI (ws' := (wNet cI cZ cN cC h0 h1 h2 h3 pts q8.1 out q8.2.1 q8.2.2)) (st1 := []) (As := [.int x3, .int x2, .int x1, .int 1]) (rest := []) E hw vc_X3_68 (c_gr (N := N) 12 (cI := cI) (cZ := cZ) (cN := cN) (cC := cC) (h0 := h0) (h1 := h1) (h2 := h2) (h3 := h3)  (pts := pts) (wrk := (wrk + 1)) (out := out) (mem := mem) (abv := abv) (x1 := x3) (x2 := x2) (x3 := x1) (x4 := 1) hq8) 0 3 rfl rfl rfl rfl rfl ⟨Nat.le_of_ble_eq_true rfl, Nat.le_of_ble_eq_true rfl⟩ ⟨Nat.le_refl _, Nat.le_refl _⟩ hl.1 rfl rfl (Nat.le_of_ble_eq_true rfl) dX3_putIn_55 (fun H locs hw => ?_)
          refine lv_iinc (v := (x3 + 1)) (lv' := [(3, .int (x3 + 1)), (0, .ref h0), (1, .int x1), (2, .int x2)]) hx hb dX3_putIn_58 hl (k := 3) rfl rfl (by decide) rfl (fun ls hl => ?_)
          refine lv_goto (tgt := 14) hx hb dX3_putIn_61 (by decide) ?_
          exact ih _ _ _ _ hf _ _ _ hw (lv_sub hl [1, 2, 3, 0] rfl)
def f_X3_putIn (N : Nat) (x1 : Int32) (x2 : Int32) (pts : Int32) (wrk : Int32) (out : (Nat → Int32)) (mem : (Nat → Int32)) (abv : (Nat → Int32)) : Option (Int32 × (Nat → Int32) × (Nat → Int32) × (Nat → Int32)) :=
  if xin x1 10 then
  if xin x1 10 then
  f_X3_putIn_14 N x1 x2 pts (upd out (Int32.toNatClampNeg x1) ((out (Int32.toNatClampNeg x1)) ||| (1 <<< (x2 &&& 31)))) N 0 wrk mem abv
  else none
  else none
set_option maxHeartbeats 4000000 in
set_option maxRecDepth 100000 in
theorem c_X3_putIn {l : Launch} {D : va_G} {cI cZ cN cC : ClassId} {h0 h1 h2 h3 : Nat} {pts : Int32} {wrk : Int32} {out : (Nat → Int32)} {mem : (Nat → Int32)} {abv : (Nat → Int32)} {x1 : Int32} {x2 : Int32} {N : Nat} {res : Int32 × (Nat → Int32) × (Nat → Int32) × (Nat → Int32)} (hf : f_X3_putIn N x1 x2 pts wrk out mem abv = some res) : xMet l D (xtys cI cZ cN cC) yX3_putIn cX3_putIn 4 none 29 700 [.ref h0, .int x1, .int x2] (wNet cI cZ cN cC h0 h1 h2 h3 pts wrk out mem abv) (wNet cI cZ cN cC h0 h1 h2 h3 pts res.1 res.2.1 res.2.2.1 res.2.2.2) none := by
  refine x_enter (by decide) (Nat.le_of_ble_eq_true rfl) ?_
  intro p e s m args below meth c E ls hl hw
  have E : xE p s m args meth c cX3_putIn 4 none RX3 D (xtys cI cZ cN cC) (xA (wNet cI cZ cN cC h0 h1 h2 h3 pts wrk out mem abv)) := E
  obtain ⟨hx, hb, -⟩ := id E
  have hl : lv_has ls 4 [(0, .ref h0), (1, .int x1), (2, .int x2)] := hl
  unfold f_X3_putIn at hf
  refine lv_aload_n hx hb dX3_putIn_0 rfl (lv_at hl 0 rfl) ?_
  refine x_get E hw kin_X3 0 rfl rfl 2 (by decide) kF_X3_9 (v := .ref h1) rfl dX3_putIn_1 ?_
  refine lv_iload_n hx hb dX3_putIn_4 rfl (lv_at hl 1 rfl) ?_
  refine lv_dup2_11 hx hb dX3_putIn_5 rfl rfl ?_
  obtain ⟨g1, hf⟩ := xgd hf
  refine x_iald E hw 1 0 rfl rfl (xin_vp g1) dX3_putIn_6 ?_
  refine lv_iconst (v := 1) hx hb dX3_putIn_7 (by decide) ?_
  refine lv_iload_n hx hb dX3_putIn_8 rfl (lv_at hl 2 rfl) ?_
  refine lv_ishl hx hb dX3_putIn_9 ?_
  refine lv_ior hx hb dX3_putIn_10 ?_
  obtain ⟨g2, hf⟩ := xgd hf
  refine x_iast (ws' := (wNet cI cZ cN cC h0 h1 h2 h3 pts wrk (upd out (Int32.toNatClampNeg x1) ((out (Int32.toNatClampNeg x1)) ||| (1 <<< (x2 &&& 31)))) mem abv)) E hw 1 0 rfl rfl (xin_vp g2) rfl dX3_putIn_11 (fun H locs hw => ?_)
  refine lv_iconst (v := 0) hx hb dX3_putIn_12 (by decide) ?_
  refine lv_istore_n (lv' := [(3, .int 0), (0, .ref h0), (1, .int x1), (2, .int x2)]) hx hb dX3_putIn_13 rfl hl (by decide) rfl (fun ls hl => ?_)
  exact b_X3_putIn_14 E N _ _ _ _ hf _ _ _ hw (lv_sub hl [1, 2, 3, 0] rfl)

def f_X3_makeAnew_11 (N : Nat) (x1 : Int32) (pts : Int32) (wrk : Int32) (out : (Nat → Int32)) (mem : (Nat → Int32)) : Nat → Int32 → (Nat → Int32) → Option (Int32 × (Nat → Int32) × (Nat → Int32))
  | 0, _, _ => none
  | n + 1, x2, abv =>
    if pts ≤ x2 then
     (f_fa N 12 x1 x1 0 pts wrk out mem abv).bind fun q3 =>
     some (q3.1, q3.2.1, q3.2.2)
    else
     if xin ((x1 * 10) + x2) 100 then
     f_X3_makeAnew_11 N x1 pts wrk out mem n (x2 + 1) (upd abv (Int32.toNatClampNeg ((x1 * 10) + x2)) (-1))
     else none
set_option maxHeartbeats 4000000 in
set_option maxRecDepth 100000 in
theorem b_X3_makeAnew_11 {p : Program} {l : Launch} {e : Env} {s : State} {m : MethodId} {args : Array Value} {below : List Frame} {meth : Method} {c : Code} {D : va_G} {cI cZ cN cC : ClassId} {ws0 : va_W} {h0 h1 h2 h3 : Nat} {x1 : Int32} {pts : Int32} {wrk : Int32} {out : (Nat → Int32)} {mem : (Nat → Int32)} {N : Nat} {res : Int32 × (Nat → Int32) × (Nat → Int32)} (E : xE p s m args meth c cX3_makeAnew 3 none RX3 D (xtys cI cZ cN cC) (xA ws0)) : ∀ (n : Nat) (x2 : Int32) (abv : (Nat → Int32)), f_X3_makeAnew_11 N x1 pts wrk out mem n x2 abv = some res → ∀ (H : Heap) (locs : List Loc) (ls : Array Slot), xw D (xA ws0) s.heap (wNet cI cZ cN cC h0 h1 h2 h3 pts wrk out mem abv) H locs → lv_has ls 3 [(0, .ref h0), (1, .int x1), (2, .int x2)] → xG p l e 30 724 s m args below meth c D ws0 (wNet cI cZ cN cC h0 h1 h2 h3 pts res.1 out res.2.1 res.2.2) none H locs (F0 m 11 ls []) := by
  obtain ⟨hx, hb, -⟩ := id E
  intro n
  induction n with
  | zero =>
    intro _ _ hf
    rw [f_X3_makeAnew_11] at hf; cases hf
  | succ n ih =>
    intro x2 abv hf H locs ls hw hl
    rw [f_X3_makeAnew_11] at hf
    refine lv_iload_n hx hb dX3_makeAnew_11 rfl (lv_at hl 2 rfl) ?_
    refine lv_aload_n hx hb dX3_makeAnew_12 rfl (lv_at hl 0 rfl) ?_
    refine x_get E hw kin_X3 0 rfl rfl 0 (by decide) kF_X3_25 (v := .int pts) rfl dX3_makeAnew_13 ?_
    refine lv_icmp_ge (tgt := 37) hx hb dX3_makeAnew_16 (by decide) (fun c2 => ?_) (fun c2 => ?_)
    · rw [if_pos c2] at hf
      refine lv_aload_n hx hb dX3_makeAnew_37 rfl (lv_at hl 0 rfl) ?_
      refine lv_iload_n hx hb dX3_makeAnew_38 rfl (lv_at hl 1 rfl) ?_
      refine lv_iload_n hx hb dX3_makeAnew_39 rfl (lv_at hl 1 rfl) ?_
      refine lv_iconst (v := 0) hx hb dX3_makeAnew_40 (by decide) ?_
      obtain ⟨q3, hq3, hf⟩ := Option.bind_eq_some_iff.mp hf
      refine x_callVI (ws' := (wNet cI cZ cN cC h0 h1 h2 h3 pts q3.1 out q3.2.1 q3.2.2)) (st1 := []) (As := [.int x1, .int x1, .int 0]) (rest := []) E hw vc_X3_72 (c_fa (N := N) 12 (cI := cI) (cZ := cZ) (cN := cN) (cC := cC) (h0 := h0) (h1 := h1) (h2 := h2) (h3 := h3)  (pts := pts) (wrk := wrk) (out := out) (mem := mem) (abv := abv) (x1 := x1) (x2 := x1) (x3 := 0) hq3) 0 3 rfl rfl rfl rfl rfl ⟨Nat.le_of_ble_eq_true rfl, Nat.le_of_ble_eq_true rfl⟩ ⟨Nat.le_refl _, Nat.le_refl _⟩ hl.1 rfl rfl (Nat.le_of_ble_eq_true rfl) dX3_makeAnew_41 (fun H locs hw => ?_)
      have hf := Option.some.inj hf; subst hf
      exact x_vret E hw dX3_makeAnew_44
    · rw [if_neg c2] at hf
      refine lv_aload_n hx hb dX3_makeAnew_19 rfl (lv_at hl 0 rfl) ?_
      refine x_get E hw kin_X3 0 rfl rfl 4 (by decide) kF_X3_18 (v := .ref h3) rfl dX3_makeAnew_20 ?_
      refine lv_iload_n hx hb dX3_makeAnew_23 rfl (lv_at hl 1 rfl) ?_
      refine lv_bipush (v := 10) hx hb dX3_makeAnew_24 (by decide) ?_
      refine lv_imul hx hb dX3_makeAnew_26 ?_
      refine lv_iload_n hx hb dX3_makeAnew_27 rfl (lv_at hl 2 rfl) ?_
      refine lv_iadd hx hb dX3_makeAnew_28 ?_
      refine lv_iconst (v := (-1)) hx hb dX3_makeAnew_29 (by decide) ?_
      obtain ⟨g4, hf⟩ := xgd hf
      refine x_iast (ws' := (wNet cI cZ cN cC h0 h1 h2 h3 pts wrk out mem (upd abv (Int32.toNatClampNeg ((x1 * 10) + x2)) (-1)))) E hw 3 0 rfl rfl (xin_vp g4) rfl dX3_makeAnew_30 (fun H locs hw => ?_)
      refine lv_iinc (v := (x2 + 1)) (lv' := [(2, .int (x2 + 1)), (0, .ref h0), (1, .int x1)]) hx hb dX3_makeAnew_31 hl (k := 2) rfl rfl (by decide) rfl (fun ls hl => ?_)
      refine lv_goto (tgt := 11) hx hb dX3_makeAnew_34 (by decide) ?_
      exact ih _ _ hf _ _ _ hw (lv_sub hl [1, 2, 0] rfl)
def f_X3_makeAnew (N : Nat) (x1 : Int32) (pts : Int32) (wrk : Int32) (out : (Nat → Int32)) (mem : (Nat → Int32)) (abv : (Nat → Int32)) : Option (Int32 × (Nat → Int32) × (Nat → Int32)) :=
  if xin x1 10 then
  f_X3_makeAnew_11 N x1 pts wrk out (upd mem (Int32.toNatClampNeg x1) (1 <<< (x1 &&& 31))) N 0 abv
  else none
set_option maxHeartbeats 4000000 in
set_option maxRecDepth 100000 in
theorem c_X3_makeAnew {l : Launch} {D : va_G} {cI cZ cN cC : ClassId} {h0 h1 h2 h3 : Nat} {pts : Int32} {wrk : Int32} {out : (Nat → Int32)} {mem : (Nat → Int32)} {abv : (Nat → Int32)} {x1 : Int32} {N : Nat} {res : Int32 × (Nat → Int32) × (Nat → Int32)} (hf : f_X3_makeAnew N x1 pts wrk out mem abv = some res) : xMet l D (xtys cI cZ cN cC) yX3_makeAnew cX3_makeAnew 3 none 30 724 [.ref h0, .int x1] (wNet cI cZ cN cC h0 h1 h2 h3 pts wrk out mem abv) (wNet cI cZ cN cC h0 h1 h2 h3 pts res.1 out res.2.1 res.2.2) none := by
  refine x_enter (by decide) (Nat.le_of_ble_eq_true rfl) ?_
  intro p e s m args below meth c E ls hl hw
  have E : xE p s m args meth c cX3_makeAnew 3 none RX3 D (xtys cI cZ cN cC) (xA (wNet cI cZ cN cC h0 h1 h2 h3 pts wrk out mem abv)) := E
  obtain ⟨hx, hb, -⟩ := id E
  have hl : lv_has ls 3 [(0, .ref h0), (1, .int x1)] := hl
  unfold f_X3_makeAnew at hf
  refine lv_aload_n hx hb dX3_makeAnew_0 rfl (lv_at hl 0 rfl) ?_
  refine x_get E hw kin_X3 0 rfl rfl 3 (by decide) kF_X3_15 (v := .ref h2) rfl dX3_makeAnew_1 ?_
  refine lv_iload_n hx hb dX3_makeAnew_4 rfl (lv_at hl 1 rfl) ?_
  refine lv_iconst (v := 1) hx hb dX3_makeAnew_5 (by decide) ?_
  refine lv_iload_n hx hb dX3_makeAnew_6 rfl (lv_at hl 1 rfl) ?_
  refine lv_ishl hx hb dX3_makeAnew_7 ?_
  obtain ⟨g1, hf⟩ := xgd hf
  refine x_iast (ws' := (wNet cI cZ cN cC h0 h1 h2 h3 pts wrk out (upd mem (Int32.toNatClampNeg x1) (1 <<< (x1 &&& 31))) abv)) E hw 2 0 rfl rfl (xin_vp g1) rfl dX3_makeAnew_8 (fun H locs hw => ?_)
  refine lv_iconst (v := 0) hx hb dX3_makeAnew_9 (by decide) ?_
  refine lv_istore_n (lv' := [(2, .int 0), (0, .ref h0), (1, .int x1)]) hx hb dX3_makeAnew_10 rfl hl (by decide) rfl (fun ls hl => ?_)
  exact b_X3_makeAnew_11 E N _ _ hf _ _ _ hw (lv_sub hl [1, 2, 0] rfl)

def f_X3_takeOut_38 (N : Nat) (x1 : Int32) (x2 : Int32) (pts : Int32) (out : (Nat → Int32)) : Nat → Int32 → Int32 → (Nat → Int32) → (Nat → Int32) → Option (Int32 × (Nat → Int32) × (Nat → Int32) × (Nat → Int32))
  | 0, _, _, _, _ => none
  | n + 1, x3, wrk, mem, abv =>
    if pts ≤ x3 then
     some (wrk, out, mem, abv)
    else
     (f_X3_stoodOn N x3 x1 x2 pts abv).bind fun q6 =>
     if q6 = 0 then
      f_X3_takeOut_38 N x1 x2 pts out n (x3 + 1) wrk mem abv
     else
      (f_X3_makeAnew N x3 pts wrk out mem abv).bind fun q8 =>
      f_X3_takeOut_38 N x1 x2 pts out n (x3 + 1) q8.1 q8.2.1 q8.2.2
set_option maxHeartbeats 4000000 in
set_option maxRecDepth 100000 in
theorem b_X3_takeOut_38 {p : Program} {l : Launch} {e : Env} {s : State} {m : MethodId} {args : Array Value} {below : List Frame} {meth : Method} {c : Code} {D : va_G} {cI cZ cN cC : ClassId} {ws0 : va_W} {h0 h1 h2 h3 : Nat} {x1 : Int32} {x2 : Int32} {pts : Int32} {out : (Nat → Int32)} {N : Nat} {res : Int32 × (Nat → Int32) × (Nat → Int32) × (Nat → Int32)} (E : xE p s m args meth c cX3_takeOut 4 none RX3 D (xtys cI cZ cN cC) (xA ws0)) : ∀ (n : Nat) (x3 : Int32) (wrk : Int32) (mem : (Nat → Int32)) (abv : (Nat → Int32)), f_X3_takeOut_38 N x1 x2 pts out n x3 wrk mem abv = some res → ∀ (H : Heap) (locs : List Loc) (ls : Array Slot), xw D (xA ws0) s.heap (wNet cI cZ cN cC h0 h1 h2 h3 pts wrk out mem abv) H locs → lv_has ls 4 [(0, .ref h0), (1, .int x1), (2, .int x2), (3, .int x3)] → xG p l e 31 746 s m args below meth c D ws0 (wNet cI cZ cN cC h0 h1 h2 h3 pts res.1 res.2.1 res.2.2.1 res.2.2.2) none H locs (F0 m 38 ls []) := by
  obtain ⟨hx, hb, -⟩ := id E
  intro n
  induction n with
  | zero =>
    intro _ _ _ _ hf
    rw [f_X3_takeOut_38] at hf; cases hf
  | succ n ih =>
    intro x3 wrk mem abv hf H locs ls hw hl
    rw [f_X3_takeOut_38] at hf
    refine lv_iload_n hx hb dX3_takeOut_38 rfl (lv_at hl 3 rfl) ?_
    refine lv_aload_n hx hb dX3_takeOut_39 rfl (lv_at hl 0 rfl) ?_
    refine x_get E hw kin_X3 0 rfl rfl 0 (by decide) kF_X3_25 (v := .int pts) rfl dX3_takeOut_40 ?_
    refine lv_icmp_ge (tgt := 67) hx hb dX3_takeOut_43 (by decide) (fun c5 => ?_) (fun c5 => ?_)
    · rw [if_pos c5] at hf
      have hf := Option.some.inj hf; subst hf
      exact x_vret E hw dX3_takeOut_67
    · rw [if_neg c5] at hf
      refine lv_aload_n hx hb dX3_takeOut_46 rfl (lv_at hl 0 rfl) ?_
      refine lv_iload_n hx hb dX3_takeOut_47 rfl (lv_at hl 3 rfl) ?_
      refine lv_iload_n hx hb dX3_takeOut_48 rfl (lv_at hl 1 rfl) ?_
      refine lv_iload_n hx hb dX3_takeOut_49 rfl (lv_at hl 2 rfl) ?_
      obtain ⟨q6, hq6, hf⟩ := Option.bind_eq_some_iff.mp hf
      refine x_callVI (ws' := (wNet cI cZ cN cC h0 h1 h2 h3 pts wrk out mem abv)) (st1 := [.int q6]) (As := [.int x3, .int x1, .int x2]) (rest := []) E hw vc_X3_79 (c_X3_stoodOn (cI := cI) (cZ := cZ) (cN := cN) (cC := cC) (h0 := h0) (h1 := h1) (h2 := h2) (h3 := h3)  (pts := pts) (wrk := wrk) (out := out) (mem := mem) (abv := abv) (x1 := x3) (x2 := x1) (x3 := x2) hq6) 0 3 rfl rfl rfl rfl rfl ⟨Nat.le_of_ble_eq_true rfl, Nat.le_of_ble_eq_true rfl⟩ ⟨Nat.le_refl _, Nat.le_refl _⟩ hl.1 rfl rfl (Nat.le_of_ble_eq_true rfl) dX3_takeOut_50 (fun H locs hw => ?_)
      refine lv_if_eq (tgt := 61) hx hb dX3_takeOut_53 (by decide) (fun c7 => ?_) (fun c7 => ?_)
      · rw [if_pos c7] at hf
        refine lv_iinc (v := (x3 + 1)) (lv' := [(3, .int (x3 + 1)), (0, .ref h0), (1, .int x1), (2, .int x2)]) hx hb dX3_takeOut_61 hl (k := 3) rfl rfl (by decide) rfl (fun ls hl => ?_)
        refine lv_goto (tgt := 38) hx hb dX3_takeOut_64 (by decide) ?_
        exact ih _ _ _ _ hf _ _ _ hw (lv_sub hl [1, 2, 3, 0] rfl)
      · rw [if_neg c7] at hf
        refine lv_aload_n hx hb dX3_takeOut_56 rfl (lv_at hl 0 rfl) ?_
        refine lv_iload_n hx hb dX3_takeOut_57 rfl (lv_at hl 3 rfl) ?_
        obtain ⟨q8, hq8, hf⟩ := Option.bind_eq_some_iff.mp hf
        refine x_callVI (ws' := (wNet cI cZ cN cC h0 h1 h2 h3 pts q8.1 out q8.2.1 q8.2.2)) (st1 := []) (As := [.int x3]) (rest := []) E hw vc_X3_83 (c_X3_makeAnew (cI := cI) (cZ := cZ) (cN := cN) (cC := cC) (h0 := h0) (h1 := h1) (h2 := h2) (h3 := h3)  (pts := pts) (wrk := wrk) (out := out) (mem := mem) (abv := abv) (x1 := x3) hq8) 0 3 rfl rfl rfl rfl rfl ⟨Nat.le_of_ble_eq_true rfl, Nat.le_of_ble_eq_true rfl⟩ ⟨Nat.le_refl _, Nat.le_refl _⟩ hl.1 rfl rfl (Nat.le_of_ble_eq_true rfl) dX3_takeOut_58 (fun H locs hw => ?_)
        refine lv_iinc (v := (x3 + 1)) (lv' := [(3, .int (x3 + 1)), (0, .ref h0), (1, .int x1), (2, .int x2)]) hx hb dX3_takeOut_61 hl (k := 3) rfl rfl (by decide) rfl (fun ls hl => ?_)
        refine lv_goto (tgt := 38) hx hb dX3_takeOut_64 (by decide) ?_
        exact ih _ _ _ _ hf _ _ _ hw (lv_sub hl [1, 2, 3, 0] rfl)
def f_X3_takeOut_2 (N : Nat) (x1 : Int32) (x2 : Int32) (pts : Int32) (wrk : Int32) (mem : (Nat → Int32)) (abv : (Nat → Int32)) : Nat → Int32 → (Nat → Int32) → Option (Int32 × (Nat → Int32) × (Nat → Int32) × (Nat → Int32))
  | 0, _, _ => none
  | n + 1, x3, out =>
    if pts ≤ x3 then
     f_X3_takeOut_38 N x1 x2 pts out N 0 wrk mem abv
    else
     if (f_X6_has x1 x3) = 0 then
      f_X3_takeOut_2 N x1 x2 pts wrk mem abv n (x3 + 1) out
     else
      if xin x3 10 then
      if xin x3 10 then
      f_X3_takeOut_2 N x1 x2 pts wrk mem abv n (x3 + 1) (upd out (Int32.toNatClampNeg x3) ((out (Int32.toNatClampNeg x3)) &&& (x2 ^^^ (-1))))
      else none
      else none
set_option maxHeartbeats 4000000 in
set_option maxRecDepth 100000 in
theorem b_X3_takeOut_2 {p : Program} {l : Launch} {e : Env} {s : State} {m : MethodId} {args : Array Value} {below : List Frame} {meth : Method} {c : Code} {D : va_G} {cI cZ cN cC : ClassId} {ws0 : va_W} {h0 h1 h2 h3 : Nat} {x1 : Int32} {x2 : Int32} {pts : Int32} {wrk : Int32} {mem : (Nat → Int32)} {abv : (Nat → Int32)} {N : Nat} {res : Int32 × (Nat → Int32) × (Nat → Int32) × (Nat → Int32)} (E : xE p s m args meth c cX3_takeOut 4 none RX3 D (xtys cI cZ cN cC) (xA ws0)) : ∀ (n : Nat) (x3 : Int32) (out : (Nat → Int32)), f_X3_takeOut_2 N x1 x2 pts wrk mem abv n x3 out = some res → ∀ (H : Heap) (locs : List Loc) (ls : Array Slot), xw D (xA ws0) s.heap (wNet cI cZ cN cC h0 h1 h2 h3 pts wrk out mem abv) H locs → lv_has ls 4 [(0, .ref h0), (1, .int x1), (2, .int x2), (3, .int x3)] → xG p l e 31 746 s m args below meth c D ws0 (wNet cI cZ cN cC h0 h1 h2 h3 pts res.1 res.2.1 res.2.2.1 res.2.2.2) none H locs (F0 m 2 ls []) := by
  obtain ⟨hx, hb, -⟩ := id E
  intro n
  induction n with
  | zero =>
    intro _ _ hf
    rw [f_X3_takeOut_2] at hf; cases hf
  | succ n ih =>
    intro x3 out hf H locs ls hw hl
    rw [f_X3_takeOut_2] at hf
    refine lv_iload_n hx hb dX3_takeOut_2 rfl (lv_at hl 3 rfl) ?_
    refine lv_aload_n hx hb dX3_takeOut_3 rfl (lv_at hl 0 rfl) ?_
    refine x_get E hw kin_X3 0 rfl rfl 0 (by decide) kF_X3_25 (v := .int pts) rfl dX3_takeOut_4 ?_
    refine lv_icmp_ge (tgt := 36) hx hb dX3_takeOut_7 (by decide) (fun c1 => ?_) (fun c1 => ?_)
    · rw [if_pos c1] at hf
      refine lv_iconst (v := 0) hx hb dX3_takeOut_36 (by decide) ?_
      refine lv_istore_n (lv' := [(3, .int 0), (0, .ref h0), (1, .int x1), (2, .int x2)]) hx hb dX3_takeOut_37 rfl hl (by decide) rfl (fun ls hl => ?_)
      exact b_X3_takeOut_38 E N _ _ _ _ hf _ _ _ hw (lv_sub hl [1, 2, 3, 0] rfl)
    · rw [if_neg c1] at hf
      refine lv_iload_n hx hb dX3_takeOut_10 rfl (lv_at hl 1 rfl) ?_
      refine lv_iload_n hx hb dX3_takeOut_11 rfl (lv_at hl 3 rfl) ?_
      refine x_callN (isC := []) (ws' := (wNet cI cZ cN cC h0 h1 h2 h3 pts wrk out mem abv)) (st1 := [.int (f_X6_has x1 x3)]) (As := [.int x1, .int x3]) (rest := []) E hw vc_X3_44 (c_X6_has (cI := cI) (cZ := cZ) (cN := cN) (cC := cC)    (x0 := x1) (x1 := x3) rfl) rfl rfl rfl rfl rfl rfl ⟨Nat.le_of_ble_eq_true rfl, Nat.le_of_ble_eq_true rfl⟩ ⟨Nat.le_refl _, Nat.le_refl _⟩ hl.1 rfl rfl (Nat.le_of_ble_eq_true rfl) dX3_takeOut_12 (fun H locs hw => ?_)
      refine lv_if_eq (tgt := 30) hx hb dX3_takeOut_15 (by decide) (fun c2 => ?_) (fun c2 => ?_)
      · rw [if_pos c2] at hf
        refine lv_iinc (v := (x3 + 1)) (lv' := [(3, .int (x3 + 1)), (0, .ref h0), (1, .int x1), (2, .int x2)]) hx hb dX3_takeOut_30 hl (k := 3) rfl rfl (by decide) rfl (fun ls hl => ?_)
        refine lv_goto (tgt := 2) hx hb dX3_takeOut_33 (by decide) ?_
        exact ih _ _ hf _ _ _ hw (lv_sub hl [1, 2, 3, 0] rfl)
      · rw [if_neg c2] at hf
        refine lv_aload_n hx hb dX3_takeOut_18 rfl (lv_at hl 0 rfl) ?_
        refine x_get E hw kin_X3 0 rfl rfl 2 (by decide) kF_X3_9 (v := .ref h1) rfl dX3_takeOut_19 ?_
        refine lv_iload_n hx hb dX3_takeOut_22 rfl (lv_at hl 3 rfl) ?_
        refine lv_dup2_11 hx hb dX3_takeOut_23 rfl rfl ?_
        obtain ⟨g3, hf⟩ := xgd hf
        refine x_iald E hw 1 0 rfl rfl (xin_vp g3) dX3_takeOut_24 ?_
        refine lv_iload_n hx hb dX3_takeOut_25 rfl (lv_at hl 2 rfl) ?_
        refine lv_iconst (v := (-1)) hx hb dX3_takeOut_26 (by decide) ?_
        refine lv_ixor hx hb dX3_takeOut_27 ?_
        refine lv_iand hx hb dX3_takeOut_28 ?_
        obtain ⟨g4, hf⟩ := xgd hf
        refine x_iast (ws' := (wNet cI cZ cN cC h0 h1 h2 h3 pts wrk (upd out (Int32.toNatClampNeg x3) ((out (Int32.toNatClampNeg x3)) &&& (x2 ^^^ (-1)))) mem abv)) E hw 1 0 rfl rfl (xin_vp g4) rfl dX3_takeOut_29 (fun H locs hw => ?_)
        refine lv_iinc (v := (x3 + 1)) (lv' := [(3, .int (x3 + 1)), (0, .ref h0), (1, .int x1), (2, .int x2)]) hx hb dX3_takeOut_30 hl (k := 3) rfl rfl (by decide) rfl (fun ls hl => ?_)
        refine lv_goto (tgt := 2) hx hb dX3_takeOut_33 (by decide) ?_
        exact ih _ _ hf _ _ _ hw (lv_sub hl [1, 2, 3, 0] rfl)
def f_X3_takeOut (N : Nat) (x1 : Int32) (x2 : Int32) (pts : Int32) (wrk : Int32) (out : (Nat → Int32)) (mem : (Nat → Int32)) (abv : (Nat → Int32)) : Option (Int32 × (Nat → Int32) × (Nat → Int32) × (Nat → Int32)) :=
  f_X3_takeOut_2 N x1 x2 pts wrk mem abv N 0 out
set_option maxHeartbeats 4000000 in
set_option maxRecDepth 100000 in
theorem c_X3_takeOut {l : Launch} {D : va_G} {cI cZ cN cC : ClassId} {h0 h1 h2 h3 : Nat} {pts : Int32} {wrk : Int32} {out : (Nat → Int32)} {mem : (Nat → Int32)} {abv : (Nat → Int32)} {x1 : Int32} {x2 : Int32} {N : Nat} {res : Int32 × (Nat → Int32) × (Nat → Int32) × (Nat → Int32)} (hf : f_X3_takeOut N x1 x2 pts wrk out mem abv = some res) : xMet l D (xtys cI cZ cN cC) yX3_takeOut cX3_takeOut 4 none 31 746 [.ref h0, .int x1, .int x2] (wNet cI cZ cN cC h0 h1 h2 h3 pts wrk out mem abv) (wNet cI cZ cN cC h0 h1 h2 h3 pts res.1 res.2.1 res.2.2.1 res.2.2.2) none := by
  refine x_enter (by decide) (Nat.le_of_ble_eq_true rfl) ?_
  intro p e s m args below meth c E ls hl hw
  have E : xE p s m args meth c cX3_takeOut 4 none RX3 D (xtys cI cZ cN cC) (xA (wNet cI cZ cN cC h0 h1 h2 h3 pts wrk out mem abv)) := E
  obtain ⟨hx, hb, -⟩ := id E
  have hl : lv_has ls 4 [(0, .ref h0), (1, .int x1), (2, .int x2)] := hl
  unfold f_X3_takeOut at hf
  refine lv_iconst (v := 0) hx hb dX3_takeOut_0 (by decide) ?_
  refine lv_istore_n (lv' := [(3, .int 0), (0, .ref h0), (1, .int x1), (2, .int x2)]) hx hb dX3_takeOut_1 rfl hl (by decide) rfl (fun ls hl => ?_)
  exact b_X3_takeOut_2 E N _ _ hf _ _ _ hw (lv_sub hl [1, 2, 3, 0] rfl)

