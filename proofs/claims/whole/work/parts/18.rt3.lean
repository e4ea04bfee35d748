def f_X6_net_67 (kps : Int32) (ncl : Int32) (tso : Int32) (tst : Int32) (ten : Int32) (knd : (Nat → Int32)) (nbs : (Nat → Int32)) (len : Int32) (pts : Int32) (wrk : Int32) (out : (Nat → Int32)) (mem : (Nat → Int32)) (abv : (Nat → Int32)) (psz : Int32) : Nat → Int32 → (Nat → Int32) → (Nat → Int32) → Option (Int32 × Int32 × Int32 × Int32 × Int32 × Int32 × (Nat → Int32) × (Nat → Int32) × Int32 × Int32 × Int32 × (Nat → Int32) × (Nat → Int32) × (Nat → Int32) × Int32 × (Nat → Int32) × (Nat → Int32))
  | 0, _, _, _ => none
  | n + 1, x1, cM, cS =>
    if 3 ≤ x1 then
     some (ncl, kps, ncl, tso, tst, ten, knd, nbs, len, pts, wrk, out, mem, abv, psz, cM, cS)
    else
     if xin x1 3 then
     f_X6_net_67 kps ncl tso tst ten knd nbs len pts wrk out mem abv psz n (x1 + 1) (va_up cM (Int32.toNatClampNeg x1) ((f_X0_vanish).1)) (va_up cS (Int32.toNatClampNeg x1) ((f_X0_vanish).2))
     else none
set_option maxHeartbeats 4000000 in
set_option maxRecDepth 100000 in
theorem b_X6_net_67 {p : Program} {l : Launch} {e : Env} {s : State} {m : MethodId} {args : Array Value} {below : List Frame} {meth : Method} {c : Code} {D : va_G} {cI cZ cN cC : ClassId} {ws0 : va_W} {r0 d0 d1 d2 l0 l1 h0 h1 h2 h3 p0 y9 y00 y01 y02 y10 y11 y12 y20 y21 y22 e9 z0 p1 : Nat} {kps : Int32} {ncl : Int32} {tso : Int32} {tst : Int32} {ten : Int32} {knd : (Nat → Int32)} {nbs : (Nat → Int32)} {len : Int32} {txt : (Nat → Int32)} {pts : Int32} {wrk : Int32} {out : (Nat → Int32)} {mem : (Nat → Int32)} {abv : (Nat → Int32)} {nxt : Int32} {psz : Int32} {cV : (Nat → Nat → Int32)} {cB : (Nat → Nat → Int32)} {res : Int32 × Int32 × Int32 × Int32 × Int32 × Int32 × (Nat → Int32) × (Nat → Int32) × Int32 × Int32 × Int32 × (Nat → Int32) × (Nat → Int32) × (Nat → Int32) × Int32 × (Nat → Int32) × (Nat → Int32)} (E : xE p s m args meth c cX6_net 2 (some .int) RX6 D (xtys cI cZ cN cC) (xA ws0)) : ∀ (n : Nat) (x1 : Int32) (cM : (Nat → Int32)) (cS : (Nat → Int32)), f_X6_net_67 kps ncl tso tst ten knd nbs len pts wrk out mem abv psz n x1 cM cS = some res → ∀ (H : Heap) (locs : List Loc) (ls : Array Slot), xw D (xA ws0) s.heap (wRN cI cZ cN cC r0 d0 d1 d2 l0 l1 h0 h1 h2 h3 p0 y9 y00 y01 y02 y10 y11 y12 y20 y21 y22 e9 z0 p1 kps ncl tso tst ten knd nbs len txt pts wrk out mem abv nxt psz cM cS cV cB) H locs → lv_has ls 2 [(0, .ref r0), (1, .int x1)] → xG p l e 32 769 s m args below meth c D ws0 (wRN cI cZ cN cC r0 d0 d1 d2 l0 l1 h0 h1 h2 h3 p0 y9 y00 y01 y02 y10 y11 y12 y20 y21 y22 e9 z0 p1 res.2.1 res.2.2.1 res.2.2.2.1 res.2.2.2.2.1 res.2.2.2.2.2.1 res.2.2.2.2.2.2.1 res.2.2.2.2.2.2.2.1 res.2.2.2.2.2.2.2.2.1 txt res.2.2.2.2.2.2.2.2.2.1 res.2.2.2.2.2.2.2.2.2.2.1 res.2.2.2.2.2.2.2.2.2.2.2.1 res.2.2.2.2.2.2.2.2.2.2.2.2.1 res.2.2.2.2.2.2.2.2.2.2.2.2.2.1 nxt res.2.2.2.2.2.2.2.2.2.2.2.2.2.2.1 res.2.2.2.2.2.2.2.2.2.2.2.2.2.2.2.1 res.2.2.2.2.2.2.2.2.2.2.2.2.2.2.2.2 cV cB) (some (.int res.1)) H locs (F0 m 67 ls []) := by
  obtain ⟨hx, hb, -⟩ := id E
  intro n
  induction n with
  | zero =>
    intro _ _ _ hf
    rw [f_X6_net_67] at hf; cases hf
  | succ n ih =>
    intro x1 cM cS hf H locs ls hw hl
    rw [f_X6_net_67] at hf
    refine lv_iload_n hx hb dX6_net_67 rfl (lv_at hl 1 rfl) ?_
    refine lv_iconst (v := 3) hx hb dX6_net_68 (by decide) ?_
    refine lv_icmp_ge (tgt := 87) hx hb dX6_net_69 (by decide) (fun c5 => ?_) (fun c5 => ?_)
    · rw [if_pos c5] at hf
      refine lv_aload_n hx hb dX6_net_87 rfl (lv_at hl 0 rfl) ?_
      refine x_get E hw kin_X6 0 rfl rfl 1 (by decide) kF_X6_21 (v := .ref d0) rfl dX6_net_88 ?_
      refine x_get E hw kin_X5 1 rfl rfl 3 (by decide) kF_X6_75 (v := .int ncl) rfl dX6_net_91 ?_
      have hf := Option.some.inj hf; subst hf
      exact x_iret E hw dX6_net_94
    · rw [if_neg c5] at hf
      refine lv_aload_n hx hb dX6_net_72 rfl (lv_at hl 0 rfl) ?_
      refine x_get E hw kin_X6 0 rfl rfl 7 (by decide) kF_X6_56 (v := .ref y9) rfl dX6_net_73 ?_
      refine lv_iload_n hx hb dX6_net_76 rfl (lv_at hl 1 rfl) ?_
      obtain ⟨g6, hf⟩ := xgd hf
      rcases x_in3 (xin_vp g6) with ce | ce | ce
      · subst ce
        refine x_aald E hw 11 3 rfl rfl (xin_vp (by decide)) (w := .ref y00) rfl dX6_net_77 ?_
        refine x_callV (isC := [12, 13, 14]) (ws' := (wRN cI cZ cN cC r0 d0 d1 d2 l0 l1 h0 h1 h2 h3 p0 y9 y00 y01 y02 y10 y11 y12 y20 y21 y22 e9 z0 p1 kps ncl tso tst ten knd nbs len txt pts wrk out mem abv nxt psz (va_up cM (Int32.toNatClampNeg (0 : Int32)) ((f_X0_vanish).1)) (va_up cS (Int32.toNatClampNeg (0 : Int32)) ((f_X0_vanish).2)) cV cB)) (st1 := []) (As := []) (rest := []) E hw vc_X6_85 (c_X0_vanish (cI := cI) (cZ := cZ) (cN := cN) (cC := cC) (h0 := y00) (h1 := y01) (h2 := y02)  (mis := (cM (Int32.toNatClampNeg (0 : Int32)))) (siz := (cS (Int32.toNatClampNeg (0 : Int32)))) (val := (cV (Int32.toNatClampNeg (0 : Int32)))) (isa := (cB (Int32.toNatClampNeg (0 : Int32))))  rfl) 12 0 rfl rfl rfl rfl rfl rfl rfl rfl rfl ⟨Nat.le_of_ble_eq_true rfl, Nat.le_of_ble_eq_true rfl⟩ ⟨Nat.le_refl _, Nat.le_refl _⟩ hl.1 rfl rfl (Nat.le_of_ble_eq_true rfl) dX6_net_78 (fun H locs hw => ?_)
        refine lv_iinc (v := ((0 : Int32) + 1)) (lv' := [(1, .int ((0 : Int32) + 1)), (0, .ref r0)]) hx hb dX6_net_81 hl (k := 1) rfl rfl (by decide) rfl (fun ls hl => ?_)
        refine lv_goto (tgt := 67) hx hb dX6_net_84 (by decide) ?_
        exact ih _ _ _ hf _ _ _ hw (lv_sub hl [1, 0] rfl)
      · subst ce
        refine x_aald E hw 11 3 rfl rfl (xin_vp (by decide)) (w := .ref y10) rfl dX6_net_77 ?_
        refine x_callV (isC := [15, 16, 17]) (ws' := (wRN cI cZ cN cC r0 d0 d1 d2 l0 l1 h0 h1 h2 h3 p0 y9 y00 y01 y02 y10 y11 y12 y20 y21 y22 e9 z0 p1 kps ncl tso tst ten knd nbs len txt pts wrk out mem abv nxt psz (va_up cM (Int32.toNatClampNeg (1 : Int32)) ((f_X0_vanish).1)) (va_up cS (Int32.toNatClampNeg (1 : Int32)) ((f_X0_vanish).2)) cV cB)) (st1 := []) (As := []) (rest := []) E hw vc_X6_85 (c_X0_vanish (cI := cI) (cZ := cZ) (cN := cN) (cC := cC) (h0 := y10) (h1 := y11) (h2 := y12)  (mis := (cM (Int32.toNatClampNeg (1 : Int32)))) (siz := (cS (Int32.toNatClampNeg (1 : Int32)))) (val := (cV (Int32.toNatClampNeg (1 : Int32)))) (isa := (cB (Int32.toNatClampNeg (1 : Int32))))  rfl) 15 0 rfl rfl rfl rfl rfl rfl rfl rfl rfl ⟨Nat.le_of_ble_eq_true rfl, Nat.le_of_ble_eq_true rfl⟩ ⟨Nat.le_refl _, Nat.le_refl _⟩ hl.1 rfl rfl (Nat.le_of_ble_eq_true rfl) dX6_net_78 (fun H locs hw => ?_)
        refine lv_iinc (v := ((1 : Int32) + 1)) (lv' := [(1, .int ((1 : Int32) + 1)), (0, .ref r0)]) hx hb dX6_net_81 hl (k := 1) rfl rfl (by decide) rfl (fun ls hl => ?_)
        refine lv_goto (tgt := 67) hx hb dX6_net_84 (by decide) ?_
        exact ih _ _ _ hf _ _ _ hw (lv_sub hl [1, 0] rfl)
      · subst ce
        refine x_aald E hw 11 3 rfl rfl (xin_vp (by decide)) (w := .ref y20) rfl dX6_net_77 ?_
        refine x_callV (isC := [18, 19, 20]) (ws' := (wRN cI cZ cN cC r0 d0 d1 d2 l0 l1 h0 h1 h2 h3 p0 y9 y00 y01 y02 y10 y11 y12 y20 y21 y22 e9 z0 p1 kps ncl tso tst ten knd nbs len txt pts wrk out mem abv nxt psz (va_up cM (Int32.toNatClampNeg (2 : Int32)) ((f_X0_vanish).1)) (va_up cS (Int32.toNatClampNeg (2 : Int32)) ((f_X0_vanish).2)) cV cB)) (st1 := []) (As := []) (rest := []) E hw vc_X6_85 (c_X0_vanish (cI := cI) (cZ := cZ) (cN := cN) (cC := cC) (h0 := y20) (h1 := y21) (h2 := y22)  (mis := (cM (Int32.toNatClampNeg (2 : Int32)))) (siz := (cS (Int32.toNatClampNeg (2 : Int32)))) (val := (cV (Int32.toNatClampNeg (2 : Int32)))) (isa := (cB (Int32.toNatClampNeg (2 : Int32))))  rfl) 18 0 rfl rfl rfl rfl rfl rfl rfl rfl rfl ⟨Nat.le_of_ble_eq_true rfl, Nat.le_of_ble_eq_true rfl⟩ ⟨Nat.le_refl _, Nat.le_refl _⟩ hl.1 rfl rfl (Nat.le_of_ble_eq_true rfl) dX6_net_78 (fun H locs hw => ?_)
        refine lv_iinc (v := ((2 : Int32) + 1)) (lv' := [(1, .int ((2 : Int32) + 1)), (0, .ref r0)]) hx hb dX6_net_81 hl (k := 1) rfl rfl (by decide) rfl (fun ls hl => ?_)
        refine lv_goto (tgt := 67) hx hb dX6_net_84 (by decide) ?_
        exact ih _ _ _ hf _ _ _ hw (lv_sub hl [1, 0] rfl)
def f_X6_net_23 (N : Nat) (ncl : Int32) (tso : Int32) (tst : Int32) (ten : Int32) (knd : (Nat → Int32)) (nbs : (Nat → Int32)) (cM : (Nat → Int32)) (cS : (Nat → Int32)) : Nat → Int32 → Int32 → Int32 → (Nat → Int32) → (Nat → Int32) → (Nat → Int32) → Option (Int32 × Int32 × Int32 × Int32 × Int32 × Int32 × (Nat → Int32) × (Nat → Int32) × Int32 × Int32 × Int32 × (Nat → Int32) × (Nat → Int32) × (Nat → Int32) × Int32 × (Nat → Int32) × (Nat → Int32))
  | 0, _, _, _, _, _, _ => none
  | n + 1, x1, pts, wrk, out, mem, abv =>
    if ncl ≤ x1 then
     f_X6_net_67 0 ncl tso tst ten knd nbs 0 pts wrk out mem abv (f_X4_forget) N 0 cM cS
    else
     (f_X6_doClause N x1 knd nbs pts wrk out mem abv).bind fun q4 =>
     f_X6_net_23 N ncl tso tst ten knd nbs cM cS n (x1 + 1) q4.1 q4.2.1 q4.2.2.1 q4.2.2.2.1 q4.2.2.2.2
set_option maxHeartbeats 4000000 in
set_option maxRecDepth 100000 in
theorem b_X6_net_23 {p : Program} {l : Launch} {e : Env} {s : State} {m : MethodId} {args : Array Value} {below : List Frame} {meth : Method} {c : Code} {D : va_G} {cI cZ cN cC : ClassId} {ws0 : va_W} {r0 d0 d1 d2 l0 l1 h0 h1 h2 h3 p0 y9 y00 y01 y02 y10 y11 y12 y20 y21 y22 e9 z0 p1 : Nat} {kps : Int32} {ncl : Int32} {tso : Int32} {tst : Int32} {ten : Int32} {knd : (Nat → Int32)} {nbs : (Nat → Int32)} {len : Int32} {txt : (Nat → Int32)} {nxt : Int32} {psz : Int32} {cM : (Nat → Int32)} {cS : (Nat → Int32)} {cV : (Nat → Nat → Int32)} {cB : (Nat → Nat → Int32)} {N : Nat} {res : Int32 × Int32 × Int32 × Int32 × Int32 × Int32 × (Nat → Int32) × (Nat → Int32) × Int32 × Int32 × Int32 × (Nat → Int32) × (Nat → Int32) × (Nat → Int32) × Int32 × (Nat → Int32) × (Nat → Int32)} (E : xE p s m args meth c cX6_net 2 (some .int) RX6 D (xtys cI cZ cN cC) (xA ws0)) : ∀ (n : Nat) (x1 : Int32) (pts : Int32) (wrk : Int32) (out : (Nat → Int32)) (mem : (Nat → Int32)) (abv : (Nat → Int32)), f_X6_net_23 N ncl tso tst ten knd nbs cM cS n x1 pts wrk out mem abv = some res → ∀ (H : Heap) (locs : List Loc) (ls : Array Slot), xw D (xA ws0) s.heap (wRN cI cZ cN cC r0 d0 d1 d2 l0 l1 h0 h1 h2 h3 p0 y9 y00 y01 y02 y10 y11 y12 y20 y21 y22 e9 z0 p1 kps ncl tso tst ten knd nbs len txt pts wrk out mem abv nxt psz cM cS cV cB) H locs → lv_has ls 2 [(0, .ref r0), (1, .int x1)] → xG p l e 32 769 s m args below meth c D ws0 (wRN cI cZ cN cC r0 d0 d1 d2 l0 l1 h0 h1 h2 h3 p0 y9 y00 y01 y02 y10 y11 y12 y20 y21 y22 e9 z0 p1 res.2.1 res.2.2.1 res.2.2.2.1 res.2.2.2.2.1 res.2.2.2.2.2.1 res.2.2.2.2.2.2.1 res.2.2.2.2.2.2.2.1 res.2.2.2.2.2.2.2.2.1 txt res.2.2.2.2.2.2.2.2.2.1 res.2.2.2.2.2.2.2.2.2.2.1 res.2.2.2.2.2.2.2.2.2.2.2.1 res.2.2.2.2.2.2.2.2.2.2.2.2.1 res.2.2.2.2.2.2.2.2.2.2.2.2.2.1 nxt res.2.2.2.2.2.2.2.2.2.2.2.2.2.2.1 res.2.2.2.2.2.2.2.2.2.2.2.2.2.2.2.1 res.2.2.2.2.2.2.2.2.2.2.2.2.2.2.2.2 cV cB) (some (.int res.1)) H locs (F0 m 23 ls []) := by
  obtain ⟨hx, hb, -⟩ := id E
  intro n
  induction n with
  | zero =>
    intro _ _ _ _ _ _ hf
    rw [f_X6_net_23] at hf; cases hf
  | succ n ih =>
    intro x1 pts wrk out mem abv hf H locs ls hw hl
    rw [f_X6_net_23] at hf
    refine lv_iload_n hx hb dX6_net_23 rfl (lv_at hl 1 rfl) ?_
    refine lv_aload_n hx hb dX6_net_24 rfl (lv_at hl 0 rfl) ?_
    refine x_get E hw kin_X6 0 rfl rfl 1 (by decide) kF_X6_21 (v := .ref d0) rfl dX6_net_25 ?_
    refine x_get E hw kin_X5 1 rfl rfl 3 (by decide) kF_X6_75 (v := .int ncl) rfl dX6_net_28 ?_
    refine lv_icmp_ge (tgt := 45) hx hb dX6_net_31 (by decide) (fun c3 => ?_) (fun c3 => ?_)
    · rw [if_pos c3] at hf
      refine lv_aload_n hx hb dX6_net_45 rfl (lv_at hl 0 rfl) ?_
      refine x_get E hw kin_X6 0 rfl rfl 0 (by decide) kF_X6_10 (v := .ref l0) rfl dX6_net_46 ?_
      refine lv_iconst (v := 0) hx hb dX6_net_49 (by decide) ?_
      refine x_put (ws' := (wRN cI cZ cN cC r0 d0 d1 d2 l0 l1 h0 h1 h2 h3 p0 y9 y00 y01 y02 y10 y11 y12 y20 y21 y22 e9 z0 p1 kps ncl tso tst ten knd nbs 0 txt pts wrk out mem abv nxt psz cM cS cV cB)) E hw kin_X2 tyX2 tyX2_ok nmX2 4 rfl rfl 1 (by decide) kF_X6_61 rfl (v := .int 0) rfl rfl (Nat.le_of_ble_eq_true rfl) rfl dX6_net_50 (fun H locs hw => ?_)
      refine lv_aload_n hx hb dX6_net_53 rfl (lv_at hl 0 rfl) ?_
      refine x_get E hw kin_X6 0 rfl rfl 3 (by decide) kF_X6_35 (v := .ref p0) rfl dX6_net_54 ?_
      refine x_callV (isC := [10]) (ws' := (wRN cI cZ cN cC r0 d0 d1 d2 l0 l1 h0 h1 h2 h3 p0 y9 y00 y01 y02 y10 y11 y12 y20 y21 y22 e9 z0 p1 kps ncl tso tst ten knd nbs 0 txt pts wrk out mem abv nxt (f_X4_forget) cM cS cV cB)) (st1 := []) (As := []) (rest := []) E hw vc_X6_82 (c_X4_forget (cI := cI) (cZ := cZ) (cN := cN) (cC := cC) (h0 := p0) (p1 := p1)  (nxt := nxt) (psz := psz)  rfl) 10 4 rfl rfl rfl rfl rfl rfl rfl rfl rfl ⟨Nat.le_of_ble_eq_true rfl, Nat.le_of_ble_eq_true rfl⟩ ⟨Nat.le_refl _, Nat.le_refl _⟩ hl.1 rfl rfl (Nat.le_of_ble_eq_true rfl) dX6_net_57 (fun H locs hw => ?_)
      refine lv_aload_n hx hb dX6_net_60 rfl (lv_at hl 0 rfl) ?_
      refine lv_iconst (v := 0) hx hb dX6_net_61 (by decide) ?_
      refine x_put (ws' := (wRN cI cZ cN cC r0 d0 d1 d2 l0 l1 h0 h1 h2 h3 p0 y9 y00 y01 y02 y10 y11 y12 y20 y21 y22 e9 z0 p1 0 ncl tso tst ten knd nbs 0 txt pts wrk out mem abv nxt (f_X4_forget) cM cS cV cB)) E hw kin_X6 tyX6 tyX6_ok nmX6 0 rfl rfl 5 (by decide) kF_X6_43 rfl (v := .int 0) rfl rfl (Nat.le_of_ble_eq_true rfl) rfl dX6_net_62 (fun H locs hw => ?_)
      refine lv_iconst (v := 0) hx hb dX6_net_65 (by decide) ?_
      refine lv_istore_n (lv' := [(1, .int 0), (0, .ref r0)]) hx hb dX6_net_66 rfl hl (by decide) rfl (fun ls hl => ?_)
      exact b_X6_net_67 E N _ _ _ hf _ _ _ hw (lv_sub hl [1, 0] rfl)
    · rw [if_neg c3] at hf
      refine lv_aload_n hx hb dX6_net_34 rfl (lv_at hl 0 rfl) ?_
      refine lv_iload_n hx hb dX6_net_35 rfl (lv_at hl 1 rfl) ?_
      obtain ⟨q4, hq4, hf⟩ := Option.bind_eq_some_iff.mp hf
      refine x_callV (isC := [0, 1, 2, 3, 4, 5, 6, 7, 8, 9]) (ws' := (wRN cI cZ cN cC r0 d0 d1 d2 l0 l1 h0 h1 h2 h3 p0 y9 y00 y01 y02 y10 y11 y12 y20 y21 y22 e9 z0 p1 kps ncl tso tst ten knd nbs len txt q4.1 q4.2.1 q4.2.2.1 q4.2.2.2.1 q4.2.2.2.2 nxt psz cM cS cV cB)) (st1 := []) (As := [.int x1]) (rest := []) E hw vc_X6_78 (c_X6_doClause (cI := cI) (cZ := cZ) (cN := cN) (cC := cC) (r0 := r0) (d0 := d0) (d1 := d1) (d2 := d2) (l0 := l0) (l1 := l1) (h0 := h0) (h1 := h1) (h2 := h2) (h3 := h3) (p0 := p0) (e9 := e9) (z0 := z0) (y9 := y9)  (kps := kps) (ncl := ncl) (tso := tso) (tst := tst) (ten := ten) (knd := knd) (nbs := nbs) (len := len) (txt := txt) (pts := pts) (wrk := wrk) (out := out) (mem := mem) (abv := abv) (x1 := x1) hq4) 0 6 rfl rfl rfl rfl rfl rfl rfl rfl rfl ⟨Nat.le_of_ble_eq_true rfl, Nat.le_of_ble_eq_true rfl⟩ ⟨Nat.le_refl _, Nat.le_refl _⟩ hl.1 rfl rfl (Nat.le_of_ble_eq_true rfl) dX6_net_36 (fun H locs hw => ?_)
      refine lv_iinc (v := (x1 + 1)) (lv' := [(1, .int (x1 + 1)), (0, .ref r0)]) hx hb dX6_net_39 hl (k := 1) rfl rfl (by decide) rfl (fun ls hl => ?_)
      refine lv_goto (tgt := 23) hx hb dX6_net_42 (by decide) ?_
      exact ih _ _ _ _ _ _ hf _ _ _ hw (lv_sub hl [1, 0] rfl)
def f_X6_net (N : Nat) (kps : Int32) (tso : Int32) (tst : Int32) (knd : (Nat → Int32)) (nbs : (Nat → Int32)) (len : Int32) (txt : (Nat → Int32)) (pts : Int32) (wrk : Int32) (out : (Nat → Int32)) (mem : (Nat → Int32)) (abv : (Nat → Int32)) (psz : Int32) (cM : (Nat → Int32)) (cS : (Nat → Int32)) : Option (Int32 × Int32 × Int32 × Int32 × Int32 × Int32 × (Nat → Int32) × (Nat → Int32) × Int32 × Int32 × Int32 × (Nat → Int32) × (Nat → Int32) × (Nat → Int32) × Int32 × (Nat → Int32) × (Nat → Int32)) :=
  (f_X5_readAll N pts tso tst knd nbs len txt).bind fun q1 =>
  if q1.1 = (-1) then
   f_X6_net_23 N q1.2.1 q1.2.2.1 q1.2.2.2.1 q1.2.2.2.2.1 q1.2.2.2.2.2.1 q1.2.2.2.2.2.2 cM cS N 0 pts wrk out mem abv
  else
   some ((-4), kps, q1.2.1, q1.2.2.1, q1.2.2.2.1, q1.2.2.2.2.1, q1.2.2.2.2.2.1, q1.2.2.2.2.2.2, len, pts, wrk, out, mem, abv, psz, cM, cS)
set_option maxHeartbeats 4000000 in
set_option maxRecDepth 100000 in
theorem c_X6_net {l : Launch} {D : va_G} {cI cZ cN cC : ClassId} {r0 d0 d1 d2 l0 l1 h0 h1 h2 h3 p0 y9 y00 y01 y02 y10 y11 y12 y20 y21 y22 e9 z0 p1 : Nat} {kps : Int32} {ncl : Int32} {tso : Int32} {tst : Int32} {ten : Int32} {knd : (Nat → Int32)} {nbs : (Nat → Int32)} {len : Int32} {txt : (Nat → Int32)} {pts : Int32} {wrk : Int32} {out : (Nat → Int32)} {mem : (Nat → Int32)} {abv : (Nat → Int32)} {nxt : Int32} {psz : Int32} {cM : (Nat → Int32)} {cS : (Nat → Int32)} {cV : (Nat → Nat → Int32)} {cB : (Nat → Nat → Int32)}  {N : Nat} {res : Int32 × Int32 × Int32 × Int32 × Int32 × Int32 × (Nat → Int32) × (Nat → Int32) × Int32 × Int32 × Int32 × (Nat → Int32) × (Nat → Int32) × (Nat → Int32) × Int32 × (Nat → Int32) × (Nat → Int32)} (hf : f_X6_net N kps tso tst knd nbs len txt pts wrk out mem abv psz cM cS = some res) : xMet l D (xtys cI cZ cN cC) yX6_net cX6_net 2 (some .int) 32 769 [.ref r0] (wRN cI cZ cN cC r0 d0 d1 d2 l0 l1 h0 h1 h2 h3 p0 y9 y00 y01 y02 y10 y11 y12 y20 y21 y22 e9 z0 p1 kps ncl tso tst ten knd nbs len txt pts wrk out mem abv nxt psz cM cS cV cB) (wRN cI cZ cN cC r0 d0 d1 d2 l0 l1 h0 h1 h2 h3 p0 y9 y00 y01 y02 y10 y11 y12 y20 y21 y22 e9 z0 p1 res.2.1 res.2.2.1 res.2.2.2.1 res.2.2.2.2.1 res.2.2.2.2.2.1 res.2.2.2.2.2.2.1 res.2.2.2.2.2.2.2.1 res.2.2.2.2.2.2.2.2.1 txt res.2.2.2.2.2.2.2.2.2.1 res.2.2.2.2.2.2.2.2.2.2.1 res.2.2.2.2.2.2.2.2.2.2.2.1 res.2.2.2.2.2.2.2.2.2.2.2.2.1 res.2.2.2.2.2.2.2.2.2.2.2.2.2.1 nxt res.2.2.2.2.2.2.2.2.2.2.2.2.2.2.1 res.2.2.2.2.2.2.2.2.2.2.2.2.2.2.2.1 res.2.2.2.2.2.2.2.2.2.2.2.2.2.2.2.2 cV cB) (some (.int res.1)) := by
  refine x_enter (by decide) (Nat.le_of_ble_eq_true rfl) ?_
  intro p e s m args below meth c E ls hl hw
  have E : xE p s m args meth c cX6_net 2 (some .int) RX6 D (xtys cI cZ cN cC) (xA (wRN cI cZ cN cC r0 d0 d1 d2 l0 l1 h0 h1 h2 h3 p0 y9 y00 y01 y02 y10 y11 y12 y20 y21 y22 e9 z0 p1 kps ncl tso tst ten knd nbs len txt pts wrk out mem abv nxt psz cM cS cV cB)) := E
  obtain ⟨hx, hb, -⟩ := id E
  have hl : lv_has ls 2 [(0, .ref r0)] := hl
  unfold f_X6_net at hf
  refine lv_aload_n hx hb dX6_net_0 rfl (lv_at hl 0 rfl) ?_
  refine x_get E hw kin_X6 0 rfl rfl 1 (by decide) kF_X6_21 (v := .ref d0) rfl dX6_net_1 ?_
  refine lv_aload_n hx hb dX6_net_4 rfl (lv_at hl 0 rfl) ?_
  refine x_get E hw kin_X6 0 rfl rfl 2 (by decide) kF_X6_28 (v := .ref h0) rfl dX6_net_5 ?_
  refine x_get E hw kin_X3 6 rfl rfl 0 (by decide) kF_X6_68 (v := .int pts) rfl dX6_net_8 ?_
  obtain ⟨q1, hq1, hf⟩ := Option.bind_eq_some_iff.mp hf
  refine x_callV (isC := [1, 2, 3, 4, 5]) (ws' := (wRN cI cZ cN cC r0 d0 d1 d2 l0 l1 h0 h1 h2 h3 p0 y9 y00 y01 y02 y10 y11 y12 y20 y21 y22 e9 z0 p1 kps q1.2.1 q1.2.2.1 q1.2.2.2.1 q1.2.2.2.2.1 q1.2.2.2.2.2.1 q1.2.2.2.2.2.2 len txt pts wrk out mem abv nxt psz cM cS cV cB)) (st1 := [.int q1.1]) (As := [.int pts]) (rest := []) E hw vc_X6_71 (c_X5_readAll (cI := cI) (cZ := cZ) (cN := cN) (cC := cC) (h0 := d0) (h1 := d1) (h2 := d2) (k0 := l0) (k1 := l1)  (ncl := ncl) (tso := tso) (tst := tst) (ten := ten) (knd := knd) (nbs := nbs) (len := len) (txt := txt) (x1 := pts) hq1) 1 5 rfl rfl rfl rfl rfl rfl rfl rfl rfl ⟨Nat.le_of_ble_eq_true rfl, Nat.le_of_ble_eq_true rfl⟩ ⟨Nat.le_refl _, Nat.le_refl _⟩ hl.1 rfl rfl (Nat.le_of_ble_eq_true rfl) dX6_net_11 (fun H locs hw => ?_)
  refine lv_iconst (v := (-1)) hx hb dX6_net_14 (by decide) ?_
  refine lv_icmp_eq (tgt := 21) hx hb dX6_net_15 (by decide) (fun c2 => ?_) (fun c2 => ?_)
  · rw [if_pos c2] at hf
    refine lv_iconst (v := 0) hx hb dX6_net_21 (by decide) ?_
    refine lv_istore_n (lv' := [(1, .int 0), (0, .ref r0)]) hx hb dX6_net_22 rfl hl (by decide) rfl (fun ls hl => ?_)
    exact b_X6_net_23 E N _ _ _ _ _ _ hf _ _ _ hw (lv_sub hl [1, 0] rfl)
  · rw [if_neg c2] at hf
    refine lv_bipush (v := (-4)) hx hb dX6_net_18 (by decide) ?_
    have hf := Option.some.inj hf; subst hf
    exact x_iret E hw dX6_net_20

