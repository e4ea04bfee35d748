abbrev wRN (cI cZ cN cC : ClassId) (r0 d0 d1 d2 l0 l1 h0 h1 h2 h3 p0 y9 y00 y01 y02 y10 y11 y12 y20 y21 y22 e9 z0 p1 : Nat) (kps : Int32) (ncl : Int32) (tso : Int32) (tst : Int32) (ten : Int32) (knd : Nat → Int32) (nbs : Nat → Int32) (len : Int32) (txt : Nat → Int32) (pts : Int32) (wrk : Int32) (out : Nat → Int32) (mem : Nat → Int32) (abv : Nat → Int32) (nxt : Int32) (psz : Int32) (cM : Nat → Int32) (cS : Nat → Int32) (cV : Nat → Nat → Int32) (cB : Nat → Nat → Int32) : va_W := [(r0, .inr (6, [.ref l0, .ref d0, .ref h0, .ref p0, .ref e9, .int kps, .ref z0, .ref y9])), (d0, .inr (5, [.ref l0, .ref d1, .ref d2, .int ncl, .int tso, .int tst, .int ten])), (d1, .inl (cI, 24, .inl knd)), (d2, .inl (cI, 72, .inl nbs)), (l0, .inr (2, [.ref l1, .int len])), (l1, .inl (cI, 200, .inl txt)), (h0, .inr (3, [.int pts, .int wrk, .ref h1, .ref h2, .ref h3])), (h1, .inl (cI, 10, .inl out)), (h2, .inl (cI, 10, .inl mem)), (h3, .inl (cI, 100, .inl abv)), (p0, .inr (4, [.ref p1, .int nxt, .int psz])), (y9, .inl (cC, 3, .inr (.inr (.inr (.inr (fun j => [y00, y10, y20][j]?)))))), (y00, .inr (0, [.ref y01, .ref y02, .int (cM 0), .int (cS 0)])), (y01, .inl (cI, 8, .inl (cV 0))), (y02, .inl (cZ, 8, .inl (cB 0))), (y10, .inr (0, [.ref y11, .ref y12, .int (cM 1), .int (cS 1)])), (y11, .inl (cI, 8, .inl (cV 1))), (y12, .inl (cZ, 8, .inl (cB 1))), (y20, .inr (0, [.ref y21, .ref y22, .int (cM 2), .int (cS 2)])), (y21, .inl (cI, 8, .inl (cV 2))), (y22, .inl (cZ, 8, .inl (cB 2)))]
abbrev wRP (cI cZ cN cC : ClassId) (r0 p0 p1 n00 n01 n02 n03 n10 n11 n12 n13 n20 n21 n22 n23 n30 n31 n32 n33 n40 n41 n42 n43 n50 n51 n52 n53 n60 n61 n62 n63 n70 n71 n72 n73 h0 h1 h2 h3 l0 d0 e9 z0 y9 : Nat) (kps : Int32) (nxt : Int32) (psz : Int32) (nP : Nat → Int32) (nW : Nat → Int32) (nO : Nat → Nat → Int32) (nM : Nat → Nat → Int32) (nA : Nat → Nat → Int32) (pts : Int32) (wrk : Int32) (out : Nat → Int32) (mem : Nat → Int32) (abv : Nat → Int32) : va_W := [(r0, .inr (6, [.ref l0, .ref d0, .ref h0, .ref p0, .ref e9, .int kps, .ref z0, .ref y9])), (p0, .inr (4, [.ref p1, .int nxt, .int psz])), (p1, .inl (cN, 8, .inr (.inr (.inr (.inr (fun j => [n00, n10, n20, n30, n40, n50, n60, n70][j]?)))))), (n00, .inr (3, [.int (nP 0), .int (nW 0), .ref n01, .ref n02, .ref n03])), (n01, .inl (cI, 10, .inl (nO 0))), (n02, .inl (cI, 10, .inl (nM 0))), (n03, .inl (cI, 100, .inl (nA 0))), (n10, .inr (3, [.int (nP 1), .int (nW 1), .ref n11, .ref n12, .ref n13])), (n11, .inl (cI, 10, .inl (nO 1))), (n12, .inl (cI, 10, .inl (nM 1))), (n13, .inl (cI, 100, .inl (nA 1))), (n20, .inr (3, [.int (nP 2), .int (nW 2), .ref n21, .ref n22, .ref n23])), (n21, .inl (cI, 10, .inl (nO 2))), (n22, .inl (cI, 10, .inl (nM 2))), (n23, .inl (cI, 100, .inl (nA 2))), (n30, .inr (3, [.int (nP 3), .int (nW 3), .ref n31, .ref n32, .ref n33])), (n31, .inl (cI, 10, .inl (nO 3))), (n32, .inl (cI, 10, .inl (nM 3))), (n33, .inl (cI, 100, .inl (nA 3))), (n40, .inr (3, [.int (nP 4), .int (nW 4), .ref n41, .ref n42, .ref n43])), (n41, .inl (cI, 10, .inl (nO 4))), (n42, .inl (cI, 10, .inl (nM 4))), (n43, .inl (cI, 100, .inl (nA 4))), (n50, .inr (3, [.int (nP 5), .int (nW 5), .ref n51, .ref n52, .ref n53])), (n51, .inl (cI, 10, .inl (nO 5))), (n52, .inl (cI, 10, .inl (nM 5))), (n53, .inl (cI, 100, .inl (nA 5))), (n60, .inr (3, [.int (nP 6), .int (nW 6), .ref n61, .ref n62, .ref n63])), (n61, .inl (cI, 10, .inl (nO 6))), (n62, .inl (cI, 10, .inl (nM 6))), (n63, .inl (cI, 100, .inl (nA 6))), (n70, .inr (3, [.int (nP 7), .int (nW 7), .ref n71, .ref n72, .ref n73])), (n71, .inl (cI, 10, .inl (nO 7))), (n72, .inl (cI, 10, .inl (nM 7))), (n73, .inl (cI, 100, .inl (nA 7))), (h0, .inr (3, [.int pts, .int wrk, .ref h1, .ref h2, .ref h3])), (h1, .inl (cI, 10, .inl out)), (h2, .inl (cI, 10, .inl mem)), (h3, .inl (cI, 100, .inl abv))]
abbrev wRK (cI cZ cN cC : ClassId) (r0 h0 h1 h2 h3 e9 e00 e01 e02 e03 e10 e11 e12 e13 p0 l0 d0 z0 y9 p1 : Nat) (kps : Int32) (pts : Int32) (wrk : Int32) (out : Nat → Int32) (mem : Nat → Int32) (abv : Nat → Int32) (eP : Nat → Int32) (eW : Nat → Int32) (eO : Nat → Nat → Int32) (eM : Nat → Nat → Int32) (eA : Nat → Nat → Int32) (nxt : Int32) (psz : Int32) : va_W := [(r0, .inr (6, [.ref l0, .ref d0, .ref h0, .ref p0, .ref e9, .int kps, .ref z0, .ref y9])), (h0, .inr (3, [.int pts, .int wrk, .ref h1, .ref h2, .ref h3])), (h1, .inl (cI, 10, .inl out)), (h2, .inl (cI, 10, .inl mem)), (h3, .inl (cI, 100, .inl abv)), (e9, .inl (cN, 2, .inr (.inr (.inr (.inr (fun j => [e00, e10][j]?)))))), (e00, .inr (3, [.int (eP 0), .int (eW 0), .ref e01, .ref e02, .ref e03])), (e01, .inl (cI, 10, .inl (eO 0))), (e02, .inl (cI, 10, .inl (eM 0))), (e03, .inl (cI, 100, .inl (eA 0))), (e10, .inr (3, [.int (eP 1), .int (eW 1), .ref e11, .ref e12, .ref e13])), (e11, .inl (cI, 10, .inl (eO 1))), (e12, .inl (cI, 10, .inl (eM 1))), (e13, .inl (cI, 100, .inl (eA 1))), (p0, .inr (4, [.ref p1, .int nxt, .int psz]))]
abbrev wRH (cI cZ cN cC : ClassId) (r0 h0 h1 h2 h3 y9 y00 y01 y02 y10 y11 y12 y20 y21 y22 l0 d0 p0 e9 z0 : Nat) (kps : Int32) (pts : Int32) (wrk : Int32) (out : Nat → Int32) (mem : Nat → Int32) (abv : Nat → Int32) (cM : Nat → Int32) (cS : Nat → Int32) (cV : Nat → Nat → Int32) (cB : Nat → Nat → Int32) : va_W := [(r0, .inr (6, [.ref l0, .ref d0, .ref h0, .ref p0, .ref e9, .int kps, .ref z0, .ref y9])), (h0, .inr (3, [.int pts, .int wrk, .ref h1, .ref h2, .ref h3])), (h1, .inl (cI, 10, .inl out)), (h2, .inl (cI, 10, .inl mem)), (h3, .inl (cI, 100, .inl abv)), (y9, .inl (cC, 3, .inr (.inr (.inr (.inr (fun j => [y00, y10, y20][j]?)))))), (y00, .inr (0, [.ref y01, .ref y02, .int (cM 0), .int (cS 0)])), (y01, .inl (cI, 8, .inl (cV 0))), (y02, .inl (cZ, 8, .inl (cB 0))), (y10, .inr (0, [.ref y11, .ref y12, .int (cM 1), .int (cS 1)])), (y11, .inl (cI, 8, .inl (cV 1))), (y12, .inl (cZ, 8, .inl (cB 1))), (y20, .inr (0, [.ref y21, .ref y22, .int (cM 2), .int (cS 2)])), (y21, .inl (cI, 8, .inl (cV 2))), (y22, .inl (cZ, 8, .inl (cB 2)))]
abbrev wRX (cI cZ cN cC : ClassId) (r0 h0 h1 h2 h3 y9 y00 y01 y02 y10 y11 y12 y20 y21 y22 p0 l0 d0 e9 z0 p1 l1 : Nat) (kps : Int32) (pts : Int32) (wrk : Int32) (out : Nat → Int32) (mem : Nat → Int32) (abv : Nat → Int32) (cM : Nat → Int32) (cS : Nat → Int32) (cV : Nat → Nat → Int32) (cB : Nat → Nat → Int32) (nxt : Int32) (psz : Int32) (len : Int32) : va_W := [(r0, .inr (6, [.ref l0, .ref d0, .ref h0, .ref p0, .ref e9, .int kps, .ref z0, .ref y9])), (h0, .inr (3, [.int pts, .int wrk, .ref h1, .ref h2, .ref h3])), (h1, .inl (cI, 10, .inl out)), (h2, .inl (cI, 10, .inl mem)), (h3, .inl (cI, 100, .inl abv)), (y9, .inl (cC, 3, .inr (.inr (.inr (.inr (fun j => [y00, y10, y20][j]?)))))), (y00, .inr (0, [.ref y01, .ref y02, .int (cM 0), .int (cS 0)])), (y01, .inl (cI, 8, .inl (cV 0))), (y02, .inl (cZ, 8, .inl (cB 0))), (y10, .inr (0, [.ref y11, .ref y12, .int (cM 1), .int (cS 1)])), (y11, .inl (cI, 8, .inl (cV 1))), (y12, .inl (cZ, 8, .inl (cB 1))), (y20, .inr (0, [.ref y21, .ref y22, .int (cM 2), .int (cS 2)])), (y21, .inl (cI, 8, .inl (cV 2))), (y22, .inl (cZ, 8, .inl (cB 2))), (p0, .inr (4, [.ref p1, .int nxt, .int psz])), (l0, .inr (2, [.ref l1, .int len]))]
abbrev wRS (cI cZ cN cC : ClassId) (r0 h0 h1 h2 h3 u0 u1 u2 l0 d0 p0 e9 z0 y9 : Nat) (kps : Int32) (pts : Int32) (wrk : Int32) (out : Nat → Int32) (mem : Nat → Int32) (abv : Nat → Int32) (mis : Int32) (siz : Int32) (val : Nat → Int32) (isa : Nat → Int32) : va_W := [(r0, .inr (6, [.ref l0, .ref d0, .ref h0, .ref p0, .ref e9, .int kps, .ref z0, .ref y9])), (h0, .inr (3, [.int pts, .int wrk, .ref h1, .ref h2, .ref h3])), (h1, .inl (cI, 10, .inl out)), (h2, .inl (cI, 10, .inl mem)), (h3, .inl (cI, 100, .inl abv)), (u0, .inr (0, [.ref u1, .ref u2, .int mis, .int siz])), (u1, .inl (cI, 8, .inl val)), (u2, .inl (cZ, 8, .inl isa))]
def f_X6_keep (N : Nat) (x1 : Int32) (kps : Int32) (pts : Int32) (wrk : Int32) (out : (Nat → Int32)) (mem : (Nat → Int32)) (abv : (Nat → Int32)) (eP : (Nat → Int32)) (eW : (Nat → Int32)) (eO : (Nat → Nat → Int32)) (eM : (Nat → Nat → Int32)) (eA : (Nat → Nat → Int32)) : Option (Int32 × Int32 × (Nat → Int32) × (Nat → Int32) × (Nat → Nat → Int32) × (Nat → Nat → Int32) × (Nat → Nat → Int32)) :=
  if x1 < 0 then
   some ((-2), kps, eP, eW, eO, eM, eA)
  else
   if x1 < 2 then
    if xin x1 2 then
    (f_X3_arcs N pts out).bind fun q4 =>
    some (q4, (kps ||| (1 <<< (x1 &&& 31))), (va_up eP (Int32.toNatClampNeg x1) ((f_X3_copyFrom (eO (Int32.toNatClampNeg x1)) (eM (Int32.toNatClampNeg x1)) (eA (Int32.toNatClampNeg x1)) pts wrk out mem abv).1)), (va_up eW (Int32.toNatClampNeg x1) ((f_X3_copyFrom (eO (Int32.toNatClampNeg x1)) (eM (Int32.toNatClampNeg x1)) (eA (Int32.toNatClampNeg x1)) pts wrk out mem abv).2.1)), (va_up eO (Int32.toNatClampNeg x1) ((f_X3_copyFrom (eO (Int32.toNatClampNeg x1)) (eM (Int32.toNatClampNeg x1)) (eA (Int32.toNatClampNeg x1)) pts wrk out mem abv).2.2.1)), (va_up eM (Int32.toNatClampNeg x1) ((f_X3_copyFrom (eO (Int32.toNatClampNeg x1)) (eM (Int32.toNatClampNeg x1)) (eA (Int32.toNatClampNeg x1)) pts wrk out mem abv).2.2.2.1)), (va_up eA (Int32.toNatClampNeg x1) ((f_X3_copyFrom (eO (Int32.toNatClampNeg x1)) (eM (Int32.toNatClampNeg x1)) (eA (Int32.toNatClampNeg x1)) pts wrk out mem abv).2.2.2.2)))
    else none
   else
    some ((-2), kps, eP, eW, eO, eM, eA)
set_option maxHeartbeats 4000000 in
set_option maxRecDepth 100000 in
theorem c_X6_keep {l : Launch} {D : va_G} {cI cZ cN cC : ClassId} {r0 h0 h1 h2 h3 e9 e00 e01 e02 e03 e10 e11 e12 e13 p0 l0 d0 z0 y9 p1 : Nat} {kps : Int32} {pts : Int32} {wrk : Int32} {out : (Nat → Int32)} {mem : (Nat → Int32)} {abv : (Nat → Int32)} {eP : (Nat → Int32)} {eW : (Nat → Int32)} {eO : (Nat → Nat → Int32)} {eM : (Nat → Nat → Int32)} {eA : (Nat → Nat → Int32)} {nxt : Int32} {psz : Int32} {x1 : Int32} {N : Nat} {res : Int32 × Int32 × (Nat → Int32) × (Nat → Int32) × (Nat → Nat → Int32) × (Nat → Nat → Int32) × (Nat → Nat → Int32)} (hf : f_X6_keep N x1 kps pts wrk out mem abv eP eW eO eM eA = some res) : xMet l D (xtys cI cZ cN cC) yX6_keep cX6_keep 2 (some .int) 3 81 [.ref r0, .int x1] (wRK cI cZ cN cC r0 h0 h1 h2 h3 e9 e00 e01 e02 e03 e10 e11 e12 e13 p0 l0 d0 z0 y9 p1 kps pts wrk out mem abv eP eW eO eM eA nxt psz) (wRK cI cZ cN cC r0 h0 h1 h2 h3 e9 e00 e01 e02 e03 e10 e11 e12 e13 p0 l0 d0 z0 y9 p1 res.2.1 pts wrk out mem abv res.2.2.1 res.2.2.2.1 res.2.2.2.2.1 res.2.2.2.2.2.1 res.2.2.2.2.2.2 nxt psz) (some (.int res.1)) := by
  refine x_enter (by decide) (Nat.le_of_ble_eq_true rfl) ?_
  intro p e s m args below meth c E ls hl hw
  have E : xE p s m args meth c cX6_keep 2 (some .int) RX6 D (xtys cI cZ cN cC) (xA (wRK cI cZ cN cC r0 h0 h1 h2 h3 e9 e00 e01 e02 e03 e10 e11 e12 e13 p0 l0 d0 z0 y9 p1 kps pts wrk out mem abv eP eW eO eM eA nxt psz)) := E
  obtain ⟨hx, hb, -⟩ := id E
  have hl : lv_has ls 2 [(0, .ref r0), (1, .int x1)] := hl
  unfold f_X6_keep at hf
  refine lv_iload_n hx hb dX6_keep_0 rfl (lv_at hl 1 rfl) ?_
  refine lv_if_lt (tgt := 9) hx hb dX6_keep_1 (by decide) (fun c1 => ?_) (fun c1 => ?_)
  · rw [if_pos c1] at hf
    refine lv_bipush (v := (-2)) hx hb dX6_keep_9 (by decide) ?_
    have hf := Option.some.inj hf; subst hf
    exact x_iret E hw dX6_keep_11
  · rw [if_neg c1] at hf
    refine lv_iload_n hx hb dX6_keep_4 rfl (lv_at hl 1 rfl) ?_
    refine lv_iconst (v := 2) hx hb dX6_keep_5 (by decide) ?_
    refine lv_icmp_lt (tgt := 12) hx hb dX6_keep_6 (by decide) (fun c2 => ?_) (fun c2 => ?_)
    · rw [if_pos c2] at hf
      refine lv_aload_n hx hb dX6_keep_12 rfl (lv_at hl 0 rfl) ?_
      refine x_get E hw kin_X6 0 rfl rfl 4 (by decide) kF_X6_39 (v := .ref e9) rfl dX6_keep_13 ?_
      refine lv_iload_n hx hb dX6_keep_16 rfl (lv_at hl 1 rfl) ?_
      obtain ⟨g3, hf⟩ := xgd hf
      rcases x_in2 (xin_vp g3) with ce | ce
      · subst ce
        refine x_aald E hw 5 2 rfl rfl (xin_vp (by decide)) (w := .ref e00) rfl dX6_keep_17 ?_
        refine lv_aload_n hx hb dX6_keep_18 rfl (lv_at hl 0 rfl) ?_
        refine x_get E hw kin_X6 0 rfl rfl 2 (by decide) kF_X6_28 (v := .ref h0) rfl dX6_keep_19 ?_
        refine x_callV (isC := [6, 7, 8, 9, 1, 2, 3, 4]) (ws' := (wRK cI cZ cN cC r0 h0 h1 h2 h3 e9 e00 e01 e02 e03 e10 e11 e12 e13 p0 l0 d0 z0 y9 p1 kps pts wrk out mem abv (va_up eP (Int32.toNatClampNeg (0 : Int32)) ((f_X3_copyFrom (eO (Int32.toNatClampNeg (0 : Int32))) (eM (Int32.toNatClampNeg (0 : Int32))) (eA (Int32.toNatClampNeg (0 : Int32))) pts wrk out mem abv).1)) (va_up eW (Int32.toNatClampNeg (0 : Int32)) ((f_X3_copyFrom (eO (Int32.toNatClampNeg (0 : Int32))) (eM (Int32.toNatClampNeg (0 : Int32))) (eA (Int32.toNatClampNeg (0 : Int32))) pts wrk out mem abv).2.1)) (va_up eO (Int32.toNatClampNeg (0 : Int32)) ((f_X3_copyFrom (eO (Int32.toNatClampNeg (0 : Int32))) (eM (Int32.toNatClampNeg (0 : Int32))) (eA (Int32.toNatClampNeg (0 : Int32))) pts wrk out mem abv).2.2.1)) (va_up eM (Int32.toNatClampNeg (0 : Int32)) ((f_X3_copyFrom (eO (Int32.toNatClampNeg (0 : Int32))) (eM (Int32.toNatClampNeg (0 : Int32))) (eA (Int32.toNatClampNeg (0 : Int32))) pts wrk out mem abv).2.2.2.1)) (va_up eA (Int32.toNatClampNeg (0 : Int32)) ((f_X3_copyFrom (eO (Int32.toNatClampNeg (0 : Int32))) (eM (Int32.toNatClampNeg (0 : Int32))) (eA (Int32.toNatClampNeg (0 : Int32))) pts wrk out mem abv).2.2.2.2)) nxt psz)) (st1 := []) (As := [.ref h0]) (rest := []) E hw vc_X6_141 (c_X3_copyFrom (cI := cI) (cZ := cZ) (cN := cN) (cC := cC) (h0 := e00) (h1 := e01) (h2 := e02) (h3 := e03) (k0 := h0) (k1 := h1) (k2 := h2) (k3 := h3)  (pts := (eP (Int32.toNatClampNeg (0 : Int32)))) (wrk := (eW (Int32.toNatClampNeg (0 : Int32)))) (out := (eO (Int32.toNatClampNeg (0 : Int32)))) (mem := (eM (Int32.toNatClampNeg (0 : Int32)))) (abv := (eA (Int32.toNatClampNeg (0 : Int32)))) (pts2 := pts) (wrk2 := wrk) (out2 := out) (mem2 := mem) (abv2 := abv)  rfl) 6 3 rfl rfl rfl rfl rfl rfl rfl rfl rfl ⟨Nat.le_of_ble_eq_true rfl, Nat.le_of_ble_eq_true rfl⟩ ⟨Nat.le_refl _, Nat.le_refl _⟩ hl.1 rfl rfl (Nat.le_of_ble_eq_true rfl) dX6_keep_22 (fun H locs hw => ?_)
        refine lv_aload_n hx hb dX6_keep_25 rfl (lv_at hl 0 rfl) ?_
        refine lv_dup hx hb dX6_keep_26 rfl ?_
        refine x_get E hw kin_X6 0 rfl rfl 5 (by decide) kF_X6_43 (v := .int kps) rfl dX6_keep_27 ?_
        refine lv_iconst (v := 1) hx hb dX6_keep_30 (by decide) ?_
        refine lv_iload_n hx hb dX6_keep_31 rfl (lv_at hl 1 rfl) ?_
        refine lv_ishl hx hb dX6_keep_32 ?_
        refine lv_ior hx hb dX6_keep_33 ?_
        refine x_put (ws' := (wRK cI cZ cN cC r0 h0 h1 h2 h3 e9 e00 e01 e02 e03 e10 e11 e12 e13 p0 l0 d0 z0 y9 p1 (kps ||| (1 <<< ((0 : Int32) &&& 31))) pts wrk out mem abv (va_up eP (Int32.toNatClampNeg (0 : Int32)) ((f_X3_copyFrom (eO (Int32.toNatClampNeg (0 : Int32))) (eM (Int32.toNatClampNeg (0 : Int32))) (eA (Int32.toNatClampNeg (0 : Int32))) pts wrk out mem abv).1)) (va_up eW (Int32.toNatClampNeg (0 : Int32)) ((f_X3_copyFrom (eO (Int32.toNatClampNeg (0 : Int32))) (eM (Int32.toNatClampNeg (0 : Int32))) (eA (Int32.toNatClampNeg (0 : Int32))) pts wrk out mem abv).2.1)) (va_up eO (Int32.toNatClampNeg (0 : Int32)) ((f_X3_copyFrom (eO (Int32.toNatClampNeg (0 : Int32))) (eM (Int32.toNatClampNeg (0 : Int32))) (eA (Int32.toNatClampNeg (0 : Int32))) pts wrk out mem abv).2.2.1)) (va_up eM (Int32.toNatClampNeg (0 : Int32)) ((f_X3_copyFrom (eO (Int32.toNatClampNeg (0 : Int32))) (eM (Int32.toNatClampNeg (0 : Int32))) (eA (Int32.toNatClampNeg (0 : Int32))) pts wrk out mem abv).2.2.2.1)) (va_up eA (Int32.toNatClampNeg (0 : Int32)) ((f_X3_copyFrom (eO (Int32.toNatClampNeg (0 : Int32))) (eM (Int32.toNatClampNeg (0 : Int32))) (eA (Int32.toNatClampNeg (0 : Int32))) pts wrk out mem abv).2.2.2.2)) nxt psz)) E hw kin_X6 tyX6 tyX6_ok nmX6 0 rfl rfl 5 (by decide) kF_X6_43 rfl (v := .int (kps ||| (1 <<< ((0 : Int32) &&& 31)))) rfl rfl (Nat.le_of_ble_eq_true rfl) rfl dX6_keep_34 (fun H locs hw => ?_)
        refine lv_aload_n hx hb dX6_keep_37 rfl (lv_at hl 0 rfl) ?_
        refine x_get E hw kin_X6 0 rfl rfl 2 (by decide) kF_X6_28 (v := .ref h0) rfl dX6_keep_38 ?_
        obtain ⟨q5, hq5, hf⟩ := Option.bind_eq_some_iff.mp hf
        refine x_callV (isC := [1, 2, 3, 4]) (ws' := (wRK cI cZ cN cC r0 h0 h1 h2 h3 e9 e00 e01 e02 e03 e10 e11 e12 e13 p0 l0 d0 z0 y9 p1 (kps ||| (1 <<< ((0 : Int32) &&& 31))) pts wrk out mem abv (va_up eP (Int32.toNatClampNeg (0 : Int32)) ((f_X3_copyFrom (eO (Int32.toNatClampNeg (0 : Int32))) (eM (Int32.toNatClampNeg (0 : Int32))) (eA (Int32.toNatClampNeg (0 : Int32))) pts wrk out mem abv).1)) (va_up eW (Int32.toNatClampNeg (0 : Int32)) ((f_X3_copyFrom (eO (Int32.toNatClampNeg (0 : Int32))) (eM (Int32.toNatClampNeg (0 : Int32))) (eA (Int32.toNatClampNeg (0 : Int32))) pts wrk out mem abv).2.1)) (va_up eO (Int32.toNatClampNeg (0 : Int32)) ((f_X3_copyFrom (eO (Int32.toNatClampNeg (0 : Int32))) (eM (Int32.toNatClampNeg (0 : Int32))) (eA (Int32.toNatClampNeg (0 : Int32))) pts wrk out mem abv).2.2.1)) (va_up eM (Int32.toNatClampNeg (0 : Int32)) ((f_X3_copyFrom (eO (Int32.toNatClampNeg (0 : Int32))) (eM (Int32.toNatClampNeg (0 : Int32))) (eA (Int32.toNatClampNeg (0 : Int32))) pts wrk out mem abv).2.2.2.1)) (va_up eA (Int32.toNatClampNeg (0 : Int32)) ((f_X3_copyFrom (eO (Int32.toNatClampNeg (0 : Int32))) (eM (Int32.toNatClampNeg (0 : Int32))) (eA (Int32.toNatClampNeg (0 : Int32))) pts wrk out mem abv).2.2.2.2)) nxt psz)) (st1 := [.int q5]) (As := []) (rest := []) E hw vc_X6_106 (c_X3_arcs (cI := cI) (cZ := cZ) (cN := cN) (cC := cC) (h0 := h0) (h1 := h1) (h2 := h2) (h3 := h3)  (pts := pts) (wrk := wrk) (out := out) (mem := mem) (abv := abv)  hq5) 1 3 rfl rfl rfl rfl rfl rfl rfl rfl rfl ⟨Nat.le_of_ble_eq_true rfl, Nat.le_of_ble_eq_true rfl⟩ ⟨Nat.le_refl _, Nat.le_refl _⟩ hl.1 rfl rfl (Nat.le_of_ble_eq_true rfl) dX6_keep_41 (fun H locs hw => ?_)
        have hf := Option.some.inj hf; subst hf
        exact x_iret E hw dX6_keep_44
      · subst ce
        refine x_aald E hw 5 2 rfl rfl (xin_vp (by decide)) (w := .ref e10) rfl dX6_keep_17 ?_
        refine lv_aload_n hx hb dX6_keep_18 rfl (lv_at hl 0 rfl) ?_
        refine x_get E hw kin_X6 0 rfl rfl 2 (by decide) kF_X6_28 (v := .ref h0) rfl dX6_keep_19 ?_
        refine x_callV (isC := [10, 11, 12, 13, 1, 2, 3, 4]) (ws' := (wRK cI cZ cN cC r0 h0 h1 h2 h3 e9 e00 e01 e02 e03 e10 e11 e12 e13 p0 l0 d0 z0 y9 p1 kps pts wrk out mem abv (va_up eP (Int32.toNatClampNeg (1 : Int32)) ((f_X3_copyFrom (eO (Int32.toNatClampNeg (1 : Int32))) (eM (Int32.toNatClampNeg (1 : Int32))) (eA (Int32.toNatClampNeg (1 : Int32))) pts wrk out mem abv).1)) (va_up eW (Int32.toNatClampNeg (1 : Int32)) ((f_X3_copyFrom (eO (Int32.toNatClampNeg (1 : Int32))) (eM (Int32.toNatClampNeg (1 : Int32))) (eA (Int32.toNatClampNeg (1 : Int32))) pts wrk out mem abv).2.1)) (va_up eO (Int32.toNatClampNeg (1 : Int32)) ((f_X3_copyFrom (eO (Int32.toNatClampNeg (1 : Int32))) (eM (Int32.toNatClampNeg (1 : Int32))) (eA (Int32.toNatClampNeg (1 : Int32))) pts wrk out mem abv).2.2.1)) (va_up eM (Int32.toNatClampNeg (1 : Int32)) ((f_X3_copyFrom (eO (Int32.toNatClampNeg (1 : Int32))) (eM (Int32.toNatClampNeg (1 : Int32))) (eA (Int32.toNatClampNeg (1 : Int32))) pts wrk out mem abv).2.2.2.1)) (va_up eA (Int32.toNatClampNeg (1 : Int32)) ((f_X3_copyFrom (eO (Int32.toNatClampNeg (1 : Int32))) (eM (Int32.toNatClampNeg (1 : Int32))) (eA (Int32.toNatClampNeg (1 : Int32))) pts wrk out mem abv).2.2.2.2)) nxt psz)) (st1 := []) (As := [.ref h0]) (rest := []) E hw vc_X6_141 (c_X3_copyFrom (cI := cI) (cZ := cZ) (cN := cN) (cC := cC) (h0 := e10) (h1 := e11) (h2 := e12) (h3 := e13) (k0 := h0) (k1 := h1) (k2 := h2) (k3 := h3)  (pts := (eP (Int32.toNatClampNeg (1 : Int32)))) (wrk := (eW (Int32.toNatClampNeg (1 : Int32)))) (out := (eO (Int32.toNatClampNeg (1 : Int32)))) (mem := (eM (Int32.toNatClampNeg (1 : Int32)))) (abv := (eA (Int32.toNatClampNeg (1 : Int32)))) (pts2 := pts) (wrk2 := wrk) (out2 := out) (mem2 := mem) (abv2 := abv)  rfl) 10 3 rfl rfl rfl rfl rfl rfl rfl rfl rfl ⟨Nat.le_of_ble_eq_true rfl, Nat.le_of_ble_eq_true rfl⟩ ⟨Nat.le_refl _, Nat.le_refl _⟩ hl.1 rfl rfl (Nat.le_of_ble_eq_true rfl) dX6_keep_22 (fun H locs hw => ?_)
        refine lv_aload_n hx hb dX6_keep_25 rfl (lv_at hl 0 rfl) ?_
        refine lv_dup hx hb dX6_keep_26 rfl ?_
        refine x_get E hw kin_X6 0 rfl rfl 5 (by decide) kF_X6_43 (v := .int kps) rfl dX6_keep_27 ?_
        refine lv_iconst (v := 1) hx hb dX6_keep_30 (by decide) ?_
        refine lv_iload_n hx hb dX6_keep_31 rfl (lv_at hl 1 rfl) ?_
        refine lv_ishl hx hb dX6_keep_32 ?_
        refine lv_ior hx hb dX6_keep_33 ?_
        refine x_put (ws' := (wRK cI cZ cN cC r0 h0 h1 h2 h3 e9 e00 e01 e02 e03 e10 e11 e12 e13 p0 l0 d0 z0 y9 p1 (kps ||| (1 <<< ((1 : Int32) &&& 31))) pts wrk out mem abv (va_up eP (Int32.toNatClampNeg (1 : Int32)) ((f_X3_copyFrom (eO (Int32.toNatClampNeg (1 : Int32))) (eM (Int32.toNatClampNeg (1 : Int32))) (eA (Int32.toNatClampNeg (1 : Int32))) pts wrk out mem abv).1)) (va_up eW (Int32.toNatClampNeg (1 : Int32)) ((f_X3_copyFrom (eO (Int32.toNatClampNeg (1 : Int32))) (eM (Int32.toNatClampNeg (1 : Int32))) (eA (Int32.toNatClampNeg (1 : Int32))) pts wrk out mem abv).2.1)) (va_up eO (Int32.toNatClampNeg (1 : Int32)) ((f_X3_copyFrom (eO (Int32.toNatClampNeg (1 : Int32))) (eM (Int32.toNatClampNeg (1 : Int32))) (eA (Int32.toNatClampNeg (1 : Int32))) pts wrk out mem abv).2.2.1)) (va_up eM (Int32.toNatClampNeg (1 : Int32)) ((f_X3_copyFrom (eO (Int32.toNatClampNeg (1 : Int32))) (eM (Int32.toNatClampNeg (1 : Int32))) (eA (Int32.toNatClampNeg (1 : Int32))) pts wrk out mem abv).2.2.2.1)) (va_up eA (Int32.toNatClampNeg (1 : Int32)) ((f_X3_copyFrom (eO (Int32.toNatClampNeg (1 : Int32))) (eM (Int32.toNatClampNeg (1 : Int32))) (eA (Int32.toNatClampNeg (1 : Int32))) pts wrk out mem abv).2.2.2.2)) nxt psz)) E hw kin_X6 tyX6 tyX6_ok nmX6 0 rfl rfl 5 (by decide) kF_X6_43 rfl (v := .int (kps ||| (1 <<< ((1 : Int32) &&& 31)))) rfl rfl (Nat.le_of_ble_eq_true rfl) rfl dX6_keep_34 (fun H locs hw => ?_)
        refine lv_aload_n hx hb dX6_keep_37 rfl (lv_at hl 0 rfl) ?_
        refine x_get E hw kin_X6 0 rfl rfl 2 (by decide) kF_X6_28 (v := .ref h0) rfl dX6_keep_38 ?_
        obtain ⟨q6, hq6, hf⟩ := Option.bind_eq_some_iff.mp hf
        refine x_callV (isC := [1, 2, 3, 4]) (ws' := (wRK cI cZ cN cC r0 h0 h1 h2 h3 e9 e00 e01 e02 e03 e10 e11 e12 e13 p0 l0 d0 z0 y9 p1 (kps ||| (1 <<< ((1 : Int32) &&& 31))) pts wrk out mem abv (va_up eP (Int32.toNatClampNeg (1 : Int32)) ((f_X3_copyFrom (eO (Int32.toNatClampNeg (1 : Int32))) (eM (Int32.toNatClampNeg (1 : Int32))) (eA (Int32.toNatClampNeg (1 : Int32))) pts wrk out mem abv).1)) (va_up eW (Int32.toNatClampNeg (1 : Int32)) ((f_X3_copyFrom (eO (Int32.toNatClampNeg (1 : Int32))) (eM (Int32.toNatClampNeg (1 : Int32))) (eA (Int32.toNatClampNeg (1 : Int32))) pts wrk out mem abv).2.1)) (va_up eO (Int32.toNatClampNeg (1 : Int32)) ((f_X3_copyFrom (eO (Int32.toNatClampNeg (1 : Int32))) (eM (Int32.toNatClampNeg (1 : Int32))) (eA (Int32.toNatClampNeg (1 : Int32))) pts wrk out mem abv).2.2.1)) (va_up eM (Int32.toNatClampNeg (1 : Int32)) ((f_X3_copyFrom (eO (Int32.toNatClampNeg (1 : Int32))) (eM (Int32.toNatClampNeg (1 : Int32))) (eA (Int32.toNatClampNeg (1 : Int32))) pts wrk out mem abv).2.2.2.1)) (va_up eA (Int32.toNatClampNeg (1 : Int32)) ((f_X3_copyFrom (eO (Int32.toNatClampNeg (1 : Int32))) (eM (Int32.toNatClampNeg (1 : Int32))) (eA (Int32.toNatClampNeg (1 : Int32))) pts wrk out mem abv).2.2.2.2)) nxt psz)) (st1 := [.int q6]) (As := []) (rest := []) E hw vc_X6_106 (c_X3_arcs (cI := cI) (cZ := cZ) (cN := cN) (cC := cC) (h0 := h0) (h1 := h1) (h2 := h2) (h3 := h3)  (pts := pts) (wrk := wrk) (out := out) (mem := mem) (abv := abv)  hq6) 1 3 rfl rfl rfl rfl rfl rfl rfl rfl rfl ⟨Nat.le_of_ble_eq_true rfl, Nat.le_of_ble_eq_true rfl⟩ ⟨Nat.le_refl _, Nat.le_refl _⟩ hl.1 rfl rfl (Nat.le_of_ble_eq_true rfl) dX6_keep_41 (fun H locs hw => ?_)
        have hf := Option.some.inj hf; subst hf
        exact x_iret E hw dX6_keep_44
    · rw [if_neg c2] at hf
      refine lv_bipush (v := (-2)) hx hb dX6_keep_9 (by decide) ?_
      have hf := Option.some.inj hf; subst hf
      exact x_iret E hw dX6_keep_11

def f_X6_back (N : Nat) (x1 : Int32) (kps : Int32) (pts : Int32) (wrk : Int32) (out : (Nat → Int32)) (mem : (Nat → Int32)) (abv : (Nat → Int32)) (eP : (Nat → Int32)) (eW : (Nat → Int32)) (eO : (Nat → Nat → Int32)) (eM : (Nat → Nat → Int32)) (eA : (Nat → Nat → Int32)) (psz : Int32) : Option (Int32 × Int32 × Int32 × (Nat → Int32) × (Nat → Int32) × (Nat → Int32) × Int32) :=
  if x1 < 0 then
   some ((-2), pts, wrk, out, mem, abv, psz)
  else
   if x1 < 2 then
    if (f_X6_has kps x1) = 0 then
     some ((-4), pts, wrk, out, mem, abv, psz)
    else
     if xin x1 2 then
     (f_X3_arcs N ((f_X3_copyFrom out mem abv (eP (Int32.toNatClampNeg x1)) (eW (Int32.toNatClampNeg x1)) (eO (Int32.toNatClampNeg x1)) (eM (Int32.toNatClampNeg x1)) (eA (Int32.toNatClampNeg x1))).1) ((f_X3_copyFrom out mem abv (eP (Int32.toNatClampNeg x1)) (eW (Int32.toNatClampNeg x1)) (eO (Int32.toNatClampNeg x1)) (eM (Int32.toNatClampNeg x1)) (eA (Int32.toNatClampNeg x1))).2.2.1)).bind fun q5 =>
     some (q5, (f_X3_copyFrom out mem abv (eP (Int32.toNatClampNeg x1)) (eW (Int32.toNatClampNeg x1)) (eO (Int32.toNatClampNeg x1)) (eM (Int32.toNatClampNeg x1)) (eA (Int32.toNatClampNeg x1))).1, (f_X3_copyFrom out mem abv (eP (Int32.toNatClampNeg x1)) (eW (Int32.toNatClampNeg x1)) (eO (Int32.toNatClampNeg x1)) (eM (Int32.toNatClampNeg x1)) (eA (Int32.toNatClampNeg x1))).2.1, (f_X3_copyFrom out mem abv (eP (Int32.toNatClampNeg x1)) (eW (Int32.toNatClampNeg x1)) (eO (Int32.toNatClampNeg x1)) (eM (Int32.toNatClampNeg x1)) (eA (Int32.toNatClampNeg x1))).2.2.1, (f_X3_copyFrom out mem abv (eP (Int32.toNatClampNeg x1)) (eW (Int32.toNatClampNeg x1)) (eO (Int32.toNatClampNeg x1)) (eM (Int32.toNatClampNeg x1)) (eA (Int32.toNatClampNeg x1))).2.2.2.1, (f_X3_copyFrom out mem abv (eP (Int32.toNatClampNeg x1)) (eW (Int32.toNatClampNeg x1)) (eO (Int32.toNatClampNeg x1)) (eM (Int32.toNatClampNeg x1)) (eA (Int32.toNatClampNeg x1))).2.2.2.2, (f_X4_forget))
     else none
   else
    some ((-2), pts, wrk, out, mem, abv, psz)
set_option maxHeartbeats 4000000 in
set_option maxRecDepth 100000 in
theorem c_X6_back {l : Launch} {D : va_G} {cI cZ cN cC : ClassId} {r0 h0 h1 h2 h3 e9 e00 e01 e02 e03 e10 e11 e12 e13 p0 l0 d0 z0 y9 p1 : Nat} {kps : Int32} {pts : Int32} {wrk : Int32} {out : (Nat → Int32)} {mem : (Nat → Int32)} {abv : (Nat → Int32)} {eP : (Nat → Int32)} {eW : (Nat → Int32)} {eO : (Nat → Nat → Int32)} {eM : (Nat → Nat → Int32)} {eA : (Nat → Nat → Int32)} {nxt : Int32} {psz : Int32} {x1 : Int32} {N : Nat} {res : Int32 × Int32 × Int32 × (Nat → Int32) × (Nat → Int32) × (Nat → Int32) × Int32} (hf : f_X6_back N x1 kps pts wrk out mem abv eP eW eO eM eA psz = some res) : xMet l D (xtys cI cZ cN cC) yX6_back cX6_back 2 (some .int) 3 81 [.ref r0, .int x1] (wRK cI cZ cN cC r0 h0 h1 h2 h3 e9 e00 e01 e02 e03 e10 e11 e12 e13 p0 l0 d0 z0 y9 p1 kps pts wrk out mem abv eP eW eO eM eA nxt psz) (wRK cI cZ cN cC r0 h0 h1 h2 h3 e9 e00 e01 e02 e03 e10 e11 e12 e13 p0 l0 d0 z0 y9 p1 kps res.2.1 res.2.2.1 res.2.2.2.1 res.2.2.2.2.1 res.2.2.2.2.2.1 eP eW eO eM eA nxt res.2.2.2.2.2.2) (some (.int res.1)) := by
  refine x_enter (by decide) (Nat.le_of_ble_eq_true rfl) ?_
  intro p e s m args below meth c E ls hl hw
  have E : xE p s m args meth c cX6_back 2 (some .int) RX6 D (xtys cI cZ cN cC) (xA (wRK cI cZ cN cC r0 h0 h1 h2 h3 e9 e00 e01 e02 e03 e10 e11 e12 e13 p0 l0 d0 z0 y9 p1 kps pts wrk out mem abv eP eW eO eM eA nxt psz)) := E
  obtain ⟨hx, hb, -⟩ := id E
  have hl : lv_has ls 2 [(0, .ref r0), (1, .int x1)] := hl
  unfold f_X6_back at hf
  refine lv_iload_n hx hb dX6_back_0 rfl (lv_at hl 1 rfl) ?_
  refine lv_if_lt (tgt := 9) hx hb dX6_back_1 (by decide) (fun c1 => ?_) (fun c1 => ?_)
  · rw [if_pos c1] at hf
    refine lv_bipush (v := (-2)) hx hb dX6_back_9 (by decide) ?_
    have hf := Option.some.inj hf; subst hf
    exact x_iret E hw dX6_back_11
  · rw [if_neg c1] at hf
    refine lv_iload_n hx hb dX6_back_4 rfl (lv_at hl 1 rfl) ?_
    refine lv_iconst (v := 2) hx hb dX6_back_5 (by decide) ?_
    refine lv_icmp_lt (tgt := 12) hx hb dX6_back_6 (by decide) (fun c2 => ?_) (fun c2 => ?_)
    · rw [if_pos c2] at hf
      refine lv_aload_n hx hb dX6_back_12 rfl (lv_at hl 0 rfl) ?_
      refine x_get E hw kin_X6 0 rfl rfl 5 (by decide) kF_X6_43 (v := .int kps) rfl dX6_back_13 ?_
      refine lv_iload_n hx hb dX6_back_16 rfl (lv_at hl 1 rfl) ?_
      refine x_callS (isC := []) (ws' := (wRK cI cZ cN cC r0 h0 h1 h2 h3 e9 e00 e01 e02 e03 e10 e11 e12 e13 p0 l0 d0 z0 y9 p1 kps pts wrk out mem abv eP eW eO eM eA nxt psz)) (st1 := [.int (f_X6_has kps x1)]) (As := [.int kps, .int x1]) (rest := []) E hw vc_X6_144 (c_X6_has (cI := cI) (cZ := cZ) (cN := cN) (cC := cC)    (x0 := kps) (x1 := x1) rfl) rfl rfl rfl rfl rfl rfl ⟨Nat.le_of_ble_eq_true rfl, Nat.le_of_ble_eq_true rfl⟩ ⟨Nat.le_refl _, Nat.le_refl _⟩ hl.1 rfl rfl (Nat.le_of_ble_eq_true rfl) dX6_back_17 (fun H locs hw => ?_)
      refine lv_if_ne (tgt := 26) hx hb dX6_back_20 (by decide) (fun c3 => ?_) (fun c3 => ?_)
      · rw [if_neg c3] at hf
        refine lv_aload_n hx hb dX6_back_26 rfl (lv_at hl 0 rfl) ?_
        refine x_get E hw kin_X6 0 rfl rfl 2 (by decide) kF_X6_28 (v := .ref h0) rfl dX6_back_27 ?_
        refine lv_aload_n hx hb dX6_back_30 rfl (lv_at hl 0 rfl) ?_
        refine x_get E hw kin_X6 0 rfl rfl 4 (by decide) kF_X6_39 (v := .ref e9) rfl dX6_back_31 ?_
        refine lv_iload_n hx hb dX6_back_34 rfl (lv_at hl 1 rfl) ?_
        obtain ⟨g4, hf⟩ := xgd hf
        rcases x_in2 (xin_vp g4) with ce | ce
        · subst ce
          refine x_aald E hw 5 2 rfl rfl (xin_vp (by decide)) (w := .ref e00) rfl dX6_back_35 ?_
          refine x_callV (isC := [1, 2, 3, 4, 6, 7, 8, 9]) (ws' := (wRK cI cZ cN cC r0 h0 h1 h2 h3 e9 e00 e01 e02 e03 e10 e11 e12 e13 p0 l0 d0 z0 y9 p1 kps ((f_X3_copyFrom out mem abv (eP (Int32.toNatClampNeg (0 : Int32))) (eW (Int32.toNatClampNeg (0 : Int32))) (eO (Int32.toNatClampNeg (0 : Int32))) (eM (Int32.toNatClampNeg (0 : Int32))) (eA (Int32.toNatClampNeg (0 : Int32)))).1) ((f_X3_copyFrom out mem abv (eP (Int32.toNatClampNeg (0 : Int32))) (eW (Int32.toNatClampNeg (0 : Int32))) (eO (Int32.toNatClampNeg (0 : Int32))) (eM (Int32.toNatClampNeg (0 : Int32))) (eA (Int32.toNatClampNeg (0 : Int32)))).2.1) ((f_X3_copyFrom out mem abv (eP (Int32.toNatClampNeg (0 : Int32))) (eW (Int32.toNatClampNeg (0 : Int32))) (eO (Int32.toNatClampNeg (0 : Int32))) (eM (Int32.toNatClampNeg (0 : Int32))) (eA (Int32.toNatClampNeg (0 : Int32)))).2.2.1) ((f_X3_copyFrom out mem abv (eP (Int32.toNatClampNeg (0 : Int32))) (eW (Int32.toNatClampNeg (0 : Int32))) (eO (Int32.toNatClampNeg (0 : Int32))) (eM (Int32.toNatClampNeg (0 : Int32))) (eA (Int32.toNatClampNeg (0 : Int32)))).2.2.2.1) ((f_X3_copyFrom out mem abv (eP (Int32.toNatClampNeg (0 : Int32))) (eW (Int32.toNatClampNeg (0 : Int32))) (eO (Int32.toNatClampNeg (0 : Int32))) (eM (Int32.toNatClampNeg (0 : Int32))) (eA (Int32.toNatClampNeg (0 : Int32)))).2.2.2.2) eP eW eO eM eA nxt psz)) (st1 := []) (As := [.ref e00]) (rest := []) E hw vc_X6_141 (c_X3_copyFrom (cI := cI) (cZ := cZ) (cN := cN) (cC := cC) (h0 := h0) (h1 := h1) (h2 := h2) (h3 := h3) (k0 := e00) (k1 := e01) (k2 := e02) (k3 := e03)  (pts := pts) (wrk := wrk) (out := out) (mem := mem) (abv := abv) (pts2 := (eP (Int32.toNatClampNeg (0 : Int32)))) (wrk2 := (eW (Int32.toNatClampNeg (0 : Int32)))) (out2 := (eO (Int32.toNatClampNeg (0 : Int32)))) (mem2 := (eM (Int32.toNatClampNeg (0 : Int32)))) (abv2 := (eA (Int32.toNatClampNeg (0 : Int32))))  rfl) 1 3 rfl rfl rfl rfl rfl rfl rfl rfl rfl ⟨Nat.le_of_ble_eq_true rfl, Nat.le_of_ble_eq_true rfl⟩ ⟨Nat.le_refl _, Nat.le_refl _⟩ hl.1 rfl rfl (Nat.le_of_ble_eq_true rfl) dX6_back_36 (fun H locs hw => ?_)
          refine lv_aload_n hx hb dX6_back_39 rfl (lv_at hl 0 rfl) ?_
          refine x_get E hw kin_X6 0 rfl rfl 3 (by decide) kF_X6_35 (v := .ref p0) rfl dX6_back_40 ?_
          refine x_callV (isC := [14]) (ws' := (wRK cI cZ cN cC r0 h0 h1 h2 h3 e9 e00 e01 e02 e03 e10 e11 e12 e13 p0 l0 d0 z0 y9 p1 kps ((f_X3_copyFrom out mem abv (eP (Int32.toNatClampNeg (0 : Int32))) (eW (Int32.toNatClampNeg (0 : Int32))) (eO (Int32.toNatClampNeg (0 : Int32))) (eM (Int32.toNatClampNeg (0 : Int32))) (eA (Int32.toNatClampNeg (0 : Int32)))).1) ((f_X3_copyFrom out mem abv (eP (Int32.toNatClampNeg (0 : Int32))) (eW (Int32.toNatClampNeg (0 : Int32))) (eO (Int32.toNatClampNeg (0 : Int32))) (eM (Int32.toNatClampNeg (0 : Int32))) (eA (Int32.toNatClampNeg (0 : Int32)))).2.1) ((f_X3_copyFrom out mem abv (eP (Int32.toNatClampNeg (0 : Int32))) (eW (Int32.toNatClampNeg (0 : Int32))) (eO (Int32.toNatClampNeg (0 : Int32))) (eM (Int32.toNatClampNeg (0 : Int32))) (eA (Int32.toNatClampNeg (0 : Int32)))).2.2.1) ((f_X3_copyFrom out mem abv (eP (Int32.toNatClampNeg (0 : Int32))) (eW (Int32.toNatClampNeg (0 : Int32))) (eO (Int32.toNatClampNeg (0 : Int32))) (eM (Int32.toNatClampNeg (0 : Int32))) (eA (Int32.toNatClampNeg (0 : Int32)))).2.2.2.1) ((f_X3_copyFrom out mem abv (eP (Int32.toNatClampNeg (0 : Int32))) (eW (Int32.toNatClampNeg (0 : Int32))) (eO (Int32.toNatClampNeg (0 : Int32))) (eM (Int32.toNatClampNeg (0 : Int32))) (eA (Int32.toNatClampNeg (0 : Int32)))).2.2.2.2) eP eW eO eM eA nxt (f_X4_forget))) (st1 := []) (As := []) (rest := []) E hw vc_X6_82 (c_X4_forget (cI := cI) (cZ := cZ) (cN := cN) (cC := cC) (h0 := p0) (p1 := p1)  (nxt := nxt) (psz := psz)  rfl) 14 4 rfl rfl rfl rfl rfl rfl rfl rfl rfl ⟨Nat.le_of_ble_eq_true rfl, Nat.le_of_ble_eq_true rfl⟩ ⟨Nat.le_refl _, Nat.le_refl _⟩ hl.1 rfl rfl (Nat.le_of_ble_eq_true rfl) dX6_back_43 (fun H locs hw => ?_)
          refine lv_aload_n hx hb dX6_back_46 rfl (lv_at hl 0 rfl) ?_
          refine x_get E hw kin_X6 0 rfl rfl 2 (by decide) kF_X6_28 (v := .ref h0) rfl dX6_back_47 ?_
          obtain ⟨q6, hq6, hf⟩ := Option.bind_eq_some_iff.mp hf
          refine x_callV (isC := [1, 2, 3, 4]) (ws' := (wRK cI cZ cN cC r0 h0 h1 h2 h3 e9 e00 e01 e02 e03 e10 e11 e12 e13 p0 l0 d0 z0 y9 p1 kps ((f_X3_copyFrom out mem abv (eP (Int32.toNatClampNeg (0 : Int32))) (eW (Int32.toNatClampNeg (0 : Int32))) (eO (Int32.toNatClampNeg (0 : Int32))) (eM (Int32.toNatClampNeg (0 : Int32))) (eA (Int32.toNatClampNeg (0 : Int32)))).1) ((f_X3_copyFrom out mem abv (eP (Int32.toNatClampNeg (0 : Int32))) (eW (Int32.toNatClampNeg (0 : Int32))) (eO (Int32.toNatClampNeg (0 : Int32))) (eM (Int32.toNatClampNeg (0 : Int32))) (eA (Int32.toNatClampNeg (0 : Int32)))).2.1) ((f_X3_copyFrom out mem abv (eP (Int32.toNatClampNeg (0 : Int32))) (eW (Int32.toNatClampNeg (0 : Int32))) (eO (Int32.toNatClampNeg (0 : Int32))) (eM (Int32.toNatClampNeg (0 : Int32))) (eA (Int32.toNatClampNeg (0 : Int32)))).2.2.1) ((f_X3_copyFrom out mem abv (eP (Int32.toNatClampNeg (0 : Int32))) (eW (Int32.toNatClampNeg (0 : Int32))) (eO (Int32.toNatClampNeg (0 : Int32))) (eM (Int32.toNatClampNeg (0 : Int32))) (eA (Int32.toNatClampNeg (0 : Int32)))).2.2.2.1) ((f_X3_copyFrom out mem abv (eP (Int32.toNatClampNeg (0 : Int32))) (eW (Int32.toNatClampNeg (0 : Int32))) (eO (Int32.toNatClampNeg (0 : Int32))) (eM (Int32.toNatClampNeg (0 : Int32))) (eA (Int32.toNatClampNeg (0 : Int32)))).2.2.2.2) eP eW eO eM eA nxt (f_X4_forget))) (st1 := [.int q6]) (As := []) (rest := []) E hw vc_X6_106 (c_X3_arcs (cI := cI) (cZ := cZ) (cN := cN) (cC := cC) (h0 := h0) (h1 := h1) (h2 := h2) (h3 := h3)  (pts := (f_X3_copyFrom out mem abv (eP (Int32.toNatClampNeg (0 : Int32))) (eW (Int32.toNatClampNeg (0 : Int32))) (eO (Int32.toNatClampNeg (0 : Int32))) (eM (Int32.toNatClampNeg (0 : Int32))) (eA (Int32.toNatClampNeg (0 : Int32)))).1) (wrk := (f_X3_copyFrom out mem abv (eP (Int32.toNatClampNeg (0 : Int32))) (eW (Int32.toNatClampNeg (0 : Int32))) (eO (Int32.toNatClampNeg (0 : Int32))) (eM (Int32.toNatClampNeg (0 : Int32))) (eA (Int32.toNatClampNeg (0 : Int32)))).2.1) (out := (f_X3_copyFrom out mem abv (eP (Int32.toNatClampNeg (0 : Int32))) (eW (Int32.toNatClampNeg (0 : Int32))) (eO (Int32.toNatClampNeg (0 : Int32))) (eM (Int32.toNatClampNeg (0 : Int32))) (eA (Int32.toNatClampNeg (0 : Int32)))).2.2.1) (mem := (f_X3_copyFrom out mem abv (eP (Int32.toNatClampNeg (0 : Int32))) (eW (Int32.toNatClampNeg (0 : Int32))) (eO (Int32.toNatClampNeg (0 : Int32))) (eM (Int32.toNatClampNeg (0 : Int32))) (eA (Int32.toNatClampNeg (0 : Int32)))).2.2.2.1) (abv := (f_X3_copyFrom out mem abv (eP (Int32.toNatClampNeg (0 : Int32))) (eW (Int32.toNatClampNeg (0 : Int32))) (eO (Int32.toNatClampNeg (0 : Int32))) (eM (Int32.toNatClampNeg (0 : Int32))) (eA (Int32.toNatClampNeg (0 : Int32)))).2.2.2.2)  hq6) 1 3 rfl rfl rfl rfl rfl rfl rfl rfl rfl ⟨Nat.le_of_ble_eq_true rfl, Nat.le_of_ble_eq_true rfl⟩ ⟨Nat.le_refl _, Nat.le_refl _⟩ hl.1 rfl rfl (Nat.le_of_ble_eq_true rfl) dX6_back_50 (fun H locs hw => ?_)
          have hf := Option.some.inj hf; subst hf
          exact x_iret E hw dX6_back_53
        · subst ce
          refine x_aald E hw 5 2 rfl rfl (xin_vp (by decide)) (w := .ref e10) rfl dX6_back_35 ?_
          refine x_callV (isC := [1, 2, 3, 4, 10, 11, 12, 13]) (ws' := (wRK cI cZ cN cC r0 h0 h1 h2 h3 e9 e00 e01 e02 e03 e10 e11 e12 e13 p0 l0 d0 z0 y9 p1 kps ((f_X3_copyFrom out mem abv (eP (Int32.toNatClampNeg (1 : Int32))) (eW (Int32.toNatClampNeg (1 : Int32))) (eO (Int32.toNatClampNeg (1 : Int32))) (eM (Int32.toNatClampNeg (1 : Int32))) (eA (Int32.toNatClampNeg (1 : Int32)))).1) ((f_X3_copyFrom out mem abv (eP (Int32.toNatClampNeg (1 : Int32))) (eW (Int32.toNatClampNeg (1 : Int32))) (eO (Int32.toNatClampNeg (1 : Int32))) (eM (Int32.toNatClampNeg (1 : Int32))) (eA (Int32.toNatClampNeg (1 : Int32)))).2.1) ((f_X3_copyFrom out mem abv (eP (Int32.toNatClampNeg (1 : Int32))) (eW (Int32.toNatClampNeg (1 : Int32))) (eO (Int32.toNatClampNeg (1 : Int32))) (eM (Int32.toNatClampNeg (1 : Int32))) (eA (Int32.toNatClampNeg (1 : Int32)))).2.2.1) ((f_X3_copyFrom out mem abv (eP (Int32.toNatClampNeg (1 : Int32))) (eW (Int32.toNatClampNeg (1 : Int32))) (eO (Int32.toNatClampNeg (1 : Int32))) (eM (Int32.toNatClampNeg (1 : Int32))) (eA (Int32.toNatClampNeg (1 : Int32)))).2.2.2.1) ((f_X3_copyFrom out mem abv (eP (Int32.toNatClampNeg (1 : Int32))) (eW (Int32.toNatClampNeg (1 : Int32))) (eO (Int32.toNatClampNeg (1 : Int32))) (eM (Int32.toNatClampNeg (1 : Int32))) (eA (Int32.toNatClampNeg (1 : Int32)))).2.2.2.2) eP eW eO eM eA nxt psz)) (st1 := []) (As := [.ref e10]) (rest := []) E hw vc_X6_141 (c_X3_copyFrom (cI := cI) (cZ := cZ) (cN := cN) (cC := cC) (h0 := h0) (h1 := h1) (h2 := h2) (h3 := h3) (k0 := e10) (k1 := e11) (k2 := e12) (k3 := e13)  (pts := pts) (wrk := wrk) (out := out) (mem := mem) (abv := abv) (pts2 := (eP (Int32.toNatClampNeg (1 : Int32)))) (wrk2 := (eW (Int32.toNatClampNeg (1 : Int32)))) (out2 := (eO (Int32.toNatClampNeg (1 : Int32)))) (mem2 := (eM (Int32.toNatClampNeg (1 : Int32)))) (abv2 := (eA (Int32.toNatClampNeg (1 : Int32))))  rfl) 1 3 rfl rfl rfl rfl rfl rfl rfl rfl rfl ⟨Nat.le_of_ble_eq_true rfl, Nat.le_of_ble_eq_true rfl⟩ ⟨Nat.le_refl _, Nat.le_refl _⟩ hl.1 rfl rfl (Nat.le_of_ble_eq_true rfl) dX6_back_36 (fun H locs hw => ?_)
          refine lv_aload_n hx hb dX6_back_39 rfl (lv_at hl 0 rfl) ?_
          refine x_get E hw kin_X6 0 rfl rfl 3 (by decide) kF_X6_35 (v := .ref p0) rfl dX6_back_40 ?_
          refine x_callV (isC := [14]) (ws' := (wRK cI cZ cN cC r0 h0 h1 h2 h3 e9 e00 e01 e02 e03 e10 e11 e12 e13 p0 l0 d0 z0 y9 p1 kps ((f_X3_copyFrom out mem abv (eP (Int32.toNatClampNeg (1 : Int32))) (eW (Int32.toNatClampNeg (1 : Int32))) (eO (Int32.toNatClampNeg (1 : Int32))) (eM (Int32.toNatClampNeg (1 : Int32))) (eA (Int32.toNatClampNeg (1 : Int32)))).1) ((f_X3_copyFrom out mem abv (eP (Int32.toNatClampNeg (1 : Int32))) (eW (Int32.toNatClampNeg (1 : Int32))) (eO (Int32.toNatClampNeg (1 : Int32))) (eM (Int32.toNatClampNeg (1 : Int32))) (eA (Int32.toNatClampNeg (1 : Int32)))).2.1) ((f_X3_copyFrom out mem abv (eP (Int32.toNatClampNeg (1 : Int32))) (eW (Int32.toNatClampNeg (1 : Int32))) (eO (Int32.toNatClampNeg (1 : Int32))) (eM (Int32.toNatClampNeg (1 : Int32))) (eA (Int32.toNatClampNeg (1 : Int32)))).2.2.1) ((f_X3_copyFrom out mem abv (eP (Int32.toNatClampNeg (1 : Int32))) (eW (Int32.toNatClampNeg (1 : Int32))) (eO (Int32.toNatClampNeg (1 : Int32))) (eM (Int32.toNatClampNeg (1 : Int32))) (eA (Int32.toNatClampNeg (1 : Int32)))).2.2.2.1) ((f_X3_copyFrom out mem abv (eP (Int32.toNatClampNeg (1 : Int32))) (eW (Int32.toNatClampNeg (1 : Int32))) (eO (Int32.toNatClampNeg (1 : Int32))) (eM (Int32.toNatClampNeg (1 : Int32))) (eA (Int32.toNatClampNeg (1 : Int32)))).2.2.2.2) eP eW eO eM eA nxt (f_X4_forget))) (st1 := []) (As := []) (rest := []) E hw vc_X6_82 (c_X4_forget (cI := cI) (cZ := cZ) (cN := cN) (cC := cC) (h0 := p0) (p1 := p1)  (nxt := nxt) (psz := psz)  rfl) 14 4 rfl rfl rfl rfl rfl rfl rfl rfl rfl ⟨Nat.le_of_ble_eq_true rfl, Nat.le_of_ble_eq_true rfl⟩ ⟨Nat.le_refl _, Nat.le_refl _⟩ hl.1 rfl rfl (Nat.le_of_ble_eq_true rfl) dX6_back_43 (fun H locs hw => ?_)
          refine lv_aload_n hx hb dX6_back_46 rfl (lv_at hl 0 rfl) ?_
          refine x_get E hw kin_X6 0 rfl rfl 2 (by decide) kF_X6_28 (v := .ref h0) rfl dX6_back_47 ?_
          obtain ⟨q7, hq7, hf⟩ := Option.bind_eq_some_iff.mp hf
          refine x_callV (isC := [1, 2, 3, 4]) (ws' := (wRK cI cZ cN cC r0 h0 h1 h2 h3 e9 e00 e01 e02 e03 e10 e11 e12 e13 p0 l0 d0 z0 y9 p1 kps ((f_X3_copyFrom out mem abv (eP (Int32.toNatClampNeg (1 : Int32))) (eW (Int32.toNatClampNeg (1 : Int32))) (eO (Int32.toNatClampNeg (1 : Int32))) (eM (Int32.toNatClampNeg (1 : Int32))) (eA (Int32.toNatClampNeg (1 : Int32)))).1) ((f_X3_copyFrom out mem abv (eP (Int32.toNatClampNeg (1 : Int32))) (eW (Int32.toNatClampNeg (1 : Int32))) (eO (Int32.toNatClampNeg (1 : Int32))) (eM (Int32.toNatClampNeg (1 : Int32))) (eA (Int32.toNatClampNeg (1 : Int32)))).2.1) ((f_X3_copyFrom out mem abv (eP (Int32.toNatClampNeg (1 : Int32))) (eW (Int32.toNatClampNeg (1 : Int32))) (eO (Int32.toNatClampNeg (1 : Int32))) (eM (Int32.toNatClampNeg (1 : Int32))) (eA (Int32.toNatClampNeg (1 : Int32)))).2.2.1) ((f_X3_copyFrom out mem abv (eP (Int32.toNatClampNeg (1 : Int32))) (eW (Int32.toNatClampNeg (1 : Int32))) (eO (Int32.toNatClampNeg (1 : Int32))) (eM (Int32.toNatClampNeg (1 : Int32))) (eA (Int32.toNatClampNeg (1 : Int32)))).2.2.2.1) ((f_X3_copyFrom out mem abv (eP (Int32.toNatClampNeg (1 : Int32))) (eW (Int32.toNatClampNeg (1 : Int32))) (eO (Int32.toNatClampNeg (1 : Int32))) (eM (Int32.toNatClampNeg (1 : Int32))) (eA (Int32.toNatClampNeg (1 : Int32)))).2.2.2.2) eP eW eO eM eA nxt (f_X4_forget))) (st1 := [.int q7]) (As := []) (rest := []) E hw vc_X6_106 (c_X3_arcs (cI := cI) (cZ := cZ) (cN := cN) (cC := cC) (h0 := h0) (h1 := h1) (h2 := h2) (h3 := h3)  (pts := (f_X3_copyFrom out mem abv (eP (Int32.toNatClampNeg (1 : Int32))) (eW (Int32.toNatClampNeg (1 : Int32))) (eO (Int32.toNatClampNeg (1 : Int32))) (eM (Int32.toNatClampNeg (1 : Int32))) (eA (Int32.toNatClampNeg (1 : Int32)))).1) (wrk := (f_X3_copyFrom out mem abv (eP (Int32.toNatClampNeg (1 : Int32))) (eW (Int32.toNatClampNeg (1 : Int32))) (eO (Int32.toNatClampNeg (1 : Int32))) (eM (Int32.toNatClampNeg (1 : Int32))) (eA (Int32.toNatClampNeg (1 : Int32)))).2.1) (out := (f_X3_copyFrom out mem abv (eP (Int32.toNatClampNeg (1 : Int32))) (eW (Int32.toNatClampNeg (1 : Int32))) (eO (Int32.toNatClampNeg (1 : Int32))) (eM (Int32.toNatClampNeg (1 : Int32))) (eA (Int32.toNatClampNeg (1 : Int32)))).2.2.1) (mem := (f_X3_copyFrom out mem abv (eP (Int32.toNatClampNeg (1 : Int32))) (eW (Int32.toNatClampNeg (1 : Int32))) (eO (Int32.toNatClampNeg (1 : Int32))) (eM (Int32.toNatClampNeg (1 : Int32))) (eA (Int32.toNatClampNeg (1 : Int32)))).2.2.2.1) (abv := (f_X3_copyFrom out mem abv (eP (Int32.toNatClampNeg (1 : Int32))) (eW (Int32.toNatClampNeg (1 : Int32))) (eO (Int32.toNatClampNeg (1 : Int32))) (eM (Int32.toNatClampNeg (1 : Int32))) (eA (Int32.toNatClampNeg (1 : Int32)))).2.2.2.2)  hq7) 1 3 rfl rfl rfl rfl rfl rfl rfl rfl rfl ⟨Nat.le_of_ble_eq_true rfl, Nat.le_of_ble_eq_true rfl⟩ ⟨Nat.le_refl _, Nat.le_refl _⟩ hl.1 rfl rfl (Nat.le_of_ble_eq_true rfl) dX6_back_50 (fun H locs hw => ?_)
          have hf := Option.some.inj hf; subst hf
          exact x_iret E hw dX6_back_53
      · rw [if_pos c3] at hf
        refine lv_bipush (v := (-4)) hx hb dX6_back_23 (by decide) ?_
        have hf := Option.some.inj hf; subst hf
        exact x_iret E hw dX6_back_25
    · rw [if_neg c2] at hf
      refine lv_bipush (v := (-2)) hx hb dX6_back_9 (by decide) ?_
      have hf := Option.some.inj hf; subst hf
      exact x_iret E hw dX6_back_11

def f_X6_strikeArcs_63 (k11 : Int32 → Int32 → (Nat → Int32) → (Nat → Int32) → Option (Int32 × Int32 × (Nat → Int32) × (Nat → Int32))) (x4 : Int32) (x5 : Int32) (t0 : Int32) (val : (Nat → Int32)) (isa : (Nat → Int32)) : Option (Int32 × Int32 × (Nat → Int32) × (Nat → Int32)) :=
  if t0 = 0 then
   if xin x5 8 then
   if xin x4 8 then
   if xin x5 8 then
   if xin x4 8 then
   k11 (x4 + 1) (x5 + 1) (upd val (Int32.toNatClampNeg x4) (val (Int32.toNatClampNeg x5))) (upd isa (Int32.toNatClampNeg x4) (vp_nar .boolean (isa (Int32.toNatClampNeg x5))))
   else none
   else none
   else none
   else none
  else
   k11 x4 (x5 + 1) val isa
set_option maxHeartbeats 4000000 in
set_option maxRecDepth 100000 in
theorem b_X6_strikeArcs_63 {p : Program} {l : Launch} {e : Env} {s : State} {m : MethodId} {args : Array Value} {below : List Frame} {meth : Method} {c : Code} {D : va_G} {cI cZ cN cC : ClassId} {ws0 : va_W} {r0 h0 h1 h2 h3 u0 u1 u2 l0 d0 p0 e9 z0 y9 : Nat} {x2 : Int32} {x3 : Int32} {x4 : Int32} {x5 : Int32} {t0 : Int32} {kps : Int32} {pts : Int32} {wrk : Int32} {out : (Nat → Int32)} {mem : (Nat → Int32)} {abv : (Nat → Int32)} {mis : Int32} {siz : Int32} {val : (Nat → Int32)} {isa : (Nat → Int32)} {res : Int32 × Int32 × (Nat → Int32) × (Nat → Int32)} (E : xE p s m args meth c cX6_strikeArcs 7 (some .int) RX6 D (xtys cI cZ cN cC) (xA ws0)) {k11 : Int32 → Int32 → (Nat → Int32) → (Nat → Int32) → Option (Int32 × Int32 × (Nat → Int32) × (Nat → Int32))} (hk11 : ∀ (x4 : Int32) (x5 : Int32) (val : (Nat → Int32)) (isa : (Nat → Int32)), k11 x4 x5 val isa = some res → ∀ (H : Heap) (locs : List Loc) (ls : Array Slot), xw D (xA ws0) s.heap (wRS cI cZ cN cC r0 h0 h1 h2 h3 u0 u1 u2 l0 d0 p0 e9 z0 y9 kps pts wrk out mem abv mis siz val isa) H locs → lv_has ls 7 [(0, .ref r0), (1, .ref u0), (2, .int x2), (3, .int x3), (4, .int x4), (5, .int x5)] → xG p l e 2 43 s m args below meth c D ws0 (wRS cI cZ cN cC r0 h0 h1 h2 h3 u0 u1 u2 l0 d0 p0 e9 z0 y9 kps pts wrk out mem abv mis res.2.1 res.2.2.1 res.2.2.2) (some (.int res.1)) H locs (F0 m 11 ls [])) : f_X6_strikeArcs_63 k11 x4 x5 t0 val isa = some res → ∀ (H : Heap) (locs : List Loc) (ls : Array Slot), xw D (xA ws0) s.heap (wRS cI cZ cN cC r0 h0 h1 h2 h3 u0 u1 u2 l0 d0 p0 e9 z0 y9 kps pts wrk out mem abv mis siz val isa) H locs → lv_has ls 7 [(0, .ref r0), (1, .ref u0), (2, .int x2), (3, .int x3), (4, .int x4), (5, .int x5)] → xG p l e 2 43 s m args below meth c D ws0 (wRS cI cZ cN cC r0 h0 h1 h2 h3 u0 u1 u2 l0 d0 p0 e9 z0 y9 kps pts wrk out mem abv mis res.2.1 res.2.2.1 res.2.2.2) (some (.int res.1)) H locs (F0 m 63 ls [.int t0]) := by
  obtain ⟨hx, hb, -⟩ := id E
  intro hf H locs ls hw hl
  unfold f_X6_strikeArcs_63 at hf
  refine lv_istore (lv' := [(6, .int t0), (0, .ref r0), (1, .ref u0), (2, .int x2), (3, .int x3), (4, .int x4), (5, .int x5)]) hx hb dX6_strikeArcs_63 hl (by decide) rfl (fun ls hl => ?_)
  refine lv_iload hx hb dX6_strikeArcs_65 (lv_at hl 0 rfl) ?_
  refine lv_if_ne (tgt := 101) hx hb dX6_strikeArcs_67 (by decide) (fun c8 => ?_) (fun c8 => ?_)
  · rw [if_neg c8] at hf
    refine lv_iinc (v := (x5 + 1)) (lv' := [(5, .int (x5 + 1)), (6, .int t0), (0, .ref r0), (1, .ref u0), (2, .int x2), (3, .int x3), (4, .int x4)]) hx hb dX6_strikeArcs_101 hl (k := 6) rfl rfl (by decide) rfl (fun ls hl => ?_)
    refine lv_goto (tgt := 11) hx hb dX6_strikeArcs_104 (by decide) ?_
    exact hk11 _ _ _ _ hf _ _ _ hw (lv_sub hl [2, 3, 4, 5, 6, 0] rfl)
  · rw [if_pos c8] at hf
    refine lv_aload_n hx hb dX6_strikeArcs_70 rfl (lv_at hl 2 rfl) ?_
    refine x_get E hw kin_X0 5 rfl rfl 0 (by decide) kF_X6_232 (v := .ref u1) rfl dX6_strikeArcs_71 ?_
    refine lv_iload hx hb dX6_strikeArcs_74 (lv_at hl 5 rfl) ?_
    refine lv_aload_n hx hb dX6_strikeArcs_76 rfl (lv_at hl 2 rfl) ?_
    refine x_get E hw kin_X0 5 rfl rfl 0 (by decide) kF_X6_232 (v := .ref u1) rfl dX6_strikeArcs_77 ?_
    refine lv_iload hx hb dX6_strikeArcs_80 (lv_at hl 6 rfl) ?_
    obtain ⟨g9, hf⟩ := xgd hf
    refine x_iald E hw 6 0 rfl rfl (xin_vp g9) dX6_strikeArcs_82 ?_
    obtain ⟨g10, hf⟩ := xgd hf
    refine x_iast (ws' := (wRS cI cZ cN cC r0 h0 h1 h2 h3 u0 u1 u2 l0 d0 p0 e9 z0 y9 kps pts wrk out mem abv mis siz (upd val (Int32.toNatClampNeg x4) (val (Int32.toNatClampNeg x5))) isa)) E hw 6 0 rfl rfl (xin_vp g10) rfl dX6_strikeArcs_83 (fun H locs hw => ?_)
    refine lv_aload_n hx hb dX6_strikeArcs_84 rfl (lv_at hl 2 rfl) ?_
    refine x_get E hw kin_X0 5 rfl rfl 1 (by decide) kF_X6_228 (v := .ref u2) rfl dX6_strikeArcs_85 ?_
    refine lv_iload hx hb dX6_strikeArcs_88 (lv_at hl 5 rfl) ?_
    refine lv_aload_n hx hb dX6_strikeArcs_90 rfl (lv_at hl 2 rfl) ?_
    refine x_get E hw kin_X0 5 rfl rfl 1 (by decide) kF_X6_228 (v := .ref u2) rfl dX6_strikeArcs_91 ?_
    refine lv_iload hx hb dX6_strikeArcs_94 (lv_at hl 6 rfl) ?_
    obtain ⟨g11, hf⟩ := xgd hf
    refine x_zald E hw 7 1 rfl rfl (xin_vp g11) dX6_strikeArcs_96 ?_
    obtain ⟨g12, hf⟩ := xgd hf
    refine x_zast (ws' := (wRS cI cZ cN cC r0 h0 h1 h2 h3 u0 u1 u2 l0 d0 p0 e9 z0 y9 kps pts wrk out mem abv mis siz (upd val (Int32.toNatClampNeg x4) (val (Int32.toNatClampNeg x5))) (upd isa (Int32.toNatClampNeg x4) (vp_nar .boolean (isa (Int32.toNatClampNeg x5)))))) E hw 7 1 rfl rfl (xin_vp g12) rfl dX6_strikeArcs_97 (fun H locs hw => ?_)
    refine lv_iinc (v := (x4 + 1)) (lv' := [(4, .int (x4 + 1)), (6, .int t0), (0, .ref r0), (1, .ref u0), (2, .int x2), (3, .int x3), (5, .int x5)]) hx hb dX6_strikeArcs_98 hl (k := 5) rfl rfl (by decide) rfl (fun ls hl => ?_)
    refine lv_iinc (v := (x5 + 1)) (lv' := [(5, .int (x5 + 1)), (4, .int (x4 + 1)), (6, .int t0), (0, .ref r0), (1, .ref u0), (2, .int x2), (3, .int x3)]) hx hb dX6_strikeArcs_101 hl (k := 6) rfl rfl (by decide) rfl (fun ls hl => ?_)
    refine lv_goto (tgt := 11) hx hb dX6_strikeArcs_104 (by decide) ?_
    exact hk11 _ _ _ _ hf _ _ _ hw (lv_sub hl [3, 4, 5, 6, 1, 0] rfl)
def f_X6_strikeArcs_11 (x2 : Int32) (x3 : Int32) (out : (Nat → Int32)) : Nat → Int32 → Int32 → (Nat → Int32) → (Nat → Int32) → Option (Int32 × Int32 × (Nat → Int32) × (Nat → Int32))
  | 0, _, _, _, _ => none
  | n + 1, x4, x5, val, isa =>
    if x3 ≤ x5 then
     some ((x3 - x4), x4, val, isa)
    else
     if xin x5 8 then
     if (isa (Int32.toNatClampNeg x5)) = 0 then
      f_X6_strikeArcs_63 (fun x4 x5 val isa => f_X6_strikeArcs_11 x2 x3 out n x4 x5 val isa) x4 x5 0 val isa
     else
      if xin x5 8 then
      if xin x5 8 then
      (f_X3_hasArc ((val (Int32.toNatClampNeg x5)) / 10) ((val (Int32.toNatClampNeg x5)) - ((val (Int32.toNatClampNeg x5)) / 10) * 10) out).bind fun q6 =>
      if q6 = x2 then
       f_X6_strikeArcs_63 (fun x4 x5 val isa => f_X6_strikeArcs_11 x2 x3 out n x4 x5 val isa) x4 x5 1 val isa
      else
       f_X6_strikeArcs_63 (fun x4 x5 val isa => f_X6_strikeArcs_11 x2 x3 out n x4 x5 val isa) x4 x5 0 val isa
      else none
      else none
     else none
set_option maxHeartbeats 4000000 in
set_option maxRecDepth 100000 in
theorem b_X6_strikeArcs_11 {p : Program} {l : Launch} {e : Env} {s : State} {m : MethodId} {args : Array Value} {below : List Frame} {meth : Method} {c : Code} {D : va_G} {cI cZ cN cC : ClassId} {ws0 : va_W} {r0 h0 h1 h2 h3 u0 u1 u2 l0 d0 p0 e9 z0 y9 : Nat} {x2 : Int32} {x3 : Int32} {kps : Int32} {pts : Int32} {wrk : Int32} {out : (Nat → Int32)} {mem : (Nat → Int32)} {abv : (Nat → Int32)} {mis : Int32} {siz : Int32} {res : Int32 × Int32 × (Nat → Int32) × (Nat → Int32)} (E : xE p s m args meth c cX6_strikeArcs 7 (some .int) RX6 D (xtys cI cZ cN cC) (xA ws0)) : ∀ (n : Nat) (x4 : Int32) (x5 : Int32) (val : (Nat → Int32)) (isa : (Nat → Int32)), f_X6_strikeArcs_11 x2 x3 out n x4 x5 val isa = some res → ∀ (H : Heap) (locs : List Loc) (ls : Array Slot), xw D (xA ws0) s.heap (wRS cI cZ cN cC r0 h0 h1 h2 h3 u0 u1 u2 l0 d0 p0 e9 z0 y9 kps pts wrk out mem abv mis siz val isa) H locs → lv_has ls 7 [(0, .ref r0), (1, .ref u0), (2, .int x2), (3, .int x3), (4, .int x4), (5, .int x5)] → xG p l e 2 43 s m args below meth c D ws0 (wRS cI cZ cN cC r0 h0 h1 h2 h3 u0 u1 u2 l0 d0 p0 e9 z0 y9 kps pts wrk out mem abv mis res.2.1 res.2.2.1 res.2.2.2) (some (.int res.1)) H locs (F0 m 11 ls []) := by
  obtain ⟨hx, hb, -⟩ := id E
  intro n
  induction n with
  | zero =>
    intro _ _ _ _ hf
    rw [f_X6_strikeArcs_11] at hf; cases hf
  | succ n ih =>
    intro x4 x5 val isa hf H locs ls hw hl
    rw [f_X6_strikeArcs_11] at hf
    refine lv_iload hx hb dX6_strikeArcs_11 (lv_at hl 5 rfl) ?_
    refine lv_iload_n hx hb dX6_strikeArcs_13 rfl (lv_at hl 3 rfl) ?_
    refine lv_icmp_ge (tgt := 107) hx hb dX6_strikeArcs_14 (by decide) (fun c1 => ?_) (fun c1 => ?_)
    · rw [if_pos c1] at hf
      refine lv_aload_n hx hb dX6_strikeArcs_107 rfl (lv_at hl 1 rfl) ?_
      refine lv_iload hx hb dX6_strikeArcs_108 (lv_at hl 4 rfl) ?_
      refine x_put (ws' := (wRS cI cZ cN cC r0 h0 h1 h2 h3 u0 u1 u2 l0 d0 p0 e9 z0 y9 kps pts wrk out mem abv mis x4 val isa)) E hw kin_X0 tyX0 tyX0_ok nmX0 5 rfl rfl 3 (by decide) kF_X6_223 rfl (v := .int x4) rfl rfl (Nat.le_of_ble_eq_true rfl) rfl dX6_strikeArcs_110 (fun H locs hw => ?_)
      refine lv_iload_n hx hb dX6_strikeArcs_113 rfl (lv_at hl 3 rfl) ?_
      refine lv_iload hx hb dX6_strikeArcs_114 (lv_at hl 4 rfl) ?_
      refine lv_isub hx hb dX6_strikeArcs_116 ?_
      have hf := Option.some.inj hf; subst hf
      exact x_iret E hw dX6_strikeArcs_117
    · rw [if_neg c1] at hf
      refine lv_aload_n hx hb dX6_strikeArcs_17 rfl (lv_at hl 1 rfl) ?_
      refine x_get E hw kin_X0 5 rfl rfl 1 (by decide) kF_X6_228 (v := .ref u2) rfl dX6_strikeArcs_18 ?_
      refine lv_iload hx hb dX6_strikeArcs_21 (lv_at hl 5 rfl) ?_
      obtain ⟨g2, hf⟩ := xgd hf
      refine x_zald E hw 7 1 rfl rfl (xin_vp g2) dX6_strikeArcs_23 ?_
      refine lv_if_eq (tgt := 62) hx hb dX6_strikeArcs_24 (by decide) (fun c3 => ?_) (fun c3 => ?_)
      · rw [if_pos c3] at hf
        refine lv_iconst (v := 0) hx hb dX6_strikeArcs_62 (by decide) ?_
        exact b_X6_strikeArcs_63 E ih  hf _ _ _ hw (lv_sub hl [0, 1, 2, 3, 4, 5] rfl)
      · rw [if_neg c3] at hf
        refine lv_aload_n hx hb dX6_strikeArcs_27 rfl (lv_at hl 0 rfl) ?_
        refine x_get E hw kin_X6 0 rfl rfl 2 (by decide) kF_X6_28 (v := .ref h0) rfl dX6_strikeArcs_28 ?_
        refine lv_aload_n hx hb dX6_strikeArcs_31 rfl (lv_at hl 1 rfl) ?_
        refine x_get E hw kin_X0 5 rfl rfl 0 (by decide) kF_X6_232 (v := .ref u1) rfl dX6_strikeArcs_32 ?_
        refine lv_iload hx hb dX6_strikeArcs_35 (lv_at hl 5 rfl) ?_
        obtain ⟨g4, hf⟩ := xgd hf
        refine x_iald E hw 6 0 rfl rfl (xin_vp g4) dX6_strikeArcs_37 ?_
        refine lv_bipush (v := 10) hx hb dX6_strikeArcs_38 (by decide) ?_
        refine lv_idiv hx hb dX6_strikeArcs_40 (by decide) ?_
        refine lv_aload_n hx hb dX6_strikeArcs_41 rfl (lv_at hl 1 rfl) ?_
        refine x_get E hw kin_X0 5 rfl rfl 0 (by decide) kF_X6_232 (v := .ref u1) rfl dX6_strikeArcs_42 ?_
        refine lv_iload hx hb dX6_strikeArcs_45 (lv_at hl 5 rfl) ?_
        obtain ⟨g5, hf⟩ := xgd hf
        refine x_iald E hw 6 0 rfl rfl (xin_vp g5) dX6_strikeArcs_47 ?_
        refine lv_bipush (v := 10) hx hb dX6_strikeArcs_48 (by decide) ?_
        refine lv_irem hx hb dX6_strikeArcs_50 (by decide) ?_
        obtain ⟨q6, hq6, hf⟩ := Option.bind_eq_some_iff.mp hf
        refine x_callV (isC := [1, 2, 3, 4]) (ws' := (wRS cI cZ cN cC r0 h0 h1 h2 h3 u0 u1 u2 l0 d0 p0 e9 z0 y9 kps pts wrk out mem abv mis siz val isa)) (st1 := [.int q6]) (As := [.int ((val (Int32.toNatClampNeg x5)) / 10), .int ((val (Int32.toNatClampNeg x5)) - ((val (Int32.toNatClampNeg x5)) / 10) * 10)]) (rest := []) E hw vc_X6_102 (c_X3_hasArc (cI := cI) (cZ := cZ) (cN := cN) (cC := cC) (h0 := h0) (h1 := h1) (h2 := h2) (h3 := h3)  (pts := pts) (wrk := wrk) (out := out) (mem := mem) (abv := abv) (x1 := ((val (Int32.toNatClampNeg x5)) / 10)) (x2 := ((val (Int32.toNatClampNeg x5)) - ((val (Int32.toNatClampNeg x5)) / 10) * 10)) hq6) 1 3 rfl rfl rfl rfl rfl rfl rfl rfl rfl ⟨Nat.le_of_ble_eq_true rfl, Nat.le_of_ble_eq_true rfl⟩ ⟨Nat.le_refl _, Nat.le_refl _⟩ hl.1 rfl rfl (Nat.le_of_ble_eq_true rfl) dX6_strikeArcs_51 (fun H locs hw => ?_)
        refine lv_iload_n hx hb dX6_strikeArcs_54 rfl (lv_at hl 2 rfl) ?_
        refine lv_icmp_ne (tgt := 62) hx hb dX6_strikeArcs_55 (by decide) (fun c7 => ?_) (fun c7 => ?_)
        · rw [if_neg c7] at hf
          refine lv_iconst (v := 0) hx hb dX6_strikeArcs_62 (by decide) ?_
          exact b_X6_strikeArcs_63 E ih  hf _ _ _ hw (lv_sub hl [0, 1, 2, 3, 4, 5] rfl)
        · rw [if_pos c7] at hf
          refine lv_iconst (v := 1) hx hb dX6_strikeArcs_58 (by decide) ?_
          refine lv_goto (tgt := 63) hx hb dX6_strikeArcs_59 (by decide) ?_
          exact b_X6_strikeArcs_63 E ih  hf _ _ _ hw (lv_sub hl [0, 1, 2, 3, 4, 5] rfl)
def f_X6_strikeArcs (N : Nat) (x2 : Int32) (out : (Nat → Int32)) (siz : Int32) (val : (Nat → Int32)) (isa : (Nat → Int32)) : Option (Int32 × Int32 × (Nat → Int32) × (Nat → Int32)) :=
  f_X6_strikeArcs_11 x2 siz out N 0 0 val isa
set_option maxHeartbeats 4000000 in
set_option maxRecDepth 100000 in
theorem c_X6_strikeArcs {l : Launch} {D : va_G} {cI cZ cN cC : ClassId} {r0 h0 h1 h2 h3 u0 u1 u2 l0 d0 p0 e9 z0 y9 : Nat} {kps : Int32} {pts : Int32} {wrk : Int32} {out : (Nat → Int32)} {mem : (Nat → Int32)} {abv : (Nat → Int32)} {mis : Int32} {siz : Int32} {val : (Nat → Int32)} {isa : (Nat → Int32)} {x2 : Int32} {N : Nat} {res : Int32 × Int32 × (Nat → Int32) × (Nat → Int32)} (hf : f_X6_strikeArcs N x2 out siz val isa = some res) : xMet l D (xtys cI cZ cN cC) yX6_strikeArcs cX6_strikeArcs 7 (some .int) 2 43 [.ref r0, .ref u0, .int x2] (wRS cI cZ cN cC r0 h0 h1 h2 h3 u0 u1 u2 l0 d0 p0 e9 z0 y9 kps pts wrk out mem abv mis siz val isa) (wRS cI cZ cN cC r0 h0 h1 h2 h3 u0 u1 u2 l0 d0 p0 e9 z0 y9 kps pts wrk out mem abv mis res.2.1 res.2.2.1 res.2.2.2) (some (.int res.1)) := by
  refine x_enter (by decide) (Nat.le_of_ble_eq_true rfl) ?_
  intro p e s m args below meth c E ls hl hw
  have E : xE p s m args meth c cX6_strikeArcs 7 (some .int) RX6 D (xtys cI cZ cN cC) (xA (wRS cI cZ cN cC r0 h0 h1 h2 h3 u0 u1 u2 l0 d0 p0 e9 z0 y9 kps pts wrk out mem abv mis siz val isa)) := E
  obtain ⟨hx, hb, -⟩ := id E
  have hl : lv_has ls 7 [(0, .ref r0), (1, .ref u0), (2, .int x2)] := hl
  unfold f_X6_strikeArcs at hf
  refine lv_aload_n hx hb dX6_strikeArcs_0 rfl (lv_at hl 1 rfl) ?_
  refine x_get E hw kin_X0 5 rfl rfl 3 (by decide) kF_X6_223 (v := .int siz) rfl dX6_strikeArcs_1 ?_
  refine lv_istore_n (lv' := [(3, .int siz), (0, .ref r0), (1, .ref u0), (2, .int x2)]) hx hb dX6_strikeArcs_4 rfl hl (by decide) rfl (fun ls hl => ?_)
  refine lv_iconst (v := 0) hx hb dX6_strikeArcs_5 (by decide) ?_
  refine lv_istore (lv' := [(4, .int 0), (3, .int siz), (0, .ref r0), (1, .ref u0), (2, .int x2)]) hx hb dX6_strikeArcs_6 hl (by decide) rfl (fun ls hl => ?_)
  refine lv_iconst (v := 0) hx hb dX6_strikeArcs_8 (by decide) ?_
  refine lv_istore (lv' := [(5, .int 0), (4, .int 0), (3, .int siz), (0, .ref r0), (1, .ref u0), (2, .int x2)]) hx hb dX6_strikeArcs_9 hl (by decide) rfl (fun ls hl => ?_)
  exact b_X6_strikeArcs_11 E N _ _ _ _ hf _ _ _ hw (lv_sub hl [3, 4, 5, 2, 1, 0] rfl)

def f_X6_thingsOfChains_4 (cS : (Nat → Int32)) : Nat → Int32 → Int32 → Option (Int32)
  | 0, _, _ => none
  | n + 1, x1, x2 =>
    if 3 ≤ x2 then
     some x1
    else
     if xin x2 3 then
     f_X6_thingsOfChains_4 cS n (x1 + (cS (Int32.toNatClampNeg x2))) (x2 + 1)
     else none
set_option maxHeartbeats 4000000 in
set_option maxRecDepth 100000 in
theorem b_X6_thingsOfChains_4 {p : Program} {l : Launch} {e : Env} {s : State} {m : MethodId} {args : Array Value} {below : List Frame} {meth : Method} {c : Code} {D : va_G} {cI cZ cN cC : ClassId} {ws0 : va_W} {r0 h0 h1 h2 h3 y9 y00 y01 y02 y10 y11 y12 y20 y21 y22 l0 d0 p0 e9 z0 : Nat} {kps : Int32} {pts : Int32} {wrk : Int32} {out : (Nat → Int32)} {mem : (Nat → Int32)} {abv : (Nat → Int32)} {cM : (Nat → Int32)} {cS : (Nat → Int32)} {cV : (Nat → Nat → Int32)} {cB : (Nat → Nat → Int32)} {res : Int32} (E : xE p s m args meth c cX6_thingsOfChains 3 (some .int) RX6 D (xtys cI cZ cN cC) (xA ws0)) : ∀ (n : Nat) (x1 : Int32) (x2 : Int32), f_X6_thingsOfChains_4 cS n x1 x2 = some res → ∀ (H : Heap) (locs : List Loc) (ls : Array Slot), xw D (xA ws0) s.heap (wRH cI cZ cN cC r0 h0 h1 h2 h3 y9 y00 y01 y02 y10 y11 y12 y20 y21 y22 l0 d0 p0 e9 z0 kps pts wrk out mem abv cM cS cV cB) H locs → lv_has ls 3 [(0, .ref r0), (1, .int x1), (2, .int x2)] → xG p l e 0 0 s m args below meth c D ws0 (wRH cI cZ cN cC r0 h0 h1 h2 h3 y9 y00 y01 y02 y10 y11 y12 y20 y21 y22 l0 d0 p0 e9 z0 kps pts wrk out mem abv cM cS cV cB) (some (.int res)) H locs (F0 m 4 ls []) := by
  obtain ⟨hx, hb, -⟩ := id E
  intro n
  induction n with
  | zero =>
    intro _ _ hf
    rw [f_X6_thingsOfChains_4] at hf; cases hf
  | succ n ih =>
    intro x1 x2 hf H locs ls hw hl
    rw [f_X6_thingsOfChains_4] at hf
    refine lv_iload_n hx hb dX6_thingsOfChains_4 rfl (lv_at hl 2 rfl) ?_
    refine lv_iconst (v := 3) hx hb dX6_thingsOfChains_5 (by decide) ?_
    refine lv_icmp_ge (tgt := 27) hx hb dX6_thingsOfChains_6 (by decide) (fun c1 => ?_) (fun c1 => ?_)
    · rw [if_pos c1] at hf
      refine lv_iload_n hx hb dX6_thingsOfChains_27 rfl (lv_at hl 1 rfl) ?_
      have hf := Option.some.inj hf; subst hf
      exact x_iret E hw dX6_thingsOfChains_28
    · rw [if_neg c1] at hf
      refine lv_iload_n hx hb dX6_thingsOfChains_9 rfl (lv_at hl 1 rfl) ?_
      refine lv_aload_n hx hb dX6_thingsOfChains_10 rfl (lv_at hl 0 rfl) ?_
      refine x_get E hw kin_X6 0 rfl rfl 7 (by decide) kF_X6_56 (v := .ref y9) rfl dX6_thingsOfChains_11 ?_
      refine lv_iload_n hx hb dX6_thingsOfChains_14 rfl (lv_at hl 2 rfl) ?_
      obtain ⟨g2, hf⟩ := xgd hf
      rcases x_in3 (xin_vp g2) with ce | ce | ce
      · subst ce
        refine x_aald E hw 5 3 rfl rfl (xin_vp (by decide)) (w := .ref y00) rfl dX6_thingsOfChains_15 ?_
        refine x_get E hw kin_X0 6 rfl rfl 3 (by decide) kF_X6_223 (v := .int (cS (Int32.toNatClampNeg (0 : Int32)))) rfl dX6_thingsOfChains_16 ?_
        refine lv_iadd hx hb dX6_thingsOfChains_19 ?_
        refine lv_istore_n (lv' := [(1, .int (x1 + (cS (Int32.toNatClampNeg (0 : Int32))))), (0, .ref r0), (2, .int (0 : Int32))]) hx hb dX6_thingsOfChains_20 rfl hl (by decide) rfl (fun ls hl => ?_)
        refine lv_iinc (v := ((0 : Int32) + 1)) (lv' := [(2, .int ((0 : Int32) + 1)), (1, .int (x1 + (cS (Int32.toNatClampNeg (0 : Int32))))), (0, .ref r0)]) hx hb dX6_thingsOfChains_21 hl (k := 2) rfl rfl (by decide) rfl (fun ls hl => ?_)
        refine lv_goto (tgt := 4) hx hb dX6_thingsOfChains_24 (by decide) ?_
        exact ih _ _ hf _ _ _ hw (lv_sub hl [2, 1, 0] rfl)
      · subst ce
        refine x_aald E hw 5 3 rfl rfl (xin_vp (by decide)) (w := .ref y10) rfl dX6_thingsOfChains_15 ?_
        refine x_get E hw kin_X0 9 rfl rfl 3 (by decide) kF_X6_223 (v := .int (cS (Int32.toNatClampNeg (1 : Int32)))) rfl dX6_thingsOfChains_16 ?_
        refine lv_iadd hx hb dX6_thingsOfChains_19 ?_
        refine lv_istore_n (lv' := [(1, .int (x1 + (cS (Int32.toNatClampNeg (1 : Int32))))), (0, .ref r0), (2, .int (1 : Int32))]) hx hb dX6_thingsOfChains_20 rfl hl (by decide) rfl (fun ls hl => ?_)
        refine lv_iinc (v := ((1 : Int32) + 1)) (lv' := [(2, .int ((1 : Int32) + 1)), (1, .int (x1 + (cS (Int32.toNatClampNeg (1 : Int32))))), (0, .ref r0)]) hx hb dX6_thingsOfChains_21 hl (k := 2) rfl rfl (by decide) rfl (fun ls hl => ?_)
        refine lv_goto (tgt := 4) hx hb dX6_thingsOfChains_24 (by decide) ?_
        exact ih _ _ hf _ _ _ hw (lv_sub hl [2, 1, 0] rfl)
      · subst ce
        refine x_aald E hw 5 3 rfl rfl (xin_vp (by decide)) (w := .ref y20) rfl dX6_thingsOfChains_15 ?_
        refine x_get E hw kin_X0 12 rfl rfl 3 (by decide) kF_X6_223 (v := .int (cS (Int32.toNatClampNeg (2 : Int32)))) rfl dX6_thingsOfChains_16 ?_
        refine lv_iadd hx hb dX6_thingsOfChains_19 ?_
        refine lv_istore_n (lv' := [(1, .int (x1 + (cS (Int32.toNatClampNeg (2 : Int32))))), (0, .ref r0), (2, .int (2 : Int32))]) hx hb dX6_thingsOfChains_20 rfl hl (by decide) rfl (fun ls hl => ?_)
        refine lv_iinc (v := ((2 : Int32) + 1)) (lv' := [(2, .int ((2 : Int32) + 1)), (1, .int (x1 + (cS (Int32.toNatClampNeg (2 : Int32))))), (0, .ref r0)]) hx hb dX6_thingsOfChains_21 hl (k := 2) rfl rfl (by decide) rfl (fun ls hl => ?_)
        refine lv_goto (tgt := 4) hx hb dX6_thingsOfChains_24 (by decide) ?_
        exact ih _ _ hf _ _ _ hw (lv_sub hl [2, 1, 0] rfl)
def f_X6_thingsOfChains (N : Nat) (cS : (Nat → Int32)) : Option (Int32) :=
  f_X6_thingsOfChains_4 cS N 0 0
set_option maxHeartbeats 4000000 in
set_option maxRecDepth 100000 in
theorem c_X6_thingsOfChains {l : Launch} {D : va_G} {cI cZ cN cC : ClassId} {r0 h0 h1 h2 h3 y9 y00 y01 y02 y10 y11 y12 y20 y21 y22 l0 d0 p0 e9 z0 : Nat} {kps : Int32} {pts : Int32} {wrk : Int32} {out : (Nat → Int32)} {mem : (Nat → Int32)} {abv : (Nat → Int32)} {cM : (Nat → Int32)} {cS : (Nat → Int32)} {cV : (Nat → Nat → Int32)} {cB : (Nat → Nat → Int32)}  {N : Nat} {res : Int32} (hf : f_X6_thingsOfChains N cS = some res) : xMet l D (xtys cI cZ cN cC) yX6_thingsOfChains cX6_thingsOfChains 3 (some .int) 0 0 [.ref r0] (wRH cI cZ cN cC r0 h0 h1 h2 h3 y9 y00 y01 y02 y10 y11 y12 y20 y21 y22 l0 d0 p0 e9 z0 kps pts wrk out mem abv cM cS cV cB) (wRH cI cZ cN cC r0 h0 h1 h2 h3 y9 y00 y01 y02 y10 y11 y12 y20 y21 y22 l0 d0 p0 e9 z0 kps pts wrk out mem abv cM cS cV cB) (some (.int res)) := by
  refine x_enter (by decide) (Nat.le_of_ble_eq_true rfl) ?_
  intro p e s m args below meth c E ls hl hw
  have E : xE p s m args meth c cX6_thingsOfChains 3 (some .int) RX6 D (xtys cI cZ cN cC) (xA (wRH cI cZ cN cC r0 h0 h1 h2 h3 y9 y00 y01 y02 y10 y11 y12 y20 y21 y22 l0 d0 p0 e9 z0 kps pts wrk out mem abv cM cS cV cB)) := E
  obtain ⟨hx, hb, -⟩ := id E
  have hl : lv_has ls 3 [(0, .ref r0)] := hl
  unfold f_X6_thingsOfChains at hf
  refine lv_iconst (v := 0) hx hb dX6_thingsOfChains_0 (by decide) ?_
  refine lv_istore_n (lv' := [(1, .int 0), (0, .ref r0)]) hx hb dX6_thingsOfChains_1 rfl hl (by decide) rfl (fun ls hl => ?_)
  refine lv_iconst (v := 0) hx hb dX6_thingsOfChains_2 (by decide) ?_
  refine lv_istore_n (lv' := [(2, .int 0), (1, .int 0), (0, .ref r0)]) hx hb dX6_thingsOfChains_3 rfl hl (by decide) rfl (fun ls hl => ?_)
  exact b_X6_thingsOfChains_4 E N _ _ hf _ _ _ hw (lv_sub hl [2, 1, 0] rfl)

def f_X6_chain (x1 : Int32) (cM : (Nat → Int32)) (cS : (Nat → Int32)) : Option (Int32 × (Nat → Int32) × (Nat → Int32)) :=
  if (f_X6_isChain x1) = 0 then
   some ((-2), cM, cS)
  else
   if xin x1 3 then
   some (0, (va_up cM (Int32.toNatClampNeg x1) ((f_X0_begin).1)), (va_up cS (Int32.toNatClampNeg x1) ((f_X0_begin).2)))
   else none
set_option maxHeartbeats 4000000 in
set_option maxRecDepth 100000 in
theorem c_X6_chain {l : Launch} {D : va_G} {cI cZ cN cC : ClassId} {r0 h0 h1 h2 h3 y9 y00 y01 y02 y10 y11 y12 y20 y21 y22 l0 d0 p0 e9 z0 : Nat} {kps : Int32} {pts : Int32} {wrk : Int32} {out : (Nat → Int32)} {mem : (Nat → Int32)} {abv : (Nat → Int32)} {cM : (Nat → Int32)} {cS : (Nat → Int32)} {cV : (Nat → Nat → Int32)} {cB : (Nat → Nat → Int32)} {x1 : Int32} {res : Int32 × (Nat → Int32) × (Nat → Int32)} (hf : f_X6_chain x1 cM cS = some res) : xMet l D (xtys cI cZ cN cC) yX6_chain cX6_chain 2 (some .int) 1 20 [.ref r0, .int x1] (wRH cI cZ cN cC r0 h0 h1 h2 h3 y9 y00 y01 y02 y10 y11 y12 y20 y21 y22 l0 d0 p0 e9 z0 kps pts wrk out mem abv cM cS cV cB) (wRH cI cZ cN cC r0 h0 h1 h2 h3 y9 y00 y01 y02 y10 y11 y12 y20 y21 y22 l0 d0 p0 e9 z0 kps pts wrk out mem abv res.2.1 res.2.2 cV cB) (some (.int res.1)) := by
  refine x_enter (by decide) (Nat.le_of_ble_eq_true rfl) ?_
  intro p e s m args below meth c E ls hl hw
  have E : xE p s m args meth c cX6_chain 2 (some .int) RX6 D (xtys cI cZ cN cC) (xA (wRH cI cZ cN cC r0 h0 h1 h2 h3 y9 y00 y01 y02 y10 y11 y12 y20 y21 y22 l0 d0 p0 e9 z0 kps pts wrk out mem abv cM cS cV cB)) := E
  obtain ⟨hx, hb, -⟩ := id E
  have hl : lv_has ls 2 [(0, .ref r0), (1, .int x1)] := hl
  unfold f_X6_chain at hf
  refine lv_iload_n hx hb dX6_chain_0 rfl (lv_at hl 1 rfl) ?_
  refine x_callS (isC := []) (ws' := (wRH cI cZ cN cC r0 h0 h1 h2 h3 y9 y00 y01 y02 y10 y11 y12 y20 y21 y22 l0 d0 p0 e9 z0 kps pts wrk out mem abv cM cS cV cB)) (st1 := [.int (f_X6_isChain x1)]) (As := [.int x1]) (rest := []) E hw vc_X6_210 (c_X6_isChain (cI := cI) (cZ := cZ) (cN := cN) (cC := cC)    (x0 := x1) rfl) rfl rfl rfl rfl rfl rfl ⟨Nat.le_of_ble_eq_true rfl, Nat.le_of_ble_eq_true rfl⟩ ⟨Nat.le_refl _, Nat.le_refl _⟩ hl.1 rfl rfl (Nat.le_of_ble_eq_true rfl) dX6_chain_1 (fun H locs hw => ?_)
  refine lv_if_ne (tgt := 10) hx hb dX6_chain_4 (by decide) (fun c1 => ?_) (fun c1 => ?_)
  · rw [if_neg c1] at hf
    refine lv_aload_n hx hb dX6_chain_10 rfl (lv_at hl 0 rfl) ?_
    refine x_get E hw kin_X6 0 rfl rfl 7 (by decide) kF_X6_56 (v := .ref y9) rfl dX6_chain_11 ?_
    refine lv_iload_n hx hb dX6_chain_14 rfl (lv_at hl 1 rfl) ?_
    obtain ⟨g2, hf⟩ := xgd hf
    rcases x_in3 (xin_vp g2) with ce | ce | ce
    · subst ce
      refine x_aald E hw 5 3 rfl rfl (xin_vp (by decide)) (w := .ref y00) rfl dX6_chain_15 ?_
      refine x_callV (isC := [6, 7, 8]) (ws' := (wRH cI cZ cN cC r0 h0 h1 h2 h3 y9 y00 y01 y02 y10 y11 y12 y20 y21 y22 l0 d0 p0 e9 z0 kps pts wrk out mem abv (va_up cM (Int32.toNatClampNeg (0 : Int32)) ((f_X0_begin).1)) (va_up cS (Int32.toNatClampNeg (0 : Int32)) ((f_X0_begin).2)) cV cB)) (st1 := []) (As := []) (rest := []) E hw vc_X6_213 (c_X0_begin (cI := cI) (cZ := cZ) (cN := cN) (cC := cC) (h0 := y00) (h1 := y01) (h2 := y02)  (mis := (cM (Int32.toNatClampNeg (0 : Int32)))) (siz := (cS (Int32.toNatClampNeg (0 : Int32)))) (val := (cV (Int32.toNatClampNeg (0 : Int32)))) (isa := (cB (Int32.toNatClampNeg (0 : Int32))))  rfl) 6 0 rfl rfl rfl rfl rfl rfl rfl rfl rfl ⟨Nat.le_of_ble_eq_true rfl, Nat.le_of_ble_eq_true rfl⟩ ⟨Nat.le_refl _, Nat.le_refl _⟩ hl.1 rfl rfl (Nat.le_of_ble_eq_true rfl) dX6_chain_16 (fun H locs hw => ?_)
      refine lv_iconst (v := 0) hx hb dX6_chain_19 (by decide) ?_
      have hf := Option.some.inj hf; subst hf
      exact x_iret E hw dX6_chain_20
    · subst ce
      refine x_aald E hw 5 3 rfl rfl (xin_vp (by decide)) (w := .ref y10) rfl dX6_chain_15 ?_
      refine x_callV (isC := [9, 10, 11]) (ws' := (wRH cI cZ cN cC r0 h0 h1 h2 h3 y9 y00 y01 y02 y10 y11 y12 y20 y21 y22 l0 d0 p0 e9 z0 kps pts wrk out mem abv (va_up cM (Int32.toNatClampNeg (1 : Int32)) ((f_X0_begin).1)) (va_up cS (Int32.toNatClampNeg (1 : Int32)) ((f_X0_begin).2)) cV cB)) (st1 := []) (As := []) (rest := []) E hw vc_X6_213 (c_X0_begin (cI := cI) (cZ := cZ) (cN := cN) (cC := cC) (h0 := y10) (h1 := y11) (h2 := y12)  (mis := (cM (Int32.toNatClampNeg (1 : Int32)))) (siz := (cS (Int32.toNatClampNeg (1 : Int32)))) (val := (cV (Int32.toNatClampNeg (1 : Int32)))) (isa := (cB (Int32.toNatClampNeg (1 : Int32))))  rfl) 9 0 rfl rfl rfl rfl rfl rfl rfl rfl rfl ⟨Nat.le_of_ble_eq_true rfl, Nat.le_of_ble_eq_true rfl⟩ ⟨Nat.le_refl _, Nat.le_refl _⟩ hl.1 rfl rfl (Nat.le_of_ble_eq_true rfl) dX6_chain_16 (fun H locs hw => ?_)
      refine lv_iconst (v := 0) hx hb dX6_chain_19 (by decide) ?_
      have hf := Option.some.inj hf; subst hf
      exact x_iret E hw dX6_chain_20
    · subst ce
      refine x_aald E hw 5 3 rfl rfl (xin_vp (by decide)) (w := .ref y20) rfl dX6_chain_15 ?_
      refine x_callV (isC := [12, 13, 14]) (ws' := (wRH cI cZ cN cC r0 h0 h1 h2 h3 y9 y00 y01 y02 y10 y11 y12 y20 y21 y22 l0 d0 p0 e9 z0 kps pts wrk out mem abv (va_up cM (Int32.toNatClampNeg (2 : Int32)) ((f_X0_begin).1)) (va_up cS (Int32.toNatClampNeg (2 : Int32)) ((f_X0_begin).2)) cV cB)) (st1 := []) (As := []) (rest := []) E hw vc_X6_213 (c_X0_begin (cI := cI) (cZ := cZ) (cN := cN) (cC := cC) (h0 := y20) (h1 := y21) (h2 := y22)  (mis := (cM (Int32.toNatClampNeg (2 : Int32)))) (siz := (cS (Int32.toNatClampNeg (2 : Int32)))) (val := (cV (Int32.toNatClampNeg (2 : Int32)))) (isa := (cB (Int32.toNatClampNeg (2 : Int32))))  rfl) 12 0 rfl rfl rfl rfl rfl rfl rfl rfl rfl ⟨Nat.le_of_ble_eq_true rfl, Nat.le_of_ble_eq_true rfl⟩ ⟨Nat.le_refl _, Nat.le_refl _⟩ hl.1 rfl rfl (Nat.le_of_ble_eq_true rfl) dX6_chain_16 (fun H locs hw => ?_)
      refine lv_iconst (v := 0) hx hb dX6_chain_19 (by decide) ?_
      have hf := Option.some.inj hf; subst hf
      exact x_iret E hw dX6_chain_20
  · rw [if_pos c1] at hf
    refine lv_bipush (v := (-2)) hx hb dX6_chain_7 (by decide) ?_
    have hf := Option.some.inj hf; subst hf
    exact x_iret E hw dX6_chain_9

def f_X6_add_116 (N : Nat) (x2 : Int32) (x4 : Int32) (t0 : Int32) (cS : (Nat → Int32)) (cV : (Nat → Nat → Int32)) (cB : (Nat → Nat → Int32)) (ix5 : Nat) (iy1 : Nat) : Option (Int32 × (Nat → Int32) × (Nat → Nat → Int32) × (Nat → Nat → Int32)) :=
  if x2 = 1 then
   (f_X0_insert N t0 x4 1 (cS iy1) (cV iy1) (cB iy1)).bind fun q26 =>
   some (((va_up cS iy1 q26.1) ix5), (va_up cS iy1 q26.1), (va_up cV iy1 q26.2.1), (va_up cB iy1 q26.2.2))
  else
   (f_X0_insert N t0 x4 0 (cS iy1) (cV iy1) (cB iy1)).bind fun q25 =>
   some (((va_up cS iy1 q25.1) ix5), (va_up cS iy1 q25.1), (va_up cV iy1 q25.2.1), (va_up cB iy1 q25.2.2))
set_option maxHeartbeats 4000000 in
set_option maxRecDepth 100000 in
theorem b_X6_add_116_y00_y00 {p : Program} {l : Launch} {e : Env} {s : State} {m : MethodId} {args : Array Value} {below : List Frame} {meth : Method} {c : Code} {D : va_G} {cI cZ cN cC : ClassId} {ws0 : va_W} {r0 h0 h1 h2 h3 y9 y00 y01 y02 y10 y11 y12 y20 y21 y22 l0 d0 p0 e9 z0 : Nat} {x2 : Int32} {x4 : Int32} {t0 : Int32} {kps : Int32} {pts : Int32} {wrk : Int32} {out : (Nat → Int32)} {mem : (Nat → Int32)} {abv : (Nat → Int32)} {cM : (Nat → Int32)} {cS : (Nat → Int32)} {cV : (Nat → Nat → Int32)} {cB : (Nat → Nat → Int32)} {N : Nat} {res : Int32 × (Nat → Int32) × (Nat → Nat → Int32) × (Nat → Nat → Int32)} (E : xE p s m args meth c cX6_add 6 (some .int) RX6 D (xtys cI cZ cN cC) (xA ws0)) : f_X6_add_116 N x2 x4 t0 cS cV cB 0 0 = some res → ∀ (H : Heap) (locs : List Loc) (ls : Array Slot), xw D (xA ws0) s.heap (wRH cI cZ cN cC r0 h0 h1 h2 h3 y9 y00 y01 y02 y10 y11 y12 y20 y21 y22 l0 d0 p0 e9 z0 kps pts wrk out mem abv cM cS cV cB) H locs → lv_has ls 6 [(2, .int x2), (4, .int x4), (5, .ref y00)] → xG p l e 3 64 s m args below meth c D ws0 (wRH cI cZ cN cC r0 h0 h1 h2 h3 y9 y00 y01 y02 y10 y11 y12 y20 y21 y22 l0 d0 p0 e9 z0 kps pts wrk out mem abv cM res.2.1 res.2.2.1 res.2.2.2) (some (.int res.1)) H locs (F0 m 116 ls [.int t0, .ref y00]) := by
  obtain ⟨hx, hb, -⟩ := id E
  intro hf H locs ls hw hl
  unfold f_X6_add_116 at hf
  refine lv_iload hx hb dX6_add_116 (lv_at hl 1 rfl) ?_
  refine lv_iload_n hx hb dX6_add_118 rfl (lv_at hl 0 rfl) ?_
  refine lv_iconst (v := 1) hx hb dX6_add_119 (by decide) ?_
  refine lv_icmp_ne (tgt := 127) hx hb dX6_add_120 (by decide) (fun c27 => ?_) (fun c27 => ?_)
  · rw [if_neg c27] at hf
    refine lv_iconst (v := 0) hx hb dX6_add_127 (by decide) ?_
    obtain ⟨q28, hq28, hf⟩ := Option.bind_eq_some_iff.mp hf
    refine x_callV (isC := [6, 7, 8]) (ws' := (wRH cI cZ cN cC r0 h0 h1 h2 h3 y9 y00 y01 y02 y10 y11 y12 y20 y21 y22 l0 d0 p0 e9 z0 kps pts wrk out mem abv cM (va_up cS 0 q28.1) (va_up cV 0 q28.2.1) (va_up cB 0 q28.2.2))) (st1 := []) (As := [.int t0, .int x4, .int 0]) (rest := []) E hw vc_X6_224 (c_X0_insert (cI := cI) (cZ := cZ) (cN := cN) (cC := cC) (h0 := y00) (h1 := y01) (h2 := y02)  (mis := (cM 0)) (siz := (cS 0)) (val := (cV 0)) (isa := (cB 0)) (x1 := t0) (x2 := x4) (x3 := 0) hq28) 6 0 rfl rfl rfl rfl rfl rfl rfl rfl rfl ⟨Nat.le_of_ble_eq_true rfl, Nat.le_of_ble_eq_true rfl⟩ ⟨Nat.le_refl _, Nat.le_refl _⟩ hl.1 rfl rfl (Nat.le_of_ble_eq_true rfl) dX6_add_128 (fun H locs hw => ?_)
    refine lv_aload hx hb dX6_add_131 (lv_at hl 2 rfl) ?_
    refine x_get E hw kin_X0 6 rfl rfl 3 (by decide) kF_X6_223 (v := .int ((va_up cS 0 q28.1) 0)) rfl dX6_add_133 ?_
    have hf := Option.some.inj hf; subst hf
    exact x_iret E hw dX6_add_136
  · rw [if_pos c27] at hf
    refine lv_iconst (v := 1) hx hb dX6_add_123 (by decide) ?_
    refine lv_goto (tgt := 128) hx hb dX6_add_124 (by decide) ?_
    obtain ⟨q29, hq29, hf⟩ := Option.bind_eq_some_iff.mp hf
    refine x_callV (isC := [6, 7, 8]) (ws' := (wRH cI cZ cN cC r0 h0 h1 h2 h3 y9 y00 y01 y02 y10 y11 y12 y20 y21 y22 l0 d0 p0 e9 z0 kps pts wrk out mem abv cM (va_up cS 0 q29.1) (va_up cV 0 q29.2.1) (va_up cB 0 q29.2.2))) (st1 := []) (As := [.int t0, .int x4, .int 1]) (rest := []) E hw vc_X6_224 (c_X0_insert (cI := cI) (cZ := cZ) (cN := cN) (cC := cC) (h0 := y00) (h1 := y01) (h2 := y02)  (mis := (cM 0)) (siz := (cS 0)) (val := (cV 0)) (isa := (cB 0)) (x1 := t0) (x2 := x4) (x3 := 1) hq29) 6 0 rfl rfl rfl rfl rfl rfl rfl rfl rfl ⟨Nat.le_of_ble_eq_true rfl, Nat.le_of_ble_eq_true rfl⟩ ⟨Nat.le_refl _, Nat.le_refl _⟩ hl.1 rfl rfl (Nat.le_of_ble_eq_true rfl) dX6_add_128 (fun H locs hw => ?_)
    refine lv_aload hx hb dX6_add_131 (lv_at hl 2 rfl) ?_
    refine x_get E hw kin_X0 6 rfl rfl 3 (by decide) kF_X6_223 (v := .int ((va_up cS 0 q29.1) 0)) rfl dX6_add_133 ?_
    have hf := Option.some.inj hf; subst hf
    exact x_iret E hw dX6_add_136
set_option maxHeartbeats 4000000 in
set_option maxRecDepth 100000 in
theorem b_X6_add_116_y10_y10 {p : Program} {l : Launch} {e : Env} {s : State} {m : MethodId} {args : Array Value} {below : List Frame} {meth : Method} {c : Code} {D : va_G} {cI cZ cN cC : ClassId} {ws0 : va_W} {r0 h0 h1 h2 h3 y9 y00 y01 y02 y10 y11 y12 y20 y21 y22 l0 d0 p0 e9 z0 : Nat} {x2 : Int32} {x4 : Int32} {t0 : Int32} {kps : Int32} {pts : Int32} {wrk : Int32} {out : (Nat → Int32)} {mem : (Nat → Int32)} {abv : (Nat → Int32)} {cM : (Nat → Int32)} {cS : (Nat → Int32)} {cV : (Nat → Nat → Int32)} {cB : (Nat → Nat → Int32)} {N : Nat} {res : Int32 × (Nat → Int32) × (Nat → Nat → Int32) × (Nat → Nat → Int32)} (E : xE p s m args meth c cX6_add 6 (some .int) RX6 D (xtys cI cZ cN cC) (xA ws0)) : f_X6_add_116 N x2 x4 t0 cS cV cB 1 1 = some res → ∀ (H : Heap) (locs : List Loc) (ls : Array Slot), xw D (xA ws0) s.heap (wRH cI cZ cN cC r0 h0 h1 h2 h3 y9 y00 y01 y02 y10 y11 y12 y20 y21 y22 l0 d0 p0 e9 z0 kps pts wrk out mem abv cM cS cV cB) H locs → lv_has ls 6 [(2, .int x2), (4, .int x4), (5, .ref y10)] → xG p l e 3 64 s m args below meth c D ws0 (wRH cI cZ cN cC r0 h0 h1 h2 h3 y9 y00 y01 y02 y10 y11 y12 y20 y21 y22 l0 d0 p0 e9 z0 kps pts wrk out mem abv cM res.2.1 res.2.2.1 res.2.2.2) (some (.int res.1)) H locs (F0 m 116 ls [.int t0, .ref y10]) := by
  obtain ⟨hx, hb, -⟩ := id E
  intro hf H locs ls hw hl
  unfold f_X6_add_116 at hf
  refine lv_iload hx hb dX6_add_116 (lv_at hl 1 rfl) ?_
  refine lv_iload_n hx hb dX6_add_118 rfl (lv_at hl 0 rfl) ?_
  refine lv_iconst (v := 1) hx hb dX6_add_119 (by decide) ?_
  refine lv_icmp_ne (tgt := 127) hx hb dX6_add_120 (by decide) (fun c30 => ?_) (fun c30 => ?_)
  · rw [if_neg c30] at hf
    refine lv_iconst (v := 0) hx hb dX6_add_127 (by decide) ?_
    obtain ⟨q31, hq31, hf⟩ := Option.bind_eq_some_iff.mp hf
    refine x_callV (isC := [9, 10, 11]) (ws' := (wRH cI cZ cN cC r0 h0 h1 h2 h3 y9 y00 y01 y02 y10 y11 y12 y20 y21 y22 l0 d0 p0 e9 z0 kps pts wrk out mem abv cM (va_up cS 1 q31.1) (va_up cV 1 q31.2.1) (va_up cB 1 q31.2.2))) (st1 := []) (As := [.int t0, .int x4, .int 0]) (rest := []) E hw vc_X6_224 (c_X0_insert (cI := cI) (cZ := cZ) (cN := cN) (cC := cC) (h0 := y10) (h1 := y11) (h2 := y12)  (mis := (cM 1)) (siz := (cS 1)) (val := (cV 1)) (isa := (cB 1)) (x1 := t0) (x2 := x4) (x3 := 0) hq31) 9 0 rfl rfl rfl rfl rfl rfl rfl rfl rfl ⟨Nat.le_of_ble_eq_true rfl, Nat.le_of_ble_eq_true rfl⟩ ⟨Nat.le_refl _, Nat.le_refl _⟩ hl.1 rfl rfl (Nat.le_of_ble_eq_true rfl) dX6_add_128 (fun H locs hw => ?_)
    refine lv_aload hx hb dX6_add_131 (lv_at hl 2 rfl) ?_
    refine x_get E hw kin_X0 9 rfl rfl 3 (by decide) kF_X6_223 (v := .int ((va_up cS 1 q31.1) 1)) rfl dX6_add_133 ?_
    have hf := Option.some.inj hf; subst hf
    exact x_iret E hw dX6_add_136
  · rw [if_pos c30] at hf
    refine lv_iconst (v := 1) hx hb dX6_add_123 (by decide) ?_
    refine lv_goto (tgt := 128) hx hb dX6_add_124 (by decide) ?_
    obtain ⟨q32, hq32, hf⟩ := Option.bind_eq_some_iff.mp hf
    refine x_callV (isC := [9, 10, 11]) (ws' := (wRH cI cZ cN cC r0 h0 h1 h2 h3 y9 y00 y01 y02 y10 y11 y12 y20 y21 y22 l0 d0 p0 e9 z0 kps pts wrk out mem abv cM (va_up cS 1 q32.1) (va_up cV 1 q32.2.1) (va_up cB 1 q32.2.2))) (st1 := []) (As := [.int t0, .int x4, .int 1]) (rest := []) E hw vc_X6_224 (c_X0_insert (cI := cI) (cZ := cZ) (cN := cN) (cC := cC) (h0 := y10) (h1 := y11) (h2 := y12)  (mis := (cM 1)) (siz := (cS 1)) (val := (cV 1)) (isa := (cB 1)) (x1 := t0) (x2 := x4) (x3 := 1) hq32) 9 0 rfl rfl rfl rfl rfl rfl rfl rfl rfl ⟨Nat.le_of_ble_eq_true rfl, Nat.le_of_ble_eq_true rfl⟩ ⟨Nat.le_refl _, Nat.le_refl _⟩ hl.1 rfl rfl (Nat.le_of_ble_eq_true rfl) dX6_add_128 (fun H locs hw => ?_)
    refine lv_aload hx hb dX6_add_131 (lv_at hl 2 rfl) ?_
    refine x_get E hw kin_X0 9 rfl rfl 3 (by decide) kF_X6_223 (v := .int ((va_up cS 1 q32.1) 1)) rfl dX6_add_133 ?_
    have hf := Option.some.inj hf; subst hf
    exact x_iret E hw dX6_add_136
set_option maxHeartbeats 4000000 in
set_option maxRecDepth 100000 in
theorem b_X6_add_116_y20_y20 {p : Program} {l : Launch} {e : Env} {s : State} {m : MethodId} {args : Array Value} {below : List Frame} {meth : Method} {c : Code} {D : va_G} {cI cZ cN cC : ClassId} {ws0 : va_W} {r0 h0 h1 h2 h3 y9 y00 y01 y02 y10 y11 y12 y20 y21 y22 l0 d0 p0 e9 z0 : Nat} {x2 : Int32} {x4 : Int32} {t0 : Int32} {kps : Int32} {pts : Int32} {wrk : Int32} {out : (Nat → Int32)} {mem : (Nat → Int32)} {abv : (Nat → Int32)} {cM : (Nat → Int32)} {cS : (Nat → Int32)} {cV : (Nat → Nat → Int32)} {cB : (Nat → Nat → Int32)} {N : Nat} {res : Int32 × (Nat → Int32) × (Nat → Nat → Int32) × (Nat → Nat → Int32)} (E : xE p s m args meth c cX6_add 6 (some .int) RX6 D (xtys cI cZ cN cC) (xA ws0)) : f_X6_add_116 N x2 x4 t0 cS cV cB 2 2 = some res → ∀ (H : Heap) (locs : List Loc) (ls : Array Slot), xw D (xA ws0) s.heap (wRH cI cZ cN cC r0 h0 h1 h2 h3 y9 y00 y01 y02 y10 y11 y12 y20 y21 y22 l0 d0 p0 e9 z0 kps pts wrk out mem abv cM cS cV cB) H locs → lv_has ls 6 [(2, .int x2), (4, .int x4), (5, .ref y20)] → xG p l e 3 64 s m args below meth c D ws0 (wRH cI cZ cN cC r0 h0 h1 h2 h3 y9 y00 y01 y02 y10 y11 y12 y20 y21 y22 l0 d0 p0 e9 z0 kps pts wrk out mem abv cM res.2.1 res.2.2.1 res.2.2.2) (some (.int res.1)) H locs (F0 m 116 ls [.int t0, .ref y20]) := by
  obtain ⟨hx, hb, -⟩ := id E
  intro hf H locs ls hw hl
  unfold f_X6_add_116 at hf
  refine lv_iload hx hb dX6_add_116 (lv_at hl 1 rfl) ?_
  refine lv_iload_n hx hb dX6_add_118 rfl (lv_at hl 0 rfl) ?_
  refine lv_iconst (v := 1) hx hb dX6_add_119 (by decide) ?_
  refine lv_icmp_ne (tgt := 127) hx hb dX6_add_120 (by decide) (fun c33 => ?_) (fun c33 => ?_)
  · rw [if_neg c33] at hf
    refine lv_iconst (v := 0) hx hb dX6_add_127 (by decide) ?_
    obtain ⟨q34, hq34, hf⟩ := Option.bind_eq_some_iff.mp hf
    refine x_callV (isC := [12, 13, 14]) (ws' := (wRH cI cZ cN cC r0 h0 h1 h2 h3 y9 y00 y01 y02 y10 y11 y12 y20 y21 y22 l0 d0 p0 e9 z0 kps pts wrk out mem abv cM (va_up cS 2 q34.1) (va_up cV 2 q34.2.1) (va_up cB 2 q34.2.2))) (st1 := []) (As := [.int t0, .int x4, .int 0]) (rest := []) E hw vc_X6_224 (c_X0_insert (cI := cI) (cZ := cZ) (cN := cN) (cC := cC) (h0 := y20) (h1 := y21) (h2 := y22)  (mis := (cM 2)) (siz := (cS 2)) (val := (cV 2)) (isa := (cB 2)) (x1 := t0) (x2 := x4) (x3 := 0) hq34) 12 0 rfl rfl rfl rfl rfl rfl rfl rfl rfl ⟨Nat.le_of_ble_eq_true rfl, Nat.le_of_ble_eq_true rfl⟩ ⟨Nat.le_refl _, Nat.le_refl _⟩ hl.1 rfl rfl (Nat.le_of_ble_eq_true rfl) dX6_add_128 (fun H locs hw => ?_)
    refine lv_aload hx hb dX6_add_131 (lv_at hl 2 rfl) ?_
    refine x_get E hw kin_X0 12 rfl rfl 3 (by decide) kF_X6_223 (v := .int ((va_up cS 2 q34.1) 2)) rfl dX6_add_133 ?_
    have hf := Option.some.inj hf; subst hf
    exact x_iret E hw dX6_add_136
  · rw [if_pos c33] at hf
    refine lv_iconst (v := 1) hx hb dX6_add_123 (by decide) ?_
    refine lv_goto (tgt := 128) hx hb dX6_add_124 (by decide) ?_
    obtain ⟨q35, hq35, hf⟩ := Option.bind_eq_some_iff.mp hf
    refine x_callV (isC := [12, 13, 14]) (ws' := (wRH cI cZ cN cC r0 h0 h1 h2 h3 y9 y00 y01 y02 y10 y11 y12 y20 y21 y22 l0 d0 p0 e9 z0 kps pts wrk out mem abv cM (va_up cS 2 q35.1) (va_up cV 2 q35.2.1) (va_up cB 2 q35.2.2))) (st1 := []) (As := [.int t0, .int x4, .int 1]) (rest := []) E hw vc_X6_224 (c_X0_insert (cI := cI) (cZ := cZ) (cN := cN) (cC := cC) (h0 := y20) (h1 := y21) (h2 := y22)  (mis := (cM 2)) (siz := (cS 2)) (val := (cV 2)) (isa := (cB 2)) (x1 := t0) (x2 := x4) (x3 := 1) hq35) 12 0 rfl rfl rfl rfl rfl rfl rfl rfl rfl ⟨Nat.le_of_ble_eq_true rfl, Nat.le_of_ble_eq_true rfl⟩ ⟨Nat.le_refl _, Nat.le_refl _⟩ hl.1 rfl rfl (Nat.le_of_ble_eq_true rfl) dX6_add_128 (fun H locs hw => ?_)
    refine lv_aload hx hb dX6_add_131 (lv_at hl 2 rfl) ?_
    refine x_get E hw kin_X0 12 rfl rfl 3 (by decide) kF_X6_223 (v := .int ((va_up cS 2 q35.1) 2)) rfl dX6_add_133 ?_
    have hf := Option.some.inj hf; subst hf
    exact x_iret E hw dX6_add_136
def f_X6_add_68 (N : Nat) (x1 : Int32) (x2 : Int32) (x3 : Int32) (x4 : Int32) (cM : (Nat → Int32)) (cS : (Nat → Int32)) (cV : (Nat → Nat → Int32)) (cB : (Nat → Nat → Int32)) : Option (Int32 × (Nat → Int32) × (Nat → Nat → Int32) × (Nat → Nat → Int32)) :=
  if xin x1 3 then
  if (cM (Int32.toNatClampNeg x1)) = 0 then
   if (cS (Int32.toNatClampNeg x1)) < 8 then
    if x3 = 1 then
     f_X6_add_116 N x2 x4 (cS (Int32.toNatClampNeg x1)) cS cV cB (Int32.toNatClampNeg x1) (Int32.toNatClampNeg x1)
    else
     f_X6_add_116 N x2 x4 0 cS cV cB (Int32.toNatClampNeg x1) (Int32.toNatClampNeg x1)
   else
    some ((-14), cS, cV, cB)
  else
   some ((-11), cS, cV, cB)
  else none
set_option maxHeartbeats 4000000 in
set_option maxRecDepth 100000 in
theorem b_X6_add_68 {p : Program} {l : Launch} {e : Env} {s : State} {m : MethodId} {args : Array Value} {below : List Frame} {meth : Method} {c : Code} {D : va_G} {cI cZ cN cC : ClassId} {ws0 : va_W} {r0 h0 h1 h2 h3 y9 y00 y01 y02 y10 y11 y12 y20 y21 y22 l0 d0 p0 e9 z0 : Nat} {x1 : Int32} {x2 : Int32} {x3 : Int32} {x4 : Int32} {kps : Int32} {pts : Int32} {wrk : Int32} {out : (Nat → Int32)} {mem : (Nat → Int32)} {abv : (Nat → Int32)} {cM : (Nat → Int32)} {cS : (Nat → Int32)} {cV : (Nat → Nat → Int32)} {cB : (Nat → Nat → Int32)} {N : Nat} {res : Int32 × (Nat → Int32) × (Nat → Nat → Int32) × (Nat → Nat → Int32)} (E : xE p s m args meth c cX6_add 6 (some .int) RX6 D (xtys cI cZ cN cC) (xA ws0)) : f_X6_add_68 N x1 x2 x3 x4 cM cS cV cB = some res → ∀ (H : Heap) (locs : List Loc) (ls : Array Slot), xw D (xA ws0) s.heap (wRH cI cZ cN cC r0 h0 h1 h2 h3 y9 y00 y01 y02 y10 y11 y12 y20 y21 y22 l0 d0 p0 e9 z0 kps pts wrk out mem abv cM cS cV cB) H locs → lv_has ls 6 [(0, .ref r0), (1, .int x1), (2, .int x2), (3, .int x3), (4, .int x4)] → xG p l e 3 64 s m args below meth c D ws0 (wRH cI cZ cN cC r0 h0 h1 h2 h3 y9 y00 y01 y02 y10 y11 y12 y20 y21 y22 l0 d0 p0 e9 z0 kps pts wrk out mem abv cM res.2.1 res.2.2.1 res.2.2.2) (some (.int res.1)) H locs (F0 m 68 ls []) := by
  obtain ⟨hx, hb, -⟩ := id E
  intro hf H locs ls hw hl
  unfold f_X6_add_68 at hf
  refine lv_aload_n hx hb dX6_add_68 rfl (lv_at hl 0 rfl) ?_
  refine x_get E hw kin_X6 0 rfl rfl 7 (by decide) kF_X6_56 (v := .ref y9) rfl dX6_add_69 ?_
  refine lv_iload_n hx hb dX6_add_72 rfl (lv_at hl 1 rfl) ?_
  obtain ⟨g11, hf⟩ := xgd hf
  rcases x_in3 (xin_vp g11) with ce | ce | ce
  · subst ce
    refine x_aald E hw 5 3 rfl rfl (xin_vp (by decide)) (w := .ref y00) rfl dX6_add_73 ?_
    refine lv_astore (lv' := [(5, .ref y00), (0, .ref r0), (1, .int (0 : Int32)), (2, .int x2), (3, .int x3), (4, .int x4)]) hx hb dX6_add_74 hl (by decide) rfl (fun ls hl => ?_)
    refine lv_aload hx hb dX6_add_76 (lv_at hl 0 rfl) ?_
    refine x_get E hw kin_X0 6 rfl rfl 2 (by decide) kF_X6_219 (v := .int (cM (Int32.toNatClampNeg (0 : Int32)))) rfl dX6_add_78 ?_
    refine lv_if_eq (tgt := 87) hx hb dX6_add_81 (by decide) (fun c15 => ?_) (fun c15 => ?_)
    · rw [if_pos c15] at hf
      refine lv_aload hx hb dX6_add_87 (lv_at hl 0 rfl) ?_
      refine x_get E hw kin_X0 6 rfl rfl 3 (by decide) kF_X6_223 (v := .int (cS (Int32.toNatClampNeg (0 : Int32)))) rfl dX6_add_89 ?_
      refine lv_bipush (v := 8) hx hb dX6_add_92 (by decide) ?_
      refine lv_icmp_lt (tgt := 100) hx hb dX6_add_94 (by decide) (fun c16 => ?_) (fun c16 => ?_)
      · rw [if_pos c16] at hf
        refine lv_aload hx hb dX6_add_100 (lv_at hl 0 rfl) ?_
        refine lv_iload_n hx hb dX6_add_102 rfl (lv_at hl 4 rfl) ?_
        refine lv_iconst (v := 1) hx hb dX6_add_103 (by decide) ?_
        refine lv_icmp_ne (tgt := 115) hx hb dX6_add_104 (by decide) (fun c17 => ?_) (fun c17 => ?_)
        · rw [if_neg c17] at hf
          refine lv_iconst (v := 0) hx hb dX6_add_115 (by decide) ?_
          exact b_X6_add_116_y00_y00 E  hf _ _ _ hw (lv_sub hl [3, 5, 0] rfl)
        · rw [if_pos c17] at hf
          refine lv_aload hx hb dX6_add_107 (lv_at hl 0 rfl) ?_
          refine x_get E hw kin_X0 6 rfl rfl 3 (by decide) kF_X6_223 (v := .int (cS (Int32.toNatClampNeg (0 : Int32)))) rfl dX6_add_109 ?_
          refine lv_goto (tgt := 116) hx hb dX6_add_112 (by decide) ?_
          exact b_X6_add_116_y00_y00 E  hf _ _ _ hw (lv_sub hl [3, 5, 0] rfl)
      · rw [if_neg c16] at hf
        refine lv_bipush (v := (-14)) hx hb dX6_add_97 (by decide) ?_
        have hf := Option.some.inj hf; subst hf
        exact x_iret E hw dX6_add_99
    · rw [if_neg c15] at hf
      refine lv_bipush (v := (-11)) hx hb dX6_add_84 (by decide) ?_
      have hf := Option.some.inj hf; subst hf
      exact x_iret E hw dX6_add_86
  · subst ce
    refine x_aald E hw 5 3 rfl rfl (xin_vp (by decide)) (w := .ref y10) rfl dX6_add_73 ?_
    refine lv_astore (lv' := [(5, .ref y10), (0, .ref r0), (1, .int (1 : Int32)), (2, .int x2), (3, .int x3), (4, .int x4)]) hx hb dX6_add_74 hl (by decide) rfl (fun ls hl => ?_)
    refine lv_aload hx hb dX6_add_76 (lv_at hl 0 rfl) ?_
    refine x_get E hw kin_X0 9 rfl rfl 2 (by decide) kF_X6_219 (v := .int (cM (Int32.toNatClampNeg (1 : Int32)))) rfl dX6_add_78 ?_
    refine lv_if_eq (tgt := 87) hx hb dX6_add_81 (by decide) (fun c18 => ?_) (fun c18 => ?_)
    · rw [if_pos c18] at hf
      refine lv_aload hx hb dX6_add_87 (lv_at hl 0 rfl) ?_
      refine x_get E hw kin_X0 9 rfl rfl 3 (by decide) kF_X6_223 (v := .int (cS (Int32.toNatClampNeg (1 : Int32)))) rfl dX6_add_89 ?_
      refine lv_bipush (v := 8) hx hb dX6_add_92 (by decide) ?_
      refine lv_icmp_lt (tgt := 100) hx hb dX6_add_94 (by decide) (fun c19 => ?_) (fun c19 => ?_)
      · rw [if_pos c19] at hf
        refine lv_aload hx hb dX6_add_100 (lv_at hl 0 rfl) ?_
        refine lv_iload_n hx hb dX6_add_102 rfl (lv_at hl 4 rfl) ?_
        refine lv_iconst (v := 1) hx hb dX6_add_103 (by decide) ?_
        refine lv_icmp_ne (tgt := 115) hx hb dX6_add_104 (by decide) (fun c20 => ?_) (fun c20 => ?_)
        · rw [if_neg c20] at hf
          refine lv_iconst (v := 0) hx hb dX6_add_115 (by decide) ?_
          exact b_X6_add_116_y10_y10 E  hf _ _ _ hw (lv_sub hl [3, 5, 0] rfl)
        · rw [if_pos c20] at hf
          refine lv_aload hx hb dX6_add_107 (lv_at hl 0 rfl) ?_
          refine x_get E hw kin_X0 9 rfl rfl 3 (by decide) kF_X6_223 (v := .int (cS (Int32.toNatClampNeg (1 : Int32)))) rfl dX6_add_109 ?_
          refine lv_goto (tgt := 116) hx hb dX6_add_112 (by decide) ?_
          exact b_X6_add_116_y10_y10 E  hf _ _ _ hw (lv_sub hl [3, 5, 0] rfl)
      · rw [if_neg c19] at hf
        refine lv_bipush (v := (-14)) hx hb dX6_add_97 (by decide) ?_
        have hf := Option.some.inj hf; subst hf
        exact x_iret E hw dX6_add_99
    · rw [if_neg c18] at hf
      refine lv_bipush (v := (-11)) hx hb dX6_add_84 (by decide) ?_
      have hf := Option.some.inj hf; subst hf
      exact x_iret E hw dX6_add_86
  · subst ce
    refine x_aald E hw 5 3 rfl rfl (xin_vp (by decide)) (w := .ref y20) rfl dX6_add_73 ?_
    refine lv_astore (lv' := [(5, .ref y20), (0, .ref r0), (1, .int (2 : Int32)), (2, .int x2), (3, .int x3), (4, .int x4)]) hx hb dX6_add_74 hl (by decide) rfl (fun ls hl => ?_)
    refine lv_aload hx hb dX6_add_76 (lv_at hl 0 rfl) ?_
    refine x_get E hw kin_X0 12 rfl rfl 2 (by decide) kF_X6_219 (v := .int (cM (Int32.toNatClampNeg (2 : Int32)))) rfl dX6_add_78 ?_
    refine lv_if_eq (tgt := 87) hx hb dX6_add_81 (by decide) (fun c21 => ?_) (fun c21 => ?_)
    · rw [if_pos c21] at hf
      refine lv_aload hx hb dX6_add_87 (lv_at hl 0 rfl) ?_
      refine x_get E hw kin_X0 12 rfl rfl 3 (by decide) kF_X6_223 (v := .int (cS (Int32.toNatClampNeg (2 : Int32)))) rfl dX6_add_89 ?_
      refine lv_bipush (v := 8) hx hb dX6_add_92 (by decide) ?_
      refine lv_icmp_lt (tgt := 100) hx hb dX6_add_94 (by decide) (fun c22 => ?_) (fun c22 => ?_)
      · rw [if_pos c22] at hf
        refine lv_aload hx hb dX6_add_100 (lv_at hl 0 rfl) ?_
        refine lv_iload_n hx hb dX6_add_102 rfl (lv_at hl 4 rfl) ?_
        refine lv_iconst (v := 1) hx hb dX6_add_103 (by decide) ?_
        refine lv_icmp_ne (tgt := 115) hx hb dX6_add_104 (by decide) (fun c23 => ?_) (fun c23 => ?_)
        · rw [if_neg c23] at hf
          refine lv_iconst (v := 0) hx hb dX6_add_115 (by decide) ?_
          exact b_X6_add_116_y20_y20 E  hf _ _ _ hw (lv_sub hl [3, 5, 0] rfl)
        · rw [if_pos c23] at hf
          refine lv_aload hx hb dX6_add_107 (lv_at hl 0 rfl) ?_
          refine x_get E hw kin_X0 12 rfl rfl 3 (by decide) kF_X6_223 (v := .int (cS (Int32.toNatClampNeg (2 : Int32)))) rfl dX6_add_109 ?_
          refine lv_goto (tgt := 116) hx hb dX6_add_112 (by decide) ?_
          exact b_X6_add_116_y20_y20 E  hf _ _ _ hw (lv_sub hl [3, 5, 0] rfl)
      · rw [if_neg c22] at hf
        refine lv_bipush (v := (-14)) hx hb dX6_add_97 (by decide) ?_
        have hf := Option.some.inj hf; subst hf
        exact x_iret E hw dX6_add_99
    · rw [if_neg c21] at hf
      refine lv_bipush (v := (-11)) hx hb dX6_add_84 (by decide) ?_
      have hf := Option.some.inj hf; subst hf
      exact x_iret E hw dX6_add_86
def f_X6_add_24 (N : Nat) (x1 : Int32) (x2 : Int32) (x3 : Int32) (x4 : Int32) (cM : (Nat → Int32)) (cS : (Nat → Int32)) (cV : (Nat → Nat → Int32)) (cB : (Nat → Nat → Int32)) : Option (Int32 × (Nat → Int32) × (Nat → Nat → Int32) × (Nat → Nat → Int32)) :=
  if x2 < 0 then
   some ((-3), cS, cV, cB)
  else
   if 1 < x2 then
    some ((-3), cS, cV, cB)
   else
    if x3 < 0 then
     some ((-3), cS, cV, cB)
    else
     if x3 ≤ 1 then
      if x2 = 0 then
       if x4 < (-9999) then
        some ((-3), cS, cV, cB)
       else
        if x4 ≤ 9999 then
         f_X6_add_68 N x1 x2 x3 x4 cM cS cV cB
        else
         some ((-3), cS, cV, cB)
      else
       f_X6_add_68 N x1 x2 x3 x4 cM cS cV cB
     else
      some ((-3), cS, cV, cB)
set_option maxHeartbeats 4000000 in
set_option maxRecDepth 100000 in
theorem b_X6_add_24 {p : Program} {l : Launch} {e : Env} {s : State} {m : MethodId} {args : Array Value} {below : List Frame} {meth : Method} {c : Code} {D : va_G} {cI cZ cN cC : ClassId} {ws0 : va_W} {r0 h0 h1 h2 h3 y9 y00 y01 y02 y10 y11 y12 y20 y21 y22 l0 d0 p0 e9 z0 : Nat} {x1 : Int32} {x2 : Int32} {x3 : Int32} {x4 : Int32} {kps : Int32} {pts : Int32} {wrk : Int32} {out : (Nat → Int32)} {mem : (Nat → Int32)} {abv : (Nat → Int32)} {cM : (Nat → Int32)} {cS : (Nat → Int32)} {cV : (Nat → Nat → Int32)} {cB : (Nat → Nat → Int32)} {N : Nat} {res : Int32 × (Nat → Int32) × (Nat → Nat → Int32) × (Nat → Nat → Int32)} (E : xE p s m args meth c cX6_add 6 (some .int) RX6 D (xtys cI cZ cN cC) (xA ws0)) : f_X6_add_24 N x1 x2 x3 x4 cM cS cV cB = some res → ∀ (H : Heap) (locs : List Loc) (ls : Array Slot), xw D (xA ws0) s.heap (wRH cI cZ cN cC r0 h0 h1 h2 h3 y9 y00 y01 y02 y10 y11 y12 y20 y21 y22 l0 d0 p0 e9 z0 kps pts wrk out mem abv cM cS cV cB) H locs → lv_has ls 6 [(0, .ref r0), (1, .int x1), (2, .int x2), (3, .int x3), (4, .int x4)] → xG p l e 3 64 s m args below meth c D ws0 (wRH cI cZ cN cC r0 h0 h1 h2 h3 y9 y00 y01 y02 y10 y11 y12 y20 y21 y22 l0 d0 p0 e9 z0 kps pts wrk out mem abv cM res.2.1 res.2.2.1 res.2.2.2) (some (.int res.1)) H locs (F0 m 24 ls []) := by
  obtain ⟨hx, hb, -⟩ := id E
  intro hf H locs ls hw hl
  unfold f_X6_add_24 at hf
  refine lv_iload_n hx hb dX6_add_24 rfl (lv_at hl 2 rfl) ?_
  refine lv_if_lt (tgt := 42) hx hb dX6_add_25 (by decide) (fun c4 => ?_) (fun c4 => ?_)
  · rw [if_pos c4] at hf
    refine lv_bipush (v := (-3)) hx hb dX6_add_42 (by decide) ?_
    have hf := Option.some.inj hf; subst hf
    exact x_iret E hw dX6_add_44
  · rw [if_neg c4] at hf
    refine lv_iload_n hx hb dX6_add_28 rfl (lv_at hl 2 rfl) ?_
    refine lv_iconst (v := 1) hx hb dX6_add_29 (by decide) ?_
    refine lv_icmp_gt (tgt := 42) hx hb dX6_add_30 (by decide) (fun c5 => ?_) (fun c5 => ?_)
    · rw [if_pos c5] at hf
      refine lv_bipush (v := (-3)) hx hb dX6_add_42 (by decide) ?_
      have hf := Option.some.inj hf; subst hf
      exact x_iret E hw dX6_add_44
    · rw [if_neg c5] at hf
      refine lv_iload_n hx hb dX6_add_33 rfl (lv_at hl 3 rfl) ?_
      refine lv_if_lt (tgt := 42) hx hb dX6_add_34 (by decide) (fun c6 => ?_) (fun c6 => ?_)
      · rw [if_pos c6] at hf
        refine lv_bipush (v := (-3)) hx hb dX6_add_42 (by decide) ?_
        have hf := Option.some.inj hf; subst hf
        exact x_iret E hw dX6_add_44
      · rw [if_neg c6] at hf
        refine lv_iload_n hx hb dX6_add_37 rfl (lv_at hl 3 rfl) ?_
        refine lv_iconst (v := 1) hx hb dX6_add_38 (by decide) ?_
        refine lv_icmp_le (tgt := 45) hx hb dX6_add_39 (by decide) (fun c7 => ?_) (fun c7 => ?_)
        · rw [if_pos c7] at hf
          refine lv_iload_n hx hb dX6_add_45 rfl (lv_at hl 2 rfl) ?_
          refine lv_if_ne (tgt := 68) hx hb dX6_add_46 (by decide) (fun c8 => ?_) (fun c8 => ?_)
          · rw [if_neg c8] at hf
            exact b_X6_add_68 E  hf _ _ _ hw (lv_sub hl [0, 1, 2, 3, 4] rfl)
          · rw [if_pos c8] at hf
            refine lv_iload hx hb dX6_add_49 (lv_at hl 4 rfl) ?_
            refine lv_sipush (v := (-9999)) hx hb dX6_add_51 (by decide) ?_
            refine lv_icmp_lt (tgt := 65) hx hb dX6_add_54 (by decide) (fun c9 => ?_) (fun c9 => ?_)
            · rw [if_pos c9] at hf
              refine lv_bipush (v := (-3)) hx hb dX6_add_65 (by decide) ?_
              have hf := Option.some.inj hf; subst hf
              exact x_iret E hw dX6_add_67
            · rw [if_neg c9] at hf
              refine lv_iload hx hb dX6_add_57 (lv_at hl 4 rfl) ?_
              refine lv_sipush (v := 9999) hx hb dX6_add_59 (by decide) ?_
              refine lv_icmp_le (tgt := 68) hx hb dX6_add_62 (by decide) (fun c10 => ?_) (fun c10 => ?_)
              · rw [if_pos c10] at hf
                exact b_X6_add_68 E  hf _ _ _ hw (lv_sub hl [0, 1, 2, 3, 4] rfl)
              · rw [if_neg c10] at hf
                refine lv_bipush (v := (-3)) hx hb dX6_add_65 (by decide) ?_
                have hf := Option.some.inj hf; subst hf
                exact x_iret E hw dX6_add_67
        · rw [if_neg c7] at hf
          refine lv_bipush (v := (-3)) hx hb dX6_add_42 (by decide) ?_
          have hf := Option.some.inj hf; subst hf
          exact x_iret E hw dX6_add_44
def f_X6_add (N : Nat) (x1 : Int32) (x2 : Int32) (x3 : Int32) (x4 : Int32) (pts : Int32) (cM : (Nat → Int32)) (cS : (Nat → Int32)) (cV : (Nat → Nat → Int32)) (cB : (Nat → Nat → Int32)) : Option (Int32 × (Nat → Int32) × (Nat → Nat → Int32) × (Nat → Nat → Int32)) :=
  if (f_X6_isChain x1) = 0 then
   some ((-2), cS, cV, cB)
  else
   if x2 = 1 then
    if (f_X6_isTellable x4 pts) = 0 then
     some ((-2), cS, cV, cB)
    else
     f_X6_add_24 N x1 x2 x3 x4 cM cS cV cB
   else
    f_X6_add_24 N x1 x2 x3 x4 cM cS cV cB
set_option maxHeartbeats 4000000 in
set_option maxRecDepth 100000 in
theorem c_X6_add {l : Launch} {D : va_G} {cI cZ cN cC : ClassId} {r0 h0 h1 h2 h3 y9 y00 y01 y02 y10 y11 y12 y20 y21 y22 l0 d0 p0 e9 z0 : Nat} {kps : Int32} {pts : Int32} {wrk : Int32} {out : (Nat → Int32)} {mem : (Nat → Int32)} {abv : (Nat → Int32)} {cM : (Nat → Int32)} {cS : (Nat → Int32)} {cV : (Nat → Nat → Int32)} {cB : (Nat → Nat → Int32)} {x1 : Int32} {x2 : Int32} {x3 : Int32} {x4 : Int32} {N : Nat} {res : Int32 × (Nat → Int32) × (Nat → Nat → Int32) × (Nat → Nat → Int32)} (hf : f_X6_add N x1 x2 x3 x4 pts cM cS cV cB = some res) : xMet l D (xtys cI cZ cN cC) yX6_add cX6_add 6 (some .int) 3 64 [.ref r0, .int x1, .int x2, .int x3, .int x4] (wRH cI cZ cN cC r0 h0 h1 h2 h3 y9 y00 y01 y02 y10 y11 y12 y20 y21 y22 l0 d0 p0 e9 z0 kps pts wrk out mem abv cM cS cV cB) (wRH cI cZ cN cC r0 h0 h1 h2 h3 y9 y00 y01 y02 y10 y11 y12 y20 y21 y22 l0 d0 p0 e9 z0 kps pts wrk out mem abv cM res.2.1 res.2.2.1 res.2.2.2) (some (.int res.1)) := by
  refine x_enter (by decide) (Nat.le_of_ble_eq_true rfl) ?_
  intro p e s m args below meth c E ls hl hw
  have E : xE p s m args meth c cX6_add 6 (some .int) RX6 D (xtys cI cZ cN cC) (xA (wRH cI cZ cN cC r0 h0 h1 h2 h3 y9 y00 y01 y02 y10 y11 y12 y20 y21 y22 l0 d0 p0 e9 z0 kps pts wrk out mem abv cM cS cV cB)) := E
  obtain ⟨hx, hb, -⟩ := id E
  have hl : lv_has ls 6 [(0, .ref r0), (1, .int x1), (2, .int x2), (3, .int x3), (4, .int x4)] := hl
  unfold f_X6_add at hf
  refine lv_iload_n hx hb dX6_add_0 rfl (lv_at hl 1 rfl) ?_
  refine x_callS (isC := []) (ws' := (wRH cI cZ cN cC r0 h0 h1 h2 h3 y9 y00 y01 y02 y10 y11 y12 y20 y21 y22 l0 d0 p0 e9 z0 kps pts wrk out mem abv cM cS cV cB)) (st1 := [.int (f_X6_isChain x1)]) (As := [.int x1]) (rest := []) E hw vc_X6_210 (c_X6_isChain (cI := cI) (cZ := cZ) (cN := cN) (cC := cC)    (x0 := x1) rfl) rfl rfl rfl rfl rfl rfl ⟨Nat.le_of_ble_eq_true rfl, Nat.le_of_ble_eq_true rfl⟩ ⟨Nat.le_refl _, Nat.le_refl _⟩ hl.1 rfl rfl (Nat.le_of_ble_eq_true rfl) dX6_add_1 (fun H locs hw => ?_)
  refine lv_if_eq (tgt := 21) hx hb dX6_add_4 (by decide) (fun c1 => ?_) (fun c1 => ?_)
  · rw [if_pos c1] at hf
    refine lv_bipush (v := (-2)) hx hb dX6_add_21 (by decide) ?_
    have hf := Option.some.inj hf; subst hf
    exact x_iret E hw dX6_add_23
  · rw [if_neg c1] at hf
    refine lv_iload_n hx hb dX6_add_7 rfl (lv_at hl 2 rfl) ?_
    refine lv_iconst (v := 1) hx hb dX6_add_8 (by decide) ?_
    refine lv_icmp_ne (tgt := 24) hx hb dX6_add_9 (by decide) (fun c2 => ?_) (fun c2 => ?_)
    · rw [if_neg c2] at hf
      exact b_X6_add_24 E  hf _ _ _ hw (lv_sub hl [0, 1, 2, 3, 4] rfl)
    · rw [if_pos c2] at hf
      refine lv_aload_n hx hb dX6_add_12 rfl (lv_at hl 0 rfl) ?_
      refine lv_iload hx hb dX6_add_13 (lv_at hl 4 rfl) ?_
      refine x_callV (isC := [0, 1, 2, 3, 4]) (ws' := (wRH cI cZ cN cC r0 h0 h1 h2 h3 y9 y00 y01 y02 y10 y11 y12 y20 y21 y22 l0 d0 p0 e9 z0 kps pts wrk out mem abv cM cS cV cB)) (st1 := [.int (f_X6_isTellable x4 pts)]) (As := [.int x4]) (rest := []) E hw vc_X6_216 (c_X6_isTellable (cI := cI) (cZ := cZ) (cN := cN) (cC := cC) (r0 := r0) (h0 := h0) (h1 := h1) (h2 := h2) (h3 := h3) (l0 := l0) (d0 := d0) (p0 := p0) (e9 := e9) (z0 := z0) (y9 := y9)  (kps := kps) (pts := pts) (wrk := wrk) (out := out) (mem := mem) (abv := abv) (x1 := x4) rfl) 0 6 rfl rfl rfl rfl rfl rfl rfl rfl rfl ⟨Nat.le_of_ble_eq_true rfl, Nat.le_of_ble_eq_true rfl⟩ ⟨Nat.le_refl _, Nat.le_refl _⟩ hl.1 rfl rfl (Nat.le_of_ble_eq_true rfl) dX6_add_15 (fun H locs hw => ?_)
      refine lv_if_ne (tgt := 24) hx hb dX6_add_18 (by decide) (fun c3 => ?_) (fun c3 => ?_)
      · rw [if_neg c3] at hf
        exact b_X6_add_24 E  hf _ _ _ hw (lv_sub hl [0, 1, 2, 3, 4] rfl)
      · rw [if_pos c3] at hf
        refine lv_bipush (v := (-2)) hx hb dX6_add_21 (by decide) ?_
        have hf := Option.some.inj hf; subst hf
        exact x_iret E hw dX6_add_23

def f_X6_last_74 (x2 : Int32) (x4 : Int32) (t0 : Int32) (t1 : Int32) (cS : (Nat → Int32)) (cV : (Nat → Nat → Int32)) (ix3 : Nat) : Option (Int32 × (Nat → Int32)) :=
  if t1 = t0 then
   if x2 = 1 then
    if xin x4 8 then
    some (((cV ix3) (Int32.toNatClampNeg x4)), (va_up cS ix3 x4))
    else none
   else
    if xin x4 8 then
    some ((((cV ix3) (Int32.toNatClampNeg x4)) + 50000), (va_up cS ix3 x4))
    else none
  else
   some ((-13), cS)
set_option maxHeartbeats 4000000 in
set_option maxRecDepth 100000 in
theorem b_X6_last_74_y00 {p : Program} {l : Launch} {e : Env} {s : State} {m : MethodId} {args : Array Value} {below : List Frame} {meth : Method} {c : Code} {D : va_G} {cI cZ cN cC : ClassId} {ws0 : va_W} {r0 h0 h1 h2 h3 y9 y00 y01 y02 y10 y11 y12 y20 y21 y22 l0 d0 p0 e9 z0 : Nat} {x2 : Int32} {x4 : Int32} {t0 : Int32} {t1 : Int32} {kps : Int32} {pts : Int32} {wrk : Int32} {out : (Nat → Int32)} {mem : (Nat → Int32)} {abv : (Nat → Int32)} {cM : (Nat → Int32)} {cS : (Nat → Int32)} {cV : (Nat → Nat → Int32)} {cB : (Nat → Nat → Int32)} {res : Int32 × (Nat → Int32)} (E : xE p s m args meth c cX6_last 5 (some .int) RX6 D (xtys cI cZ cN cC) (xA ws0)) : f_X6_last_74 x2 x4 t0 t1 cS cV 0 = some res → ∀ (H : Heap) (locs : List Loc) (ls : Array Slot), xw D (xA ws0) s.heap (wRH cI cZ cN cC r0 h0 h1 h2 h3 y9 y00 y01 y02 y10 y11 y12 y20 y21 y22 l0 d0 p0 e9 z0 kps pts wrk out mem abv cM cS cV cB) H locs → lv_has ls 5 [(2, .int x2), (3, .ref y00), (4, .int x4)] → xG p l e 1 20 s m args below meth c D ws0 (wRH cI cZ cN cC r0 h0 h1 h2 h3 y9 y00 y01 y02 y10 y11 y12 y20 y21 y22 l0 d0 p0 e9 z0 kps pts wrk out mem abv cM res.2 cV cB) (some (.int res.1)) H locs (F0 m 74 ls [.int t0, .int t1]) := by
  obtain ⟨hx, hb, -⟩ := id E
  intro hf H locs ls hw hl
  unfold f_X6_last_74 at hf
  refine lv_icmp_eq (tgt := 80) hx hb dX6_last_74 (by decide) (fun c25 => ?_) (fun c25 => ?_)
  · rw [if_pos c25] at hf
    refine lv_aload_n hx hb dX6_last_80 rfl (lv_at hl 1 rfl) ?_
    refine lv_iload hx hb dX6_last_81 (lv_at hl 2 rfl) ?_
    refine x_put (ws' := (wRH cI cZ cN cC r0 h0 h1 h2 h3 y9 y00 y01 y02 y10 y11 y12 y20 y21 y22 l0 d0 p0 e9 z0 kps pts wrk out mem abv cM (va_up cS 0 x4) cV cB)) E hw kin_X0 tyX0 tyX0_ok nmX0 6 rfl rfl 3 (by decide) kF_X6_223 rfl (v := .int x4) rfl rfl (Nat.le_of_ble_eq_true rfl) rfl dX6_last_83 (fun H locs hw => ?_)
    refine lv_iload_n hx hb dX6_last_86 rfl (lv_at hl 0 rfl) ?_
    refine lv_iconst (v := 1) hx hb dX6_last_87 (by decide) ?_
    refine lv_icmp_ne (tgt := 101) hx hb dX6_last_88 (by decide) (fun c26 => ?_) (fun c26 => ?_)
    · rw [if_neg c26] at hf
      refine lv_aload_n hx hb dX6_last_101 rfl (lv_at hl 1 rfl) ?_
      refine x_get E hw kin_X0 6 rfl rfl 0 (by decide) kF_X6_232 (v := .ref y01) rfl dX6_last_102 ?_
      refine lv_iload hx hb dX6_last_105 (lv_at hl 2 rfl) ?_
      obtain ⟨g27, hf⟩ := xgd hf
      refine x_iald E hw 7 0 (f := (cV 0)) rfl rfl (xin_vp g27) dX6_last_107 ?_
      refine lv_ldc hx hb E.2.2.2.2.1 (E.2.2.2.2.2.1.2.use kK_X6_235) dX6_last_108 ?_
      refine lv_iadd hx hb dX6_last_110 ?_
      have hf := Option.some.inj hf; subst hf
      exact x_iret E hw dX6_last_111
    · rw [if_pos c26] at hf
      refine lv_aload_n hx hb dX6_last_91 rfl (lv_at hl 1 rfl) ?_
      refine x_get E hw kin_X0 6 rfl rfl 0 (by decide) kF_X6_232 (v := .ref y01) rfl dX6_last_92 ?_
      refine lv_iload hx hb dX6_last_95 (lv_at hl 2 rfl) ?_
      obtain ⟨g28, hf⟩ := xgd hf
      refine x_iald E hw 7 0 (f := (cV 0)) rfl rfl (xin_vp g28) dX6_last_97 ?_
      refine lv_goto (tgt := 111) hx hb dX6_last_98 (by decide) ?_
      have hf := Option.some.inj hf; subst hf
      exact x_iret E hw dX6_last_111
  · rw [if_neg c25] at hf
    refine lv_bipush (v := (-13)) hx hb dX6_last_77 (by decide) ?_
    have hf := Option.some.inj hf; subst hf
    exact x_iret E hw dX6_last_79
set_option maxHeartbeats 4000000 in
set_option maxRecDepth 100000 in
theorem b_X6_last_74_y10 {p : Program} {l : Launch} {e : Env} {s : State} {m : MethodId} {args : Array Value} {below : List Frame} {meth : Method} {c : Code} {D : va_G} {cI cZ cN cC : ClassId} {ws0 : va_W} {r0 h0 h1 h2 h3 y9 y00 y01 y02 y10 y11 y12 y20 y21 y22 l0 d0 p0 e9 z0 : Nat} {x2 : Int32} {x4 : Int32} {t0 : Int32} {t1 : Int32} {kps : Int32} {pts : Int32} {wrk : Int32} {out : (Nat → Int32)} {mem : (Nat → Int32)} {abv : (Nat → Int32)} {cM : (Nat → Int32)} {cS : (Nat → Int32)} {cV : (Nat → Nat → Int32)} {cB : (Nat → Nat → Int32)} {res : Int32 × (Nat → Int32)} (E : xE p s m args meth c cX6_last 5 (some .int) RX6 D (xtys cI cZ cN cC) (xA ws0)) : f_X6_last_74 x2 x4 t0 t1 cS cV 1 = some res → ∀ (H : Heap) (locs : List Loc) (ls : Array Slot), xw D (xA ws0) s.heap (wRH cI cZ cN cC r0 h0 h1 h2 h3 y9 y00 y01 y02 y10 y11 y12 y20 y21 y22 l0 d0 p0 e9 z0 kps pts wrk out mem abv cM cS cV cB) H locs → lv_has ls 5 [(2, .int x2), (3, .ref y10), (4, .int x4)] → xG p l e 1 20 s m args below meth c D ws0 (wRH cI cZ cN cC r0 h0 h1 h2 h3 y9 y00 y01 y02 y10 y11 y12 y20 y21 y22 l0 d0 p0 e9 z0 kps pts wrk out mem abv cM res.2 cV cB) (some (.int res.1)) H locs (F0 m 74 ls [.int t0, .int t1]) := by
  obtain ⟨hx, hb, -⟩ := id E
  intro hf H locs ls hw hl
  unfold f_X6_last_74 at hf
  refine lv_icmp_eq (tgt := 80) hx hb dX6_last_74 (by decide) (fun c29 => ?_) (fun c29 => ?_)
  · rw [if_pos c29] at hf
    refine lv_aload_n hx hb dX6_last_80 rfl (lv_at hl 1 rfl) ?_
    refine lv_iload hx hb dX6_last_81 (lv_at hl 2 rfl) ?_
    refine x_put (ws' := (wRH cI cZ cN cC r0 h0 h1 h2 h3 y9 y00 y01 y02 y10 y11 y12 y20 y21 y22 l0 d0 p0 e9 z0 kps pts wrk out mem abv cM (va_up cS 1 x4) cV cB)) E hw kin_X0 tyX0 tyX0_ok nmX0 9 rfl rfl 3 (by decide) kF_X6_223 rfl (v := .int x4) rfl rfl (Nat.le_of_ble_eq_true rfl) rfl dX6_last_83 (fun H locs hw => ?_)
    refine lv_iload_n hx hb dX6_last_86 rfl (lv_at hl 0 rfl) ?_
    refine lv_iconst (v := 1) hx hb dX6_last_87 (by decide) ?_
    refine lv_icmp_ne (tgt := 101) hx hb dX6_last_88 (by decide) (fun c30 => ?_) (fun c30 => ?_)
    · rw [if_neg c30] at hf
      refine lv_aload_n hx hb dX6_last_101 rfl (lv_at hl 1 rfl) ?_
      refine x_get E hw kin_X0 9 rfl rfl 0 (by decide) kF_X6_232 (v := .ref y11) rfl dX6_last_102 ?_
      refine lv_iload hx hb dX6_last_105 (lv_at hl 2 rfl) ?_
      obtain ⟨g31, hf⟩ := xgd hf
      refine x_iald E hw 10 0 (f := (cV 1)) rfl rfl (xin_vp g31) dX6_last_107 ?_
      refine lv_ldc hx hb E.2.2.2.2.1 (E.2.2.2.2.2.1.2.use kK_X6_235) dX6_last_108 ?_
      refine lv_iadd hx hb dX6_last_110 ?_
      have hf := Option.some.inj hf; subst hf
      exact x_iret E hw dX6_last_111
    · rw [if_pos c30] at hf
      refine lv_aload_n hx hb dX6_last_91 rfl (lv_at hl 1 rfl) ?_
      refine x_get E hw kin_X0 9 rfl rfl 0 (by decide) kF_X6_232 (v := .ref y11) rfl dX6_last_92 ?_
      refine lv_iload hx hb dX6_last_95 (lv_at hl 2 rfl) ?_
      obtain ⟨g32, hf⟩ := xgd hf
      refine x_iald E hw 10 0 (f := (cV 1)) rfl rfl (xin_vp g32) dX6_last_97 ?_
      refine lv_goto (tgt := 111) hx hb dX6_last_98 (by decide) ?_
      have hf := Option.some.inj hf; subst hf
      exact x_iret E hw dX6_last_111
  · rw [if_neg c29] at hf
    refine lv_bipush (v := (-13)) hx hb dX6_last_77 (by decide) ?_
    have hf := Option.some.inj hf; subst hf
    exact x_iret E hw dX6_last_79
set_option maxHeartbeats 4000000 in
set_option maxRecDepth 100000 in
theorem b_X6_last_74_y20 {p : Program} {l : Launch} {e : Env} {s : State} {m : MethodId} {args : Array Value} {below : List Frame} {meth : Method} {c : Code} {D : va_G} {cI cZ cN cC : ClassId} {ws0 : va_W} {r0 h0 h1 h2 h3 y9 y00 y01 y02 y10 y11 y12 y20 y21 y22 l0 d0 p0 e9 z0 : Nat} {x2 : Int32} {x4 : Int32} {t0 : Int32} {t1 : Int32} {kps : Int32} {pts : Int32} {wrk : Int32} {out : (Nat → Int32)} {mem : (Nat → Int32)} {abv : (Nat → Int32)} {cM : (Nat → Int32)} {cS : (Nat → Int32)} {cV : (Nat → Nat → Int32)} {cB : (Nat → Nat → Int32)} {res : Int32 × (Nat → Int32)} (E : xE p s m args meth c cX6_last 5 (some .int) RX6 D (xtys cI cZ cN cC) (xA ws0)) : f_X6_last_74 x2 x4 t0 t1 cS cV 2 = some res → ∀ (H : Heap) (locs : List Loc) (ls : Array Slot), xw D (xA ws0) s.heap (wRH cI cZ cN cC r0 h0 h1 h2 h3 y9 y00 y01 y02 y10 y11 y12 y20 y21 y22 l0 d0 p0 e9 z0 kps pts wrk out mem abv cM cS cV cB) H locs → lv_has ls 5 [(2, .int x2), (3, .ref y20), (4, .int x4)] → xG p l e 1 20 s m args below meth c D ws0 (wRH cI cZ cN cC r0 h0 h1 h2 h3 y9 y00 y01 y02 y10 y11 y12 y20 y21 y22 l0 d0 p0 e9 z0 kps pts wrk out mem abv cM res.2 cV cB) (some (.int res.1)) H locs (F0 m 74 ls [.int t0, .int t1]) := by
  obtain ⟨hx, hb, -⟩ := id E
  intro hf H locs ls hw hl
  unfold f_X6_last_74 at hf
  refine lv_icmp_eq (tgt := 80) hx hb dX6_last_74 (by decide) (fun c33 => ?_) (fun c33 => ?_)
  · rw [if_pos c33] at hf
    refine lv_aload_n hx hb dX6_last_80 rfl (lv_at hl 1 rfl) ?_
    refine lv_iload hx hb dX6_last_81 (lv_at hl 2 rfl) ?_
    refine x_put (ws' := (wRH cI cZ cN cC r0 h0 h1 h2 h3 y9 y00 y01 y02 y10 y11 y12 y20 y21 y22 l0 d0 p0 e9 z0 kps pts wrk out mem abv cM (va_up cS 2 x4) cV cB)) E hw kin_X0 tyX0 tyX0_ok nmX0 12 rfl rfl 3 (by decide) kF_X6_223 rfl (v := .int x4) rfl rfl (Nat.le_of_ble_eq_true rfl) rfl dX6_last_83 (fun H locs hw => ?_)
    refine lv_iload_n hx hb dX6_last_86 rfl (lv_at hl 0 rfl) ?_
    refine lv_iconst (v := 1) hx hb dX6_last_87 (by decide) ?_
    refine lv_icmp_ne (tgt := 101) hx hb dX6_last_88 (by decide) (fun c34 => ?_) (fun c34 => ?_)
    · rw [if_neg c34] at hf
      refine lv_aload_n hx hb dX6_last_101 rfl (lv_at hl 1 rfl) ?_
      refine x_get E hw kin_X0 12 rfl rfl 0 (by decide) kF_X6_232 (v := .ref y21) rfl dX6_last_102 ?_
      refine lv_iload hx hb dX6_last_105 (lv_at hl 2 rfl) ?_
      obtain ⟨g35, hf⟩ := xgd hf
      refine x_iald E hw 13 0 (f := (cV 2)) rfl rfl (xin_vp g35) dX6_last_107 ?_
      refine lv_ldc hx hb E.2.2.2.2.1 (E.2.2.2.2.2.1.2.use kK_X6_235) dX6_last_108 ?_
      refine lv_iadd hx hb dX6_last_110 ?_
      have hf := Option.some.inj hf; subst hf
      exact x_iret E hw dX6_last_111
    · rw [if_pos c34] at hf
      refine lv_aload_n hx hb dX6_last_91 rfl (lv_at hl 1 rfl) ?_
      refine x_get E hw kin_X0 12 rfl rfl 0 (by decide) kF_X6_232 (v := .ref y21) rfl dX6_last_92 ?_
      refine lv_iload hx hb dX6_last_95 (lv_at hl 2 rfl) ?_
      obtain ⟨g36, hf⟩ := xgd hf
      refine x_iald E hw 13 0 (f := (cV 2)) rfl rfl (xin_vp g36) dX6_last_97 ?_
      refine lv_goto (tgt := 111) hx hb dX6_last_98 (by decide) ?_
      have hf := Option.some.inj hf; subst hf
      exact x_iret E hw dX6_last_111
  · rw [if_neg c33] at hf
    refine lv_bipush (v := (-13)) hx hb dX6_last_77 (by decide) ?_
    have hf := Option.some.inj hf; subst hf
    exact x_iret E hw dX6_last_79
def f_X6_last (x1 : Int32) (x2 : Int32) (cM : (Nat → Int32)) (cS : (Nat → Int32)) (cV : (Nat → Nat → Int32)) (cB : (Nat → Nat → Int32)) : Option (Int32 × (Nat → Int32)) :=
  if (f_X6_isChain x1) = 0 then
   some ((-2), cS)
  else
   if x2 < 0 then
    some ((-3), cS)
   else
    if x2 ≤ 1 then
     if xin x1 3 then
     if (cM (Int32.toNatClampNeg x1)) = 0 then
      if (cS (Int32.toNatClampNeg x1)) = 0 then
       some ((-12), cS)
      else
       if xin ((cS (Int32.toNatClampNeg x1)) - 1) 8 then
       if x2 = 1 then
        f_X6_last_74 x2 ((cS (Int32.toNatClampNeg x1)) - 1) 1 ((cB (Int32.toNatClampNeg x1)) (Int32.toNatClampNeg ((cS (Int32.toNatClampNeg x1)) - 1))) cS cV (Int32.toNatClampNeg x1)
       else
        f_X6_last_74 x2 ((cS (Int32.toNatClampNeg x1)) - 1) 0 ((cB (Int32.toNatClampNeg x1)) (Int32.toNatClampNeg ((cS (Int32.toNatClampNeg x1)) - 1))) cS cV (Int32.toNatClampNeg x1)
       else none
     else
      some ((-11), cS)
     else none
    else
     some ((-3), cS)
set_option maxHeartbeats 4000000 in
set_option maxRecDepth 100000 in
theorem c_X6_last {l : Launch} {D : va_G} {cI cZ cN cC : ClassId} {r0 h0 h1 h2 h3 y9 y00 y01 y02 y10 y11 y12 y20 y21 y22 l0 d0 p0 e9 z0 : Nat} {kps : Int32} {pts : Int32} {wrk : Int32} {out : (Nat → Int32)} {mem : (Nat → Int32)} {abv : (Nat → Int32)} {cM : (Nat → Int32)} {cS : (Nat → Int32)} {cV : (Nat → Nat → Int32)} {cB : (Nat → Nat → Int32)} {x1 : Int32} {x2 : Int32} {res : Int32 × (Nat → Int32)} (hf : f_X6_last x1 x2 cM cS cV cB = some res) : xMet l D (xtys cI cZ cN cC) yX6_last cX6_last 5 (some .int) 1 20 [.ref r0, .int x1, .int x2] (wRH cI cZ cN cC r0 h0 h1 h2 h3 y9 y00 y01 y02 y10 y11 y12 y20 y21 y22 l0 d0 p0 e9 z0 kps pts wrk out mem abv cM cS cV cB) (wRH cI cZ cN cC r0 h0 h1 h2 h3 y9 y00 y01 y02 y10 y11 y12 y20 y21 y22 l0 d0 p0 e9 z0 kps pts wrk out mem abv cM res.2 cV cB) (some (.int res.1)) := by
  refine x_enter (by decide) (Nat.le_of_ble_eq_true rfl) ?_
  intro p e s m args below meth c E ls hl hw
  have E : xE p s m args meth c cX6_last 5 (some .int) RX6 D (xtys cI cZ cN cC) (xA (wRH cI cZ cN cC r0 h0 h1 h2 h3 y9 y00 y01 y02 y10 y11 y12 y20 y21 y22 l0 d0 p0 e9 z0 kps pts wrk out mem abv cM cS cV cB)) := E
  obtain ⟨hx, hb, -⟩ := id E
  have hl : lv_has ls 5 [(0, .ref r0), (1, .int x1), (2, .int x2)] := hl
  unfold f_X6_last at hf
  refine lv_iload_n hx hb dX6_last_0 rfl (lv_at hl 1 rfl) ?_
  refine x_callS (isC := []) (ws' := (wRH cI cZ cN cC r0 h0 h1 h2 h3 y9 y00 y01 y02 y10 y11 y12 y20 y21 y22 l0 d0 p0 e9 z0 kps pts wrk out mem abv cM cS cV cB)) (st1 := [.int (f_X6_isChain x1)]) (As := [.int x1]) (rest := []) E hw vc_X6_210 (c_X6_isChain (cI := cI) (cZ := cZ) (cN := cN) (cC := cC)    (x0 := x1) rfl) rfl rfl rfl rfl rfl rfl ⟨Nat.le_of_ble_eq_true rfl, Nat.le_of_ble_eq_true rfl⟩ ⟨Nat.le_refl _, Nat.le_refl _⟩ hl.1 rfl rfl (Nat.le_of_ble_eq_true rfl) dX6_last_1 (fun H locs hw => ?_)
  refine lv_if_ne (tgt := 10) hx hb dX6_last_4 (by decide) (fun c1 => ?_) (fun c1 => ?_)
  · rw [if_neg c1] at hf
    refine lv_iload_n hx hb dX6_last_10 rfl (lv_at hl 2 rfl) ?_
    refine lv_if_lt (tgt := 19) hx hb dX6_last_11 (by decide) (fun c2 => ?_) (fun c2 => ?_)
    · rw [if_pos c2] at hf
      refine lv_bipush (v := (-3)) hx hb dX6_last_19 (by decide) ?_
      have hf := Option.some.inj hf; subst hf
      exact x_iret E hw dX6_last_21
    · rw [if_neg c2] at hf
      refine lv_iload_n hx hb dX6_last_14 rfl (lv_at hl 2 rfl) ?_
      refine lv_iconst (v := 1) hx hb dX6_last_15 (by decide) ?_
      refine lv_icmp_le (tgt := 22) hx hb dX6_last_16 (by decide) (fun c3 => ?_) (fun c3 => ?_)
      · rw [if_pos c3] at hf
        refine lv_aload_n hx hb dX6_last_22 rfl (lv_at hl 0 rfl) ?_
        refine x_get E hw kin_X6 0 rfl rfl 7 (by decide) kF_X6_56 (v := .ref y9) rfl dX6_last_23 ?_
        refine lv_iload_n hx hb dX6_last_26 rfl (lv_at hl 1 rfl) ?_
        obtain ⟨g4, hf⟩ := xgd hf
        rcases x_in3 (xin_vp g4) with ce | ce | ce
        · subst ce
          refine x_aald E hw 5 3 rfl rfl (xin_vp (by decide)) (w := .ref y00) rfl dX6_last_27 ?_
          refine lv_astore_n (lv' := [(3, .ref y00), (0, .ref r0), (1, .int (0 : Int32)), (2, .int x2)]) hx hb dX6_last_28 rfl hl (by decide) rfl (fun ls hl => ?_)
          refine lv_aload_n hx hb dX6_last_29 rfl (lv_at hl 0 rfl) ?_
          refine x_get E hw kin_X0 6 rfl rfl 2 (by decide) kF_X6_219 (v := .int (cM (Int32.toNatClampNeg (0 : Int32)))) rfl dX6_last_30 ?_
          refine lv_if_eq (tgt := 39) hx hb dX6_last_33 (by decide) (fun c9 => ?_) (fun c9 => ?_)
          · rw [if_pos c9] at hf
            refine lv_aload_n hx hb dX6_last_39 rfl (lv_at hl 0 rfl) ?_
            refine x_get E hw kin_X0 6 rfl rfl 3 (by decide) kF_X6_223 (v := .int (cS (Int32.toNatClampNeg (0 : Int32)))) rfl dX6_last_40 ?_
            refine lv_if_ne (tgt := 49) hx hb dX6_last_43 (by decide) (fun c10 => ?_) (fun c10 => ?_)
            · rw [if_neg c10] at hf
              refine lv_aload_n hx hb dX6_last_49 rfl (lv_at hl 0 rfl) ?_
              refine x_get E hw kin_X0 6 rfl rfl 3 (by decide) kF_X6_223 (v := .int (cS (Int32.toNatClampNeg (0 : Int32)))) rfl dX6_last_50 ?_
              refine lv_iconst (v := 1) hx hb dX6_last_53 (by decide) ?_
              refine lv_isub hx hb dX6_last_54 ?_
              refine lv_istore (lv' := [(4, .int ((cS (Int32.toNatClampNeg (0 : Int32))) - 1)), (3, .ref y00), (0, .ref r0), (1, .int (0 : Int32)), (2, .int x2)]) hx hb dX6_last_55 hl (by decide) rfl (fun ls hl => ?_)
              refine lv_aload_n hx hb dX6_last_57 rfl (lv_at hl 1 rfl) ?_
              refine x_get E hw kin_X0 6 rfl rfl 1 (by decide) kF_X6_228 (v := .ref y02) rfl dX6_last_58 ?_
              refine lv_iload hx hb dX6_last_61 (lv_at hl 0 rfl) ?_
              obtain ⟨g11, hf⟩ := xgd hf
              refine x_zald E hw 8 1 (f := (cB (Int32.toNatClampNeg (0 : Int32)))) rfl rfl (xin_vp g11) dX6_last_63 ?_
              refine lv_iload_n hx hb dX6_last_64 rfl (lv_at hl 4 rfl) ?_
              refine lv_iconst (v := 1) hx hb dX6_last_65 (by decide) ?_
              refine lv_icmp_ne (tgt := 73) hx hb dX6_last_66 (by decide) (fun c12 => ?_) (fun c12 => ?_)
              · rw [if_neg c12] at hf
                refine lv_iconst (v := 0) hx hb dX6_last_73 (by decide) ?_
                exact b_X6_last_74_y00 E  hf _ _ _ hw (lv_sub hl [4, 1, 0] rfl)
              · rw [if_pos c12] at hf
                refine lv_iconst (v := 1) hx hb dX6_last_69 (by decide) ?_
                refine lv_goto (tgt := 74) hx hb dX6_last_70 (by decide) ?_
                exact b_X6_last_74_y00 E  hf _ _ _ hw (lv_sub hl [4, 1, 0] rfl)
            · rw [if_pos c10] at hf
              refine lv_bipush (v := (-12)) hx hb dX6_last_46 (by decide) ?_
              have hf := Option.some.inj hf; subst hf
              exact x_iret E hw dX6_last_48
          · rw [if_neg c9] at hf
            refine lv_bipush (v := (-11)) hx hb dX6_last_36 (by decide) ?_
            have hf := Option.some.inj hf; subst hf
            exact x_iret E hw dX6_last_38
        · subst ce
          refine x_aald E hw 5 3 rfl rfl (xin_vp (by decide)) (w := .ref y10) rfl dX6_last_27 ?_
          refine lv_astore_n (lv' := [(3, .ref y10), (0, .ref r0), (1, .int (1 : Int32)), (2, .int x2)]) hx hb dX6_last_28 rfl hl (by decide) rfl (fun ls hl => ?_)
          refine lv_aload_n hx hb dX6_last_29 rfl (lv_at hl 0 rfl) ?_
          refine x_get E hw kin_X0 9 rfl rfl 2 (by decide) kF_X6_219 (v := .int (cM (Int32.toNatClampNeg (1 : Int32)))) rfl dX6_last_30 ?_
          refine lv_if_eq (tgt := 39) hx hb dX6_last_33 (by decide) (fun c13 => ?_) (fun c13 => ?_)
          · rw [if_pos c13] at hf
            refine lv_aload_n hx hb dX6_last_39 rfl (lv_at hl 0 rfl) ?_
            refine x_get E hw kin_X0 9 rfl rfl 3 (by decide) kF_X6_223 (v := .int (cS (Int32.toNatClampNeg (1 : Int32)))) rfl dX6_last_40 ?_
            refine lv_if_ne (tgt := 49) hx hb dX6_last_43 (by decide) (fun c14 => ?_) (fun c14 => ?_)
            · rw [if_neg c14] at hf
              refine lv_aload_n hx hb dX6_last_49 rfl (lv_at hl 0 rfl) ?_
              refine x_get E hw kin_X0 9 rfl rfl 3 (by decide) kF_X6_223 (v := .int (cS (Int32.toNatClampNeg (1 : Int32)))) rfl dX6_last_50 ?_
              refine lv_iconst (v := 1) hx hb dX6_last_53 (by decide) ?_
              refine lv_isub hx hb dX6_last_54 ?_
              refine lv_istore (lv' := [(4, .int ((cS (Int32.toNatClampNeg (1 : Int32))) - 1)), (3, .ref y10), (0, .ref r0), (1, .int (1 : Int32)), (2, .int x2)]) hx hb dX6_last_55 hl (by decide) rfl (fun ls hl => ?_)
              refine lv_aload_n hx hb dX6_last_57 rfl (lv_at hl 1 rfl) ?_
              refine x_get E hw kin_X0 9 rfl rfl 1 (by decide) kF_X6_228 (v := .ref y12) rfl dX6_last_58 ?_
              refine lv_iload hx hb dX6_last_61 (lv_at hl 0 rfl) ?_
              obtain ⟨g15, hf⟩ := xgd hf
              refine x_zald E hw 11 1 (f := (cB (Int32.toNatClampNeg (1 : Int32)))) rfl rfl (xin_vp g15) dX6_last_63 ?_
              refine lv_iload_n hx hb dX6_last_64 rfl (lv_at hl 4 rfl) ?_
              refine lv_iconst (v := 1) hx hb dX6_last_65 (by decide) ?_
              refine lv_icmp_ne (tgt := 73) hx hb dX6_last_66 (by decide) (fun c16 => ?_) (fun c16 => ?_)
              · rw [if_neg c16] at hf
                refine lv_iconst (v := 0) hx hb dX6_last_73 (by decide) ?_
                exact b_X6_last_74_y10 E  hf _ _ _ hw (lv_sub hl [4, 1, 0] rfl)
              · rw [if_pos c16] at hf
                refine lv_iconst (v := 1) hx hb dX6_last_69 (by decide) ?_
                refine lv_goto (tgt := 74) hx hb dX6_last_70 (by decide) ?_
                exact b_X6_last_74_y10 E  hf _ _ _ hw (lv_sub hl [4, 1, 0] rfl)
            · rw [if_pos c14] at hf
              refine lv_bipush (v := (-12)) hx hb dX6_last_46 (by decide) ?_
              have hf := Option.some.inj hf; subst hf
              exact x_iret E hw dX6_last_48
          · rw [if_neg c13] at hf
            refine lv_bipush (v := (-11)) hx hb dX6_last_36 (by decide) ?_
            have hf := Option.some.inj hf; subst hf
            exact x_iret E hw dX6_last_38
        · subst ce
          refine x_aald E hw 5 3 rfl rfl (xin_vp (by decide)) (w := .ref y20) rfl dX6_last_27 ?_
          refine lv_astore_n (lv' := [(3, .ref y20), (0, .ref r0), (1, .int (2 : Int32)), (2, .int x2)]) hx hb dX6_last_28 rfl hl (by decide) rfl (fun ls hl => ?_)
          refine lv_aload_n hx hb dX6_last_29 rfl (lv_at hl 0 rfl) ?_
          refine x_get E hw kin_X0 12 rfl rfl 2 (by decide) kF_X6_219 (v := .int (cM (Int32.toNatClampNeg (2 : Int32)))) rfl dX6_last_30 ?_
          refine lv_if_eq (tgt := 39) hx hb dX6_last_33 (by decide) (fun c17 => ?_) (fun c17 => ?_)
          · rw [if_pos c17] at hf
            refine lv_aload_n hx hb dX6_last_39 rfl (lv_at hl 0 rfl) ?_
            refine x_get E hw kin_X0 12 rfl rfl 3 (by decide) kF_X6_223 (v := .int (cS (Int32.toNatClampNeg (2 : Int32)))) rfl dX6_last_40 ?_
            refine lv_if_ne (tgt := 49) hx hb dX6_last_43 (by decide) (fun c18 => ?_) (fun c18 => ?_)
            · rw [if_neg c18] at hf
              refine lv_aload_n hx hb dX6_last_49 rfl (lv_at hl 0 rfl) ?_
              refine x_get E hw kin_X0 12 rfl rfl 3 (by decide) kF_X6_223 (v := .int (cS (Int32.toNatClampNeg (2 : Int32)))) rfl dX6_last_50 ?_
              refine lv_iconst (v := 1) hx hb dX6_last_53 (by decide) ?_
              refine lv_isub hx hb dX6_last_54 ?_
              refine lv_istore (lv' := [(4, .int ((cS (Int32.toNatClampNeg (2 : Int32))) - 1)), (3, .ref y20), (0, .ref r0), (1, .int (2 : Int32)), (2, .int x2)]) hx hb dX6_last_55 hl (by decide) rfl (fun ls hl => ?_)
              refine lv_aload_n hx hb dX6_last_57 rfl (lv_at hl 1 rfl) ?_
              refine x_get E hw kin_X0 12 rfl rfl 1 (by decide) kF_X6_228 (v := .ref y22) rfl dX6_last_58 ?_
              refine lv_iload hx hb dX6_last_61 (lv_at hl 0 rfl) ?_
              obtain ⟨g19, hf⟩ := xgd hf
              refine x_zald E hw 14 1 (f := (cB (Int32.toNatClampNeg (2 : Int32)))) rfl rfl (xin_vp g19) dX6_last_63 ?_
              refine lv_iload_n hx hb dX6_last_64 rfl (lv_at hl 4 rfl) ?_
              refine lv_iconst (v := 1) hx hb dX6_last_65 (by decide) ?_
              refine lv_icmp_ne (tgt := 73) hx hb dX6_last_66 (by decide) (fun c20 => ?_) (fun c20 => ?_)
              · rw [if_neg c20] at hf
                refine lv_iconst (v := 0) hx hb dX6_last_73 (by decide) ?_
                exact b_X6_last_74_y20 E  hf _ _ _ hw (lv_sub hl [4, 1, 0] rfl)
              · rw [if_pos c20] at hf
                refine lv_iconst (v := 1) hx hb dX6_last_69 (by decide) ?_
                refine lv_goto (tgt := 74) hx hb dX6_last_70 (by decide) ?_
                exact b_X6_last_74_y20 E  hf _ _ _ hw (lv_sub hl [4, 1, 0] rfl)
            · rw [if_pos c18] at hf
              refine lv_bipush (v := (-12)) hx hb dX6_last_46 (by decide) ?_
              have hf := Option.some.inj hf; subst hf
              exact x_iret E hw dX6_last_48
          · rw [if_neg c17] at hf
            refine lv_bipush (v := (-11)) hx hb dX6_last_36 (by decide) ?_
            have hf := Option.some.inj hf; subst hf
            exact x_iret E hw dX6_last_38
      · rw [if_neg c3] at hf
        refine lv_bipush (v := (-3)) hx hb dX6_last_19 (by decide) ?_
        have hf := Option.some.inj hf; subst hf
        exact x_iret E hw dX6_last_21
  · rw [if_pos c1] at hf
    refine lv_bipush (v := (-2)) hx hb dX6_last_7 (by decide) ?_
    have hf := Option.some.inj hf; subst hf
    exact x_iret E hw dX6_last_9

def f_X6_sum_53 (N : Nat) (x2 : Int32) (t0 : Int32) (cS : (Nat → Int32)) (cV : (Nat → Nat → Int32)) (cB : (Nat → Nat → Int32)) (iy1 : Nat) : Option (Int32) :=
  if x2 = 0 then
   (f_X0_total N t0 0 (cS iy1) (cV iy1) (cB iy1)).bind fun q21 =>
   some (q21 + 500000)
  else
   (f_X0_total N t0 1 (cS iy1) (cV iy1) (cB iy1)).bind fun q22 =>
   some (q22 + 500000)
set_option maxHeartbeats 4000000 in
set_option maxRecDepth 100000 in
theorem b_X6_sum_53_y00 {p : Program} {l : Launch} {e : Env} {s : State} {m : MethodId} {args : Array Value} {below : List Frame} {meth : Method} {c : Code} {D : va_G} {cI cZ cN cC : ClassId} {ws0 : va_W} {r0 h0 h1 h2 h3 y9 y00 y01 y02 y10 y11 y12 y20 y21 y22 l0 d0 p0 e9 z0 : Nat} {x2 : Int32} {t0 : Int32} {kps : Int32} {pts : Int32} {wrk : Int32} {out : (Nat → Int32)} {mem : (Nat → Int32)} {abv : (Nat → Int32)} {cM : (Nat → Int32)} {cS : (Nat → Int32)} {cV : (Nat → Nat → Int32)} {cB : (Nat → Nat → Int32)} {N : Nat} {res : Int32} (E : xE p s m args meth c cX6_sum 3 (some .int) RX6 D (xtys cI cZ cN cC) (xA ws0)) : f_X6_sum_53 N x2 t0 cS cV cB 0 = some res → ∀ (H : Heap) (locs : List Loc) (ls : Array Slot), xw D (xA ws0) s.heap (wRH cI cZ cN cC r0 h0 h1 h2 h3 y9 y00 y01 y02 y10 y11 y12 y20 y21 y22 l0 d0 p0 e9 z0 kps pts wrk out mem abv cM cS cV cB) H locs → lv_has ls 3 [(2, .int x2)] → xG p l e 1 24 s m args below meth c D ws0 (wRH cI cZ cN cC r0 h0 h1 h2 h3 y9 y00 y01 y02 y10 y11 y12 y20 y21 y22 l0 d0 p0 e9 z0 kps pts wrk out mem abv cM cS cV cB) (some (.int res)) H locs (F0 m 53 ls [.int t0, .ref y00]) := by
  obtain ⟨hx, hb, -⟩ := id E
  intro hf H locs ls hw hl
  unfold f_X6_sum_53 at hf
  refine lv_iload_n hx hb dX6_sum_53 rfl (lv_at hl 0 rfl) ?_
  refine lv_if_eq (tgt := 61) hx hb dX6_sum_54 (by decide) (fun c23 => ?_) (fun c23 => ?_)
  · rw [if_pos c23] at hf
    refine lv_iconst (v := 0) hx hb dX6_sum_61 (by decide) ?_
    obtain ⟨q24, hq24, hf⟩ := Option.bind_eq_some_iff.mp hf
    refine x_callV (isC := [6, 7, 8]) (ws' := (wRH cI cZ cN cC r0 h0 h1 h2 h3 y9 y00 y01 y02 y10 y11 y12 y20 y21 y22 l0 d0 p0 e9 z0 kps pts wrk out mem abv cM cS cV cB)) (st1 := [.int q24]) (As := [.int t0, .int 0]) (rest := []) E hw vc_X6_236 (c_X0_total (cI := cI) (cZ := cZ) (cN := cN) (cC := cC) (h0 := y00) (h1 := y01) (h2 := y02)  (mis := (cM 0)) (siz := (cS 0)) (val := (cV 0)) (isa := (cB 0)) (x1 := t0) (x2 := 0) hq24) 6 0 rfl rfl rfl rfl rfl rfl rfl rfl rfl ⟨Nat.le_of_ble_eq_true rfl, Nat.le_of_ble_eq_true rfl⟩ ⟨Nat.le_refl _, Nat.le_refl _⟩ hl.1 rfl rfl (Nat.le_of_ble_eq_true rfl) dX6_sum_62 (fun H locs hw => ?_)
    refine lv_ldc hx hb E.2.2.2.2.1 (E.2.2.2.2.2.1.2.use kK_X6_240) dX6_sum_65 ?_
    refine lv_iadd hx hb dX6_sum_67 ?_
    have hf := Option.some.inj hf; subst hf
    exact x_iret E hw dX6_sum_68
  · rw [if_neg c23] at hf
    refine lv_iconst (v := 1) hx hb dX6_sum_57 (by decide) ?_
    refine lv_goto (tgt := 62) hx hb dX6_sum_58 (by decide) ?_
    obtain ⟨q25, hq25, hf⟩ := Option.bind_eq_some_iff.mp hf
    refine x_callV (isC := [6, 7, 8]) (ws' := (wRH cI cZ cN cC r0 h0 h1 h2 h3 y9 y00 y01 y02 y10 y11 y12 y20 y21 y22 l0 d0 p0 e9 z0 kps pts wrk out mem abv cM cS cV cB)) (st1 := [.int q25]) (As := [.int t0, .int 1]) (rest := []) E hw vc_X6_236 (c_X0_total (cI := cI) (cZ := cZ) (cN := cN) (cC := cC) (h0 := y00) (h1 := y01) (h2 := y02)  (mis := (cM 0)) (siz := (cS 0)) (val := (cV 0)) (isa := (cB 0)) (x1 := t0) (x2 := 1) hq25) 6 0 rfl rfl rfl rfl rfl rfl rfl rfl rfl ⟨Nat.le_of_ble_eq_true rfl, Nat.le_of_ble_eq_true rfl⟩ ⟨Nat.le_refl _, Nat.le_refl _⟩ hl.1 rfl rfl (Nat.le_of_ble_eq_true rfl) dX6_sum_62 (fun H locs hw => ?_)
    refine lv_ldc hx hb E.2.2.2.2.1 (E.2.2.2.2.2.1.2.use kK_X6_240) dX6_sum_65 ?_
    refine lv_iadd hx hb dX6_sum_67 ?_
    have hf := Option.some.inj hf; subst hf
    exact x_iret E hw dX6_sum_68
set_option maxHeartbeats 4000000 in
set_option maxRecDepth 100000 in
theorem b_X6_sum_53_y10 {p : Program} {l : Launch} {e : Env} {s : State} {m : MethodId} {args : Array Value} {below : List Frame} {meth : Method} {c : Code} {D : va_G} {cI cZ cN cC : ClassId} {ws0 : va_W} {r0 h0 h1 h2 h3 y9 y00 y01 y02 y10 y11 y12 y20 y21 y22 l0 d0 p0 e9 z0 : Nat} {x2 : Int32} {t0 : Int32} {kps : Int32} {pts : Int32} {wrk : Int32} {out : (Nat → Int32)} {mem : (Nat → Int32)} {abv : (Nat → Int32)} {cM : (Nat → Int32)} {cS : (Nat → Int32)} {cV : (Nat → Nat → Int32)} {cB : (Nat → Nat → Int32)} {N : Nat} {res : Int32} (E : xE p s m args meth c cX6_sum 3 (some .int) RX6 D (xtys cI cZ cN cC) (xA ws0)) : f_X6_sum_53 N x2 t0 cS cV cB 1 = some res → ∀ (H : Heap) (locs : List Loc) (ls : Array Slot), xw D (xA ws0) s.heap (wRH cI cZ cN cC r0 h0 h1 h2 h3 y9 y00 y01 y02 y10 y11 y12 y20 y21 y22 l0 d0 p0 e9 z0 kps pts wrk out mem abv cM cS cV cB) H locs → lv_has ls 3 [(2, .int x2)] → xG p l e 1 24 s m args below meth c D ws0 (wRH cI cZ cN cC r0 h0 h1 h2 h3 y9 y00 y01 y02 y10 y11 y12 y20 y21 y22 l0 d0 p0 e9 z0 kps pts wrk out mem abv cM cS cV cB) (some (.int res)) H locs (F0 m 53 ls [.int t0, .ref y10]) := by
  obtain ⟨hx, hb, -⟩ := id E
  intro hf H locs ls hw hl
  unfold f_X6_sum_53 at hf
  refine lv_iload_n hx hb dX6_sum_53 rfl (lv_at hl 0 rfl) ?_
  refine lv_if_eq (tgt := 61) hx hb dX6_sum_54 (by decide) (fun c26 => ?_) (fun c26 => ?_)
  · rw [if_pos c26] at hf
    refine lv_iconst (v := 0) hx hb dX6_sum_61 (by decide) ?_
    obtain ⟨q27, hq27, hf⟩ := Option.bind_eq_some_iff.mp hf
    refine x_callV (isC := [9, 10, 11]) (ws' := (wRH cI cZ cN cC r0 h0 h1 h2 h3 y9 y00 y01 y02 y10 y11 y12 y20 y21 y22 l0 d0 p0 e9 z0 kps pts wrk out mem abv cM cS cV cB)) (st1 := [.int q27]) (As := [.int t0, .int 0]) (rest := []) E hw vc_X6_236 (c_X0_total (cI := cI) (cZ := cZ) (cN := cN) (cC := cC) (h0 := y10) (h1 := y11) (h2 := y12)  (mis := (cM 1)) (siz := (cS 1)) (val := (cV 1)) (isa := (cB 1)) (x1 := t0) (x2 := 0) hq27) 9 0 rfl rfl rfl rfl rfl rfl rfl rfl rfl ⟨Nat.le_of_ble_eq_true rfl, Nat.le_of_ble_eq_true rfl⟩ ⟨Nat.le_refl _, Nat.le_refl _⟩ hl.1 rfl rfl (Nat.le_of_ble_eq_true rfl) dX6_sum_62 (fun H locs hw => ?_)
    refine lv_ldc hx hb E.2.2.2.2.1 (E.2.2.2.2.2.1.2.use kK_X6_240) dX6_sum_65 ?_
    refine lv_iadd hx hb dX6_sum_67 ?_
    have hf := Option.some.inj hf; subst hf
    exact x_iret E hw dX6_sum_68
  · rw [if_neg c26] at hf
    refine lv_iconst (v := 1) hx hb dX6_sum_57 (by decide) ?_
    refine lv_goto (tgt := 62) hx hb dX6_sum_58 (by decide) ?_
    obtain ⟨q28, hq28, hf⟩ := Option.bind_eq_some_iff.mp hf
    refine x_callV (isC := [9, 10, 11]) (ws' := (wRH cI cZ cN cC r0 h0 h1 h2 h3 y9 y00 y01 y02 y10 y11 y12 y20 y21 y22 l0 d0 p0 e9 z0 kps pts wrk out mem abv cM cS cV cB)) (st1 := [.int q28]) (As := [.int t0, .int 1]) (rest := []) E hw vc_X6_236 (c_X0_total (cI := cI) (cZ := cZ) (cN := cN) (cC := cC) (h0 := y10) (h1 := y11) (h2 := y12)  (mis := (cM 1)) (siz := (cS 1)) (val := (cV 1)) (isa := (cB 1)) (x1 := t0) (x2 := 1) hq28) 9 0 rfl rfl rfl rfl rfl rfl rfl rfl rfl ⟨Nat.le_of_ble_eq_true rfl, Nat.le_of_ble_eq_true rfl⟩ ⟨Nat.le_refl _, Nat.le_refl _⟩ hl.1 rfl rfl (Nat.le_of_ble_eq_true rfl) dX6_sum_62 (fun H locs hw => ?_)
    refine lv_ldc hx hb E.2.2.2.2.1 (E.2.2.2.2.2.1.2.use kK_X6_240) dX6_sum_65 ?_
    refine lv_iadd hx hb dX6_sum_67 ?_
    have hf := Option.some.inj hf; subst hf
    exact x_iret E hw dX6_sum_68
set_option maxHeartbeats 4000000 in
set_option maxRecDepth 100000 in
theorem b_X6_sum_53_y20 {p : Program} {l : Launch} {e : Env} {s : State} {m : MethodId} {args : Array Value} {below : List Frame} {meth : Method} {c : Code} {D : va_G} {cI cZ cN cC : ClassId} {ws0 : va_W} {r0 h0 h1 h2 h3 y9 y00 y01 y02 y10 y11 y12 y20 y21 y22 l0 d0 p0 e9 z0 : Nat} {x2 : Int32} {t0 : Int32} {kps : Int32} {pts : Int32} {wrk : Int32} {out : (Nat → Int32)} {mem : (Nat → Int32)} {abv : (Nat → Int32)} {cM : (Nat → Int32)} {cS : (Nat → Int32)} {cV : (Nat → Nat → Int32)} {cB : (Nat → Nat → Int32)} {N : Nat} {res : Int32} (E : xE p s m args meth c cX6_sum 3 (some .int) RX6 D (xtys cI cZ cN cC) (xA ws0)) : f_X6_sum_53 N x2 t0 cS cV cB 2 = some res → ∀ (H : Heap) (locs : List Loc) (ls : Array Slot), xw D (xA ws0) s.heap (wRH cI cZ cN cC r0 h0 h1 h2 h3 y9 y00 y01 y02 y10 y11 y12 y20 y21 y22 l0 d0 p0 e9 z0 kps pts wrk out mem abv cM cS cV cB) H locs → lv_has ls 3 [(2, .int x2)] → xG p l e 1 24 s m args below meth c D ws0 (wRH cI cZ cN cC r0 h0 h1 h2 h3 y9 y00 y01 y02 y10 y11 y12 y20 y21 y22 l0 d0 p0 e9 z0 kps pts wrk out mem abv cM cS cV cB) (some (.int res)) H locs (F0 m 53 ls [.int t0, .ref y20]) := by
  obtain ⟨hx, hb, -⟩ := id E
  intro hf H locs ls hw hl
  unfold f_X6_sum_53 at hf
  refine lv_iload_n hx hb dX6_sum_53 rfl (lv_at hl 0 rfl) ?_
  refine lv_if_eq (tgt := 61) hx hb dX6_sum_54 (by decide) (fun c29 => ?_) (fun c29 => ?_)
  · rw [if_pos c29] at hf
    refine lv_iconst (v := 0) hx hb dX6_sum_61 (by decide) ?_
    obtain ⟨q30, hq30, hf⟩ := Option.bind_eq_some_iff.mp hf
    refine x_callV (isC := [12, 13, 14]) (ws' := (wRH cI cZ cN cC r0 h0 h1 h2 h3 y9 y00 y01 y02 y10 y11 y12 y20 y21 y22 l0 d0 p0 e9 z0 kps pts wrk out mem abv cM cS cV cB)) (st1 := [.int q30]) (As := [.int t0, .int 0]) (rest := []) E hw vc_X6_236 (c_X0_total (cI := cI) (cZ := cZ) (cN := cN) (cC := cC) (h0 := y20) (h1 := y21) (h2 := y22)  (mis := (cM 2)) (siz := (cS 2)) (val := (cV 2)) (isa := (cB 2)) (x1 := t0) (x2 := 0) hq30) 12 0 rfl rfl rfl rfl rfl rfl rfl rfl rfl ⟨Nat.le_of_ble_eq_true rfl, Nat.le_of_ble_eq_true rfl⟩ ⟨Nat.le_refl _, Nat.le_refl _⟩ hl.1 rfl rfl (Nat.le_of_ble_eq_true rfl) dX6_sum_62 (fun H locs hw => ?_)
    refine lv_ldc hx hb E.2.2.2.2.1 (E.2.2.2.2.2.1.2.use kK_X6_240) dX6_sum_65 ?_
    refine lv_iadd hx hb dX6_sum_67 ?_
    have hf := Option.some.inj hf; subst hf
    exact x_iret E hw dX6_sum_68
  · rw [if_neg c29] at hf
    refine lv_iconst (v := 1) hx hb dX6_sum_57 (by decide) ?_
    refine lv_goto (tgt := 62) hx hb dX6_sum_58 (by decide) ?_
    obtain ⟨q31, hq31, hf⟩ := Option.bind_eq_some_iff.mp hf
    refine x_callV (isC := [12, 13, 14]) (ws' := (wRH cI cZ cN cC r0 h0 h1 h2 h3 y9 y00 y01 y02 y10 y11 y12 y20 y21 y22 l0 d0 p0 e9 z0 kps pts wrk out mem abv cM cS cV cB)) (st1 := [.int q31]) (As := [.int t0, .int 1]) (rest := []) E hw vc_X6_236 (c_X0_total (cI := cI) (cZ := cZ) (cN := cN) (cC := cC) (h0 := y20) (h1 := y21) (h2 := y22)  (mis := (cM 2)) (siz := (cS 2)) (val := (cV 2)) (isa := (cB 2)) (x1 := t0) (x2 := 1) hq31) 12 0 rfl rfl rfl rfl rfl rfl rfl rfl rfl ⟨Nat.le_of_ble_eq_true rfl, Nat.le_of_ble_eq_true rfl⟩ ⟨Nat.le_refl _, Nat.le_refl _⟩ hl.1 rfl rfl (Nat.le_of_ble_eq_true rfl) dX6_sum_62 (fun H locs hw => ?_)
    refine lv_ldc hx hb E.2.2.2.2.1 (E.2.2.2.2.2.1.2.use kK_X6_240) dX6_sum_65 ?_
    refine lv_iadd hx hb dX6_sum_67 ?_
    have hf := Option.some.inj hf; subst hf
    exact x_iret E hw dX6_sum_68
def f_X6_sum (N : Nat) (x1 : Int32) (x2 : Int32) (cM : (Nat → Int32)) (cS : (Nat → Int32)) (cV : (Nat → Nat → Int32)) (cB : (Nat → Nat → Int32)) : Option (Int32) :=
  if (f_X6_isChain x1) = 0 then
   some (-2)
  else
   if x2 < 0 then
    some (-3)
   else
    if x2 ≤ 2 then
     if xin x1 3 then
     if (cM (Int32.toNatClampNeg x1)) = 0 then
      if xin x1 3 then
      if x2 = 1 then
       f_X6_sum_53 N x2 0 cS cV cB (Int32.toNatClampNeg x1)
      else
       f_X6_sum_53 N x2 1 cS cV cB (Int32.toNatClampNeg x1)
      else none
     else
      some (-11)
     else none
    else
     some (-3)
set_option maxHeartbeats 4000000 in
set_option maxRecDepth 100000 in
theorem c_X6_sum {l : Launch} {D : va_G} {cI cZ cN cC : ClassId} {r0 h0 h1 h2 h3 y9 y00 y01 y02 y10 y11 y12 y20 y21 y22 l0 d0 p0 e9 z0 : Nat} {kps : Int32} {pts : Int32} {wrk : Int32} {out : (Nat → Int32)} {mem : (Nat → Int32)} {abv : (Nat → Int32)} {cM : (Nat → Int32)} {cS : (Nat → Int32)} {cV : (Nat → Nat → Int32)} {cB : (Nat → Nat → Int32)} {x1 : Int32} {x2 : Int32} {N : Nat} {res : Int32} (hf : f_X6_sum N x1 x2 cM cS cV cB = some res) : xMet l D (xtys cI cZ cN cC) yX6_sum cX6_sum 3 (some .int) 1 24 [.ref r0, .int x1, .int x2] (wRH cI cZ cN cC r0 h0 h1 h2 h3 y9 y00 y01 y02 y10 y11 y12 y20 y21 y22 l0 d0 p0 e9 z0 kps pts wrk out mem abv cM cS cV cB) (wRH cI cZ cN cC r0 h0 h1 h2 h3 y9 y00 y01 y02 y10 y11 y12 y20 y21 y22 l0 d0 p0 e9 z0 kps pts wrk out mem abv cM cS cV cB) (some (.int res)) := by
  refine x_enter (by decide) (Nat.le_of_ble_eq_true rfl) ?_
  intro p e s m args below meth c E ls hl hw
  have E : xE p s m args meth c cX6_sum 3 (some .int) RX6 D (xtys cI cZ cN cC) (xA (wRH cI cZ cN cC r0 h0 h1 h2 h3 y9 y00 y01 y02 y10 y11 y12 y20 y21 y22 l0 d0 p0 e9 z0 kps pts wrk out mem abv cM cS cV cB)) := E
  obtain ⟨hx, hb, -⟩ := id E
  have hl : lv_has ls 3 [(0, .ref r0), (1, .int x1), (2, .int x2)] := hl
  unfold f_X6_sum at hf
  refine lv_iload_n hx hb dX6_sum_0 rfl (lv_at hl 1 rfl) ?_
  refine x_callS (isC := []) (ws' := (wRH cI cZ cN cC r0 h0 h1 h2 h3 y9 y00 y01 y02 y10 y11 y12 y20 y21 y22 l0 d0 p0 e9 z0 kps pts wrk out mem abv cM cS cV cB)) (st1 := [.int (f_X6_isChain x1)]) (As := [.int x1]) (rest := []) E hw vc_X6_210 (c_X6_isChain (cI := cI) (cZ := cZ) (cN := cN) (cC := cC)    (x0 := x1) rfl) rfl rfl rfl rfl rfl rfl ⟨Nat.le_of_ble_eq_true rfl, Nat.le_of_ble_eq_true rfl⟩ ⟨Nat.le_refl _, Nat.le_refl _⟩ hl.1 rfl rfl (Nat.le_of_ble_eq_true rfl) dX6_sum_1 (fun H locs hw => ?_)
  refine lv_if_ne (tgt := 10) hx hb dX6_sum_4 (by decide) (fun c1 => ?_) (fun c1 => ?_)
  · rw [if_neg c1] at hf
    refine lv_iload_n hx hb dX6_sum_10 rfl (lv_at hl 2 rfl) ?_
    refine lv_if_lt (tgt := 19) hx hb dX6_sum_11 (by decide) (fun c2 => ?_) (fun c2 => ?_)
    · rw [if_pos c2] at hf
      refine lv_bipush (v := (-3)) hx hb dX6_sum_19 (by decide) ?_
      have hf := Option.some.inj hf; subst hf
      exact x_iret E hw dX6_sum_21
    · rw [if_neg c2] at hf
      refine lv_iload_n hx hb dX6_sum_14 rfl (lv_at hl 2 rfl) ?_
      refine lv_iconst (v := 2) hx hb dX6_sum_15 (by decide) ?_
      refine lv_icmp_le (tgt := 22) hx hb dX6_sum_16 (by decide) (fun c3 => ?_) (fun c3 => ?_)
      · rw [if_pos c3] at hf
        refine lv_aload_n hx hb dX6_sum_22 rfl (lv_at hl 0 rfl) ?_
        refine x_get E hw kin_X6 0 rfl rfl 7 (by decide) kF_X6_56 (v := .ref y9) rfl dX6_sum_23 ?_
        refine lv_iload_n hx hb dX6_sum_26 rfl (lv_at hl 1 rfl) ?_
        obtain ⟨g4, hf⟩ := xgd hf
        rcases x_in3 (xin_vp g4) with ce | ce | ce
        · subst ce
          refine x_aald E hw 5 3 rfl rfl (xin_vp (by decide)) (w := .ref y00) rfl dX6_sum_27 ?_
          refine x_get E hw kin_X0 6 rfl rfl 2 (by decide) kF_X6_219 (v := .int (cM (Int32.toNatClampNeg (0 : Int32)))) rfl dX6_sum_28 ?_
          refine lv_if_eq (tgt := 37) hx hb dX6_sum_31 (by decide) (fun c11 => ?_) (fun c11 => ?_)
          · rw [if_pos c11] at hf
            refine lv_aload_n hx hb dX6_sum_37 rfl (lv_at hl 0 rfl) ?_
            refine x_get E hw kin_X6 0 rfl rfl 7 (by decide) kF_X6_56 (v := .ref y9) rfl dX6_sum_38 ?_
            refine lv_iload_n hx hb dX6_sum_41 rfl (lv_at hl 1 rfl) ?_
            obtain ⟨g12, hf⟩ := xgd hf
            refine x_aald E hw 5 3 rfl rfl (xin_vp g12) (w := .ref y00) rfl dX6_sum_42 ?_
            refine lv_iload_n hx hb dX6_sum_43 rfl (lv_at hl 2 rfl) ?_
            refine lv_iconst (v := 1) hx hb dX6_sum_44 (by decide) ?_
            refine lv_icmp_eq (tgt := 52) hx hb dX6_sum_45 (by decide) (fun c13 => ?_) (fun c13 => ?_)
            · rw [if_pos c13] at hf
              refine lv_iconst (v := 0) hx hb dX6_sum_52 (by decide) ?_
              exact b_X6_sum_53_y00 E  hf _ _ _ hw (lv_sub hl [2] rfl)
            · rw [if_neg c13] at hf
              refine lv_iconst (v := 1) hx hb dX6_sum_48 (by decide) ?_
              refine lv_goto (tgt := 53) hx hb dX6_sum_49 (by decide) ?_
              exact b_X6_sum_53_y00 E  hf _ _ _ hw (lv_sub hl [2] rfl)
          · rw [if_neg c11] at hf
            refine lv_bipush (v := (-11)) hx hb dX6_sum_34 (by decide) ?_
            have hf := Option.some.inj hf; subst hf
            exact x_iret E hw dX6_sum_36
        · subst ce
          refine x_aald E hw 5 3 rfl rfl (xin_vp (by decide)) (w := .ref y10) rfl dX6_sum_27 ?_
          refine x_get E hw kin_X0 9 rfl rfl 2 (by decide) kF_X6_219 (v := .int (cM (Int32.toNatClampNeg (1 : Int32)))) rfl dX6_sum_28 ?_
          refine lv_if_eq (tgt := 37) hx hb dX6_sum_31 (by decide) (fun c14 => ?_) (fun c14 => ?_)
          · rw [if_pos c14] at hf
            refine lv_aload_n hx hb dX6_sum_37 rfl (lv_at hl 0 rfl) ?_
            refine x_get E hw kin_X6 0 rfl rfl 7 (by decide) kF_X6_56 (v := .ref y9) rfl dX6_sum_38 ?_
            refine lv_iload_n hx hb dX6_sum_41 rfl (lv_at hl 1 rfl) ?_
            obtain ⟨g15, hf⟩ := xgd hf
            refine x_aald E hw 5 3 rfl rfl (xin_vp g15) (w := .ref y10) rfl dX6_sum_42 ?_
            refine lv_iload_n hx hb dX6_sum_43 rfl (lv_at hl 2 rfl) ?_
            refine lv_iconst (v := 1) hx hb dX6_sum_44 (by decide) ?_
            refine lv_icmp_eq (tgt := 52) hx hb dX6_sum_45 (by decide) (fun c16 => ?_) (fun c16 => ?_)
            · rw [if_pos c16] at hf
              refine lv_iconst (v := 0) hx hb dX6_sum_52 (by decide) ?_
              exact b_X6_sum_53_y10 E  hf _ _ _ hw (lv_sub hl [2] rfl)
            · rw [if_neg c16] at hf
              refine lv_iconst (v := 1) hx hb dX6_sum_48 (by decide) ?_
              refine lv_goto (tgt := 53) hx hb dX6_sum_49 (by decide) ?_
              exact b_X6_sum_53_y10 E  hf _ _ _ hw (lv_sub hl [2] rfl)
          · rw [if_neg c14] at hf
            refine lv_bipush (v := (-11)) hx hb dX6_sum_34 (by decide) ?_
            have hf := Option.some.inj hf; subst hf
            exact x_iret E hw dX6_sum_36
        · subst ce
          refine x_aald E hw 5 3 rfl rfl (xin_vp (by decide)) (w := .ref y20) rfl dX6_sum_27 ?_
          refine x_get E hw kin_X0 12 rfl rfl 2 (by decide) kF_X6_219 (v := .int (cM (Int32.toNatClampNeg (2 : Int32)))) rfl dX6_sum_28 ?_
          refine lv_if_eq (tgt := 37) hx hb dX6_sum_31 (by decide) (fun c17 => ?_) (fun c17 => ?_)
          · rw [if_pos c17] at hf
            refine lv_aload_n hx hb dX6_sum_37 rfl (lv_at hl 0 rfl) ?_
            refine x_get E hw kin_X6 0 rfl rfl 7 (by decide) kF_X6_56 (v := .ref y9) rfl dX6_sum_38 ?_
            refine lv_iload_n hx hb dX6_sum_41 rfl (lv_at hl 1 rfl) ?_
            obtain ⟨g18, hf⟩ := xgd hf
            refine x_aald E hw 5 3 rfl rfl (xin_vp g18) (w := .ref y20) rfl dX6_sum_42 ?_
            refine lv_iload_n hx hb dX6_sum_43 rfl (lv_at hl 2 rfl) ?_
            refine lv_iconst (v := 1) hx hb dX6_sum_44 (by decide) ?_
            refine lv_icmp_eq (tgt := 52) hx hb dX6_sum_45 (by decide) (fun c19 => ?_) (fun c19 => ?_)
            · rw [if_pos c19] at hf
              refine lv_iconst (v := 0) hx hb dX6_sum_52 (by decide) ?_
              exact b_X6_sum_53_y20 E  hf _ _ _ hw (lv_sub hl [2] rfl)
            · rw [if_neg c19] at hf
              refine lv_iconst (v := 1) hx hb dX6_sum_48 (by decide) ?_
              refine lv_goto (tgt := 53) hx hb dX6_sum_49 (by decide) ?_
              exact b_X6_sum_53_y20 E  hf _ _ _ hw (lv_sub hl [2] rfl)
          · rw [if_neg c17] at hf
            refine lv_bipush (v := (-11)) hx hb dX6_sum_34 (by decide) ?_
            have hf := Option.some.inj hf; subst hf
            exact x_iret E hw dX6_sum_36
      · rw [if_neg c3] at hf
        refine lv_bipush (v := (-3)) hx hb dX6_sum_19 (by decide) ?_
        have hf := Option.some.inj hf; subst hf
        exact x_iret E hw dX6_sum_21
  · rw [if_pos c1] at hf
    refine lv_bipush (v := (-2)) hx hb dX6_sum_7 (by decide) ?_
    have hf := Option.some.inj hf; subst hf
    exact x_iret E hw dX6_sum_9

def f_X6_strike (N : Nat) (x1 : Int32) (x2 : Int32) (out : (Nat → Int32)) (cM : (Nat → Int32)) (cS : (Nat → Int32)) (cV : (Nat → Nat → Int32)) (cB : (Nat → Nat → Int32)) : Option (Int32 × (Nat → Int32) × (Nat → Nat → Int32) × (Nat → Nat → Int32)) :=
  if (f_X6_isChain x1) = 0 then
   some ((-2), cS, cV, cB)
  else
   if x2 < 0 then
    some ((-3), cS, cV, cB)
   else
    if x2 ≤ 1 then
     if xin x1 3 then
     if (cM (Int32.toNatClampNeg x1)) = 0 then
      if xin x1 3 then
      if x2 = 1 then
       (f_X6_strikeArcs N 1 out (cS (Int32.toNatClampNeg x1)) (cV (Int32.toNatClampNeg x1)) (cB (Int32.toNatClampNeg x1))).bind fun q9 =>
       some (q9.1, (va_up cS (Int32.toNatClampNeg x1) q9.2.1), (va_up cV (Int32.toNatClampNeg x1) q9.2.2.1), (va_up cB (Int32.toNatClampNeg x1) q9.2.2.2))
      else
       (f_X6_strikeArcs N 0 out (cS (Int32.toNatClampNeg x1)) (cV (Int32.toNatClampNeg x1)) (cB (Int32.toNatClampNeg x1))).bind fun q8 =>
       some (q8.1, (va_up cS (Int32.toNatClampNeg x1) q8.2.1), (va_up cV (Int32.toNatClampNeg x1) q8.2.2.1), (va_up cB (Int32.toNatClampNeg x1) q8.2.2.2))
      else none
     else
      some ((-11), cS, cV, cB)
     else none
    else
     some ((-3), cS, cV, cB)
set_option maxHeartbeats 4000000 in
set_option maxRecDepth 100000 in
theorem c_X6_strike {l : Launch} {D : va_G} {cI cZ cN cC : ClassId} {r0 h0 h1 h2 h3 y9 y00 y01 y02 y10 y11 y12 y20 y21 y22 l0 d0 p0 e9 z0 : Nat} {kps : Int32} {pts : Int32} {wrk : Int32} {out : (Nat → Int32)} {mem : (Nat → Int32)} {abv : (Nat → Int32)} {cM : (Nat → Int32)} {cS : (Nat → Int32)} {cV : (Nat → Nat → Int32)} {cB : (Nat → Nat → Int32)} {x1 : Int32} {x2 : Int32} {N : Nat} {res : Int32 × (Nat → Int32) × (Nat → Nat → Int32) × (Nat → Nat → Int32)} (hf : f_X6_strike N x1 x2 out cM cS cV cB = some res) : xMet l D (xtys cI cZ cN cC) yX6_strike cX6_strike 3 (some .int) 3 69 [.ref r0, .int x1, .int x2] (wRH cI cZ cN cC r0 h0 h1 h2 h3 y9 y00 y01 y02 y10 y11 y12 y20 y21 y22 l0 d0 p0 e9 z0 kps pts wrk out mem abv cM cS cV cB) (wRH cI cZ cN cC r0 h0 h1 h2 h3 y9 y00 y01 y02 y10 y11 y12 y20 y21 y22 l0 d0 p0 e9 z0 kps pts wrk out mem abv cM res.2.1 res.2.2.1 res.2.2.2) (some (.int res.1)) := by
  refine x_enter (by decide) (Nat.le_of_ble_eq_true rfl) ?_
  intro p e s m args below meth c E ls hl hw
  have E : xE p s m args meth c cX6_strike 3 (some .int) RX6 D (xtys cI cZ cN cC) (xA (wRH cI cZ cN cC r0 h0 h1 h2 h3 y9 y00 y01 y02 y10 y11 y12 y20 y21 y22 l0 d0 p0 e9 z0 kps pts wrk out mem abv cM cS cV cB)) := E
  obtain ⟨hx, hb, -⟩ := id E
  have hl : lv_has ls 3 [(0, .ref r0), (1, .int x1), (2, .int x2)] := hl
  unfold f_X6_strike at hf
  refine lv_iload_n hx hb dX6_strike_0 rfl (lv_at hl 1 rfl) ?_
  refine x_callS (isC := []) (ws' := (wRH cI cZ cN cC r0 h0 h1 h2 h3 y9 y00 y01 y02 y10 y11 y12 y20 y21 y22 l0 d0 p0 e9 z0 kps pts wrk out mem abv cM cS cV cB)) (st1 := [.int (f_X6_isChain x1)]) (As := [.int x1]) (rest := []) E hw vc_X6_210 (c_X6_isChain (cI := cI) (cZ := cZ) (cN := cN) (cC := cC)    (x0 := x1) rfl) rfl rfl rfl rfl rfl rfl ⟨Nat.le_of_ble_eq_true rfl, Nat.le_of_ble_eq_true rfl⟩ ⟨Nat.le_refl _, Nat.le_refl _⟩ hl.1 rfl rfl (Nat.le_of_ble_eq_true rfl) dX6_strike_1 (fun H locs hw => ?_)
  refine lv_if_ne (tgt := 10) hx hb dX6_strike_4 (by decide) (fun c1 => ?_) (fun c1 => ?_)
  · rw [if_neg c1] at hf
    refine lv_iload_n hx hb dX6_strike_10 rfl (lv_at hl 2 rfl) ?_
    refine lv_if_lt (tgt := 19) hx hb dX6_strike_11 (by decide) (fun c2 => ?_) (fun c2 => ?_)
    · rw [if_pos c2] at hf
      refine lv_bipush (v := (-3)) hx hb dX6_strike_19 (by decide) ?_
      have hf := Option.some.inj hf; subst hf
      exact x_iret E hw dX6_strike_21
    · rw [if_neg c2] at hf
      refine lv_iload_n hx hb dX6_strike_14 rfl (lv_at hl 2 rfl) ?_
      refine lv_iconst (v := 1) hx hb dX6_strike_15 (by decide) ?_
      refine lv_icmp_le (tgt := 22) hx hb dX6_strike_16 (by decide) (fun c3 => ?_) (fun c3 => ?_)
      · rw [if_pos c3] at hf
        refine lv_aload_n hx hb dX6_strike_22 rfl (lv_at hl 0 rfl) ?_
        refine x_get E hw kin_X6 0 rfl rfl 7 (by decide) kF_X6_56 (v := .ref y9) rfl dX6_strike_23 ?_
        refine lv_iload_n hx hb dX6_strike_26 rfl (lv_at hl 1 rfl) ?_
        obtain ⟨g4, hf⟩ := xgd hf
        rcases x_in3 (xin_vp g4) with ce | ce | ce
        · subst ce
          refine x_aald E hw 5 3 rfl rfl (xin_vp (by decide)) (w := .ref y00) rfl dX6_strike_27 ?_
          refine x_get E hw kin_X0 6 rfl rfl 2 (by decide) kF_X6_219 (v := .int (cM (Int32.toNatClampNeg (0 : Int32)))) rfl dX6_strike_28 ?_
          refine lv_if_eq (tgt := 37) hx hb dX6_strike_31 (by decide) (fun c19 => ?_) (fun c19 => ?_)
          · rw [if_pos c19] at hf
            refine lv_aload_n hx hb dX6_strike_37 rfl (lv_at hl 0 rfl) ?_
            refine lv_aload_n hx hb dX6_strike_38 rfl (lv_at hl 0 rfl) ?_
            refine x_get E hw kin_X6 0 rfl rfl 7 (by decide) kF_X6_56 (v := .ref y9) rfl dX6_strike_39 ?_
            refine lv_iload_n hx hb dX6_strike_42 rfl (lv_at hl 1 rfl) ?_
            obtain ⟨g20, hf⟩ := xgd hf
            refine x_aald E hw 5 3 rfl rfl (xin_vp g20) (w := .ref y00) rfl dX6_strike_43 ?_
            refine lv_iload_n hx hb dX6_strike_44 rfl (lv_at hl 2 rfl) ?_
            refine lv_iconst (v := 1) hx hb dX6_strike_45 (by decide) ?_
            refine lv_icmp_ne (tgt := 53) hx hb dX6_strike_46 (by decide) (fun c21 => ?_) (fun c21 => ?_)
            · rw [if_neg c21] at hf
              refine lv_iconst (v := 0) hx hb dX6_strike_53 (by decide) ?_
              obtain ⟨q22, hq22, hf⟩ := Option.bind_eq_some_iff.mp hf
              refine x_callV (isC := [0, 1, 2, 3, 4, 6, 7, 8]) (ws' := (wRH cI cZ cN cC r0 h0 h1 h2 h3 y9 y00 y01 y02 y10 y11 y12 y20 y21 y22 l0 d0 p0 e9 z0 kps pts wrk out mem abv cM (va_up cS (Int32.toNatClampNeg (0 : Int32)) q22.2.1) (va_up cV (Int32.toNatClampNeg (0 : Int32)) q22.2.2.1) (va_up cB (Int32.toNatClampNeg (0 : Int32)) q22.2.2.2))) (st1 := [.int q22.1]) (As := [.ref y00, .int 0]) (rest := []) E hw vc_X6_241 (c_X6_strikeArcs (cI := cI) (cZ := cZ) (cN := cN) (cC := cC) (r0 := r0) (h0 := h0) (h1 := h1) (h2 := h2) (h3 := h3) (u0 := y00) (u1 := y01) (u2 := y02) (l0 := l0) (d0 := d0) (p0 := p0) (e9 := e9) (z0 := z0) (y9 := y9)  (kps := kps) (pts := pts) (wrk := wrk) (out := out) (mem := mem) (abv := abv) (mis := (cM (Int32.toNatClampNeg (0 : Int32)))) (siz := (cS (Int32.toNatClampNeg (0 : Int32)))) (val := (cV (Int32.toNatClampNeg (0 : Int32)))) (isa := (cB (Int32.toNatClampNeg (0 : Int32)))) (x2 := 0) hq22) 0 6 rfl rfl rfl rfl rfl rfl rfl rfl rfl ⟨Nat.le_of_ble_eq_true rfl, Nat.le_of_ble_eq_true rfl⟩ ⟨Nat.le_refl _, Nat.le_refl _⟩ hl.1 rfl rfl (Nat.le_of_ble_eq_true rfl) dX6_strike_54 (fun H locs hw => ?_)
              have hf := Option.some.inj hf; subst hf
              exact x_iret E hw dX6_strike_57
            · rw [if_pos c21] at hf
              refine lv_iconst (v := 1) hx hb dX6_strike_49 (by decide) ?_
              refine lv_goto (tgt := 54) hx hb dX6_strike_50 (by decide) ?_
              obtain ⟨q23, hq23, hf⟩ := Option.bind_eq_some_iff.mp hf
              refine x_callV (isC := [0, 1, 2, 3, 4, 6, 7, 8]) (ws' := (wRH cI cZ cN cC r0 h0 h1 h2 h3 y9 y00 y01 y02 y10 y11 y12 y20 y21 y22 l0 d0 p0 e9 z0 kps pts wrk out mem abv cM (va_up cS (Int32.toNatClampNeg (0 : Int32)) q23.2.1) (va_up cV (Int32.toNatClampNeg (0 : Int32)) q23.2.2.1) (va_up cB (Int32.toNatClampNeg (0 : Int32)) q23.2.2.2))) (st1 := [.int q23.1]) (As := [.ref y00, .int 1]) (rest := []) E hw vc_X6_241 (c_X6_strikeArcs (cI := cI) (cZ := cZ) (cN := cN) (cC := cC) (r0 := r0) (h0 := h0) (h1 := h1) (h2 := h2) (h3 := h3) (u0 := y00) (u1 := y01) (u2 := y02) (l0 := l0) (d0 := d0) (p0 := p0) (e9 := e9) (z0 := z0) (y9 := y9)  (kps := kps) (pts := pts) (wrk := wrk) (out := out) (mem := mem) (abv := abv) (mis := (cM (Int32.toNatClampNeg (0 : Int32)))) (siz := (cS (Int32.toNatClampNeg (0 : Int32)))) (val := (cV (Int32.toNatClampNeg (0 : Int32)))) (isa := (cB (Int32.toNatClampNeg (0 : Int32)))) (x2 := 1) hq23) 0 6 rfl rfl rfl rfl rfl rfl rfl rfl rfl ⟨Nat.le_of_ble_eq_true rfl, Nat.le_of_ble_eq_true rfl⟩ ⟨Nat.le_refl _, Nat.le_refl _⟩ hl.1 rfl rfl (Nat.le_of_ble_eq_true rfl) dX6_strike_54 (fun H locs hw => ?_)
              have hf := Option.some.inj hf; subst hf
              exact x_iret E hw dX6_strike_57
          · rw [if_neg c19] at hf
            refine lv_bipush (v := (-11)) hx hb dX6_strike_34 (by decide) ?_
            have hf := Option.some.inj hf; subst hf
            exact x_iret E hw dX6_strike_36
        · subst ce
          refine x_aald E hw 5 3 rfl rfl (xin_vp (by decide)) (w := .ref y10) rfl dX6_strike_27 ?_
          refine x_get E hw kin_X0 9 rfl rfl 2 (by decide) kF_X6_219 (v := .int (cM (Int32.toNatClampNeg (1 : Int32)))) rfl dX6_strike_28 ?_
          refine lv_if_eq (tgt := 37) hx hb dX6_strike_31 (by decide) (fun c24 => ?_) (fun c24 => ?_)
          · rw [if_pos c24] at hf
            refine lv_aload_n hx hb dX6_strike_37 rfl (lv_at hl 0 rfl) ?_
            refine lv_aload_n hx hb dX6_strike_38 rfl (lv_at hl 0 rfl) ?_
            refine x_get E hw kin_X6 0 rfl rfl 7 (by decide) kF_X6_56 (v := .ref y9) rfl dX6_strike_39 ?_
            refine lv_iload_n hx hb dX6_strike_42 rfl (lv_at hl 1 rfl) ?_
            obtain ⟨g25, hf⟩ := xgd hf
            refine x_aald E hw 5 3 rfl rfl (xin_vp g25) (w := .ref y10) rfl dX6_strike_43 ?_
            refine lv_iload_n hx hb dX6_strike_44 rfl (lv_at hl 2 rfl) ?_
            refine lv_iconst (v := 1) hx hb dX6_strike_45 (by decide) ?_
            refine lv_icmp_ne (tgt := 53) hx hb dX6_strike_46 (by decide) (fun c26 => ?_) (fun c26 => ?_)
            · rw [if_neg c26] at hf
              refine lv_iconst (v := 0) hx hb dX6_strike_53 (by decide) ?_
              obtain ⟨q27, hq27, hf⟩ := Option.bind_eq_some_iff.mp hf
              refine x_callV (isC := [0, 1, 2, 3, 4, 9, 10, 11]) (ws' := (wRH cI cZ cN cC r0 h0 h1 h2 h3 y9 y00 y01 y02 y10 y11 y12 y20 y21 y22 l0 d0 p0 e9 z0 kps pts wrk out mem abv cM (va_up cS (Int32.toNatClampNeg (1 : Int32)) q27.2.1) (va_up cV (Int32.toNatClampNeg (1 : Int32)) q27.2.2.1) (va_up cB (Int32.toNatClampNeg (1 : Int32)) q27.2.2.2))) (st1 := [.int q27.1]) (As := [.ref y10, .int 0]) (rest := []) E hw vc_X6_241 (c_X6_strikeArcs (cI := cI) (cZ := cZ) (cN := cN) (cC := cC) (r0 := r0) (h0 := h0) (h1 := h1) (h2 := h2) (h3 := h3) (u0 := y10) (u1 := y11) (u2 := y12) (l0 := l0) (d0 := d0) (p0 := p0) (e9 := e9) (z0 := z0) (y9 := y9)  (kps := kps) (pts := pts) (wrk := wrk) (out := out) (mem := mem) (abv := abv) (mis := (cM (Int32.toNatClampNeg (1 : Int32)))) (siz := (cS (Int32.toNatClampNeg (1 : Int32)))) (val := (cV (Int32.toNatClampNeg (1 : Int32)))) (isa := (cB (Int32.toNatClampNeg (1 : Int32)))) (x2 := 0) hq27) 0 6 rfl rfl rfl rfl rfl rfl rfl rfl rfl ⟨Nat.le_of_ble_eq_true rfl, Nat.le_of_ble_eq_true rfl⟩ ⟨Nat.le_refl _, Nat.le_refl _⟩ hl.1 rfl rfl (Nat.le_of_ble_eq_true rfl) dX6_strike_54 (fun H locs hw => ?_)
              have hf := Option.some.inj hf; subst hf
              exact x_iret E hw dX6_strike_57
            · rw [if_pos c26] at hf
              refine lv_iconst (v := 1) hx hb dX6_strike_49 (by decide) ?_
              refine lv_goto (tgt := 54) hx hb dX6_strike_50 (by decide) ?_
              obtain ⟨q28, hq28, hf⟩ := Option.bind_eq_some_iff.mp hf
              refine x_callV (isC := [0, 1, 2, 3, 4, 9, 10, 11]) (ws' := (wRH cI cZ cN cC r0 h0 h1 h2 h3 y9 y00 y01 y02 y10 y11 y12 y20 y21 y22 l0 d0 p0 e9 z0 kps pts wrk out mem abv cM (va_up cS (Int32.toNatClampNeg (1 : Int32)) q28.2.1) (va_up cV (Int32.toNatClampNeg (1 : Int32)) q28.2.2.1) (va_up cB (Int32.toNatClampNeg (1 : Int32)) q28.2.2.2))) (st1 := [.int q28.1]) (As := [.ref y10, .int 1]) (rest := []) E hw vc_X6_241 (c_X6_strikeArcs (cI := cI) (cZ := cZ) (cN := cN) (cC := cC) (r0 := r0) (h0 := h0) (h1 := h1) (h2 := h2) (h3 := h3) (u0 := y10) (u1 := y11) (u2 := y12) (l0 := l0) (d0 := d0) (p0 := p0) (e9 := e9) (z0 := z0) (y9 := y9)  (kps := kps) (pts := pts) (wrk := wrk) (out := out) (mem := mem) (abv := abv) (mis := (cM (Int32.toNatClampNeg (1 : Int32)))) (siz := (cS (Int32.toNatClampNeg (1 : Int32)))) (val := (cV (Int32.toNatClampNeg (1 : Int32)))) (isa := (cB (Int32.toNatClampNeg (1 : Int32)))) (x2 := 1) hq28) 0 6 rfl rfl rfl rfl rfl rfl rfl rfl rfl ⟨Nat.le_of_ble_eq_true rfl, Nat.le_of_ble_eq_true rfl⟩ ⟨Nat.le_refl _, Nat.le_refl _⟩ hl.1 rfl rfl (Nat.le_of_ble_eq_true rfl) dX6_strike_54 (fun H locs hw => ?_)
              have hf := Option.some.inj hf; subst hf
              exact x_iret E hw dX6_strike_57
          · rw [if_neg c24] at hf
            refine lv_bipush (v := (-11)) hx hb dX6_strike_34 (by decide) ?_
            have hf := Option.some.inj hf; subst hf
            exact x_iret E hw dX6_strike_36
        · subst ce
          refine x_aald E hw 5 3 rfl rfl (xin_vp (by decide)) (w := .ref y20) rfl dX6_strike_27 ?_
          refine x_get E hw kin_X0 12 rfl rfl 2 (by decide) kF_X6_219 (v := .int (cM (Int32.toNatClampNeg (2 : Int32)))) rfl dX6_strike_28 ?_
          refine lv_if_eq (tgt := 37) hx hb dX6_strike_31 (by decide) (fun c29 => ?_) (fun c29 => ?_)
          · rw [if_pos c29] at hf
            refine lv_aload_n hx hb dX6_strike_37 rfl (lv_at hl 0 rfl) ?_
            refine lv_aload_n hx hb dX6_strike_38 rfl (lv_at hl 0 rfl) ?_
            refine x_get E hw kin_X6 0 rfl rfl 7 (by decide) kF_X6_56 (v := .ref y9) rfl dX6_strike_39 ?_
            refine lv_iload_n hx hb dX6_strike_42 rfl (lv_at hl 1 rfl) ?_
            obtain ⟨g30, hf⟩ := xgd hf
            refine x_aald E hw 5 3 rfl rfl (xin_vp g30) (w := .ref y20) rfl dX6_strike_43 ?_
            refine lv_iload_n hx hb dX6_strike_44 rfl (lv_at hl 2 rfl) ?_
            refine lv_iconst (v := 1) hx hb dX6_strike_45 (by decide) ?_
            refine lv_icmp_ne (tgt := 53) hx hb dX6_strike_46 (by decide) (fun c31 => ?_) (fun c31 => ?_)
            · rw [if_neg c31] at hf
              refine lv_iconst (v := 0) hx hb dX6_strike_53 (by decide) ?_
              obtain ⟨q32, hq32, hf⟩ := Option.bind_eq_some_iff.mp hf
              refine x_callV (isC := [0, 1, 2, 3, 4, 12, 13, 14]) (ws' := (wRH cI cZ cN cC r0 h0 h1 h2 h3 y9 y00 y01 y02 y10 y11 y12 y20 y21 y22 l0 d0 p0 e9 z0 kps pts wrk out mem abv cM (va_up cS (Int32.toNatClampNeg (2 : Int32)) q32.2.1) (va_up cV (Int32.toNatClampNeg (2 : Int32)) q32.2.2.1) (va_up cB (Int32.toNatClampNeg (2 : Int32)) q32.2.2.2))) (st1 := [.int q32.1]) (As := [.ref y20, .int 0]) (rest := []) E hw vc_X6_241 (c_X6_strikeArcs (cI := cI) (cZ := cZ) (cN := cN) (cC := cC) (r0 := r0) (h0 := h0) (h1 := h1) (h2 := h2) (h3 := h3) (u0 := y20) (u1 := y21) (u2 := y22) (l0 := l0) (d0 := d0) (p0 := p0) (e9 := e9) (z0 := z0) (y9 := y9)  (kps := kps) (pts := pts) (wrk := wrk) (out := out) (mem := mem) (abv := abv) (mis := (cM (Int32.toNatClampNeg (2 : Int32)))) (siz := (cS (Int32.toNatClampNeg (2 : Int32)))) (val := (cV (Int32.toNatClampNeg (2 : Int32)))) (isa := (cB (Int32.toNatClampNeg (2 : Int32)))) (x2 := 0) hq32) 0 6 rfl rfl rfl rfl rfl rfl rfl rfl rfl ⟨Nat.le_of_ble_eq_true rfl, Nat.le_of_ble_eq_true rfl⟩ ⟨Nat.le_refl _, Nat.le_refl _⟩ hl.1 rfl rfl (Nat.le_of_ble_eq_true rfl) dX6_strike_54 (fun H locs hw => ?_)
              have hf := Option.some.inj hf; subst hf
              exact x_iret E hw dX6_strike_57
            · rw [if_pos c31] at hf
              refine lv_iconst (v := 1) hx hb dX6_strike_49 (by decide) ?_
              refine lv_goto (tgt := 54) hx hb dX6_strike_50 (by decide) ?_
              obtain ⟨q33, hq33, hf⟩ := Option.bind_eq_some_iff.mp hf
              refine x_callV (isC := [0, 1, 2, 3, 4, 12, 13, 14]) (ws' := (wRH cI cZ cN cC r0 h0 h1 h2 h3 y9 y00 y01 y02 y10 y11 y12 y20 y21 y22 l0 d0 p0 e9 z0 kps pts wrk out mem abv cM (va_up cS (Int32.toNatClampNeg (2 : Int32)) q33.2.1) (va_up cV (Int32.toNatClampNeg (2 : Int32)) q33.2.2.1) (va_up cB (Int32.toNatClampNeg (2 : Int32)) q33.2.2.2))) (st1 := [.int q33.1]) (As := [.ref y20, .int 1]) (rest := []) E hw vc_X6_241 (c_X6_strikeArcs (cI := cI) (cZ := cZ) (cN := cN) (cC := cC) (r0 := r0) (h0 := h0) (h1 := h1) (h2 := h2) (h3 := h3) (u0 := y20) (u1 := y21) (u2 := y22) (l0 := l0) (d0 := d0) (p0 := p0) (e9 := e9) (z0 := z0) (y9 := y9)  (kps := kps) (pts := pts) (wrk := wrk) (out := out) (mem := mem) (abv := abv) (mis := (cM (Int32.toNatClampNeg (2 : Int32)))) (siz := (cS (Int32.toNatClampNeg (2 : Int32)))) (val := (cV (Int32.toNatClampNeg (2 : Int32)))) (isa := (cB (Int32.toNatClampNeg (2 : Int32)))) (x2 := 1) hq33) 0 6 rfl rfl rfl rfl rfl rfl rfl rfl rfl ⟨Nat.le_of_ble_eq_true rfl, Nat.le_of_ble_eq_true rfl⟩ ⟨Nat.le_refl _, Nat.le_refl _⟩ hl.1 rfl rfl (Nat.le_of_ble_eq_true rfl) dX6_strike_54 (fun H locs hw => ?_)
              have hf := Option.some.inj hf; subst hf
              exact x_iret E hw dX6_strike_57
          · rw [if_neg c29] at hf
            refine lv_bipush (v := (-11)) hx hb dX6_strike_34 (by decide) ?_
            have hf := Option.some.inj hf; subst hf
            exact x_iret E hw dX6_strike_36
      · rw [if_neg c3] at hf
        refine lv_bipush (v := (-3)) hx hb dX6_strike_19 (by decide) ?_
        have hf := Option.some.inj hf; subst hf
        exact x_iret E hw dX6_strike_21
  · rw [if_pos c1] at hf
    refine lv_bipush (v := (-2)) hx hb dX6_strike_7 (by decide) ?_
    have hf := Option.some.inj hf; subst hf
    exact x_iret E hw dX6_strike_9

def f_X6_drop (x1 : Int32) (cM : (Nat → Int32)) (cS : (Nat → Int32)) : Option (Int32 × (Nat → Int32) × (Nat → Int32)) :=
  if (f_X6_isChain x1) = 0 then
   some ((-2), cM, cS)
  else
   if xin x1 3 then
   if (cM (Int32.toNatClampNeg x1)) = 0 then
    if xin x1 3 then
    if xin x1 3 then
    some ((cS (Int32.toNatClampNeg x1)), (va_up cM (Int32.toNatClampNeg x1) ((f_X0_vanish).1)), (va_up cS (Int32.toNatClampNeg x1) ((f_X0_vanish).2)))
    else none
    else none
   else
    some ((-11), cM, cS)
   else none
set_option maxHeartbeats 4000000 in
set_option maxRecDepth 100000 in
theorem c_X6_drop {l : Launch} {D : va_G} {cI cZ cN cC : ClassId} {r0 h0 h1 h2 h3 y9 y00 y01 y02 y10 y11 y12 y20 y21 y22 l0 d0 p0 e9 z0 : Nat} {kps : Int32} {pts : Int32} {wrk : Int32} {out : (Nat → Int32)} {mem : (Nat → Int32)} {abv : (Nat → Int32)} {cM : (Nat → Int32)} {cS : (Nat → Int32)} {cV : (Nat → Nat → Int32)} {cB : (Nat → Nat → Int32)} {x1 : Int32} {res : Int32 × (Nat → Int32) × (Nat → Int32)} (hf : f_X6_drop x1 cM cS = some res) : xMet l D (xtys cI cZ cN cC) yX6_drop cX6_drop 3 (some .int) 1 20 [.ref r0, .int x1] (wRH cI cZ cN cC r0 h0 h1 h2 h3 y9 y00 y01 y02 y10 y11 y12 y20 y21 y22 l0 d0 p0 e9 z0 kps pts wrk out mem abv cM cS cV cB) (wRH cI cZ cN cC r0 h0 h1 h2 h3 y9 y00 y01 y02 y10 y11 y12 y20 y21 y22 l0 d0 p0 e9 z0 kps pts wrk out mem abv res.2.1 res.2.2 cV cB) (some (.int res.1)) := by
  refine x_enter (by decide) (Nat.le_of_ble_eq_true rfl) ?_
  intro p e s m args below meth c E ls hl hw
  have E : xE p s m args meth c cX6_drop 3 (some .int) RX6 D (xtys cI cZ cN cC) (xA (wRH cI cZ cN cC r0 h0 h1 h2 h3 y9 y00 y01 y02 y10 y11 y12 y20 y21 y22 l0 d0 p0 e9 z0 kps pts wrk out mem abv cM cS cV cB)) := E
  obtain ⟨hx, hb, -⟩ := id E
  have hl : lv_has ls 3 [(0, .ref r0), (1, .int x1)] := hl
  unfold f_X6_drop at hf
  refine lv_iload_n hx hb dX6_drop_0 rfl (lv_at hl 1 rfl) ?_
  refine x_callS (isC := []) (ws' := (wRH cI cZ cN cC r0 h0 h1 h2 h3 y9 y00 y01 y02 y10 y11 y12 y20 y21 y22 l0 d0 p0 e9 z0 kps pts wrk out mem abv cM cS cV cB)) (st1 := [.int (f_X6_isChain x1)]) (As := [.int x1]) (rest := []) E hw vc_X6_210 (c_X6_isChain (cI := cI) (cZ := cZ) (cN := cN) (cC := cC)    (x0 := x1) rfl) rfl rfl rfl rfl rfl rfl ⟨Nat.le_of_ble_eq_true rfl, Nat.le_of_ble_eq_true rfl⟩ ⟨Nat.le_refl _, Nat.le_refl _⟩ hl.1 rfl rfl (Nat.le_of_ble_eq_true rfl) dX6_drop_1 (fun H locs hw => ?_)
  refine lv_if_ne (tgt := 10) hx hb dX6_drop_4 (by decide) (fun c1 => ?_) (fun c1 => ?_)
  · rw [if_neg c1] at hf
    refine lv_aload_n hx hb dX6_drop_10 rfl (lv_at hl 0 rfl) ?_
    refine x_get E hw kin_X6 0 rfl rfl 7 (by decide) kF_X6_56 (v := .ref y9) rfl dX6_drop_11 ?_
    refine lv_iload_n hx hb dX6_drop_14 rfl (lv_at hl 1 rfl) ?_
    obtain ⟨g2, hf⟩ := xgd hf
    rcases x_in3 (xin_vp g2) with ce | ce | ce
    · subst ce
      refine x_aald E hw 5 3 rfl rfl (xin_vp (by decide)) (w := .ref y00) rfl dX6_drop_15 ?_
      refine x_get E hw kin_X0 6 rfl rfl 2 (by decide) kF_X6_219 (v := .int (cM (Int32.toNatClampNeg (0 : Int32)))) rfl dX6_drop_16 ?_
      refine lv_if_eq (tgt := 25) hx hb dX6_drop_19 (by decide) (fun c9 => ?_) (fun c9 => ?_)
      · rw [if_pos c9] at hf
        refine lv_aload_n hx hb dX6_drop_25 rfl (lv_at hl 0 rfl) ?_
        refine x_get E hw kin_X6 0 rfl rfl 7 (by decide) kF_X6_56 (v := .ref y9) rfl dX6_drop_26 ?_
        refine lv_iload_n hx hb dX6_drop_29 rfl (lv_at hl 1 rfl) ?_
        obtain ⟨g10, hf⟩ := xgd hf
        refine x_aald E hw 5 3 rfl rfl (xin_vp g10) (w := .ref y00) rfl dX6_drop_30 ?_
        refine x_get E hw kin_X0 6 rfl rfl 3 (by decide) kF_X6_223 (v := .int (cS (Int32.toNatClampNeg (0 : Int32)))) rfl dX6_drop_31 ?_
        refine lv_istore_n (lv' := [(2, .int (cS (Int32.toNatClampNeg (0 : Int32)))), (0, .ref r0), (1, .int (0 : Int32))]) hx hb dX6_drop_34 rfl hl (by decide) rfl (fun ls hl => ?_)
        refine lv_aload_n hx hb dX6_drop_35 rfl (lv_at hl 1 rfl) ?_
        refine x_get E hw kin_X6 0 rfl rfl 7 (by decide) kF_X6_56 (v := .ref y9) rfl dX6_drop_36 ?_
        refine lv_iload_n hx hb dX6_drop_39 rfl (lv_at hl 2 rfl) ?_
        obtain ⟨g11, hf⟩ := xgd hf
        refine x_aald E hw 5 3 rfl rfl (xin_vp g11) (w := .ref y00) rfl dX6_drop_40 ?_
        refine x_callV (isC := [6, 7, 8]) (ws' := (wRH cI cZ cN cC r0 h0 h1 h2 h3 y9 y00 y01 y02 y10 y11 y12 y20 y21 y22 l0 d0 p0 e9 z0 kps pts wrk out mem abv (va_up cM (Int32.toNatClampNeg (0 : Int32)) ((f_X0_vanish).1)) (va_up cS (Int32.toNatClampNeg (0 : Int32)) ((f_X0_vanish).2)) cV cB)) (st1 := []) (As := []) (rest := []) E hw vc_X6_85 (c_X0_vanish (cI := cI) (cZ := cZ) (cN := cN) (cC := cC) (h0 := y00) (h1 := y01) (h2 := y02)  (mis := (cM (Int32.toNatClampNeg (0 : Int32)))) (siz := (cS (Int32.toNatClampNeg (0 : Int32)))) (val := (cV (Int32.toNatClampNeg (0 : Int32)))) (isa := (cB (Int32.toNatClampNeg (0 : Int32))))  rfl) 6 0 rfl rfl rfl rfl rfl rfl rfl rfl rfl ⟨Nat.le_of_ble_eq_true rfl, Nat.le_of_ble_eq_true rfl⟩ ⟨Nat.le_refl _, Nat.le_refl _⟩ hl.1 rfl rfl (Nat.le_of_ble_eq_true rfl) dX6_drop_41 (fun H locs hw => ?_)
        refine lv_iload_n hx hb dX6_drop_44 rfl (lv_at hl 0 rfl) ?_
        have hf := Option.some.inj hf; subst hf
        exact x_iret E hw dX6_drop_45
      · rw [if_neg c9] at hf
        refine lv_bipush (v := (-11)) hx hb dX6_drop_22 (by decide) ?_
        have hf := Option.some.inj hf; subst hf
        exact x_iret E hw dX6_drop_24
    · subst ce
      refine x_aald E hw 5 3 rfl rfl (xin_vp (by decide)) (w := .ref y10) rfl dX6_drop_15 ?_
      refine x_get E hw kin_X0 9 rfl rfl 2 (by decide) kF_X6_219 (v := .int (cM (Int32.toNatClampNeg (1 : Int32)))) rfl dX6_drop_16 ?_
      refine lv_if_eq (tgt := 25) hx hb dX6_drop_19 (by decide) (fun c12 => ?_) (fun c12 => ?_)
      · rw [if_pos c12] at hf
        refine lv_aload_n hx hb dX6_drop_25 rfl (lv_at hl 0 rfl) ?_
        refine x_get E hw kin_X6 0 rfl rfl 7 (by decide) kF_X6_56 (v := .ref y9) rfl dX6_drop_26 ?_
        refine lv_iload_n hx hb dX6_drop_29 rfl (lv_at hl 1 rfl) ?_
        obtain ⟨g13, hf⟩ := xgd hf
        refine x_aald E hw 5 3 rfl rfl (xin_vp g13) (w := .ref y10) rfl dX6_drop_30 ?_
        refine x_get E hw kin_X0 9 rfl rfl 3 (by decide) kF_X6_223 (v := .int (cS (Int32.toNatClampNeg (1 : Int32)))) rfl dX6_drop_31 ?_
        refine lv_istore_n (lv' := [(2, .int (cS (Int32.toNatClampNeg (1 : Int32)))), (0, .ref r0), (1, .int (1 : Int32))]) hx hb dX6_drop_34 rfl hl (by decide) rfl (fun ls hl => ?_)
        refine lv_aload_n hx hb dX6_drop_35 rfl (lv_at hl 1 rfl) ?_
        refine x_get E hw kin_X6 0 rfl rfl 7 (by decide) kF_X6_56 (v := .ref y9) rfl dX6_drop_36 ?_
        refine lv_iload_n hx hb dX6_drop_39 rfl (lv_at hl 2 rfl) ?_
        obtain ⟨g14, hf⟩ := xgd hf
        refine x_aald E hw 5 3 rfl rfl (xin_vp g14) (w := .ref y10) rfl dX6_drop_40 ?_
        refine x_callV (isC := [9, 10, 11]) (ws' := (wRH cI cZ cN cC r0 h0 h1 h2 h3 y9 y00 y01 y02 y10 y11 y12 y20 y21 y22 l0 d0 p0 e9 z0 kps pts wrk out mem abv (va_up cM (Int32.toNatClampNeg (1 : Int32)) ((f_X0_vanish).1)) (va_up cS (Int32.toNatClampNeg (1 : Int32)) ((f_X0_vanish).2)) cV cB)) (st1 := []) (As := []) (rest := []) E hw vc_X6_85 (c_X0_vanish (cI := cI) (cZ := cZ) (cN := cN) (cC := cC) (h0 := y10) (h1 := y11) (h2 := y12)  (mis := (cM (Int32.toNatClampNeg (1 : Int32)))) (siz := (cS (Int32.toNatClampNeg (1 : Int32)))) (val := (cV (Int32.toNatClampNeg (1 : Int32)))) (isa := (cB (Int32.toNatClampNeg (1 : Int32))))  rfl) 9 0 rfl rfl rfl rfl rfl rfl rfl rfl rfl ⟨Nat.le_of_ble_eq_true rfl, Nat.le_of_ble_eq_true rfl⟩ ⟨Nat.le_refl _, Nat.le_refl _⟩ hl.1 rfl rfl (Nat.le_of_ble_eq_true rfl) dX6_drop_41 (fun H locs hw => ?_)
        refine lv_iload_n hx hb dX6_drop_44 rfl (lv_at hl 0 rfl) ?_
        have hf := Option.some.inj hf; subst hf
        exact x_iret E hw dX6_drop_45
      · rw [if_neg c12] at hf
        refine lv_bipush (v := (-11)) hx hb dX6_drop_22 (by decide) ?_
        have hf := Option.some.inj hf; subst hf
        exact x_iret E hw dX6_drop_24
    · subst ce
      refine x_aald E hw 5 3 rfl rfl (xin_vp (by decide)) (w := .ref y20) rfl dX6_drop_15 ?_
      refine x_get E hw kin_X0 12 rfl rfl 2 (by decide) kF_X6_219 (v := .int (cM (Int32.toNatClampNeg (2 : Int32)))) rfl dX6_drop_16 ?_
      refine lv_if_eq (tgt := 25) hx hb dX6_drop_19 (by decide) (fun c15 => ?_) (fun c15 => ?_)
      · rw [if_pos c15] at hf
        refine lv_aload_n hx hb dX6_drop_25 rfl (lv_at hl 0 rfl) ?_
        refine x_get E hw kin_X6 0 rfl rfl 7 (by decide) kF_X6_56 (v := .ref y9) rfl dX6_drop_26 ?_
        refine lv_iload_n hx hb dX6_drop_29 rfl (lv_at hl 1 rfl) ?_
        obtain ⟨g16, hf⟩ := xgd hf
        refine x_aald E hw 5 3 rfl rfl (xin_vp g16) (w := .ref y20) rfl dX6_drop_30 ?_
        refine x_get E hw kin_X0 12 rfl rfl 3 (by decide) kF_X6_223 (v := .int (cS (Int32.toNatClampNeg (2 : Int32)))) rfl dX6_drop_31 ?_
        refine lv_istore_n (lv' := [(2, .int (cS (Int32.toNatClampNeg (2 : Int32)))), (0, .ref r0), (1, .int (2 : Int32))]) hx hb dX6_drop_34 rfl hl (by decide) rfl (fun ls hl => ?_)
        refine lv_aload_n hx hb dX6_drop_35 rfl (lv_at hl 1 rfl) ?_
        refine x_get E hw kin_X6 0 rfl rfl 7 (by decide) kF_X6_56 (v := .ref y9) rfl dX6_drop_36 ?_
        refine lv_iload_n hx hb dX6_drop_39 rfl (lv_at hl 2 rfl) ?_
        obtain ⟨g17, hf⟩ := xgd hf
        refine x_aald E hw 5 3 rfl rfl (xin_vp g17) (w := .ref y20) rfl dX6_drop_40 ?_
        refine x_callV (isC := [12, 13, 14]) (ws' := (wRH cI cZ cN cC r0 h0 h1 h2 h3 y9 y00 y01 y02 y10 y11 y12 y20 y21 y22 l0 d0 p0 e9 z0 kps pts wrk out mem abv (va_up cM (Int32.toNatClampNeg (2 : Int32)) ((f_X0_vanish).1)) (va_up cS (Int32.toNatClampNeg (2 : Int32)) ((f_X0_vanish).2)) cV cB)) (st1 := []) (As := []) (rest := []) E hw vc_X6_85 (c_X0_vanish (cI := cI) (cZ := cZ) (cN := cN) (cC := cC) (h0 := y20) (h1 := y21) (h2 := y22)  (mis := (cM (Int32.toNatClampNeg (2 : Int32)))) (siz := (cS (Int32.toNatClampNeg (2 : Int32)))) (val := (cV (Int32.toNatClampNeg (2 : Int32)))) (isa := (cB (Int32.toNatClampNeg (2 : Int32))))  rfl) 12 0 rfl rfl rfl rfl rfl rfl rfl rfl rfl ⟨Nat.le_of_ble_eq_true rfl, Nat.le_of_ble_eq_true rfl⟩ ⟨Nat.le_refl _, Nat.le_refl _⟩ hl.1 rfl rfl (Nat.le_of_ble_eq_true rfl) dX6_drop_41 (fun H locs hw => ?_)
        refine lv_iload_n hx hb dX6_drop_44 rfl (lv_at hl 0 rfl) ?_
        have hf := Option.some.inj hf; subst hf
        exact x_iret E hw dX6_drop_45
      · rw [if_neg c15] at hf
        refine lv_bipush (v := (-11)) hx hb dX6_drop_22 (by decide) ?_
        have hf := Option.some.inj hf; subst hf
        exact x_iret E hw dX6_drop_24
  · rw [if_pos c1] at hf
    refine lv_bipush (v := (-2)) hx hb dX6_drop_7 (by decide) ?_
    have hf := Option.some.inj hf; subst hf
    exact x_iret E hw dX6_drop_9

def f_X6_append_75 (N : Nat) (x5 : Int32) (ix3 : Nat) (ix4 : Nat) : Nat → Int32 → (Nat → Int32) → (Nat → Nat → Int32) → (Nat → Nat → Int32) → Option (Int32 × (Nat → Int32) × (Nat → Nat → Int32) × (Nat → Nat → Int32))
  | 0, _, _, _, _ => none
  | n + 1, x6, cS, cV, cB =>
    if x5 ≤ x6 then
     some ((cS ix4), cS, cV, cB)
    else
     if xin x6 8 then
     if xin x6 8 then
     (f_X0_insert N (cS ix4) ((cV ix3) (Int32.toNatClampNeg x6)) ((cB ix3) (Int32.toNatClampNeg x6)) (cS ix4) (cV ix4) (cB ix4)).bind fun q59 =>
     f_X6_append_75 N x5 ix3 ix4 n (x6 + 1) (va_up cS ix4 q59.1) (va_up cV ix4 q59.2.1) (va_up cB ix4 q59.2.2)
     else none
     else none
set_option maxHeartbeats 4000000 in
set_option maxRecDepth 100000 in
theorem b_X6_append_75_y00_y00 {p : Program} {l : Launch} {e : Env} {s : State} {m : MethodId} {args : Array Value} {below : List Frame} {meth : Method} {c : Code} {D : va_G} {cI cZ cN cC : ClassId} {ws0 : va_W} {r0 h0 h1 h2 h3 y9 y00 y01 y02 y10 y11 y12 y20 y21 y22 l0 d0 p0 e9 z0 : Nat} {x5 : Int32} {kps : Int32} {pts : Int32} {wrk : Int32} {out : (Nat → Int32)} {mem : (Nat → Int32)} {abv : (Nat → Int32)} {cM : (Nat → Int32)} {N : Nat} {res : Int32 × (Nat → Int32) × (Nat → Nat → Int32) × (Nat → Nat → Int32)} (E : xE p s m args meth c cX6_append 7 (some .int) RX6 D (xtys cI cZ cN cC) (xA ws0)) : ∀ (n : Nat) (x6 : Int32) (cS : (Nat → Int32)) (cV : (Nat → Nat → Int32)) (cB : (Nat → Nat → Int32)), f_X6_append_75 N x5 0 0 n x6 cS cV cB = some res → ∀ (H : Heap) (locs : List Loc) (ls : Array Slot), xw D (xA ws0) s.heap (wRH cI cZ cN cC r0 h0 h1 h2 h3 y9 y00 y01 y02 y10 y11 y12 y20 y21 y22 l0 d0 p0 e9 z0 kps pts wrk out mem abv cM cS cV cB) H locs → lv_has ls 7 [(3, .ref y00), (4, .ref y00), (5, .int x5), (6, .int x6)] → xG p l e 1 24 s m args below meth c D ws0 (wRH cI cZ cN cC r0 h0 h1 h2 h3 y9 y00 y01 y02 y10 y11 y12 y20 y21 y22 l0 d0 p0 e9 z0 kps pts wrk out mem abv cM res.2.1 res.2.2.1 res.2.2.2) (some (.int res.1)) H locs (F0 m 75 ls []) := by
  obtain ⟨hx, hb, -⟩ := id E
  intro n
  induction n with
  | zero =>
    intro _ _ _ _ hf
    rw [f_X6_append_75] at hf; cases hf
  | succ n ih =>
    intro x6 cS cV cB hf H locs ls hw hl
    rw [f_X6_append_75] at hf
    refine lv_iload hx hb dX6_append_75 (lv_at hl 3 rfl) ?_
    refine lv_iload hx hb dX6_append_77 (lv_at hl 2 rfl) ?_
    refine lv_icmp_ge (tgt := 112) hx hb dX6_append_79 (by decide) (fun c60 => ?_) (fun c60 => ?_)
    · rw [if_pos c60] at hf
      refine lv_aload hx hb dX6_append_112 (lv_at hl 1 rfl) ?_
      refine x_get E hw kin_X0 6 rfl rfl 3 (by decide) kF_X6_223 (v := .int (cS 0)) rfl dX6_append_114 ?_
      have hf := Option.some.inj hf; subst hf
      exact x_iret E hw dX6_append_117
    · rw [if_neg c60] at hf
      refine lv_aload hx hb dX6_append_82 (lv_at hl 1 rfl) ?_
      refine lv_aload hx hb dX6_append_84 (lv_at hl 1 rfl) ?_
      refine x_get E hw kin_X0 6 rfl rfl 3 (by decide) kF_X6_223 (v := .int (cS 0)) rfl dX6_append_86 ?_
      refine lv_aload_n hx hb dX6_append_89 rfl (lv_at hl 0 rfl) ?_
      refine x_get E hw kin_X0 6 rfl rfl 0 (by decide) kF_X6_232 (v := .ref y01) rfl dX6_append_90 ?_
      refine lv_iload hx hb dX6_append_93 (lv_at hl 3 rfl) ?_
      obtain ⟨g61, hf⟩ := xgd hf
      refine x_iald E hw 7 0 (f := (cV 0)) rfl rfl (xin_vp g61) dX6_append_95 ?_
      refine lv_aload_n hx hb dX6_append_96 rfl (lv_at hl 0 rfl) ?_
      refine x_get E hw kin_X0 6 rfl rfl 1 (by decide) kF_X6_228 (v := .ref y02) rfl dX6_append_97 ?_
      refine lv_iload hx hb dX6_append_100 (lv_at hl 3 rfl) ?_
      obtain ⟨g62, hf⟩ := xgd hf
      refine x_zald E hw 8 1 (f := (cB 0)) rfl rfl (xin_vp g62) dX6_append_102 ?_
      obtain ⟨q63, hq63, hf⟩ := Option.bind_eq_some_iff.mp hf
      refine x_callV (isC := [6, 7, 8]) (ws' := (wRH cI cZ cN cC r0 h0 h1 h2 h3 y9 y00 y01 y02 y10 y11 y12 y20 y21 y22 l0 d0 p0 e9 z0 kps pts wrk out mem abv cM (va_up cS 0 q63.1) (va_up cV 0 q63.2.1) (va_up cB 0 q63.2.2))) (st1 := []) (As := [.int (cS 0), .int ((cV 0) (Int32.toNatClampNeg x6)), .int ((cB 0) (Int32.toNatClampNeg x6))]) (rest := []) E hw vc_X6_224 (c_X0_insert (cI := cI) (cZ := cZ) (cN := cN) (cC := cC) (h0 := y00) (h1 := y01) (h2 := y02)  (mis := (cM 0)) (siz := (cS 0)) (val := (cV 0)) (isa := (cB 0)) (x1 := (cS 0)) (x2 := ((cV 0) (Int32.toNatClampNeg x6))) (x3 := ((cB 0) (Int32.toNatClampNeg x6))) hq63) 6 0 rfl rfl rfl rfl rfl rfl rfl rfl rfl ⟨Nat.le_of_ble_eq_true rfl, Nat.le_of_ble_eq_true rfl⟩ ⟨Nat.le_refl _, Nat.le_refl _⟩ hl.1 rfl rfl (Nat.le_of_ble_eq_true rfl) dX6_append_103 (fun H locs hw => ?_)
      refine lv_iinc (v := (x6 + 1)) (lv' := [(6, .int (x6 + 1)), (3, .ref y00), (4, .ref y00), (5, .int x5)]) hx hb dX6_append_106 hl (k := 3) rfl rfl (by decide) rfl (fun ls hl => ?_)
      refine lv_goto (tgt := 75) hx hb dX6_append_109 (by decide) ?_
      exact ih _ _ _ _ hf _ _ _ hw (lv_sub hl [1, 2, 3, 0] rfl)
set_option maxHeartbeats 4000000 in
set_option maxRecDepth 100000 in
theorem b_X6_append_75_y00_y10 {p : Program} {l : Launch} {e : Env} {s : State} {m : MethodId} {args : Array Value} {below : List Frame} {meth : Method} {c : Code} {D : va_G} {cI cZ cN cC : ClassId} {ws0 : va_W} {r0 h0 h1 h2 h3 y9 y00 y01 y02 y10 y11 y12 y20 y21 y22 l0 d0 p0 e9 z0 : Nat} {x5 : Int32} {kps : Int32} {pts : Int32} {wrk : Int32} {out : (Nat → Int32)} {mem : (Nat → Int32)} {abv : (Nat → Int32)} {cM : (Nat → Int32)} {N : Nat} {res : Int32 × (Nat → Int32) × (Nat → Nat → Int32) × (Nat → Nat → Int32)} (E : xE p s m args meth c cX6_append 7 (some .int) RX6 D (xtys cI cZ cN cC) (xA ws0)) : ∀ (n : Nat) (x6 : Int32) (cS : (Nat → Int32)) (cV : (Nat → Nat → Int32)) (cB : (Nat → Nat → Int32)), f_X6_append_75 N x5 0 1 n x6 cS cV cB = some res → ∀ (H : Heap) (locs : List Loc) (ls : Array Slot), xw D (xA ws0) s.heap (wRH cI cZ cN cC r0 h0 h1 h2 h3 y9 y00 y01 y02 y10 y11 y12 y20 y21 y22 l0 d0 p0 e9 z0 kps pts wrk out mem abv cM cS cV cB) H locs → lv_has ls 7 [(3, .ref y00), (4, .ref y10), (5, .int x5), (6, .int x6)] → xG p l e 1 24 s m args below meth c D ws0 (wRH cI cZ cN cC r0 h0 h1 h2 h3 y9 y00 y01 y02 y10 y11 y12 y20 y21 y22 l0 d0 p0 e9 z0 kps pts wrk out mem abv cM res.2.1 res.2.2.1 res.2.2.2) (some (.int res.1)) H locs (F0 m 75 ls []) := by
  obtain ⟨hx, hb, -⟩ := id E
  intro n
  induction n with
  | zero =>
    intro _ _ _ _ hf
    rw [f_X6_append_75] at hf; cases hf
  | succ n ih =>
    intro x6 cS cV cB hf H locs ls hw hl
    rw [f_X6_append_75] at hf
    refine lv_iload hx hb dX6_append_75 (lv_at hl 3 rfl) ?_
    refine lv_iload hx hb dX6_append_77 (lv_at hl 2 rfl) ?_
    refine lv_icmp_ge (tgt := 112) hx hb dX6_append_79 (by decide) (fun c64 => ?_) (fun c64 => ?_)
    · rw [if_pos c64] at hf
      refine lv_aload hx hb dX6_append_112 (lv_at hl 1 rfl) ?_
      refine x_get E hw kin_X0 9 rfl rfl 3 (by decide) kF_X6_223 (v := .int (cS 1)) rfl dX6_append_114 ?_
      have hf := Option.some.inj hf; subst hf
      exact x_iret E hw dX6_append_117
    · rw [if_neg c64] at hf
      refine lv_aload hx hb dX6_append_82 (lv_at hl 1 rfl) ?_
      refine lv_aload hx hb dX6_append_84 (lv_at hl 1 rfl) ?_
      refine x_get E hw kin_X0 9 rfl rfl 3 (by decide) kF_X6_223 (v := .int (cS 1)) rfl dX6_append_86 ?_
      refine lv_aload_n hx hb dX6_append_89 rfl (lv_at hl 0 rfl) ?_
      refine x_get E hw kin_X0 6 rfl rfl 0 (by decide) kF_X6_232 (v := .ref y01) rfl dX6_append_90 ?_
      refine lv_iload hx hb dX6_append_93 (lv_at hl 3 rfl) ?_
      obtain ⟨g65, hf⟩ := xgd hf
      refine x_iald E hw 7 0 (f := (cV 0)) rfl rfl (xin_vp g65) dX6_append_95 ?_
      refine lv_aload_n hx hb dX6_append_96 rfl (lv_at hl 0 rfl) ?_
      refine x_get E hw kin_X0 6 rfl rfl 1 (by decide) kF_X6_228 (v := .ref y02) rfl dX6_append_97 ?_
      refine lv_iload hx hb dX6_append_100 (lv_at hl 3 rfl) ?_
      obtain ⟨g66, hf⟩ := xgd hf
      refine x_zald E hw 8 1 (f := (cB 0)) rfl rfl (xin_vp g66) dX6_append_102 ?_
      obtain ⟨q67, hq67, hf⟩ := Option.bind_eq_some_iff.mp hf
      refine x_callV (isC := [9, 10, 11]) (ws' := (wRH cI cZ cN cC r0 h0 h1 h2 h3 y9 y00 y01 y02 y10 y11 y12 y20 y21 y22 l0 d0 p0 e9 z0 kps pts wrk out mem abv cM (va_up cS 1 q67.1) (va_up cV 1 q67.2.1) (va_up cB 1 q67.2.2))) (st1 := []) (As := [.int (cS 1), .int ((cV 0) (Int32.toNatClampNeg x6)), .int ((cB 0) (Int32.toNatClampNeg x6))]) (rest := []) E hw vc_X6_224 (c_X0_insert (cI := cI) (cZ := cZ) (cN := cN) (cC := cC) (h0 := y10) (h1 := y11) (h2 := y12)  (mis := (cM 1)) (siz := (cS 1)) (val := (cV 1)) (isa := (cB 1)) (x1 := (cS 1)) (x2 := ((cV 0) (Int32.toNatClampNeg x6))) (x3 := ((cB 0) (Int32.toNatClampNeg x6))) hq67) 9 0 rfl rfl rfl rfl rfl rfl rfl rfl rfl ⟨Nat.le_of_ble_eq_true rfl, Nat.le_of_ble_eq_true rfl⟩ ⟨Nat.le_refl _, Nat.le_refl _⟩ hl.1 rfl rfl (Nat.le_of_ble_eq_true rfl) dX6_append_103 (fun H locs hw => ?_)
      refine lv_iinc (v := (x6 + 1)) (lv' := [(6, .int (x6 + 1)), (3, .ref y00), (4, .ref y10), (5, .int x5)]) hx hb dX6_append_106 hl (k := 3) rfl rfl (by decide) rfl (fun ls hl => ?_)
      refine lv_goto (tgt := 75) hx hb dX6_append_109 (by decide) ?_
      exact ih _ _ _ _ hf _ _ _ hw (lv_sub hl [1, 2, 3, 0] rfl)
set_option maxHeartbeats 4000000 in
set_option maxRecDepth 100000 in
theorem b_X6_append_75_y00_y20 {p : Program} {l : Launch} {e : Env} {s : State} {m : MethodId} {args : Array Value} {below : List Frame} {meth : Method} {c : Code} {D : va_G} {cI cZ cN cC : ClassId} {ws0 : va_W} {r0 h0 h1 h2 h3 y9 y00 y01 y02 y10 y11 y12 y20 y21 y22 l0 d0 p0 e9 z0 : Nat} {x5 : Int32} {kps : Int32} {pts : Int32} {wrk : Int32} {out : (Nat → Int32)} {mem : (Nat → Int32)} {abv : (Nat → Int32)} {cM : (Nat → Int32)} {N : Nat} {res : Int32 × (Nat → Int32) × (Nat → Nat → Int32) × (Nat → Nat → Int32)} (E : xE p s m args meth c cX6_append 7 (some .int) RX6 D (xtys cI cZ cN cC) (xA ws0)) : ∀ (n : Nat) (x6 : Int32) (cS : (Nat → Int32)) (cV : (Nat → Nat → Int32)) (cB : (Nat → Nat → Int32)), f_X6_append_75 N x5 0 2 n x6 cS cV cB = some res → ∀ (H : Heap) (locs : List Loc) (ls : Array Slot), xw D (xA ws0) s.heap (wRH cI cZ cN cC r0 h0 h1 h2 h3 y9 y00 y01 y02 y10 y11 y12 y20 y21 y22 l0 d0 p0 e9 z0 kps pts wrk out mem abv cM cS cV cB) H locs → lv_has ls 7 [(3, .ref y00), (4, .ref y20), (5, .int x5), (6, .int x6)] → xG p l e 1 24 s m args below meth c D ws0 (wRH cI cZ cN cC r0 h0 h1 h2 h3 y9 y00 y01 y02 y10 y11 y12 y20 y21 y22 l0 d0 p0 e9 z0 kps pts wrk out mem abv cM res.2.1 res.2.2.1 res.2.2.2) (some (.int res.1)) H locs (F0 m 75 ls []) := by
  obtain ⟨hx, hb, -⟩ := id E
  intro n
  induction n with
  | zero =>
    intro _ _ _ _ hf
    rw [f_X6_append_75] at hf; cases hf
  | succ n ih =>
    intro x6 cS cV cB hf H locs ls hw hl
    rw [f_X6_append_75] at hf
    refine lv_iload hx hb dX6_append_75 (lv_at hl 3 rfl) ?_
    refine lv_iload hx hb dX6_append_77 (lv_at hl 2 rfl) ?_
    refine lv_icmp_ge (tgt := 112) hx hb dX6_append_79 (by decide) (fun c68 => ?_) (fun c68 => ?_)
    · rw [if_pos c68] at hf
      refine lv_aload hx hb dX6_append_112 (lv_at hl 1 rfl) ?_
      refine x_get E hw kin_X0 12 rfl rfl 3 (by decide) kF_X6_223 (v := .int (cS 2)) rfl dX6_append_114 ?_
      have hf := Option.some.inj hf; subst hf
      exact x_iret E hw dX6_append_117
    · rw [if_neg c68] at hf
      refine lv_aload hx hb dX6_append_82 (lv_at hl 1 rfl) ?_
      refine lv_aload hx hb dX6_append_84 (lv_at hl 1 rfl) ?_
      refine x_get E hw kin_X0 12 rfl rfl 3 (by decide) kF_X6_223 (v := .int (cS 2)) rfl dX6_append_86 ?_
      refine lv_aload_n hx hb dX6_append_89 rfl (lv_at hl 0 rfl) ?_
      refine x_get E hw kin_X0 6 rfl rfl 0 (by decide) kF_X6_232 (v := .ref y01) rfl dX6_append_90 ?_
      refine lv_iload hx hb dX6_append_93 (lv_at hl 3 rfl) ?_
      obtain ⟨g69, hf⟩ := xgd hf
      refine x_iald E hw 7 0 (f := (cV 0)) rfl rfl (xin_vp g69) dX6_append_95 ?_
      refine lv_aload_n hx hb dX6_append_96 rfl (lv_at hl 0 rfl) ?_
      refine x_get E hw kin_X0 6 rfl rfl 1 (by decide) kF_X6_228 (v := .ref y02) rfl dX6_append_97 ?_
      refine lv_iload hx hb dX6_append_100 (lv_at hl 3 rfl) ?_
      obtain ⟨g70, hf⟩ := xgd hf
      refine x_zald E hw 8 1 (f := (cB 0)) rfl rfl (xin_vp g70) dX6_append_102 ?_
      obtain ⟨q71, hq71, hf⟩ := Option.bind_eq_some_iff.mp hf
      refine x_callV (isC := [12, 13, 14]) (ws' := (wRH cI cZ cN cC r0 h0 h1 h2 h3 y9 y00 y01 y02 y10 y11 y12 y20 y21 y22 l0 d0 p0 e9 z0 kps pts wrk out mem abv cM (va_up cS 2 q71.1) (va_up cV 2 q71.2.1) (va_up cB 2 q71.2.2))) (st1 := []) (As := [.int (cS 2), .int ((cV 0) (Int32.toNatClampNeg x6)), .int ((cB 0) (Int32.toNatClampNeg x6))]) (rest := []) E hw vc_X6_224 (c_X0_insert (cI := cI) (cZ := cZ) (cN := cN) (cC := cC) (h0 := y20) (h1 := y21) (h2 := y22)  (mis := (cM 2)) (siz := (cS 2)) (val := (cV 2)) (isa := (cB 2)) (x1 := (cS 2)) (x2 := ((cV 0) (Int32.toNatClampNeg x6))) (x3 := ((cB 0) (Int32.toNatClampNeg x6))) hq71) 12 0 rfl rfl rfl rfl rfl rfl rfl rfl rfl ⟨Nat.le_of_ble_eq_true rfl, Nat.le_of_ble_eq_true rfl⟩ ⟨Nat.le_refl _, Nat.le_refl _⟩ hl.1 rfl rfl (Nat.le_of_ble_eq_true rfl) dX6_append_103 (fun H locs hw => ?_)
      refine lv_iinc (v := (x6 + 1)) (lv' := [(6, .int (x6 + 1)), (3, .ref y00), (4, .ref y20), (5, .int x5)]) hx hb dX6_append_106 hl (k := 3) rfl rfl (by decide) rfl (fun ls hl => ?_)
      refine lv_goto (tgt := 75) hx hb dX6_append_109 (by decide) ?_
      exact ih _ _ _ _ hf _ _ _ hw (lv_sub hl [1, 2, 3, 0] rfl)
set_option maxHeartbeats 4000000 in
set_option maxRecDepth 100000 in
theorem b_X6_append_75_y10_y00 {p : Program} {l : Launch} {e : Env} {s : State} {m : MethodId} {args : Array Value} {below : List Frame} {meth : Method} {c : Code} {D : va_G} {cI cZ cN cC : ClassId} {ws0 : va_W} {r0 h0 h1 h2 h3 y9 y00 y01 y02 y10 y11 y12 y20 y21 y22 l0 d0 p0 e9 z0 : Nat} {x5 : Int32} {kps : Int32} {pts : Int32} {wrk : Int32} {out : (Nat → Int32)} {mem : (Nat → Int32)} {abv : (Nat → Int32)} {cM : (Nat → Int32)} {N : Nat} {res : Int32 × (Nat → Int32) × (Nat → Nat → Int32) × (Nat → Nat → Int32)} (E : xE p s m args meth c cX6_append 7 (some .int) RX6 D (xtys cI cZ cN cC) (xA ws0)) : ∀ (n : Nat) (x6 : Int32) (cS : (Nat → Int32)) (cV : (Nat → Nat → Int32)) (cB : (Nat → Nat → Int32)), f_X6_append_75 N x5 1 0 n x6 cS cV cB = some res → ∀ (H : Heap) (locs : List Loc) (ls : Array Slot), xw D (xA ws0) s.heap (wRH cI cZ cN cC r0 h0 h1 h2 h3 y9 y00 y01 y02 y10 y11 y12 y20 y21 y22 l0 d0 p0 e9 z0 kps pts wrk out mem abv cM cS cV cB) H locs → lv_has ls 7 [(3, .ref y10), (4, .ref y00), (5, .int x5), (6, .int x6)] → xG p l e 1 24 s m args below meth c D ws0 (wRH cI cZ cN cC r0 h0 h1 h2 h3 y9 y00 y01 y02 y10 y11 y12 y20 y21 y22 l0 d0 p0 e9 z0 kps pts wrk out mem abv cM res.2.1 res.2.2.1 res.2.2.2) (some (.int res.1)) H locs (F0 m 75 ls []) := by
  obtain ⟨hx, hb, -⟩ := id E
  intro n
  induction n with
  | zero =>
    intro _ _ _ _ hf
    rw [f_X6_append_75] at hf; cases hf
  | succ n ih =>
    intro x6 cS cV cB hf H locs ls hw hl
    rw [f_X6_append_75] at hf
    refine lv_iload hx hb dX6_append_75 (lv_at hl 3 rfl) ?_
    refine lv_iload hx hb dX6_append_77 (lv_at hl 2 rfl) ?_
    refine lv_icmp_ge (tgt := 112) hx hb dX6_append_79 (by decide) (fun c72 => ?_) (fun c72 => ?_)
    · rw [if_pos c72] at hf
      refine lv_aload hx hb dX6_append_112 (lv_at hl 1 rfl) ?_
      refine x_get E hw kin_X0 6 rfl rfl 3 (by decide) kF_X6_223 (v := .int (cS 0)) rfl dX6_append_114 ?_
      have hf := Option.some.inj hf; subst hf
      exact x_iret E hw dX6_append_117
    · rw [if_neg c72] at hf
      refine lv_aload hx hb dX6_append_82 (lv_at hl 1 rfl) ?_
      refine lv_aload hx hb dX6_append_84 (lv_at hl 1 rfl) ?_
      refine x_get E hw kin_X0 6 rfl rfl 3 (by decide) kF_X6_223 (v := .int (cS 0)) rfl dX6_append_86 ?_
      refine lv_aload_n hx hb dX6_append_89 rfl (lv_at hl 0 rfl) ?_
      refine x_get E hw kin_X0 9 rfl rfl 0 (by decide) kF_X6_232 (v := .ref y11) rfl dX6_append_90 ?_
      refine lv_iload hx hb dX6_append_93 (lv_at hl 3 rfl) ?_
      obtain ⟨g73, hf⟩ := xgd hf
      refine x_iald E hw 10 0 (f := (cV 1)) rfl rfl (xin_vp g73) dX6_append_95 ?_
      refine lv_aload_n hx hb dX6_append_96 rfl (lv_at hl 0 rfl) ?_
      refine x_get E hw kin_X0 9 rfl rfl 1 (by decide) kF_X6_228 (v := .ref y12) rfl dX6_append_97 ?_
      refine lv_iload hx hb dX6_append_100 (lv_at hl 3 rfl) ?_
      obtain ⟨g74, hf⟩ := xgd hf
      refine x_zald E hw 11 1 (f := (cB 1)) rfl rfl (xin_vp g74) dX6_append_102 ?_
      obtain ⟨q75, hq75, hf⟩ := Option.bind_eq_some_iff.mp hf
      refine x_callV (isC := [6, 7, 8]) (ws' := (wRH cI cZ cN cC r0 h0 h1 h2 h3 y9 y00 y01 y02 y10 y11 y12 y20 y21 y22 l0 d0 p0 e9 z0 kps pts wrk out mem abv cM (va_up cS 0 q75.1) (va_up cV 0 q75.2.1) (va_up cB 0 q75.2.2))) (st1 := []) (As := [.int (cS 0), .int ((cV 1) (Int32.toNatClampNeg x6)), .int ((cB 1) (Int32.toNatClampNeg x6))]) (rest := []) E hw vc_X6_224 (c_X0_insert (cI := cI) (cZ := cZ) (cN := cN) (cC := cC) (h0 := y00) (h1 := y01) (h2 := y02)  (mis := (cM 0)) (siz := (cS 0)) (val := (cV 0)) (isa := (cB 0)) (x1 := (cS 0)) (x2 := ((cV 1) (Int32.toNatClampNeg x6))) (x3 := ((cB 1) (Int32.toNatClampNeg x6))) hq75) 6 0 rfl rfl rfl rfl rfl rfl rfl rfl rfl ⟨Nat.le_of_ble_eq_true rfl, Nat.le_of_ble_eq_true rfl⟩ ⟨Nat.le_refl _, Nat.le_refl _⟩ hl.1 rfl rfl (Nat.le_of_ble_eq_true rfl) dX6_append_103 (fun H locs hw => ?_)
      refine lv_iinc (v := (x6 + 1)) (lv' := [(6, .int (x6 + 1)), (3, .ref y10), (4, .ref y00), (5, .int x5)]) hx hb dX6_append_106 hl (k := 3) rfl rfl (by decide) rfl (fun ls hl => ?_)
      refine lv_goto (tgt := 75) hx hb dX6_append_109 (by decide) ?_
      exact ih _ _ _ _ hf _ _ _ hw (lv_sub hl [1, 2, 3, 0] rfl)
set_option maxHeartbeats 4000000 in
set_option maxRecDepth 100000 in
theorem b_X6_append_75_y10_y10 {p : Program} {l : Launch} {e : Env} {s : State} {m : MethodId} {args : Array Value} {below : List Frame} {meth : Method} {c : Code} {D : va_G} {cI cZ cN cC : ClassId} {ws0 : va_W} {r0 h0 h1 h2 h3 y9 y00 y01 y02 y10 y11 y12 y20 y21 y22 l0 d0 p0 e9 z0 : Nat} {x5 : Int32} {kps : Int32} {pts : Int32} {wrk : Int32} {out : (Nat → Int32)} {mem : (Nat → Int32)} {abv : (Nat → Int32)} {cM : (Nat → Int32)} {N : Nat} {res : Int32 × (Nat → Int32) × (Nat → Nat → Int32) × (Nat → Nat → Int32)} (E : xE p s m args meth c cX6_append 7 (some .int) RX6 D (xtys cI cZ cN cC) (xA ws0)) : ∀ (n : Nat) (x6 : Int32) (cS : (Nat → Int32)) (cV : (Nat → Nat → Int32)) (cB : (Nat → Nat → Int32)), f_X6_append_75 N x5 1 1 n x6 cS cV cB = some res → ∀ (H : Heap) (locs : List Loc) (ls : Array Slot), xw D (xA ws0) s.heap (wRH cI cZ cN cC r0 h0 h1 h2 h3 y9 y00 y01 y02 y10 y11 y12 y20 y21 y22 l0 d0 p0 e9 z0 kps pts wrk out mem abv cM cS cV cB) H locs → lv_has ls 7 [(3, .ref y10), (4, .ref y10), (5, .int x5), (6, .int x6)] → xG p l e 1 24 s m args below meth c D ws0 (wRH cI cZ cN cC r0 h0 h1 h2 h3 y9 y00 y01 y02 y10 y11 y12 y20 y21 y22 l0 d0 p0 e9 z0 kps pts wrk out mem abv cM res.2.1 res.2.2.1 res.2.2.2) (some (.int res.1)) H locs (F0 m 75 ls []) := by
  obtain ⟨hx, hb, -⟩ := id E
  intro n
  induction n with
  | zero =>
    intro _ _ _ _ hf
    rw [f_X6_append_75] at hf; cases hf
  | succ n ih =>
    intro x6 cS cV cB hf H locs ls hw hl
    rw [f_X6_append_75] at hf
    refine lv_iload hx hb dX6_append_75 (lv_at hl 3 rfl) ?_
    refine lv_iload hx hb dX6_append_77 (lv_at hl 2 rfl) ?_
    refine lv_icmp_ge (tgt := 112) hx hb dX6_append_79 (by decide) (fun c76 => ?_) (fun c76 => ?_)
    · rw [if_pos c76] at hf
      refine lv_aload hx hb dX6_append_112 (lv_at hl 1 rfl) ?_
      refine x_get E hw kin_X0 9 rfl rfl 3 (by decide) kF_X6_223 (v := .int (cS 1)) rfl dX6_append_114 ?_
      have hf := Option.some.inj hf; subst hf
      exact x_iret E hw dX6_append_117
    · rw [if_neg c76] at hf
      refine lv_aload hx hb dX6_append_82 (lv_at hl 1 rfl) ?_
      refine lv_aload hx hb dX6_append_84 (lv_at hl 1 rfl) ?_
      refine x_get E hw kin_X0 9 rfl rfl 3 (by decide) kF_X6_223 (v := .int (cS 1)) rfl dX6_append_86 ?_
      refine lv_aload_n hx hb dX6_append_89 rfl (lv_at hl 0 rfl) ?_
      refine x_get E hw kin_X0 9 rfl rfl 0 (by decide) kF_X6_232 (v := .ref y11) rfl dX6_append_90 ?_
      refine lv_iload hx hb dX6_append_93 (lv_at hl 3 rfl) ?_
      obtain ⟨g77, hf⟩ := xgd hf
      refine x_iald E hw 10 0 (f := (cV 1)) rfl rfl (xin_vp g77) dX6_append_95 ?_
      refine lv_aload_n hx hb dX6_append_96 rfl (lv_at hl 0 rfl) ?_
      refine x_get E hw kin_X0 9 rfl rfl 1 (by decide) kF_X6_228 (v := .ref y12) rfl dX6_append_97 ?_
      refine lv_iload hx hb dX6_append_100 (lv_at hl 3 rfl) ?_
      obtain ⟨g78, hf⟩ := xgd hf
      refine x_zald E hw 11 1 (f := (cB 1)) rfl rfl (xin_vp g78) dX6_append_102 ?_
      obtain ⟨q79, hq79, hf⟩ := Option.bind_eq_some_iff.mp hf
      refine x_callV (isC := [9, 10, 11]) (ws' := (wRH cI cZ cN cC r0 h0 h1 h2 h3 y9 y00 y01 y02 y10 y11 y12 y20 y21 y22 l0 d0 p0 e9 z0 kps pts wrk out mem abv cM (va_up cS 1 q79.1) (va_up cV 1 q79.2.1) (va_up cB 1 q79.2.2))) (st1 := []) (As := [.int (cS 1), .int ((cV 1) (Int32.toNatClampNeg x6)), .int ((cB 1) (Int32.toNatClampNeg x6))]) (rest := []) E hw vc_X6_224 (c_X0_insert (cI := cI) (cZ := cZ) (cN := cN) (cC := cC) (h0 := y10) (h1 := y11) (h2 := y12)  (mis := (cM 1)) (siz := (cS 1)) (val := (cV 1)) (isa := (cB 1)) (x1 := (cS 1)) (x2 := ((cV 1) (Int32.toNatClampNeg x6))) (x3 := ((cB 1) (Int32.toNatClampNeg x6))) hq79) 9 0 rfl rfl rfl rfl rfl rfl rfl rfl rfl ⟨Nat.le_of_ble_eq_true rfl, Nat.le_of_ble_eq_true rfl⟩ ⟨Nat.le_refl _, Nat.le_refl _⟩ hl.1 rfl rfl (Nat.le_of_ble_eq_true rfl) dX6_append_103 (fun H locs hw => ?_)
      refine lv_iinc (v := (x6 + 1)) (lv' := [(6, .int (x6 + 1)), (3, .ref y10), (4, .ref y10), (5, .int x5)]) hx hb dX6_append_106 hl (k := 3) rfl rfl (by decide) rfl (fun ls hl => ?_)
      refine lv_goto (tgt := 75) hx hb dX6_append_109 (by decide) ?_
      exact ih _ _ _ _ hf _ _ _ hw (lv_sub hl [1, 2, 3, 0] rfl)
set_option maxHeartbeats 4000000 in
set_option maxRecDepth 100000 in
theorem b_X6_append_75_y10_y20 {p : Program} {l : Launch} {e : Env} {s : State} {m : MethodId} {args : Array Value} {below : List Frame} {meth : Method} {c : Code} {D : va_G} {cI cZ cN cC : ClassId} {ws0 : va_W} {r0 h0 h1 h2 h3 y9 y00 y01 y02 y10 y11 y12 y20 y21 y22 l0 d0 p0 e9 z0 : Nat} {x5 : Int32} {kps : Int32} {pts : Int32} {wrk : Int32} {out : (Nat → Int32)} {mem : (Nat → Int32)} {abv : (Nat → Int32)} {cM : (Nat → Int32)} {N : Nat} {res : Int32 × (Nat → Int32) × (Nat → Nat → Int32) × (Nat → Nat → Int32)} (E : xE p s m args meth c cX6_append 7 (some .int) RX6 D (xtys cI cZ cN cC) (xA ws0)) : ∀ (n : Nat) (x6 : Int32) (cS : (Nat → Int32)) (cV : (Nat → Nat → Int32)) (cB : (Nat → Nat → Int32)), f_X6_append_75 N x5 1 2 n x6 cS cV cB = some res → ∀ (H : Heap) (locs : List Loc) (ls : Array Slot), xw D (xA ws0) s.heap (wRH cI cZ cN cC r0 h0 h1 h2 h3 y9 y00 y01 y02 y10 y11 y12 y20 y21 y22 l0 d0 p0 e9 z0 kps pts wrk out mem abv cM cS cV cB) H locs → lv_has ls 7 [(3, .ref y10), (4, .ref y20), (5, .int x5), (6, .int x6)] → xG p l e 1 24 s m args below meth c D ws0 (wRH cI cZ cN cC r0 h0 h1 h2 h3 y9 y00 y01 y02 y10 y11 y12 y20 y21 y22 l0 d0 p0 e9 z0 kps pts wrk out mem abv cM res.2.1 res.2.2.1 res.2.2.2) (some (.int res.1)) H locs (F0 m 75 ls []) := by
  obtain ⟨hx, hb, -⟩ := id E
  intro n
  induction n with
  | zero =>
    intro _ _ _ _ hf
    rw [f_X6_append_75] at hf; cases hf
  | succ n ih =>
    intro x6 cS cV cB hf H locs ls hw hl
    rw [f_X6_append_75] at hf
    refine lv_iload hx hb dX6_append_75 (lv_at hl 3 rfl) ?_
    refine lv_iload hx hb dX6_append_77 (lv_at hl 2 rfl) ?_
    refine lv_icmp_ge (tgt := 112) hx hb dX6_append_79 (by decide) (fun c80 => ?_) (fun c80 => ?_)
    · rw [if_pos c80] at hf
      refine lv_aload hx hb dX6_append_112 (lv_at hl 1 rfl) ?_
      refine x_get E hw kin_X0 12 rfl rfl 3 (by decide) kF_X6_223 (v := .int (cS 2)) rfl dX6_append_114 ?_
      have hf := Option.some.inj hf; subst hf
      exact x_iret E hw dX6_append_117
    · rw [if_neg c80] at hf
      refine lv_aload hx hb dX6_append_82 (lv_at hl 1 rfl) ?_
      refine lv_aload hx hb dX6_append_84 (lv_at hl 1 rfl) ?_
      refine x_get E hw kin_X0 12 rfl rfl 3 (by decide) kF_X6_223 (v := .int (cS 2)) rfl dX6_append_86 ?_
      refine lv_aload_n hx hb dX6_append_89 rfl (lv_at hl 0 rfl) ?_
      refine x_get E hw kin_X0 9 rfl rfl 0 (by decide) kF_X6_232 (v := .ref y11) rfl dX6_append_90 ?_
      refine lv_iload hx hb dX6_append_93 (lv_at hl 3 rfl) ?_
      obtain ⟨g81, hf⟩ := xgd hf
      refine x_iald E hw 10 0 (f := (cV 1)) rfl rfl (xin_vp g81) dX6_append_95 ?_
      refine lv_aload_n hx hb dX6_append_96 rfl (lv_at hl 0 rfl) ?_
      refine x_get E hw kin_X0 9 rfl rfl 1 (by decide) kF_X6_228 (v := .ref y12) rfl dX6_append_97 ?_
      refine lv_iload hx hb dX6_append_100 (lv_at hl 3 rfl) ?_
      obtain ⟨g82, hf⟩ := xgd hf
      refine x_zald E hw 11 1 (f := (cB 1)) rfl rfl (xin_vp g82) dX6_append_102 ?_
      obtain ⟨q83, hq83, hf⟩ := Option.bind_eq_some_iff.mp hf
      refine x_callV (isC := [12, 13, 14]) (ws' := (wRH cI cZ cN cC r0 h0 h1 h2 h3 y9 y00 y01 y02 y10 y11 y12 y20 y21 y22 l0 d0 p0 e9 z0 kps pts wrk out mem abv cM (va_up cS 2 q83.1) (va_up cV 2 q83.2.1) (va_up cB 2 q83.2.2))) (st1 := []) (As := [.int (cS 2), .int ((cV 1) (Int32.toNatClampNeg x6)), .int ((cB 1) (Int32.toNatClampNeg x6))]) (rest := []) E hw vc_X6_224 (c_X0_insert (cI := cI) (cZ := cZ) (cN := cN) (cC := cC) (h0 := y20) (h1 := y21) (h2 := y22)  (mis := (cM 2)) (siz := (cS 2)) (val := (cV 2)) (isa := (cB 2)) (x1 := (cS 2)) (x2 := ((cV 1) (Int32.toNatClampNeg x6))) (x3 := ((cB 1) (Int32.toNatClampNeg x6))) hq83) 12 0 rfl rfl rfl rfl rfl rfl rfl rfl rfl ⟨Nat.le_of_ble_eq_true rfl, Nat.le_of_ble_eq_true rfl⟩ ⟨Nat.le_refl _, Nat.le_refl _⟩ hl.1 rfl rfl (Nat.le_of_ble_eq_true rfl) dX6_append_103 (fun H locs hw => ?_)
      refine lv_iinc (v := (x6 + 1)) (lv' := [(6, .int (x6 + 1)), (3, .ref y10), (4, .ref y20), (5, .int x5)]) hx hb dX6_append_106 hl (k := 3) rfl rfl (by decide) rfl (fun ls hl => ?_)
      refine lv_goto (tgt := 75) hx hb dX6_append_109 (by decide) ?_
      exact ih _ _ _ _ hf _ _ _ hw (lv_sub hl [1, 2, 3, 0] rfl)
set_option maxHeartbeats 4000000 in
set_option maxRecDepth 100000 in
theorem b_X6_append_75_y20_y00 {p : Program} {l : Launch} {e : Env} {s : State} {m : MethodId} {args : Array Value} {below : List Frame} {meth : Method} {c : Code} {D : va_G} {cI cZ cN cC : ClassId} {ws0 : va_W} {r0 h0 h1 h2 h3 y9 y00 y01 y02 y10 y11 y12 y20 y21 y22 l0 d0 p0 e9 z0 : Nat} {x5 : Int32} {kps : Int32} {pts : Int32} {wrk : Int32} {out : (Nat → Int32)} {mem : (Nat → Int32)} {abv : (Nat → Int32)} {cM : (Nat → Int32)} {N : Nat} {res : Int32 × (Nat → Int32) × (Nat → Nat → Int32) × (Nat → Nat → Int32)} (E : xE p s m args meth c cX6_append 7 (some .int) RX6 D (xtys cI cZ cN cC) (xA ws0)) : ∀ (n : Nat) (x6 : Int32) (cS : (Nat → Int32)) (cV : (Nat → Nat → Int32)) (cB : (Nat → Nat → Int32)), f_X6_append_75 N x5 2 0 n x6 cS cV cB = some res → ∀ (H : Heap) (locs : List Loc) (ls : Array Slot), xw D (xA ws0) s.heap (wRH cI cZ cN cC r0 h0 h1 h2 h3 y9 y00 y01 y02 y10 y11 y12 y20 y21 y22 l0 d0 p0 e9 z0 kps pts wrk out mem abv cM cS cV cB) H locs → lv_has ls 7 [(3, .ref y20), (4, .ref y00), (5, .int x5), (6, .int x6)] → xG p l e 1 24 s m args below meth c D ws0 (wRH cI cZ cN cC r0 h0 h1 h2 h3 y9 y00 y01 y02 y10 y11 y12 y20 y21 y22 l0 d0 p0 e9 z0 kps pts wrk out mem abv cM res.2.1 res.2.2.1 res.2.2.2) (some (.int res.1)) H locs (F0 m 75 ls []) := by
  obtain ⟨hx, hb, -⟩ := id E
  intro n
  induction n with
  | zero =>
    intro _ _ _ _ hf
    rw [f_X6_append_75] at hf; cases hf
  | succ n ih =>
    intro x6 cS cV cB hf H locs ls hw hl
    rw [f_X6_append_75] at hf
    refine lv_iload hx hb dX6_append_75 (lv_at hl 3 rfl) ?_
    refine lv_iload hx hb dX6_append_77 (lv_at hl 2 rfl) ?_
    refine lv_icmp_ge (tgt := 112) hx hb dX6_append_79 (by decide) (fun c84 => ?_) (fun c84 => ?_)
    · rw [if_pos c84] at hf
      refine lv_aload hx hb dX6_append_112 (lv_at hl 1 rfl) ?_
      refine x_get E hw kin_X0 6 rfl rfl 3 (by decide) kF_X6_223 (v := .int (cS 0)) rfl dX6_append_114 ?_
      have hf := Option.some.inj hf; subst hf
      exact x_iret E hw dX6_append_117
    · rw [if_neg c84] at hf
      refine lv_aload hx hb dX6_append_82 (lv_at hl 1 rfl) ?_
      refine lv_aload hx hb dX6_append_84 (lv_at hl 1 rfl) ?_
      refine x_get E hw kin_X0 6 rfl rfl 3 (by decide) kF_X6_223 (v := .int (cS 0)) rfl dX6_append_86 ?_
      refine lv_aload_n hx hb dX6_append_89 rfl (lv_at hl 0 rfl) ?_
      refine x_get E hw kin_X0 12 rfl rfl 0 (by decide) kF_X6_232 (v := .ref y21) rfl dX6_append_90 ?_
      refine lv_iload hx hb dX6_append_93 (lv_at hl 3 rfl) ?_
      obtain ⟨g85, hf⟩ := xgd hf
      refine x_iald E hw 13 0 (f := (cV 2)) rfl rfl (xin_vp g85) dX6_append_95 ?_
      refine lv_aload_n hx hb dX6_append_96 rfl (lv_at hl 0 rfl) ?_
      refine x_get E hw kin_X0 12 rfl rfl 1 (by decide) kF_X6_228 (v := .ref y22) rfl dX6_append_97 ?_
      refine lv_iload hx hb dX6_append_100 (lv_at hl 3 rfl) ?_
      obtain ⟨g86, hf⟩ := xgd hf
      refine x_zald E hw 14 1 (f := (cB 2)) rfl rfl (xin_vp g86) dX6_append_102 ?_
      obtain ⟨q87, hq87, hf⟩ := Option.bind_eq_some_iff.mp hf
      refine x_callV (isC := [6, 7, 8]) (ws' := (wRH cI cZ cN cC r0 h0 h1 h2 h3 y9 y00 y01 y02 y10 y11 y12 y20 y21 y22 l0 d0 p0 e9 z0 kps pts wrk out mem abv cM (va_up cS 0 q87.1) (va_up cV 0 q87.2.1) (va_up cB 0 q87.2.2))) (st1 := []) (As := [.int (cS 0), .int ((cV 2) (Int32.toNatClampNeg x6)), .int ((cB 2) (Int32.toNatClampNeg x6))]) (rest := []) E hw vc_X6_224 (c_X0_insert (cI := cI) (cZ := cZ) (cN := cN) (cC := cC) (h0 := y00) (h1 := y01) (h2 := y02)  (mis := (cM 0)) (siz := (cS 0)) (val := (cV 0)) (isa := (cB 0)) (x1 := (cS 0)) (x2 := ((cV 2) (Int32.toNatClampNeg x6))) (x3 := ((cB 2) (Int32.toNatClampNeg x6))) hq87) 6 0 rfl rfl rfl rfl rfl rfl rfl rfl rfl ⟨Nat.le_of_ble_eq_true rfl, Nat.le_of_ble_eq_true rfl⟩ ⟨Nat.le_refl _, Nat.le_refl _⟩ hl.1 rfl rfl (Nat.le_of_ble_eq_true rfl) dX6_append_103 (fun H locs hw => ?_)
      refine lv_iinc (v := (x6 + 1)) (lv' := [(6, .int (x6 + 1)), (3, .ref y20), (4, .ref y00), (5, .int x5)]) hx hb dX6_append_106 hl (k := 3) rfl rfl (by decide) rfl (fun ls hl => ?_)
      refine lv_goto (tgt := 75) hx hb dX6_append_109 (by decide) ?_
      exact ih _ _ _ _ hf _ _ _ hw (lv_sub hl [1, 2, 3, 0] rfl)
set_option maxHeartbeats 4000000 in
set_option maxRecDepth 100000 in
theorem b_X6_append_75_y20_y10 {p : Program} {l : Launch} {e : Env} {s : State} {m : MethodId} {args : Array Value} {below : List Frame} {meth : Method} {c : Code} {D : va_G} {cI cZ cN cC : ClassId} {ws0 : va_W} {r0 h0 h1 h2 h3 y9 y00 y01 y02 y10 y11 y12 y20 y21 y22 l0 d0 p0 e9 z0 : Nat} {x5 : Int32} {kps : Int32} {pts : Int32} {wrk : Int32} {out : (Nat → Int32)} {mem : (Nat → Int32)} {abv : (Nat → Int32)} {cM : (Nat → Int32)} {N : Nat} {res : Int32 × (Nat → Int32) × (Nat → Nat → Int32) × (Nat → Nat → Int32)} (E : xE p s m args meth c cX6_append 7 (some .int) RX6 D (xtys cI cZ cN cC) (xA ws0)) : ∀ (n : Nat) (x6 : Int32) (cS : (Nat → Int32)) (cV : (Nat → Nat → Int32)) (cB : (Nat → Nat → Int32)), f_X6_append_75 N x5 2 1 n x6 cS cV cB = some res → ∀ (H : Heap) (locs : List Loc) (ls : Array Slot), xw D (xA ws0) s.heap (wRH cI cZ cN cC r0 h0 h1 h2 h3 y9 y00 y01 y02 y10 y11 y12 y20 y21 y22 l0 d0 p0 e9 z0 kps pts wrk out mem abv cM cS cV cB) H locs → lv_has ls 7 [(3, .ref y20), (4, .ref y10), (5, .int x5), (6, .int x6)] → xG p l e 1 24 s m args below meth c D ws0 (wRH cI cZ cN cC r0 h0 h1 h2 h3 y9 y00 y01 y02 y10 y11 y12 y20 y21 y22 l0 d0 p0 e9 z0 kps pts wrk out mem abv cM res.2.1 res.2.2.1 res.2.2.2) (some (.int res.1)) H locs (F0 m 75 ls []) := by
  obtain ⟨hx, hb, -⟩ := id E
  intro n
  induction n with
  | zero =>
    intro _ _ _ _ hf
    rw [f_X6_append_75] at hf; cases hf
  | succ n ih =>
    intro x6 cS cV cB hf H locs ls hw hl
    rw [f_X6_append_75] at hf
    refine lv_iload hx hb dX6_append_75 (lv_at hl 3 rfl) ?_
    refine lv_iload hx hb dX6_append_77 (lv_at hl 2 rfl) ?_
    refine lv_icmp_ge (tgt := 112) hx hb dX6_append_79 (by decide) (fun c88 => ?_) (fun c88 => ?_)
    · rw [if_pos c88] at hf
      refine lv_aload hx hb dX6_append_112 (lv_at hl 1 rfl) ?_
      refine x_get E hw kin_X0 9 rfl rfl 3 (by decide) kF_X6_223 (v := .int (cS 1)) rfl dX6_append_114 ?_
      have hf := Option.some.inj hf; subst hf
      exact x_iret E hw dX6_append_117
    · rw [if_neg c88] at hf
      refine lv_aload hx hb dX6_append_82 (lv_at hl 1 rfl) ?_
      refine lv_aload hx hb dX6_append_84 (lv_at hl 1 rfl) ?_
      refine x_get E hw kin_X0 9 rfl rfl 3 (by decide) kF_X6_223 (v := .int (cS 1)) rfl dX6_append_86 ?_
      refine lv_aload_n hx hb dX6_append_89 rfl (lv_at hl 0 rfl) ?_
      refine x_get E hw kin_X0 12 rfl rfl 0 (by decide) kF_X6_232 (v := .ref y21) rfl dX6_append_90 ?_
      refine lv_iload hx hb dX6_append_93 (lv_at hl 3 rfl) ?_
      obtain ⟨g89, hf⟩ := xgd hf
      refine x_iald E hw 13 0 (f := (cV 2)) rfl rfl (xin_vp g89) dX6_append_95 ?_
      refine lv_aload_n hx hb dX6_append_96 rfl (lv_at hl 0 rfl) ?_
      refine x_get E hw kin_X0 12 rfl rfl 1 (by decide) kF_X6_228 (v := .ref y22) rfl dX6_append_97 ?_
      refine lv_iload hx hb dX6_append_100 (lv_at hl 3 rfl) ?_
      obtain ⟨g90, hf⟩ := xgd hf
      refine x_zald E hw 14 1 (f := (cB 2)) rfl rfl (xin_vp g90) dX6_append_102 ?_
      obtain ⟨q91, hq91, hf⟩ := Option.bind_eq_some_iff.mp hf
      refine x_callV (isC := [9, 10, 11]) (ws' := (wRH cI cZ cN cC r0 h0 h1 h2 h3 y9 y00 y01 y02 y10 y11 y12 y20 y21 y22 l0 d0 p0 e9 z0 kps pts wrk out mem abv cM (va_up cS 1 q91.1) (va_up cV 1 q91.2.1) (va_up cB 1 q91.2.2))) (st1 := []) (As := [.int (cS 1), .int ((cV 2) (Int32.toNatClampNeg x6)), .int ((cB 2) (Int32.toNatClampNeg x6))]) (rest := []) E hw vc_X6_224 (c_X0_insert (cI := cI) (cZ := cZ) (cN := cN) (cC := cC) (h0 := y10) (h1 := y11) (h2 := y12)  (mis := (cM 1)) (siz := (cS 1)) (val := (cV 1)) (isa := (cB 1)) (x1 := (cS 1)) (x2 := ((cV 2) (Int32.toNatClampNeg x6))) (x3 := ((cB 2) (Int32.toNatClampNeg x6))) hq91) 9 0 rfl rfl rfl rfl rfl rfl rfl rfl rfl ⟨Nat.le_of_ble_eq_true rfl, Nat.le_of_ble_eq_true rfl⟩ ⟨Nat.le_refl _, Nat.le_refl _⟩ hl.1 rfl rfl (Nat.le_of_ble_eq_true rfl) dX6_append_103 (fun H locs hw => ?_)
      refine lv_iinc (v := (x6 + 1)) (lv' := [(6, .int (x6 + 1)), (3, .ref y20), (4, .ref y10), (5, .int x5)]) hx hb dX6_append_106 hl (k := 3) rfl rfl (by decide) rfl (fun ls hl => ?_)
      refine lv_goto (tgt := 75) hx hb dX6_append_109 (by decide) ?_
      exact ih _ _ _ _ hf _ _ _ hw (lv_sub hl [1, 2, 3, 0] rfl)
set_option maxHeartbeats 4000000 in
set_option maxRecDepth 100000 in
theorem b_X6_append_75_y20_y20 {p : Program} {l : Launch} {e : Env} {s : State} {m : MethodId} {args : Array Value} {below : List Frame} {meth : Method} {c : Code} {D : va_G} {cI cZ cN cC : ClassId} {ws0 : va_W} {r0 h0 h1 h2 h3 y9 y00 y01 y02 y10 y11 y12 y20 y21 y22 l0 d0 p0 e9 z0 : Nat} {x5 : Int32} {kps : Int32} {pts : Int32} {wrk : Int32} {out : (Nat → Int32)} {mem : (Nat → Int32)} {abv : (Nat → Int32)} {cM : (Nat → Int32)} {N : Nat} {res : Int32 × (Nat → Int32) × (Nat → Nat → Int32) × (Nat → Nat → Int32)} (E : xE p s m args meth c cX6_append 7 (some .int) RX6 D (xtys cI cZ cN cC) (xA ws0)) : ∀ (n : Nat) (x6 : Int32) (cS : (Nat → Int32)) (cV : (Nat → Nat → Int32)) (cB : (Nat → Nat → Int32)), f_X6_append_75 N x5 2 2 n x6 cS cV cB = some res → ∀ (H : Heap) (locs : List Loc) (ls : Array Slot), xw D (xA ws0) s.heap (wRH cI cZ cN cC r0 h0 h1 h2 h3 y9 y00 y01 y02 y10 y11 y12 y20 y21 y22 l0 d0 p0 e9 z0 kps pts wrk out mem abv cM cS cV cB) H locs → lv_has ls 7 [(3, .ref y20), (4, .ref y20), (5, .int x5), (6, .int x6)] → xG p l e 1 24 s m args below meth c D ws0 (wRH cI cZ cN cC r0 h0 h1 h2 h3 y9 y00 y01 y02 y10 y11 y12 y20 y21 y22 l0 d0 p0 e9 z0 kps pts wrk out mem abv cM res.2.1 res.2.2.1 res.2.2.2) (some (.int res.1)) H locs (F0 m 75 ls []) := by
  obtain ⟨hx, hb, -⟩ := id E
  intro n
  induction n with
  | zero =>
    intro _ _ _ _ hf
    rw [f_X6_append_75] at hf; cases hf
  | succ n ih =>
    intro x6 cS cV cB hf H locs ls hw hl
    rw [f_X6_append_75] at hf
    refine lv_iload hx hb dX6_append_75 (lv_at hl 3 rfl) ?_
    refine lv_iload hx hb dX6_append_77 (lv_at hl 2 rfl) ?_
    refine lv_icmp_ge (tgt := 112) hx hb dX6_append_79 (by decide) (fun c92 => ?_) (fun c92 => ?_)
    · rw [if_pos c92] at hf
      refine lv_aload hx hb dX6_append_112 (lv_at hl 1 rfl) ?_
      refine x_get E hw kin_X0 12 rfl rfl 3 (by decide) kF_X6_223 (v := .int (cS 2)) rfl dX6_append_114 ?_
      have hf := Option.some.inj hf; subst hf
      exact x_iret E hw dX6_append_117
    · rw [if_neg c92] at hf
      refine lv_aload hx hb dX6_append_82 (lv_at hl 1 rfl) ?_
      refine lv_aload hx hb dX6_append_84 (lv_at hl 1 rfl) ?_
      refine x_get E hw kin_X0 12 rfl rfl 3 (by decide) kF_X6_223 (v := .int (cS 2)) rfl dX6_append_86 ?_
      refine lv_aload_n hx hb dX6_append_89 rfl (lv_at hl 0 rfl) ?_
      refine x_get E hw kin_X0 12 rfl rfl 0 (by decide) kF_X6_232 (v := .ref y21) rfl dX6_append_90 ?_
      refine lv_iload hx hb dX6_append_93 (lv_at hl 3 rfl) ?_
      obtain ⟨g93, hf⟩ := xgd hf
      refine x_iald E hw 13 0 (f := (cV 2)) rfl rfl (xin_vp g93) dX6_append_95 ?_
      refine lv_aload_n hx hb dX6_append_96 rfl (lv_at hl 0 rfl) ?_
      refine x_get E hw kin_X0 12 rfl rfl 1 (by decide) kF_X6_228 (v := .ref y22) rfl dX6_append_97 ?_
      refine lv_iload hx hb dX6_append_100 (lv_at hl 3 rfl) ?_
      obtain ⟨g94, hf⟩ := xgd hf
      refine x_zald E hw 14 1 (f := (cB 2)) rfl rfl (xin_vp g94) dX6_append_102 ?_
      obtain ⟨q95, hq95, hf⟩ := Option.bind_eq_some_iff.mp hf
      refine x_callV (isC := [12, 13, 14]) (ws' := (wRH cI cZ cN cC r0 h0 h1 h2 h3 y9 y00 y01 y02 y10 y11 y12 y20 y21 y22 l0 d0 p0 e9 z0 kps pts wrk out mem abv cM (va_up cS 2 q95.1) (va_up cV 2 q95.2.1) (va_up cB 2 q95.2.2))) (st1 := []) (As := [.int (cS 2), .int ((cV 2) (Int32.toNatClampNeg x6)), .int ((cB 2) (Int32.toNatClampNeg x6))]) (rest := []) E hw vc_X6_224 (c_X0_insert (cI := cI) (cZ := cZ) (cN := cN) (cC := cC) (h0 := y20) (h1 := y21) (h2 := y22)  (mis := (cM 2)) (siz := (cS 2)) (val := (cV 2)) (isa := (cB 2)) (x1 := (cS 2)) (x2 := ((cV 2) (Int32.toNatClampNeg x6))) (x3 := ((cB 2) (Int32.toNatClampNeg x6))) hq95) 12 0 rfl rfl rfl rfl rfl rfl rfl rfl rfl ⟨Nat.le_of_ble_eq_true rfl, Nat.le_of_ble_eq_true rfl⟩ ⟨Nat.le_refl _, Nat.le_refl _⟩ hl.1 rfl rfl (Nat.le_of_ble_eq_true rfl) dX6_append_103 (fun H locs hw => ?_)
      refine lv_iinc (v := (x6 + 1)) (lv' := [(6, .int (x6 + 1)), (3, .ref y20), (4, .ref y20), (5, .int x5)]) hx hb dX6_append_106 hl (k := 3) rfl rfl (by decide) rfl (fun ls hl => ?_)
      refine lv_goto (tgt := 75) hx hb dX6_append_109 (by decide) ?_
      exact ih _ _ _ _ hf _ _ _ hw (lv_sub hl [1, 2, 3, 0] rfl)
def f_X6_append (N : Nat) (x1 : Int32) (x2 : Int32) (cM : (Nat → Int32)) (cS : (Nat → Int32)) (cV : (Nat → Nat → Int32)) (cB : (Nat → Nat → Int32)) : Option (Int32 × (Nat → Int32) × (Nat → Nat → Int32) × (Nat → Nat → Int32)) :=
  if (f_X6_isChain x1) = 0 then
   some ((-2), cS, cV, cB)
  else
   if (f_X6_isChain x2) = 0 then
    some ((-2), cS, cV, cB)
   else
    if xin x1 3 then
    if xin x2 3 then
    if (cM (Int32.toNatClampNeg x1)) = 0 then
     if (cM (Int32.toNatClampNeg x2)) = 0 then
      if ((cS (Int32.toNatClampNeg x2)) + (cS (Int32.toNatClampNeg x1))) ≤ 8 then
       f_X6_append_75 N (cS (Int32.toNatClampNeg x1)) (Int32.toNatClampNeg x1) (Int32.toNatClampNeg x2) N 0 cS cV cB
      else
       some ((-14), cS, cV, cB)
     else
      some ((-11), cS, cV, cB)
    else
     some ((-11), cS, cV, cB)
    else none
    else none
set_option maxHeartbeats 4000000 in
set_option maxRecDepth 100000 in
theorem c_X6_append {l : Launch} {D : va_G} {cI cZ cN cC : ClassId} {r0 h0 h1 h2 h3 y9 y00 y01 y02 y10 y11 y12 y20 y21 y22 l0 d0 p0 e9 z0 : Nat} {kps : Int32} {pts : Int32} {wrk : Int32} {out : (Nat → Int32)} {mem : (Nat → Int32)} {abv : (Nat → Int32)} {cM : (Nat → Int32)} {cS : (Nat → Int32)} {cV : (Nat → Nat → Int32)} {cB : (Nat → Nat → Int32)} {x1 : Int32} {x2 : Int32} {N : Nat} {res : Int32 × (Nat → Int32) × (Nat → Nat → Int32) × (Nat → Nat → Int32)} (hf : f_X6_append N x1 x2 cM cS cV cB = some res) : xMet l D (xtys cI cZ cN cC) yX6_append cX6_append 7 (some .int) 1 24 [.ref r0, .int x1, .int x2] (wRH cI cZ cN cC r0 h0 h1 h2 h3 y9 y00 y01 y02 y10 y11 y12 y20 y21 y22 l0 d0 p0 e9 z0 kps pts wrk out mem abv cM cS cV cB) (wRH cI cZ cN cC r0 h0 h1 h2 h3 y9 y00 y01 y02 y10 y11 y12 y20 y21 y22 l0 d0 p0 e9 z0 kps pts wrk out mem abv cM res.2.1 res.2.2.1 res.2.2.2) (some (.int res.1)) := by
  refine x_enter (by decide) (Nat.le_of_ble_eq_true rfl) ?_
  intro p e s m args below meth c E ls hl hw
  have E : xE p s m args meth c cX6_append 7 (some .int) RX6 D (xtys cI cZ cN cC) (xA (wRH cI cZ cN cC r0 h0 h1 h2 h3 y9 y00 y01 y02 y10 y11 y12 y20 y21 y22 l0 d0 p0 e9 z0 kps pts wrk out mem abv cM cS cV cB)) := E
  obtain ⟨hx, hb, -⟩ := id E
  have hl : lv_has ls 7 [(0, .ref r0), (1, .int x1), (2, .int x2)] := hl
  unfold f_X6_append at hf
  refine lv_iload_n hx hb dX6_append_0 rfl (lv_at hl 1 rfl) ?_
  refine x_callS (isC := []) (ws' := (wRH cI cZ cN cC r0 h0 h1 h2 h3 y9 y00 y01 y02 y10 y11 y12 y20 y21 y22 l0 d0 p0 e9 z0 kps pts wrk out mem abv cM cS cV cB)) (st1 := [.int (f_X6_isChain x1)]) (As := [.int x1]) (rest := []) E hw vc_X6_210 (c_X6_isChain (cI := cI) (cZ := cZ) (cN := cN) (cC := cC)    (x0 := x1) rfl) rfl rfl rfl rfl rfl rfl ⟨Nat.le_of_ble_eq_true rfl, Nat.le_of_ble_eq_true rfl⟩ ⟨Nat.le_refl _, Nat.le_refl _⟩ hl.1 rfl rfl (Nat.le_of_ble_eq_true rfl) dX6_append_1 (fun H locs hw => ?_)
  refine lv_if_eq (tgt := 14) hx hb dX6_append_4 (by decide) (fun c1 => ?_) (fun c1 => ?_)
  · rw [if_pos c1] at hf
    refine lv_bipush (v := (-2)) hx hb dX6_append_14 (by decide) ?_
    have hf := Option.some.inj hf; subst hf
    exact x_iret E hw dX6_append_16
  · rw [if_neg c1] at hf
    refine lv_iload_n hx hb dX6_append_7 rfl (lv_at hl 2 rfl) ?_
    refine x_callS (isC := []) (ws' := (wRH cI cZ cN cC r0 h0 h1 h2 h3 y9 y00 y01 y02 y10 y11 y12 y20 y21 y22 l0 d0 p0 e9 z0 kps pts wrk out mem abv cM cS cV cB)) (st1 := [.int (f_X6_isChain x2)]) (As := [.int x2]) (rest := []) E hw vc_X6_210 (c_X6_isChain (cI := cI) (cZ := cZ) (cN := cN) (cC := cC)    (x0 := x2) rfl) rfl rfl rfl rfl rfl rfl ⟨Nat.le_of_ble_eq_true rfl, Nat.le_of_ble_eq_true rfl⟩ ⟨Nat.le_refl _, Nat.le_refl _⟩ hl.1 rfl rfl (Nat.le_of_ble_eq_true rfl) dX6_append_8 (fun H locs hw => ?_)
    refine lv_if_ne (tgt := 17) hx hb dX6_append_11 (by decide) (fun c2 => ?_) (fun c2 => ?_)
    · rw [if_neg c2] at hf
      refine lv_aload_n hx hb dX6_append_17 rfl (lv_at hl 0 rfl) ?_
      refine x_get E hw kin_X6 0 rfl rfl 7 (by decide) kF_X6_56 (v := .ref y9) rfl dX6_append_18 ?_
      refine lv_iload_n hx hb dX6_append_21 rfl (lv_at hl 1 rfl) ?_
      obtain ⟨g3, hf⟩ := xgd hf
      rcases x_in3 (xin_vp g3) with ce | ce | ce
      · subst ce
        refine x_aald E hw 5 3 rfl rfl (xin_vp (by decide)) (w := .ref y00) rfl dX6_append_22 ?_
        refine lv_astore_n (lv' := [(3, .ref y00), (0, .ref r0), (1, .int (0 : Int32)), (2, .int x2)]) hx hb dX6_append_23 rfl hl (by decide) rfl (fun ls hl => ?_)
        refine lv_aload_n hx hb dX6_append_24 rfl (lv_at hl 1 rfl) ?_
        refine x_get E hw kin_X6 0 rfl rfl 7 (by decide) kF_X6_56 (v := .ref y9) rfl dX6_append_25 ?_
        refine lv_iload_n hx hb dX6_append_28 rfl (lv_at hl 3 rfl) ?_
        obtain ⟨g17, hf⟩ := xgd hf
        rcases x_in3 (xin_vp g17) with ce | ce | ce
        · subst ce
          refine x_aald E hw 5 3 rfl rfl (xin_vp (by decide)) (w := .ref y00) rfl dX6_append_29 ?_
          refine lv_astore (lv' := [(4, .ref y00), (3, .ref y00), (0, .ref r0), (1, .int (0 : Int32)), (2, .int (0 : Int32))]) hx hb dX6_append_30 hl (by decide) rfl (fun ls hl => ?_)
          refine lv_aload_n hx hb dX6_append_32 rfl (lv_at hl 1 rfl) ?_
          refine x_get E hw kin_X0 6 rfl rfl 2 (by decide) kF_X6_219 (v := .int (cM (Int32.toNatClampNeg (0 : Int32)))) rfl dX6_append_33 ?_
          refine lv_if_ne (tgt := 47) hx hb dX6_append_36 (by decide) (fun c21 => ?_) (fun c21 => ?_)
          · rw [if_neg c21] at hf
            refine lv_bipush (v := (-11)) hx hb dX6_append_47 (by decide) ?_
            have hf := Option.some.inj hf; subst hf
            exact x_iret E hw dX6_append_49
          · rw [if_pos c21] at hf
            refine lv_aload hx hb dX6_append_39 (lv_at hl 0 rfl) ?_
            refine x_get E hw kin_X0 6 rfl rfl 2 (by decide) kF_X6_219 (v := .int (cM (Int32.toNatClampNeg (0 : Int32)))) rfl dX6_append_41 ?_
            refine lv_if_eq (tgt := 50) hx hb dX6_append_44 (by decide) (fun c22 => ?_) (fun c22 => ?_)
            · rw [if_pos c22] at hf
              refine lv_aload_n hx hb dX6_append_50 rfl (lv_at hl 1 rfl) ?_
              refine x_get E hw kin_X0 6 rfl rfl 3 (by decide) kF_X6_223 (v := .int (cS (Int32.toNatClampNeg (0 : Int32)))) rfl dX6_append_51 ?_
              refine lv_istore (lv' := [(5, .int (cS (Int32.toNatClampNeg (0 : Int32)))), (4, .ref y00), (3, .ref y00), (0, .ref r0), (1, .int (0 : Int32)), (2, .int (0 : Int32))]) hx hb dX6_append_54 hl (by decide) rfl (fun ls hl => ?_)
              refine lv_aload hx hb dX6_append_56 (lv_at hl 1 rfl) ?_
              refine x_get E hw kin_X0 6 rfl rfl 3 (by decide) kF_X6_223 (v := .int (cS (Int32.toNatClampNeg (0 : Int32)))) rfl dX6_append_58 ?_
              refine lv_iload hx hb dX6_append_61 (lv_at hl 0 rfl) ?_
              refine lv_iadd hx hb dX6_append_63 ?_
              refine lv_bipush (v := 8) hx hb dX6_append_64 (by decide) ?_
              refine lv_icmp_le (tgt := 72) hx hb dX6_append_66 (by decide) (fun c23 => ?_) (fun c23 => ?_)
              · rw [if_pos c23] at hf
                refine lv_iconst (v := 0) hx hb dX6_append_72 (by decide) ?_
                refine lv_istore (lv' := [(6, .int 0), (5, .int (cS (Int32.toNatClampNeg (0 : Int32)))), (4, .ref y00), (3, .ref y00), (0, .ref r0), (1, .int (0 : Int32)), (2, .int (0 : Int32))]) hx hb dX6_append_73 hl (by decide) rfl (fun ls hl => ?_)
                exact b_X6_append_75_y00_y00 E N _ _ _ _ hf _ _ _ hw (lv_sub hl [3, 2, 1, 0] rfl)
              · rw [if_neg c23] at hf
                refine lv_bipush (v := (-14)) hx hb dX6_append_69 (by decide) ?_
                have hf := Option.some.inj hf; subst hf
                exact x_iret E hw dX6_append_71
            · rw [if_neg c22] at hf
              refine lv_bipush (v := (-11)) hx hb dX6_append_47 (by decide) ?_
              have hf := Option.some.inj hf; subst hf
              exact x_iret E hw dX6_append_49
        · subst ce
          refine x_aald E hw 5 3 rfl rfl (xin_vp (by decide)) (w := .ref y10) rfl dX6_append_29 ?_
          refine lv_astore (lv' := [(4, .ref y10), (3, .ref y00), (0, .ref r0), (1, .int (0 : Int32)), (2, .int (1 : Int32))]) hx hb dX6_append_30 hl (by decide) rfl (fun ls hl => ?_)
          refine lv_aload_n hx hb dX6_append_32 rfl (lv_at hl 1 rfl) ?_
          refine x_get E hw kin_X0 6 rfl rfl 2 (by decide) kF_X6_219 (v := .int (cM (Int32.toNatClampNeg (0 : Int32)))) rfl dX6_append_33 ?_
          refine lv_if_ne (tgt := 47) hx hb dX6_append_36 (by decide) (fun c24 => ?_) (fun c24 => ?_)
          · rw [if_neg c24] at hf
            refine lv_bipush (v := (-11)) hx hb dX6_append_47 (by decide) ?_
            have hf := Option.some.inj hf; subst hf
            exact x_iret E hw dX6_append_49
          · rw [if_pos c24] at hf
            refine lv_aload hx hb dX6_append_39 (lv_at hl 0 rfl) ?_
            refine x_get E hw kin_X0 9 rfl rfl 2 (by decide) kF_X6_219 (v := .int (cM (Int32.toNatClampNeg (1 : Int32)))) rfl dX6_append_41 ?_
            refine lv_if_eq (tgt := 50) hx hb dX6_append_44 (by decide) (fun c25 => ?_) (fun c25 => ?_)
            · rw [if_pos c25] at hf
              refine lv_aload_n hx hb dX6_append_50 rfl (lv_at hl 1 rfl) ?_
              refine x_get E hw kin_X0 6 rfl rfl 3 (by decide) kF_X6_223 (v := .int (cS (Int32.toNatClampNeg (0 : Int32)))) rfl dX6_append_51 ?_
              refine lv_istore (lv' := [(5, .int (cS (Int32.toNatClampNeg (0 : Int32)))), (4, .ref y10), (3, .ref y00), (0, .ref r0), (1, .int (0 : Int32)), (2, .int (1 : Int32))]) hx hb dX6_append_54 hl (by decide) rfl (fun ls hl => ?_)
              refine lv_aload hx hb dX6_append_56 (lv_at hl 1 rfl) ?_
              refine x_get E hw kin_X0 9 rfl rfl 3 (by decide) kF_X6_223 (v := .int (cS (Int32.toNatClampNeg (1 : Int32)))) rfl dX6_append_58 ?_
              refine lv_iload hx hb dX6_append_61 (lv_at hl 0 rfl) ?_
              refine lv_iadd hx hb dX6_append_63 ?_
              refine lv_bipush (v := 8) hx hb dX6_append_64 (by decide) ?_
              refine lv_icmp_le (tgt := 72) hx hb dX6_append_66 (by decide) (fun c26 => ?_) (fun c26 => ?_)
              · rw [if_pos c26] at hf
                refine lv_iconst (v := 0) hx hb dX6_append_72 (by decide) ?_
                refine lv_istore (lv' := [(6, .int 0), (5, .int (cS (Int32.toNatClampNeg (0 : Int32)))), (4, .ref y10), (3, .ref y00), (0, .ref r0), (1, .int (0 : Int32)), (2, .int (1 : Int32))]) hx hb dX6_append_73 hl (by decide) rfl (fun ls hl => ?_)
                exact b_X6_append_75_y00_y10 E N _ _ _ _ hf _ _ _ hw (lv_sub hl [3, 2, 1, 0] rfl)
              · rw [if_neg c26] at hf
                refine lv_bipush (v := (-14)) hx hb dX6_append_69 (by decide) ?_
                have hf := Option.some.inj hf; subst hf
                exact x_iret E hw dX6_append_71
            · rw [if_neg c25] at hf
              refine lv_bipush (v := (-11)) hx hb dX6_append_47 (by decide) ?_
              have hf := Option.some.inj hf; subst hf
              exact x_iret E hw dX6_append_49
        · subst ce
          refine x_aald E hw 5 3 rfl rfl (xin_vp (by decide)) (w := .ref y20) rfl dX6_append_29 ?_
          refine lv_astore (lv' := [(4, .ref y20), (3, .ref y00), (0, .ref r0), (1, .int (0 : Int32)), (2, .int (2 : Int32))]) hx hb dX6_append_30 hl (by decide) rfl (fun ls hl => ?_)
          refine lv_aload_n hx hb dX6_append_32 rfl (lv_at hl 1 rfl) ?_
          refine x_get E hw kin_X0 6 rfl rfl 2 (by decide) kF_X6_219 (v := .int (cM (Int32.toNatClampNeg (0 : Int32)))) rfl dX6_append_33 ?_
          refine lv_if_ne (tgt := 47) hx hb dX6_append_36 (by decide) (fun c27 => ?_) (fun c27 => ?_)
          · rw [if_neg c27] at hf
            refine lv_bipush (v := (-11)) hx hb dX6_append_47 (by decide) ?_
            have hf := Option.some.inj hf; subst hf
            exact x_iret E hw dX6_append_49
          · rw [if_pos c27] at hf
            refine lv_aload hx hb dX6_append_39 (lv_at hl 0 rfl) ?_
            refine x_get E hw kin_X0 12 rfl rfl 2 (by decide) kF_X6_219 (v := .int (cM (Int32.toNatClampNeg (2 : Int32)))) rfl dX6_append_41 ?_
            refine lv_if_eq (tgt := 50) hx hb dX6_append_44 (by decide) (fun c28 => ?_) (fun c28 => ?_)
            · rw [if_pos c28] at hf
              refine lv_aload_n hx hb dX6_append_50 rfl (lv_at hl 1 rfl) ?_
              refine x_get E hw kin_X0 6 rfl rfl 3 (by decide) kF_X6_223 (v := .int (cS (Int32.toNatClampNeg (0 : Int32)))) rfl dX6_append_51 ?_
              refine lv_istore (lv' := [(5, .int (cS (Int32.toNatClampNeg (0 : Int32)))), (4, .ref y20), (3, .ref y00), (0, .ref r0), (1, .int (0 : Int32)), (2, .int (2 : Int32))]) hx hb dX6_append_54 hl (by decide) rfl (fun ls hl => ?_)
              refine lv_aload hx hb dX6_append_56 (lv_at hl 1 rfl) ?_
              refine x_get E hw kin_X0 12 rfl rfl 3 (by decide) kF_X6_223 (v := .int (cS (Int32.toNatClampNeg (2 : Int32)))) rfl dX6_append_58 ?_
              refine lv_iload hx hb dX6_append_61 (lv_at hl 0 rfl) ?_
              refine lv_iadd hx hb dX6_append_63 ?_
              refine lv_bipush (v := 8) hx hb dX6_append_64 (by decide) ?_
              refine lv_icmp_le (tgt := 72) hx hb dX6_append_66 (by decide) (fun c29 => ?_) (fun c29 => ?_)
              · rw [if_pos c29] at hf
                refine lv_iconst (v := 0) hx hb dX6_append_72 (by decide) ?_
                refine lv_istore (lv' := [(6, .int 0), (5, .int (cS (Int32.toNatClampNeg (0 : Int32)))), (4, .ref y20), (3, .ref y00), (0, .ref r0), (1, .int (0 : Int32)), (2, .int (2 : Int32))]) hx hb dX6_append_73 hl (by decide) rfl (fun ls hl => ?_)
                exact b_X6_append_75_y00_y20 E N _ _ _ _ hf _ _ _ hw (lv_sub hl [3, 2, 1, 0] rfl)
              · rw [if_neg c29] at hf
                refine lv_bipush (v := (-14)) hx hb dX6_append_69 (by decide) ?_
                have hf := Option.some.inj hf; subst hf
                exact x_iret E hw dX6_append_71
            · rw [if_neg c28] at hf
              refine lv_bipush (v := (-11)) hx hb dX6_append_47 (by decide) ?_
              have hf := Option.some.inj hf; subst hf
              exact x_iret E hw dX6_append_49
      · subst ce
        refine x_aald E hw 5 3 rfl rfl (xin_vp (by decide)) (w := .ref y10) rfl dX6_append_22 ?_
        refine lv_astore_n (lv' := [(3, .ref y10), (0, .ref r0), (1, .int (1 : Int32)), (2, .int x2)]) hx hb dX6_append_23 rfl hl (by decide) rfl (fun ls hl => ?_)
        refine lv_aload_n hx hb dX6_append_24 rfl (lv_at hl 1 rfl) ?_
        refine x_get E hw kin_X6 0 rfl rfl 7 (by decide) kF_X6_56 (v := .ref y9) rfl dX6_append_25 ?_
        refine lv_iload_n hx hb dX6_append_28 rfl (lv_at hl 3 rfl) ?_
        obtain ⟨g30, hf⟩ := xgd hf
        rcases x_in3 (xin_vp g30) with ce | ce | ce
        · subst ce
          refine x_aald E hw 5 3 rfl rfl (xin_vp (by decide)) (w := .ref y00) rfl dX6_append_29 ?_
          refine lv_astore (lv' := [(4, .ref y00), (3, .ref y10), (0, .ref r0), (1, .int (1 : Int32)), (2, .int (0 : Int32))]) hx hb dX6_append_30 hl (by decide) rfl (fun ls hl => ?_)
          refine lv_aload_n hx hb dX6_append_32 rfl (lv_at hl 1 rfl) ?_
          refine x_get E hw kin_X0 9 rfl rfl 2 (by decide) kF_X6_219 (v := .int (cM (Int32.toNatClampNeg (1 : Int32)))) rfl dX6_append_33 ?_
          refine lv_if_ne (tgt := 47) hx hb dX6_append_36 (by decide) (fun c34 => ?_) (fun c34 => ?_)
          · rw [if_neg c34] at hf
            refine lv_bipush (v := (-11)) hx hb dX6_append_47 (by decide) ?_
            have hf := Option.some.inj hf; subst hf
            exact x_iret E hw dX6_append_49
          · rw [if_pos c34] at hf
            refine lv_aload hx hb dX6_append_39 (lv_at hl 0 rfl) ?_
            refine x_get E hw kin_X0 6 rfl rfl 2 (by decide) kF_X6_219 (v := .int (cM (Int32.toNatClampNeg (0 : Int32)))) rfl dX6_append_41 ?_
            refine lv_if_eq (tgt := 50) hx hb dX6_append_44 (by decide) (fun c35 => ?_) (fun c35 => ?_)
            · rw [if_pos c35] at hf
              refine lv_aload_n hx hb dX6_append_50 rfl (lv_at hl 1 rfl) ?_
              refine x_get E hw kin_X0 9 rfl rfl 3 (by decide) kF_X6_223 (v := .int (cS (Int32.toNatClampNeg (1 : Int32)))) rfl dX6_append_51 ?_
              refine lv_istore (lv' := [(5, .int (cS (Int32.toNatClampNeg (1 : Int32)))), (4, .ref y00), (3, .ref y10), (0, .ref r0), (1, .int (1 : Int32)), (2, .int (0 : Int32))]) hx hb dX6_append_54 hl (by decide) rfl (fun ls hl => ?_)
              refine lv_aload hx hb dX6_append_56 (lv_at hl 1 rfl) ?_
              refine x_get E hw kin_X0 6 rfl rfl 3 (by decide) kF_X6_223 (v := .int (cS (Int32.toNatClampNeg (0 : Int32)))) rfl dX6_append_58 ?_
              refine lv_iload hx hb dX6_append_61 (lv_at hl 0 rfl) ?_
              refine lv_iadd hx hb dX6_append_63 ?_
              refine lv_bipush (v := 8) hx hb dX6_append_64 (by decide) ?_
              refine lv_icmp_le (tgt := 72) hx hb dX6_append_66 (by decide) (fun c36 => ?_) (fun c36 => ?_)
              · rw [if_pos c36] at hf
                refine lv_iconst (v := 0) hx hb dX6_append_72 (by decide) ?_
                refine lv_istore (lv' := [(6, .int 0), (5, .int (cS (Int32.toNatClampNeg (1 : Int32)))), (4, .ref y00), (3, .ref y10), (0, .ref r0), (1, .int (1 : Int32)), (2, .int (0 : Int32))]) hx hb dX6_append_73 hl (by decide) rfl (fun ls hl => ?_)
                exact b_X6_append_75_y10_y00 E N _ _ _ _ hf _ _ _ hw (lv_sub hl [3, 2, 1, 0] rfl)
              · rw [if_neg c36] at hf
                refine lv_bipush (v := (-14)) hx hb dX6_append_69 (by decide) ?_
                have hf := Option.some.inj hf; subst hf
                exact x_iret E hw dX6_append_71
            · rw [if_neg c35] at hf
              refine lv_bipush (v := (-11)) hx hb dX6_append_47 (by decide) ?_
              have hf := Option.some.inj hf; subst hf
              exact x_iret E hw dX6_append_49
        · subst ce
          refine x_aald E hw 5 3 rfl rfl (xin_vp (by decide)) (w := .ref y10) rfl dX6_append_29 ?_
          refine lv_astore (lv' := [(4, .ref y10), (3, .ref y10), (0, .ref r0), (1, .int (1 : Int32)), (2, .int (1 : Int32))]) hx hb dX6_append_30 hl (by decide) rfl (fun ls hl => ?_)
          refine lv_aload_n hx hb dX6_append_32 rfl (lv_at hl 1 rfl) ?_
          refine x_get E hw kin_X0 9 rfl rfl 2 (by decide) kF_X6_219 (v := .int (cM (Int32.toNatClampNeg (1 : Int32)))) rfl dX6_append_33 ?_
          refine lv_if_ne (tgt := 47) hx hb dX6_append_36 (by decide) (fun c37 => ?_) (fun c37 => ?_)
          · rw [if_neg c37] at hf
            refine lv_bipush (v := (-11)) hx hb dX6_append_47 (by decide) ?_
            have hf := Option.some.inj hf; subst hf
            exact x_iret E hw dX6_append_49
          · rw [if_pos c37] at hf
            refine lv_aload hx hb dX6_append_39 (lv_at hl 0 rfl) ?_
            refine x_get E hw kin_X0 9 rfl rfl 2 (by decide) kF_X6_219 (v := .int (cM (Int32.toNatClampNeg (1 : Int32)))) rfl dX6_append_41 ?_
            refine lv_if_eq (tgt := 50) hx hb dX6_append_44 (by decide) (fun c38 => ?_) (fun c38 => ?_)
            · rw [if_pos c38] at hf
              refine lv_aload_n hx hb dX6_append_50 rfl (lv_at hl 1 rfl) ?_
              refine x_get E hw kin_X0 9 rfl rfl 3 (by decide) kF_X6_223 (v := .int (cS (Int32.toNatClampNeg (1 : Int32)))) rfl dX6_append_51 ?_
              refine lv_istore (lv' := [(5, .int (cS (Int32.toNatClampNeg (1 : Int32)))), (4, .ref y10), (3, .ref y10), (0, .ref r0), (1, .int (1 : Int32)), (2, .int (1 : Int32))]) hx hb dX6_append_54 hl (by decide) rfl (fun ls hl => ?_)
              refine lv_aload hx hb dX6_append_56 (lv_at hl 1 rfl) ?_
              refine x_get E hw kin_X0 9 rfl rfl 3 (by decide) kF_X6_223 (v := .int (cS (Int32.toNatClampNeg (1 : Int32)))) rfl dX6_append_58 ?_
              refine lv_iload hx hb dX6_append_61 (lv_at hl 0 rfl) ?_
              refine lv_iadd hx hb dX6_append_63 ?_
              refine lv_bipush (v := 8) hx hb dX6_append_64 (by decide) ?_
              refine lv_icmp_le (tgt := 72) hx hb dX6_append_66 (by decide) (fun c39 => ?_) (fun c39 => ?_)
              · rw [if_pos c39] at hf
                refine lv_iconst (v := 0) hx hb dX6_append_72 (by decide) ?_
                refine lv_istore (lv' := [(6, .int 0), (5, .int (cS (Int32.toNatClampNeg (1 : Int32)))), (4, .ref y10), (3, .ref y10), (0, .ref r0), (1, .int (1 : Int32)), (2, .int (1 : Int32))]) hx hb dX6_append_73 hl (by decide) rfl (fun ls hl => ?_)
                exact b_X6_append_75_y10_y10 E N _ _ _ _ hf _ _ _ hw (lv_sub hl [3, 2, 1, 0] rfl)
              · rw [if_neg c39] at hf
                refine lv_bipush (v := (-14)) hx hb dX6_append_69 (by decide) ?_
                have hf := Option.some.inj hf; subst hf
                exact x_iret E hw dX6_append_71
            · rw [if_neg c38] at hf
              refine lv_bipush (v := (-11)) hx hb dX6_append_47 (by decide) ?_
              have hf := Option.some.inj hf; subst hf
              exact x_iret E hw dX6_append_49
        · subst ce
          refine x_aald E hw 5 3 rfl rfl (xin_vp (by decide)) (w := .ref y20) rfl dX6_append_29 ?_
          refine lv_astore (lv' := [(4, .ref y20), (3, .ref y10), (0, .ref r0), (1, .int (1 : Int32)), (2, .int (2 : Int32))]) hx hb dX6_append_30 hl (by decide) rfl (fun ls hl => ?_)
          refine lv_aload_n hx hb dX6_append_32 rfl (lv_at hl 1 rfl) ?_
          refine x_get E hw kin_X0 9 rfl rfl 2 (by decide) kF_X6_219 (v := .int (cM (Int32.toNatClampNeg (1 : Int32)))) rfl dX6_append_33 ?_
          refine lv_if_ne (tgt := 47) hx hb dX6_append_36 (by decide) (fun c40 => ?_) (fun c40 => ?_)
          · rw [if_neg c40] at hf
            refine lv_bipush (v := (-11)) hx hb dX6_append_47 (by decide) ?_
            have hf := Option.some.inj hf; subst hf
            exact x_iret E hw dX6_append_49
          · rw [if_pos c40] at hf
            refine lv_aload hx hb dX6_append_39 (lv_at hl 0 rfl) ?_
            refine x_get E hw kin_X0 12 rfl rfl 2 (by decide) kF_X6_219 (v := .int (cM (Int32.toNatClampNeg (2 : Int32)))) rfl dX6_append_41 ?_
            refine lv_if_eq (tgt := 50) hx hb dX6_append_44 (by decide) (fun c41 => ?_) (fun c41 => ?_)
            · rw [if_pos c41] at hf
              refine lv_aload_n hx hb dX6_append_50 rfl (lv_at hl 1 rfl) ?_
              refine x_get E hw kin_X0 9 rfl rfl 3 (by decide) kF_X6_223 (v := .int (cS (Int32.toNatClampNeg (1 : Int32)))) rfl dX6_append_51 ?_
              refine lv_istore (lv' := [(5, .int (cS (Int32.toNatClampNeg (1 : Int32)))), (4, .ref y20), (3, .ref y10), (0, .ref r0), (1, .int (1 : Int32)), (2, .int (2 : Int32))]) hx hb dX6_append_54 hl (by decide) rfl (fun ls hl => ?_)
              refine lv_aload hx hb dX6_append_56 (lv_at hl 1 rfl) ?_
              refine x_get E hw kin_X0 12 rfl rfl 3 (by decide) kF_X6_223 (v := .int (cS (Int32.toNatClampNeg (2 : Int32)))) rfl dX6_append_58 ?_
              refine lv_iload hx hb dX6_append_61 (lv_at hl 0 rfl) ?_
              refine lv_iadd hx hb dX6_append_63 ?_
              refine lv_bipush (v := 8) hx hb dX6_append_64 (by decide) ?_
              refine lv_icmp_le (tgt := 72) hx hb dX6_append_66 (by decide) (fun c42 => ?_) (fun c42 => ?_)
              · rw [if_pos c42] at hf
                refine lv_iconst (v := 0) hx hb dX6_append_72 (by decide) ?_
                refine lv_istore (lv' := [(6, .int 0), (5, .int (cS (Int32.toNatClampNeg (1 : Int32)))), (4, .ref y20), (3, .ref y10), (0, .ref r0), (1, .int (1 : Int32)), (2, .int (2 : Int32))]) hx hb dX6_append_73 hl (by decide) rfl (fun ls hl => ?_)
                exact b_X6_append_75_y10_y20 E N _ _ _ _ hf _ _ _ hw (lv_sub hl [3, 2, 1, 0] rfl)
              · rw [if_neg c42] at hf
                refine lv_bipush (v := (-14)) hx hb dX6_append_69 (by decide) ?_
                have hf := Option.some.inj hf; subst hf
                exact x_iret E hw dX6_append_71
            · rw [if_neg c41] at hf
              refine lv_bipush (v := (-11)) hx hb dX6_append_47 (by decide) ?_
              have hf := Option.some.inj hf; subst hf
              exact x_iret E hw dX6_append_49
      · subst ce
        refine x_aald E hw 5 3 rfl rfl (xin_vp (by decide)) (w := .ref y20) rfl dX6_append_22 ?_
        refine lv_astore_n (lv' := [(3, .ref y20), (0, .ref r0), (1, .int (2 : Int32)), (2, .int x2)]) hx hb dX6_append_23 rfl hl (by decide) rfl (fun ls hl => ?_)
        refine lv_aload_n hx hb dX6_append_24 rfl (lv_at hl 1 rfl) ?_
        refine x_get E hw kin_X6 0 rfl rfl 7 (by decide) kF_X6_56 (v := .ref y9) rfl dX6_append_25 ?_
        refine lv_iload_n hx hb dX6_append_28 rfl (lv_at hl 3 rfl) ?_
        obtain ⟨g43, hf⟩ := xgd hf
        rcases x_in3 (xin_vp g43) with ce | ce | ce
        · subst ce
          refine x_aald E hw 5 3 rfl rfl (xin_vp (by decide)) (w := .ref y00) rfl dX6_append_29 ?_
          refine lv_astore (lv' := [(4, .ref y00), (3, .ref y20), (0, .ref r0), (1, .int (2 : Int32)), (2, .int (0 : Int32))]) hx hb dX6_append_30 hl (by decide) rfl (fun ls hl => ?_)
          refine lv_aload_n hx hb dX6_append_32 rfl (lv_at hl 1 rfl) ?_
          refine x_get E hw kin_X0 12 rfl rfl 2 (by decide) kF_X6_219 (v := .int (cM (Int32.toNatClampNeg (2 : Int32)))) rfl dX6_append_33 ?_
          refine lv_if_ne (tgt := 47) hx hb dX6_append_36 (by decide) (fun c47 => ?_) (fun c47 => ?_)
          · rw [if_neg c47] at hf
            refine lv_bipush (v := (-11)) hx hb dX6_append_47 (by decide) ?_
            have hf := Option.some.inj hf; subst hf
            exact x_iret E hw dX6_append_49
          · rw [if_pos c47] at hf
            refine lv_aload hx hb dX6_append_39 (lv_at hl 0 rfl) ?_
            refine x_get E hw kin_X0 6 rfl rfl 2 (by decide) kF_X6_219 (v := .int (cM (Int32.toNatClampNeg (0 : Int32)))) rfl dX6_append_41 ?_
            refine lv_if_eq (tgt := 50) hx hb dX6_append_44 (by decide) (fun c48 => ?_) (fun c48 => ?_)
            · rw [if_pos c48] at hf
              refine lv_aload_n hx hb dX6_append_50 rfl (lv_at hl 1 rfl) ?_
              refine x_get E hw kin_X0 12 rfl rfl 3 (by decide) kF_X6_223 (v := .int (cS (Int32.toNatClampNeg (2 : Int32)))) rfl dX6_append_51 ?_
              refine lv_istore (lv' := [(5, .int (cS (Int32.toNatClampNeg (2 : Int32)))), (4, .ref y00), (3, .ref y20), (0, .ref r0), (1, .int (2 : Int32)), (2, .int (0 : Int32))]) hx hb dX6_append_54 hl (by decide) rfl (fun ls hl => ?_)
              refine lv_aload hx hb dX6_append_56 (lv_at hl 1 rfl) ?_
              refine x_get E hw kin_X0 6 rfl rfl 3 (by decide) kF_X6_223 (v := .int (cS (Int32.toNatClampNeg (0 : Int32)))) rfl dX6_append_58 ?_
              refine lv_iload hx hb dX6_append_61 (lv_at hl 0 rfl) ?_
              refine lv_iadd hx hb dX6_append_63 ?_
              refine lv_bipush (v := 8) hx hb dX6_append_64 (by decide) ?_
              refine lv_icmp_le (tgt := 72) hx hb dX6_append_66 (by decide) (fun c49 => ?_) (fun c49 => ?_)
              · rw [if_pos c49] at hf
                refine lv_iconst (v := 0) hx hb dX6_append_72 (by decide) ?_
                refine lv_istore (lv' := [(6, .int 0), (5, .int (cS (Int32.toNatClampNeg (2 : Int32)))), (4, .ref y00), (3, .ref y20), (0, .ref r0), (1, .int (2 : Int32)), (2, .int (0 : Int32))]) hx hb dX6_append_73 hl (by decide) rfl (fun ls hl => ?_)
                exact b_X6_append_75_y20_y00 E N _ _ _ _ hf _ _ _ hw (lv_sub hl [3, 2, 1, 0] rfl)
              · rw [if_neg c49] at hf
                refine lv_bipush (v := (-14)) hx hb dX6_append_69 (by decide) ?_
                have hf := Option.some.inj hf; subst hf
                exact x_iret E hw dX6_append_71
            · rw [if_neg c48] at hf
              refine lv_bipush (v := (-11)) hx hb dX6_append_47 (by decide) ?_
              have hf := Option.some.inj hf; subst hf
              exact x_iret E hw dX6_append_49
        · subst ce
          refine x_aald E hw 5 3 rfl rfl (xin_vp (by decide)) (w := .ref y10) rfl dX6_append_29 ?_
          refine lv_astore (lv' := [(4, .ref y10), (3, .ref y20), (0, .ref r0), (1, .int (2 : Int32)), (2, .int (1 : Int32))]) hx hb dX6_append_30 hl (by decide) rfl (fun ls hl => ?_)
          refine lv_aload_n hx hb dX6_append_32 rfl (lv_at hl 1 rfl) ?_
          refine x_get E hw kin_X0 12 rfl rfl 2 (by decide) kF_X6_219 (v := .int (cM (Int32.toNatClampNeg (2 : Int32)))) rfl dX6_append_33 ?_
          refine lv_if_ne (tgt := 47) hx hb dX6_append_36 (by decide) (fun c50 => ?_) (fun c50 => ?_)
          · rw [if_neg c50] at hf
            refine lv_bipush (v := (-11)) hx hb dX6_append_47 (by decide) ?_
            have hf := Option.some.inj hf; subst hf
            exact x_iret E hw dX6_append_49
          · rw [if_pos c50] at hf
            refine lv_aload hx hb dX6_append_39 (lv_at hl 0 rfl) ?_
            refine x_get E hw kin_X0 9 rfl rfl 2 (by decide) kF_X6_219 (v := .int (cM (Int32.toNatClampNeg (1 : Int32)))) rfl dX6_append_41 ?_
            refine lv_if_eq (tgt := 50) hx hb dX6_append_44 (by decide) (fun c51 => ?_) (fun c51 => ?_)
            · rw [if_pos c51] at hf
              refine lv_aload_n hx hb dX6_append_50 rfl (lv_at hl 1 rfl) ?_
              refine x_get E hw kin_X0 12 rfl rfl 3 (by decide) kF_X6_223 (v := .int (cS (Int32.toNatClampNeg (2 : Int32)))) rfl dX6_append_51 ?_
              refine lv_istore (lv' := [(5, .int (cS (Int32.toNatClampNeg (2 : Int32)))), (4, .ref y10), (3, .ref y20), (0, .ref r0), (1, .int (2 : Int32)), (2, .int (1 : Int32))]) hx hb dX6_append_54 hl (by decide) rfl (fun ls hl => ?_)
              refine lv_aload hx hb dX6_append_56 (lv_at hl 1 rfl) ?_
              refine x_get E hw kin_X0 9 rfl rfl 3 (by decide) kF_X6_223 (v := .int (cS (Int32.toNatClampNeg (1 : Int32)))) rfl dX6_append_58 ?_
              refine lv_iload hx hb dX6_append_61 (lv_at hl 0 rfl) ?_
              refine lv_iadd hx hb dX6_append_63 ?_
              refine lv_bipush (v := 8) hx hb dX6_append_64 (by decide) ?_
              refine lv_icmp_le (tgt := 72) hx hb dX6_append_66 (by decide) (fun c52 => ?_) (fun c52 => ?_)
              · rw [if_pos c52] at hf
                refine lv_iconst (v := 0) hx hb dX6_append_72 (by decide) ?_
                refine lv_istore (lv' := [(6, .int 0), (5, .int (cS (Int32.toNatClampNeg (2 : Int32)))), (4, .ref y10), (3, .ref y20), (0, .ref r0), (1, .int (2 : Int32)), (2, .int (1 : Int32))]) hx hb dX6_append_73 hl (by decide) rfl (fun ls hl => ?_)
                exact b_X6_append_75_y20_y10 E N _ _ _ _ hf _ _ _ hw (lv_sub hl [3, 2, 1, 0] rfl)
              · rw [if_neg c52] at hf
                refine lv_bipush (v := (-14)) hx hb dX6_append_69 (by decide) ?_
                have hf := Option.some.inj hf; subst hf
                exact x_iret E hw dX6_append_71
            · rw [if_neg c51] at hf
              refine lv_bipush (v := (-11)) hx hb dX6_append_47 (by decide) ?_
              have hf := Option.some.inj hf; subst hf
              exact x_iret E hw dX6_append_49
        · subst ce
          refine x_aald E hw 5 3 rfl rfl (xin_vp (by decide)) (w := .ref y20) rfl dX6_append_29 ?_
          refine lv_astore (lv' := [(4, .ref y20), (3, .ref y20), (0, .ref r0), (1, .int (2 : Int32)), (2, .int (2 : Int32))]) hx hb dX6_append_30 hl (by decide) rfl (fun ls hl => ?_)
          refine lv_aload_n hx hb dX6_append_32 rfl (lv_at hl 1 rfl) ?_
          refine x_get E hw kin_X0 12 rfl rfl 2 (by decide) kF_X6_219 (v := .int (cM (Int32.toNatClampNeg (2 : Int32)))) rfl dX6_append_33 ?_
          refine lv_if_ne (tgt := 47) hx hb dX6_append_36 (by decide) (fun c53 => ?_) (fun c53 => ?_)
          · rw [if_neg c53] at hf
            refine lv_bipush (v := (-11)) hx hb dX6_append_47 (by decide) ?_
            have hf := Option.some.inj hf; subst hf
            exact x_iret E hw dX6_append_49
          · rw [if_pos c53] at hf
            refine lv_aload hx hb dX6_append_39 (lv_at hl 0 rfl) ?_
            refine x_get E hw kin_X0 12 rfl rfl 2 (by decide) kF_X6_219 (v := .int (cM (Int32.toNatClampNeg (2 : Int32)))) rfl dX6_append_41 ?_
            refine lv_if_eq (tgt := 50) hx hb dX6_append_44 (by decide) (fun c54 => ?_) (fun c54 => ?_)
            · rw [if_pos c54] at hf
              refine lv_aload_n hx hb dX6_append_50 rfl (lv_at hl 1 rfl) ?_
              refine x_get E hw kin_X0 12 rfl rfl 3 (by decide) kF_X6_223 (v := .int (cS (Int32.toNatClampNeg (2 : Int32)))) rfl dX6_append_51 ?_
              refine lv_istore (lv' := [(5, .int (cS (Int32.toNatClampNeg (2 : Int32)))), (4, .ref y20), (3, .ref y20), (0, .ref r0), (1, .int (2 : Int32)), (2, .int (2 : Int32))]) hx hb dX6_append_54 hl (by decide) rfl (fun ls hl => ?_)
              refine lv_aload hx hb dX6_append_56 (lv_at hl 1 rfl) ?_
              refine x_get E hw kin_X0 12 rfl rfl 3 (by decide) kF_X6_223 (v := .int (cS (Int32.toNatClampNeg (2 : Int32)))) rfl dX6_append_58 ?_
              refine lv_iload hx hb dX6_append_61 (lv_at hl 0 rfl) ?_
              refine lv_iadd hx hb dX6_append_63 ?_
              refine lv_bipush (v := 8) hx hb dX6_append_64 (by decide) ?_
              refine lv_icmp_le (tgt := 72) hx hb dX6_append_66 (by decide) (fun c55 => ?_) (fun c55 => ?_)
              · rw [if_pos c55] at hf
                refine lv_iconst (v := 0) hx hb dX6_append_72 (by decide) ?_
                refine lv_istore (lv' := [(6, .int 0), (5, .int (cS (Int32.toNatClampNeg (2 : Int32)))), (4, .ref y20), (3, .ref y20), (0, .ref r0), (1, .int (2 : Int32)), (2, .int (2 : Int32))]) hx hb dX6_append_73 hl (by decide) rfl (fun ls hl => ?_)
                exact b_X6_append_75_y20_y20 E N _ _ _ _ hf _ _ _ hw (lv_sub hl [3, 2, 1, 0] rfl)
              · rw [if_neg c55] at hf
                refine lv_bipush (v := (-14)) hx hb dX6_append_69 (by decide) ?_
                have hf := Option.some.inj hf; subst hf
                exact x_iret E hw dX6_append_71
            · rw [if_neg c54] at hf
              refine lv_bipush (v := (-11)) hx hb dX6_append_47 (by decide) ?_
              have hf := Option.some.inj hf; subst hf
              exact x_iret E hw dX6_append_49
    · rw [if_pos c2] at hf
      refine lv_bipush (v := (-2)) hx hb dX6_append_14 (by decide) ?_
      have hf := Option.some.inj hf; subst hf
      exact x_iret E hw dX6_append_16

def f_X6_count (N : Nat) (x1 : Int32) (pts : Int32) (wrk : Int32) (out : (Nat → Int32)) (mem : (Nat → Int32)) (cS : (Nat → Int32)) (psz : Int32) (len : Int32) : Option (Int32) :=
  if Int32.toInt x1 < 0 ∨ 8 < Int32.toInt x1 then
   some (-3)
  else if x1 = 0 then
   some pts
  else if x1 = 1 then
   (f_X3_arcs N pts out).bind fun q1 =>
   some q1
  else if x1 = 2 then
   (f_X3_pairs N pts mem).bind fun q2 =>
   some q2
  else if x1 = 3 then
   some wrk
  else if x1 = 4 then
   (f_X3_rings N pts mem).bind fun q3 =>
   some q3
  else if x1 = 5 then
   (f_X3_needlessArcs N pts out).bind fun q4 =>
   some q4
  else if x1 = 6 then
   (f_X6_thingsOfChains N cS).bind fun q5 =>
   some q5
  else if x1 = 7 then
   some psz
  else
   some len
set_option maxHeartbeats 4000000 in
set_option maxRecDepth 100000 in
theorem c_X6_count {l : Launch} {D : va_G} {cI cZ cN cC : ClassId} {r0 h0 h1 h2 h3 y9 y00 y01 y02 y10 y11 y12 y20 y21 y22 p0 l0 d0 e9 z0 p1 l1 : Nat} {kps : Int32} {pts : Int32} {wrk : Int32} {out : (Nat → Int32)} {mem : (Nat → Int32)} {abv : (Nat → Int32)} {cM : (Nat → Int32)} {cS : (Nat → Int32)} {cV : (Nat → Nat → Int32)} {cB : (Nat → Nat → Int32)} {nxt : Int32} {psz : Int32} {len : Int32} {x1 : Int32} {N : Nat} {res : Int32} (hf : f_X6_count N x1 pts wrk out mem cS psz len = some res) : xMet l D (xtys cI cZ cN cC) yX6_count cX6_count 2 (some .int) 5 113 [.ref r0, .int x1] (wRX cI cZ cN cC r0 h0 h1 h2 h3 y9 y00 y01 y02 y10 y11 y12 y20 y21 y22 p0 l0 d0 e9 z0 p1 l1 kps pts wrk out mem abv cM cS cV cB nxt psz len) (wRX cI cZ cN cC r0 h0 h1 h2 h3 y9 y00 y01 y02 y10 y11 y12 y20 y21 y22 p0 l0 d0 e9 z0 p1 l1 kps pts wrk out mem abv cM cS cV cB nxt psz len) (some (.int res)) := by
  refine x_enter (by decide) (Nat.le_of_ble_eq_true rfl) ?_
  intro p e s m args below meth c E ls hl hw
  have E : xE p s m args meth c cX6_count 2 (some .int) RX6 D (xtys cI cZ cN cC) (xA (wRX cI cZ cN cC r0 h0 h1 h2 h3 y9 y00 y01 y02 y10 y11 y12 y20 y21 y22 p0 l0 d0 e9 z0 p1 l1 kps pts wrk out mem abv cM cS cV cB nxt psz len)) := E
  obtain ⟨hx, hb, -⟩ := id E
  have hl : lv_has ls 2 [(0, .ref r0), (1, .int x1)] := hl
  unfold f_X6_count at hf
  refine lv_iload_n hx hb dX6_count_0 rfl (lv_at hl 1 rfl) ?_
  by_cases c0 : Int32.toInt x1 < 0 ∨ 8 < Int32.toInt x1
  · rw [if_pos c0] at hf
    refine lv_tableOut (tgt := 121) hx hb dX6_count_1 c0 (by decide) ?_
    refine lv_bipush (v := (-3)) hx hb dX6_count_121 (by decide) ?_
    have hf := Option.some.inj hf; subst hf
    exact x_iret E hw dX6_count_123
  rw [if_neg c0] at hf
  by_cases c1 : x1 = 0
  · rw [if_pos c1] at hf
    refine lv_tableIn (tgt := 52) hx hb dX6_count_1 (by rw [c1]; decide) (by rw [c1]; decide) (by rw [c1]; rfl) (by decide) ?_
    refine lv_aload_n hx hb dX6_count_52 rfl (lv_at hl 0 rfl) ?_
    refine x_get E hw kin_X6 0 rfl rfl 2 (by decide) kF_X6_28 (v := .ref h0) rfl dX6_count_53 ?_
    refine x_get E hw kin_X3 1 rfl rfl 0 (by decide) kF_X6_68 (v := .int pts) rfl dX6_count_56 ?_
    have hf := Option.some.inj hf; subst hf
    exact x_iret E hw dX6_count_59
  rw [if_neg c1] at hf
  by_cases c2 : x1 = 1
  · rw [if_pos c2] at hf
    refine lv_tableIn (tgt := 60) hx hb dX6_count_1 (by rw [c2]; decide) (by rw [c2]; decide) (by rw [c2]; rfl) (by decide) ?_
    refine lv_aload_n hx hb dX6_count_60 rfl (lv_at hl 0 rfl) ?_
    refine x_get E hw kin_X6 0 rfl rfl 2 (by decide) kF_X6_28 (v := .ref h0) rfl dX6_count_61 ?_
    obtain ⟨q1, hq1, hf⟩ := Option.bind_eq_some_iff.mp hf
    refine x_callV (isC := [1, 2, 3, 4]) (ws' := (wRX cI cZ cN cC r0 h0 h1 h2 h3 y9 y00 y01 y02 y10 y11 y12 y20 y21 y22 p0 l0 d0 e9 z0 p1 l1 kps pts wrk out mem abv cM cS cV cB nxt psz len)) (st1 := [.int q1]) (As := []) (rest := []) E hw vc_X6_106 (c_X3_arcs (cI := cI) (cZ := cZ) (cN := cN) (cC := cC) (h0 := h0) (h1 := h1) (h2 := h2) (h3 := h3)  (pts := pts) (wrk := wrk) (out := out) (mem := mem) (abv := abv)  hq1) 1 3 rfl rfl rfl rfl rfl rfl rfl rfl rfl ⟨Nat.le_of_ble_eq_true rfl, Nat.le_of_ble_eq_true rfl⟩ ⟨Nat.le_refl _, Nat.le_refl _⟩ hl.1 rfl rfl (Nat.le_of_ble_eq_true rfl) dX6_count_64 (fun H locs hw => ?_)
    have hf := Option.some.inj hf; subst hf
    exact x_iret E hw dX6_count_67
  rw [if_neg c2] at hf
  by_cases c3 : x1 = 2
  · rw [if_pos c3] at hf
    refine lv_tableIn (tgt := 68) hx hb dX6_count_1 (by rw [c3]; decide) (by rw [c3]; decide) (by rw [c3]; rfl) (by decide) ?_
    refine lv_aload_n hx hb dX6_count_68 rfl (lv_at hl 0 rfl) ?_
    refine x_get E hw kin_X6 0 rfl rfl 2 (by decide) kF_X6_28 (v := .ref h0) rfl dX6_count_69 ?_
    obtain ⟨q2, hq2, hf⟩ := Option.bind_eq_some_iff.mp hf
    refine x_callV (isC := [1, 2, 3, 4]) (ws' := (wRX cI cZ cN cC r0 h0 h1 h2 h3 y9 y00 y01 y02 y10 y11 y12 y20 y21 y22 p0 l0 d0 e9 z0 p1 l1 kps pts wrk out mem abv cM cS cV cB nxt psz len)) (st1 := [.int q2]) (As := []) (rest := []) E hw vc_X6_120 (c_X3_pairs (cI := cI) (cZ := cZ) (cN := cN) (cC := cC) (h0 := h0) (h1 := h1) (h2 := h2) (h3 := h3)  (pts := pts) (wrk := wrk) (out := out) (mem := mem) (abv := abv)  hq2) 1 3 rfl rfl rfl rfl rfl rfl rfl rfl rfl ⟨Nat.le_of_ble_eq_true rfl, Nat.le_of_ble_eq_true rfl⟩ ⟨Nat.le_refl _, Nat.le_refl _⟩ hl.1 rfl rfl (Nat.le_of_ble_eq_true rfl) dX6_count_72 (fun H locs hw => ?_)
    have hf := Option.some.inj hf; subst hf
    exact x_iret E hw dX6_count_75
  rw [if_neg c3] at hf
  by_cases c4 : x1 = 3
  · rw [if_pos c4] at hf
    refine lv_tableIn (tgt := 76) hx hb dX6_count_1 (by rw [c4]; decide) (by rw [c4]; decide) (by rw [c4]; rfl) (by decide) ?_
    refine lv_aload_n hx hb dX6_count_76 rfl (lv_at hl 0 rfl) ?_
    refine x_get E hw kin_X6 0 rfl rfl 2 (by decide) kF_X6_28 (v := .ref h0) rfl dX6_count_77 ?_
    refine x_get E hw kin_X3 1 rfl rfl 1 (by decide) kF_X6_132 (v := .int wrk) rfl dX6_count_80 ?_
    have hf := Option.some.inj hf; subst hf
    exact x_iret E hw dX6_count_83
  rw [if_neg c4] at hf
  by_cases c5 : x1 = 4
  · rw [if_pos c5] at hf
    refine lv_tableIn (tgt := 84) hx hb dX6_count_1 (by rw [c5]; decide) (by rw [c5]; decide) (by rw [c5]; rfl) (by decide) ?_
    refine lv_aload_n hx hb dX6_count_84 rfl (lv_at hl 0 rfl) ?_
    refine x_get E hw kin_X6 0 rfl rfl 2 (by decide) kF_X6_28 (v := .ref h0) rfl dX6_count_85 ?_
    obtain ⟨q3, hq3, hf⟩ := Option.bind_eq_some_iff.mp hf
    refine x_callV (isC := [1, 2, 3, 4]) (ws' := (wRX cI cZ cN cC r0 h0 h1 h2 h3 y9 y00 y01 y02 y10 y11 y12 y20 y21 y22 p0 l0 d0 e9 z0 p1 l1 kps pts wrk out mem abv cM cS cV cB nxt psz len)) (st1 := [.int q3]) (As := []) (rest := []) E hw vc_X6_179 (c_X3_rings (cI := cI) (cZ := cZ) (cN := cN) (cC := cC) (h0 := h0) (h1 := h1) (h2 := h2) (h3 := h3)  (pts := pts) (wrk := wrk) (out := out) (mem := mem) (abv := abv)  hq3) 1 3 rfl rfl rfl rfl rfl rfl rfl rfl rfl ⟨Nat.le_of_ble_eq_true rfl, Nat.le_of_ble_eq_true rfl⟩ ⟨Nat.le_refl _, Nat.le_refl _⟩ hl.1 rfl rfl (Nat.le_of_ble_eq_true rfl) dX6_count_88 (fun H locs hw => ?_)
    have hf := Option.some.inj hf; subst hf
    exact x_iret E hw dX6_count_91
  rw [if_neg c5] at hf
  by_cases c6 : x1 = 5
  · rw [if_pos c6] at hf
    refine lv_tableIn (tgt := 92) hx hb dX6_count_1 (by rw [c6]; decide) (by rw [c6]; decide) (by rw [c6]; rfl) (by decide) ?_
    refine lv_aload_n hx hb dX6_count_92 rfl (lv_at hl 0 rfl) ?_
    refine x_get E hw kin_X6 0 rfl rfl 2 (by decide) kF_X6_28 (v := .ref h0) rfl dX6_count_93 ?_
    obtain ⟨q4, hq4, hf⟩ := Option.bind_eq_some_iff.mp hf
    refine x_callV (isC := [1, 2, 3, 4]) (ws' := (wRX cI cZ cN cC r0 h0 h1 h2 h3 y9 y00 y01 y02 y10 y11 y12 y20 y21 y22 p0 l0 d0 e9 z0 p1 l1 kps pts wrk out mem abv cM cS cV cB nxt psz len)) (st1 := [.int q4]) (As := []) (rest := []) E hw vc_X6_182 (c_X3_needlessArcs (cI := cI) (cZ := cZ) (cN := cN) (cC := cC) (h0 := h0) (h1 := h1) (h2 := h2) (h3 := h3)  (pts := pts) (wrk := wrk) (out := out) (mem := mem) (abv := abv)  hq4) 1 3 rfl rfl rfl rfl rfl rfl rfl rfl rfl ⟨Nat.le_of_ble_eq_true rfl, Nat.le_of_ble_eq_true rfl⟩ ⟨Nat.le_refl _, Nat.le_refl _⟩ hl.1 rfl rfl (Nat.le_of_ble_eq_true rfl) dX6_count_96 (fun H locs hw => ?_)
    have hf := Option.some.inj hf; subst hf
    exact x_iret E hw dX6_count_99
  rw [if_neg c6] at hf
  by_cases c7 : x1 = 6
  · rw [if_pos c7] at hf
    refine lv_tableIn (tgt := 100) hx hb dX6_count_1 (by rw [c7]; decide) (by rw [c7]; decide) (by rw [c7]; rfl) (by decide) ?_
    refine lv_aload_n hx hb dX6_count_100 rfl (lv_at hl 0 rfl) ?_
    obtain ⟨q5, hq5, hf⟩ := Option.bind_eq_some_iff.mp hf
    refine x_callV (isC := [0, 1, 2, 3, 4, 5, 6, 7, 8, 9, 10, 11, 12, 13, 14]) (ws' := (wRX cI cZ cN cC r0 h0 h1 h2 h3 y9 y00 y01 y02 y10 y11 y12 y20 y21 y22 p0 l0 d0 e9 z0 p1 l1 kps pts wrk out mem abv cM cS cV cB nxt psz len)) (st1 := [.int q5]) (As := []) (rest := []) E hw vc_X6_245 (c_X6_thingsOfChains (cI := cI) (cZ := cZ) (cN := cN) (cC := cC) (r0 := r0) (h0 := h0) (h1 := h1) (h2 := h2) (h3 := h3) (y9 := y9) (y00 := y00) (y01 := y01) (y02 := y02) (y10 := y10) (y11 := y11) (y12 := y12) (y20 := y20) (y21 := y21) (y22 := y22) (l0 := l0) (d0 := d0) (p0 := p0) (e9 := e9) (z0 := z0)  (kps := kps) (pts := pts) (wrk := wrk) (out := out) (mem := mem) (abv := abv) (cM := cM) (cS := cS) (cV := cV) (cB := cB)  hq5) 0 6 rfl rfl rfl rfl rfl rfl rfl rfl rfl ⟨Nat.le_of_ble_eq_true rfl, Nat.le_of_ble_eq_true rfl⟩ ⟨Nat.le_refl _, Nat.le_refl _⟩ hl.1 rfl rfl (Nat.le_of_ble_eq_true rfl) dX6_count_101 (fun H locs hw => ?_)
    have hf := Option.some.inj hf; subst hf
    exact x_iret E hw dX6_count_104
  rw [if_neg c7] at hf
  by_cases c8 : x1 = 7
  · rw [if_pos c8] at hf
    refine lv_tableIn (tgt := 105) hx hb dX6_count_1 (by rw [c8]; decide) (by rw [c8]; decide) (by rw [c8]; rfl) (by decide) ?_
    refine lv_aload_n hx hb dX6_count_105 rfl (lv_at hl 0 rfl) ?_
    refine x_get E hw kin_X6 0 rfl rfl 3 (by decide) kF_X6_35 (v := .ref p0) rfl dX6_count_106 ?_
    refine x_get E hw kin_X4 15 rfl rfl 2 (by decide) kF_X6_135 (v := .int psz) rfl dX6_count_109 ?_
    have hf := Option.some.inj hf; subst hf
    exact x_iret E hw dX6_count_112
  rw [if_neg c8] at hf
  have c9 : x1 = 8 := Int32.toInt_inj.mp (by
    have e1 := x_neL (k := 0) (by decide) c1
    have e2 := x_neL (k := 1) (by decide) c2
    have e3 := x_neL (k := 2) (by decide) c3
    have e4 := x_neL (k := 3) (by decide) c4
    have e5 := x_neL (k := 4) (by decide) c5
    have e6 := x_neL (k := 5) (by decide) c6
    have e7 := x_neL (k := 6) (by decide) c7
    have e8 := x_neL (k := 7) (by decide) c8
    show Int32.toInt x1 = 8
    omega)
  refine lv_tableIn (tgt := 113) hx hb dX6_count_1 (by rw [c9]; decide) (by rw [c9]; decide) (by rw [c9]; rfl) (by decide) ?_
  refine lv_aload_n hx hb dX6_count_113 rfl (lv_at hl 0 rfl) ?_
  refine x_get E hw kin_X6 0 rfl rfl 0 (by decide) kF_X6_10 (v := .ref l0) rfl dX6_count_114 ?_
  refine x_get E hw kin_X2 16 rfl rfl 1 (by decide) kF_X6_61 (v := .int len) rfl dX6_count_117 ?_
  have hf := Option.some.inj hf; subst hf
  exact x_iret E hw dX6_count_120

