def f_X6_put (N : Nat) (x1 : Int32) (x2 : Int32) (nxt : Int32) (psz : Int32) (nP : (Nat → Int32)) (nW : (Nat → Int32)) (nO : (Nat → Nat → Int32)) (nM : (Nat → Nat → Int32)) (nA : (Nat → Nat → Int32)) (pts : Int32) (wrk : Int32) (out : (Nat → Int32)) (mem : (Nat → Int32)) (abv : (Nat → Int32)) : Option (Int32 × Int32 × Int32 × (Nat → Int32) × (Nat → Int32) × (Nat → Nat → Int32) × (Nat → Nat → Int32) × (Nat → Nat → Int32) × Int32 × (Nat → Int32) × (Nat → Int32) × (Nat → Int32)) :=
  if (f_X6_arePair x1 x2 pts) = 0 then
   some ((-2), nxt, psz, nP, nW, nO, nM, nA, wrk, out, mem, abv)
  else
   (f_X3_hasArc x1 x2 out).bind fun q2 =>
   if q2 = 0 then
    (f_X3_arcs N pts out).bind fun q4 =>
    if q4 < 40 then
     (f_X4_note nxt psz nP nW nO nM nA pts wrk out mem abv).bind fun q6 =>
     (f_X3_pairs N pts mem).bind fun q7 =>
     (f_X3_putIn N x1 x2 pts wrk out mem abv).bind fun q8 =>
     (f_X3_pairs N pts q8.2.2.1).bind fun q9 =>
     some ((q9 - q7), q6.1, q6.2.1, q6.2.2.1, q6.2.2.2.1, q6.2.2.2.2.1, q6.2.2.2.2.2.1, q6.2.2.2.2.2.2, q8.1, q8.2.1, q8.2.2.1, q8.2.2.2)
    else
     some ((-5), nxt, psz, nP, nW, nO, nM, nA, wrk, out, mem, abv)
   else
    some ((-4), nxt, psz, nP, nW, nO, nM, nA, wrk, out, mem, abv)
set_option maxHeartbeats 4000000 in
set_option maxRecDepth 100000 in
theorem c_X6_put {l : Launch} {D : va_G} {cI cZ cN cC : ClassId} {r0 p0 p1 n00 n01 n02 n03 n10 n11 n12 n13 n20 n21 n22 n23 n30 n31 n32 n33 n40 n41 n42 n43 n50 n51 n52 n53 n60 n61 n62 n63 n70 n71 n72 n73 h0 h1 h2 h3 l0 d0 e9 z0 y9 : Nat} {kps : Int32} {nxt : Int32} {psz : Int32} {nP : (Nat → Int32)} {nW : (Nat → Int32)} {nO : (Nat → Nat → Int32)} {nM : (Nat → Nat → Int32)} {nA : (Nat → Nat → Int32)} {pts : Int32} {wrk : Int32} {out : (Nat → Int32)} {mem : (Nat → Int32)} {abv : (Nat → Int32)} {x1 : Int32} {x2 : Int32} {N : Nat} {res : Int32 × Int32 × Int32 × (Nat → Int32) × (Nat → Int32) × (Nat → Nat → Int32) × (Nat → Nat → Int32) × (Nat → Nat → Int32) × Int32 × (Nat → Int32) × (Nat → Int32) × (Nat → Int32)} (hf : f_X6_put N x1 x2 nxt psz nP nW nO nM nA pts wrk out mem abv = some res) : xMet l D (xtys cI cZ cN cC) yX6_put cX6_put 4 (some .int) 30 723 [.ref r0, .int x1, .int x2] (wRP cI cZ cN cC r0 p0 p1 n00 n01 n02 n03 n10 n11 n12 n13 n20 n21 n22 n23 n30 n31 n32 n33 n40 n41 n42 n43 n50 n51 n52 n53 n60 n61 n62 n63 n70 n71 n72 n73 h0 h1 h2 h3 l0 d0 e9 z0 y9 kps nxt psz nP nW nO nM nA pts wrk out mem abv) (wRP cI cZ cN cC r0 p0 p1 n00 n01 n02 n03 n10 n11 n12 n13 n20 n21 n22 n23 n30 n31 n32 n33 n40 n41 n42 n43 n50 n51 n52 n53 n60 n61 n62 n63 n70 n71 n72 n73 h0 h1 h2 h3 l0 d0 e9 z0 y9 kps res.2.1 res.2.2.1 res.2.2.2.1 res.2.2.2.2.1 res.2.2.2.2.2.1 res.2.2.2.2.2.2.1 res.2.2.2.2.2.2.2.1 pts res.2.2.2.2.2.2.2.2.1 res.2.2.2.2.2.2.2.2.2.1 res.2.2.2.2.2.2.2.2.2.2.1 res.2.2.2.2.2.2.2.2.2.2.2) (some (.int res.1)) := by
  refine x_enter (by decide) (Nat.le_of_ble_eq_true rfl) ?_
  intro p e s m args below meth c E ls hl hw
  have E : xE p s m args meth c cX6_put 4 (some .int) RX6 D (xtys cI cZ cN cC) (xA (wRP cI cZ cN cC r0 p0 p1 n00 n01 n02 n03 n10 n11 n12 n13 n20 n21 n22 n23 n30 n31 n32 n33 n40 n41 n42 n43 n50 n51 n52 n53 n60 n61 n62 n63 n70 n71 n72 n73 h0 h1 h2 h3 l0 d0 e9 z0 y9 kps nxt psz nP nW nO nM nA pts wrk out mem abv)) := E
  obtain ⟨hx, hb, -⟩ := id E
  have hl : lv_has ls 4 [(0, .ref r0), (1, .int x1), (2, .int x2)] := hl
  unfold f_X6_put at hf
  refine lv_aload_n hx hb dX6_put_0 rfl (lv_at hl 0 rfl) ?_
  refine lv_iload_n hx hb dX6_put_1 rfl (lv_at hl 1 rfl) ?_
  refine lv_iload_n hx hb dX6_put_2 rfl (lv_at hl 2 rfl) ?_
  refine x_callV (isC := [0, 35, 36, 37, 38]) (ws' := (wRP cI cZ cN cC r0 p0 p1 n00 n01 n02 n03 n10 n11 n12 n13 n20 n21 n22 n23 n30 n31 n32 n33 n40 n41 n42 n43 n50 n51 n52 n53 n60 n61 n62 n63 n70 n71 n72 n73 h0 h1 h2 h3 l0 d0 e9 z0 y9 kps nxt psz nP nW nO nM nA pts wrk out mem abv)) (st1 := [.int (f_X6_arePair x1 x2 pts)]) (As := [.int x1, .int x2]) (rest := []) E hw vc_X6_113 (c_X6_arePair (cI := cI) (cZ := cZ) (cN := cN) (cC := cC) (r0 := r0) (h0 := h0) (h1 := h1) (h2 := h2) (h3 := h3) (l0 := l0) (d0 := d0) (p0 := p0) (e9 := e9) (z0 := z0) (y9 := y9)  (kps := kps) (pts := pts) (wrk := wrk) (out := out) (mem := mem) (abv := abv) (x1 := x1) (x2 := x2) rfl) 0 6 rfl rfl rfl rfl rfl rfl rfl rfl rfl ⟨Nat.le_of_ble_eq_true rfl, Nat.le_of_ble_eq_true rfl⟩ ⟨Nat.le_refl _, Nat.le_refl _⟩ hl.1 rfl rfl (Nat.le_of_ble_eq_true rfl) dX6_put_3 (fun H locs hw => ?_)
  refine lv_if_ne (tgt := 12) hx hb dX6_put_6 (by decide) (fun c1 => ?_) (fun c1 => ?_)
  · rw [if_neg c1] at hf
    refine lv_aload_n hx hb dX6_put_12 rfl (lv_at hl 0 rfl) ?_
    refine x_get E hw kin_X6 0 rfl rfl 2 (by decide) kF_X6_28 (v := .ref h0) rfl dX6_put_13 ?_
    refine lv_iload_n hx hb dX6_put_16 rfl (lv_at hl 1 rfl) ?_
    refine lv_iload_n hx hb dX6_put_17 rfl (lv_at hl 2 rfl) ?_
    obtain ⟨q2, hq2, hf⟩ := Option.bind_eq_some_iff.mp hf
    refine x_callV (isC := [35, 36, 37, 38]) (ws' := (wRP cI cZ cN cC r0 p0 p1 n00 n01 n02 n03 n10 n11 n12 n13 n20 n21 n22 n23 n30 n31 n32 n33 n40 n41 n42 n43 n50 n51 n52 n53 n60 n61 n62 n63 n70 n71 n72 n73 h0 h1 h2 h3 l0 d0 e9 z0 y9 kps nxt psz nP nW nO nM nA pts wrk out mem abv)) (st1 := [.int q2]) (As := [.int x1, .int x2]) (rest := []) E hw vc_X6_102 (c_X3_hasArc (cI := cI) (cZ := cZ) (cN := cN) (cC := cC) (h0 := h0) (h1 := h1) (h2 := h2) (h3 := h3)  (pts := pts) (wrk := wrk) (out := out) (mem := mem) (abv := abv) (x1 := x1) (x2 := x2) hq2) 35 3 rfl rfl rfl rfl rfl rfl rfl rfl rfl ⟨Nat.le_of_ble_eq_true rfl, Nat.le_of_ble_eq_true rfl⟩ ⟨Nat.le_refl _, Nat.le_refl _⟩ hl.1 rfl rfl (Nat.le_of_ble_eq_true rfl) dX6_put_18 (fun H locs hw => ?_)
    refine lv_if_eq (tgt := 27) hx hb dX6_put_21 (by decide) (fun c3 => ?_) (fun c3 => ?_)
    · rw [if_pos c3] at hf
      refine lv_aload_n hx hb dX6_put_27 rfl (lv_at hl 0 rfl) ?_
      refine x_get E hw kin_X6 0 rfl rfl 2 (by decide) kF_X6_28 (v := .ref h0) rfl dX6_put_28 ?_
      obtain ⟨q4, hq4, hf⟩ := Option.bind_eq_some_iff.mp hf
      refine x_callV (isC := [35, 36, 37, 38]) (ws' := (wRP cI cZ cN cC r0 p0 p1 n00 n01 n02 n03 n10 n11 n12 n13 n20 n21 n22 n23 n30 n31 n32 n33 n40 n41 n42 n43 n50 n51 n52 n53 n60 n61 n62 n63 n70 n71 n72 n73 h0 h1 h2 h3 l0 d0 e9 z0 y9 kps nxt psz nP nW nO nM nA pts wrk out mem abv)) (st1 := [.int q4]) (As := []) (rest := []) E hw vc_X6_106 (c_X3_arcs (cI := cI) (cZ := cZ) (cN := cN) (cC := cC) (h0 := h0) (h1 := h1) (h2 := h2) (h3 := h3)  (pts := pts) (wrk := wrk) (out := out) (mem := mem) (abv := abv)  hq4) 35 3 rfl rfl rfl rfl rfl rfl rfl rfl rfl ⟨Nat.le_of_ble_eq_true rfl, Nat.le_of_ble_eq_true rfl⟩ ⟨Nat.le_refl _, Nat.le_refl _⟩ hl.1 rfl rfl (Nat.le_of_ble_eq_true rfl) dX6_put_31 (fun H locs hw => ?_)
      refine lv_bipush (v := 40) hx hb dX6_put_34 (by decide) ?_
      refine lv_icmp_lt (tgt := 42) hx hb dX6_put_36 (by decide) (fun c5 => ?_) (fun c5 => ?_)
      · rw [if_pos c5] at hf
        refine lv_aload_n hx hb dX6_put_42 rfl (lv_at hl 0 rfl) ?_
        refine x_get E hw kin_X6 0 rfl rfl 3 (by decide) kF_X6_35 (v := .ref p0) rfl dX6_put_43 ?_
        refine lv_aload_n hx hb dX6_put_46 rfl (lv_at hl 0 rfl) ?_
        refine x_get E hw kin_X6 0 rfl rfl 2 (by decide) kF_X6_28 (v := .ref h0) rfl dX6_put_47 ?_
        obtain ⟨q6, hq6, hf⟩ := Option.bind_eq_some_iff.mp hf
        refine x_callVP (wf := [(r0, .inr (6, [.ref l0, .ref d0, .ref h0, .ref p0, .ref e9, .int kps, .ref z0, .ref y9]))]) (ws' := (wRP cI cZ cN cC r0 p0 p1 n00 n01 n02 n03 n10 n11 n12 n13 n20 n21 n22 n23 n30 n31 n32 n33 n40 n41 n42 n43 n50 n51 n52 n53 n60 n61 n62 n63 n70 n71 n72 n73 h0 h1 h2 h3 l0 d0 e9 z0 y9 kps q6.1 q6.2.1 q6.2.2.1 q6.2.2.2.1 q6.2.2.2.2.1 q6.2.2.2.2.2.1 q6.2.2.2.2.2.2 pts wrk out mem abv)) (st1 := []) (As := [.ref h0]) (rest := []) E hw vc_X6_116 (c_X4_note (cI := cI) (cZ := cZ) (cN := cN) (cC := cC) (h0 := p0) (p1 := p1) (n00 := n00) (n01 := n01) (n02 := n02) (n03 := n03) (n10 := n10) (n11 := n11) (n12 := n12) (n13 := n13) (n20 := n20) (n21 := n21) (n22 := n22) (n23 := n23) (n30 := n30) (n31 := n31) (n32 := n32) (n33 := n33) (n40 := n40) (n41 := n41) (n42 := n42) (n43 := n43) (n50 := n50) (n51 := n51) (n52 := n52) (n53 := n53) (n60 := n60) (n61 := n61) (n62 := n62) (n63 := n63) (n70 := n70) (n71 := n71) (n72 := n72) (n73 := n73) (k0 := h0) (k1 := h1) (k2 := h2) (k3 := h3)  (nxt := nxt) (psz := psz) (nP := nP) (nW := nW) (nO := nO) (nM := nM) (nA := nA) (pts := pts) (wrk := wrk) (out := out) (mem := mem) (abv := abv)  hq6) 1 4 rfl rfl rfl rfl rfl rfl rfl ⟨Nat.le_of_ble_eq_true rfl, Nat.le_of_ble_eq_true rfl⟩ ⟨Nat.le_refl _, Nat.le_refl _⟩ hl.1 rfl rfl (Nat.le_of_ble_eq_true rfl) dX6_put_50 (fun H locs hw => ?_)
        refine lv_aload_n hx hb dX6_put_53 rfl (lv_at hl 0 rfl) ?_
        refine x_get E hw kin_X6 0 rfl rfl 2 (by decide) kF_X6_28 (v := .ref h0) rfl dX6_put_54 ?_
        obtain ⟨q7, hq7, hf⟩ := Option.bind_eq_some_iff.mp hf
        refine x_callV (isC := [35, 36, 37, 38]) (ws' := (wRP cI cZ cN cC r0 p0 p1 n00 n01 n02 n03 n10 n11 n12 n13 n20 n21 n22 n23 n30 n31 n32 n33 n40 n41 n42 n43 n50 n51 n52 n53 n60 n61 n62 n63 n70 n71 n72 n73 h0 h1 h2 h3 l0 d0 e9 z0 y9 kps q6.1 q6.2.1 q6.2.2.1 q6.2.2.2.1 q6.2.2.2.2.1 q6.2.2.2.2.2.1 q6.2.2.2.2.2.2 pts wrk out mem abv)) (st1 := [.int q7]) (As := []) (rest := []) E hw vc_X6_120 (c_X3_pairs (cI := cI) (cZ := cZ) (cN := cN) (cC := cC) (h0 := h0) (h1 := h1) (h2 := h2) (h3 := h3)  (pts := pts) (wrk := wrk) (out := out) (mem := mem) (abv := abv)  hq7) 35 3 rfl rfl rfl rfl rfl rfl rfl rfl rfl ⟨Nat.le_of_ble_eq_true rfl, Nat.le_of_ble_eq_true rfl⟩ ⟨Nat.le_refl _, Nat.le_refl _⟩ hl.1 rfl rfl (Nat.le_of_ble_eq_true rfl) dX6_put_57 (fun H locs hw => ?_)
        refine lv_istore_n (lv' := [(3, .int q7), (0, .ref r0), (1, .int x1), (2, .int x2)]) hx hb dX6_put_60 rfl hl (by decide) rfl (fun ls hl => ?_)
        refine lv_aload_n hx hb dX6_put_61 rfl (lv_at hl 1 rfl) ?_
        refine x_get E hw kin_X6 0 rfl rfl 2 (by decide) kF_X6_28 (v := .ref h0) rfl dX6_put_62 ?_
        refine lv_iload_n hx hb dX6_put_65 rfl (lv_at hl 2 rfl) ?_
        refine lv_iload_n hx hb dX6_put_66 rfl (lv_at hl 3 rfl) ?_
        obtain ⟨q8, hq8, hf⟩ := Option.bind_eq_some_iff.mp hf
        refine x_callV (isC := [35, 36, 37, 38]) (ws' := (wRP cI cZ cN cC r0 p0 p1 n00 n01 n02 n03 n10 n11 n12 n13 n20 n21 n22 n23 n30 n31 n32 n33 n40 n41 n42 n43 n50 n51 n52 n53 n60 n61 n62 n63 n70 n71 n72 n73 h0 h1 h2 h3 l0 d0 e9 z0 y9 kps q6.1 q6.2.1 q6.2.2.1 q6.2.2.2.1 q6.2.2.2.2.1 q6.2.2.2.2.2.1 q6.2.2.2.2.2.2 pts q8.1 q8.2.1 q8.2.2.1 q8.2.2.2)) (st1 := []) (As := [.int x1, .int x2]) (rest := []) E hw vc_X6_110 (c_X3_putIn (cI := cI) (cZ := cZ) (cN := cN) (cC := cC) (h0 := h0) (h1 := h1) (h2 := h2) (h3 := h3)  (pts := pts) (wrk := wrk) (out := out) (mem := mem) (abv := abv) (x1 := x1) (x2 := x2) hq8) 35 3 rfl rfl rfl rfl rfl rfl rfl rfl rfl ⟨Nat.le_of_ble_eq_true rfl, Nat.le_of_ble_eq_true rfl⟩ ⟨Nat.le_refl _, Nat.le_refl _⟩ hl.1 rfl rfl (Nat.le_of_ble_eq_true rfl) dX6_put_67 (fun H locs hw => ?_)
        refine lv_aload_n hx hb dX6_put_70 rfl (lv_at hl 1 rfl) ?_
        refine x_get E hw kin_X6 0 rfl rfl 2 (by decide) kF_X6_28 (v := .ref h0) rfl dX6_put_71 ?_
        obtain ⟨q9, hq9, hf⟩ := Option.bind_eq_some_iff.mp hf
        refine x_callV (isC := [35, 36, 37, 38]) (ws' := (wRP cI cZ cN cC r0 p0 p1 n00 n01 n02 n03 n10 n11 n12 n13 n20 n21 n22 n23 n30 n31 n32 n33 n40 n41 n42 n43 n50 n51 n52 n53 n60 n61 n62 n63 n70 n71 n72 n73 h0 h1 h2 h3 l0 d0 e9 z0 y9 kps q6.1 q6.2.1 q6.2.2.1 q6.2.2.2.1 q6.2.2.2.2.1 q6.2.2.2.2.2.1 q6.2.2.2.2.2.2 pts q8.1 q8.2.1 q8.2.2.1 q8.2.2.2)) (st1 := [.int q9]) (As := []) (rest := []) E hw vc_X6_120 (c_X3_pairs (cI := cI) (cZ := cZ) (cN := cN) (cC := cC) (h0 := h0) (h1 := h1) (h2 := h2) (h3 := h3)  (pts := pts) (wrk := q8.1) (out := q8.2.1) (mem := q8.2.2.1) (abv := q8.2.2.2)  hq9) 35 3 rfl rfl rfl rfl rfl rfl rfl rfl rfl ⟨Nat.le_of_ble_eq_true rfl, Nat.le_of_ble_eq_true rfl⟩ ⟨Nat.le_refl _, Nat.le_refl _⟩ hl.1 rfl rfl (Nat.le_of_ble_eq_true rfl) dX6_put_74 (fun H locs hw => ?_)
        refine lv_iload_n hx hb dX6_put_77 rfl (lv_at hl 0 rfl) ?_
        refine lv_isub hx hb dX6_put_78 ?_
        have hf := Option.some.inj hf; subst hf
        exact x_iret E hw dX6_put_79
      · rw [if_neg c5] at hf
        refine lv_bipush (v := (-5)) hx hb dX6_put_39 (by decide) ?_
        have hf := Option.some.inj hf; subst hf
        exact x_iret E hw dX6_put_41
    · rw [if_neg c3] at hf
      refine lv_bipush (v := (-4)) hx hb dX6_put_24 (by decide) ?_
      have hf := Option.some.inj hf; subst hf
      exact x_iret E hw dX6_put_26
  · rw [if_pos c1] at hf
    refine lv_bipush (v := (-2)) hx hb dX6_put_9 (by decide) ?_
    have hf := Option.some.inj hf; subst hf
    exact x_iret E hw dX6_put_11

def f_X6_take (N : Nat) (x1 : Int32) (x2 : Int32) (nxt : Int32) (psz : Int32) (nP : (Nat → Int32)) (nW : (Nat → Int32)) (nO : (Nat → Nat → Int32)) (nM : (Nat → Nat → Int32)) (nA : (Nat → Nat → Int32)) (pts : Int32) (wrk : Int32) (out : (Nat → Int32)) (mem : (Nat → Int32)) (abv : (Nat → Int32)) : Option (Int32 × Int32 × Int32 × (Nat → Int32) × (Nat → Int32) × (Nat → Nat → Int32) × (Nat → Nat → Int32) × (Nat → Nat → Int32) × Int32 × (Nat → Int32) × (Nat → Int32) × (Nat → Int32)) :=
  if (x1 &&& ((f_X3_allPoints pts) ^^^ (-1))) = 0 then
   if (x2 &&& ((f_X3_allPoints pts) ^^^ (-1))) = 0 then
    (f_X3_arcsBetween N x1 x2 pts out).bind fun q3 =>
    if q3 = 0 then
     some ((-4), nxt, psz, nP, nW, nO, nM, nA, wrk, out, mem, abv)
    else
     (f_X4_note nxt psz nP nW nO nM nA pts wrk out mem abv).bind fun q5 =>
     (f_X3_takeOut N x1 x2 pts wrk out mem abv).bind fun q6 =>
     some (q3, q5.1, q5.2.1, q5.2.2.1, q5.2.2.2.1, q5.2.2.2.2.1, q5.2.2.2.2.2.1, q5.2.2.2.2.2.2, q6.1, q6.2.1, q6.2.2.1, q6.2.2.2)
   else
    some ((-3), nxt, psz, nP, nW, nO, nM, nA, wrk, out, mem, abv)
  else
   some ((-3), nxt, psz, nP, nW, nO, nM, nA, wrk, out, mem, abv)
set_option maxHeartbeats 4000000 in
set_option maxRecDepth 100000 in
theorem c_X6_take {l : Launch} {D : va_G} {cI cZ cN cC : ClassId} {r0 p0 p1 n00 n01 n02 n03 n10 n11 n12 n13 n20 n21 n22 n23 n30 n31 n32 n33 n40 n41 n42 n43 n50 n51 n52 n53 n60 n61 n62 n63 n70 n71 n72 n73 h0 h1 h2 h3 l0 d0 e9 z0 y9 : Nat} {kps : Int32} {nxt : Int32} {psz : Int32} {nP : (Nat → Int32)} {nW : (Nat → Int32)} {nO : (Nat → Nat → Int32)} {nM : (Nat → Nat → Int32)} {nA : (Nat → Nat → Int32)} {pts : Int32} {wrk : Int32} {out : (Nat → Int32)} {mem : (Nat → Int32)} {abv : (Nat → Int32)} {x1 : Int32} {x2 : Int32} {N : Nat} {res : Int32 × Int32 × Int32 × (Nat → Int32) × (Nat → Int32) × (Nat → Nat → Int32) × (Nat → Nat → Int32) × (Nat → Nat → Int32) × Int32 × (Nat → Int32) × (Nat → Int32) × (Nat → Int32)} (hf : f_X6_take N x1 x2 nxt psz nP nW nO nM nA pts wrk out mem abv = some res) : xMet l D (xtys cI cZ cN cC) yX6_take cX6_take 5 (some .int) 32 769 [.ref r0, .int x1, .int x2] (wRP cI cZ cN cC r0 p0 p1 n00 n01 n02 n03 n10 n11 n12 n13 n20 n21 n22 n23 n30 n31 n32 n33 n40 n41 n42 n43 n50 n51 n52 n53 n60 n61 n62 n63 n70 n71 n72 n73 h0 h1 h2 h3 l0 d0 e9 z0 y9 kps nxt psz nP nW nO nM nA pts wrk out mem abv) (wRP cI cZ cN cC r0 p0 p1 n00 n01 n02 n03 n10 n11 n12 n13 n20 n21 n22 n23 n30 n31 n32 n33 n40 n41 n42 n43 n50 n51 n52 n53 n60 n61 n62 n63 n70 n71 n72 n73 h0 h1 h2 h3 l0 d0 e9 z0 y9 kps res.2.1 res.2.2.1 res.2.2.2.1 res.2.2.2.2.1 res.2.2.2.2.2.1 res.2.2.2.2.2.2.1 res.2.2.2.2.2.2.2.1 pts res.2.2.2.2.2.2.2.2.1 res.2.2.2.2.2.2.2.2.2.1 res.2.2.2.2.2.2.2.2.2.2.1 res.2.2.2.2.2.2.2.2.2.2.2) (some (.int res.1)) := by
  refine x_enter (by decide) (Nat.le_of_ble_eq_true rfl) ?_
  intro p e s m args below meth c E ls hl hw
  have E : xE p s m args meth c cX6_take 5 (some .int) RX6 D (xtys cI cZ cN cC) (xA (wRP cI cZ cN cC r0 p0 p1 n00 n01 n02 n03 n10 n11 n12 n13 n20 n21 n22 n23 n30 n31 n32 n33 n40 n41 n42 n43 n50 n51 n52 n53 n60 n61 n62 n63 n70 n71 n72 n73 h0 h1 h2 h3 l0 d0 e9 z0 y9 kps nxt psz nP nW nO nM nA pts wrk out mem abv)) := E
  obtain ⟨hx, hb, -⟩ := id E
  have hl : lv_has ls 5 [(0, .ref r0), (1, .int x1), (2, .int x2)] := hl
  unfold f_X6_take at hf
  refine lv_aload_n hx hb dX6_take_0 rfl (lv_at hl 0 rfl) ?_
  refine x_get E hw kin_X6 0 rfl rfl 2 (by decide) kF_X6_28 (v := .ref h0) rfl dX6_take_1 ?_
  refine x_callV (isC := [35, 36, 37, 38]) (ws' := (wRP cI cZ cN cC r0 p0 p1 n00 n01 n02 n03 n10 n11 n12 n13 n20 n21 n22 n23 n30 n31 n32 n33 n40 n41 n42 n43 n50 n51 n52 n53 n60 n61 n62 n63 n70 n71 n72 n73 h0 h1 h2 h3 l0 d0 e9 z0 y9 kps nxt psz nP nW nO nM nA pts wrk out mem abv)) (st1 := [.int (f_X3_allPoints pts)]) (As := []) (rest := []) E hw vc_X6_123 (c_X3_allPoints (cI := cI) (cZ := cZ) (cN := cN) (cC := cC) (h0 := h0) (h1 := h1) (h2 := h2) (h3 := h3)  (pts := pts) (wrk := wrk) (out := out) (mem := mem) (abv := abv)  rfl) 35 3 rfl rfl rfl rfl rfl rfl rfl rfl rfl ⟨Nat.le_of_ble_eq_true rfl, Nat.le_of_ble_eq_true rfl⟩ ⟨Nat.le_refl _, Nat.le_refl _⟩ hl.1 rfl rfl (Nat.le_of_ble_eq_true rfl) dX6_take_4 (fun H locs hw => ?_)
  refine lv_istore_n (lv' := [(3, .int (f_X3_allPoints pts)), (0, .ref r0), (1, .int x1), (2, .int x2)]) hx hb dX6_take_7 rfl hl (by decide) rfl (fun ls hl => ?_)
  refine lv_iload_n hx hb dX6_take_8 rfl (lv_at hl 2 rfl) ?_
  refine lv_iload_n hx hb dX6_take_9 rfl (lv_at hl 0 rfl) ?_
  refine lv_iconst (v := (-1)) hx hb dX6_take_10 (by decide) ?_
  refine lv_ixor hx hb dX6_take_11 ?_
  refine lv_iand hx hb dX6_take_12 ?_
  refine lv_if_ne (tgt := 24) hx hb dX6_take_13 (by decide) (fun c1 => ?_) (fun c1 => ?_)
  · rw [if_neg c1] at hf
    refine lv_bipush (v := (-3)) hx hb dX6_take_24 (by decide) ?_
    have hf := Option.some.inj hf; subst hf
    exact x_iret E hw dX6_take_26
  · rw [if_pos c1] at hf
    refine lv_iload_n hx hb dX6_take_16 rfl (lv_at hl 3 rfl) ?_
    refine lv_iload_n hx hb dX6_take_17 rfl (lv_at hl 0 rfl) ?_
    refine lv_iconst (v := (-1)) hx hb dX6_take_18 (by decide) ?_
    refine lv_ixor hx hb dX6_take_19 ?_
    refine lv_iand hx hb dX6_take_20 ?_
    refine lv_if_eq (tgt := 27) hx hb dX6_take_21 (by decide) (fun c2 => ?_) (fun c2 => ?_)
    · rw [if_pos c2] at hf
      refine lv_aload_n hx hb dX6_take_27 rfl (lv_at hl 1 rfl) ?_
      refine x_get E hw kin_X6 0 rfl rfl 2 (by decide) kF_X6_28 (v := .ref h0) rfl dX6_take_28 ?_
      refine lv_iload_n hx hb dX6_take_31 rfl (lv_at hl 2 rfl) ?_
      refine lv_iload_n hx hb dX6_take_32 rfl (lv_at hl 3 rfl) ?_
      obtain ⟨q3, hq3, hf⟩ := Option.bind_eq_some_iff.mp hf
      refine x_callV (isC := [35, 36, 37, 38]) (ws' := (wRP cI cZ cN cC r0 p0 p1 n00 n01 n02 n03 n10 n11 n12 n13 n20 n21 n22 n23 n30 n31 n32 n33 n40 n41 n42 n43 n50 n51 n52 n53 n60 n61 n62 n63 n70 n71 n72 n73 h0 h1 h2 h3 l0 d0 e9 z0 y9 kps nxt psz nP nW nO nM nA pts wrk out mem abv)) (st1 := [.int q3]) (As := [.int x1, .int x2]) (rest := []) E hw vc_X6_126 (c_X3_arcsBetween (cI := cI) (cZ := cZ) (cN := cN) (cC := cC) (h0 := h0) (h1 := h1) (h2 := h2) (h3 := h3)  (pts := pts) (wrk := wrk) (out := out) (mem := mem) (abv := abv) (x1 := x1) (x2 := x2) hq3) 35 3 rfl rfl rfl rfl rfl rfl rfl rfl rfl ⟨Nat.le_of_ble_eq_true rfl, Nat.le_of_ble_eq_true rfl⟩ ⟨Nat.le_refl _, Nat.le_refl _⟩ hl.1 rfl rfl (Nat.le_of_ble_eq_true rfl) dX6_take_33 (fun H locs hw => ?_)
      refine lv_istore (lv' := [(4, .int q3), (3, .int (f_X3_allPoints pts)), (0, .ref r0), (1, .int x1), (2, .int x2)]) hx hb dX6_take_36 hl (by decide) rfl (fun ls hl => ?_)
      refine lv_iload hx hb dX6_take_38 (lv_at hl 0 rfl) ?_
      refine lv_if_ne (tgt := 46) hx hb dX6_take_40 (by decide) (fun c4 => ?_) (fun c4 => ?_)
      · rw [if_neg c4] at hf
        refine lv_aload_n hx hb dX6_take_46 rfl (lv_at hl 2 rfl) ?_
        refine x_get E hw kin_X6 0 rfl rfl 3 (by decide) kF_X6_35 (v := .ref p0) rfl dX6_take_47 ?_
        refine lv_aload_n hx hb dX6_take_50 rfl (lv_at hl 2 rfl) ?_
        refine x_get E hw kin_X6 0 rfl rfl 2 (by decide) kF_X6_28 (v := .ref h0) rfl dX6_take_51 ?_
        obtain ⟨q5, hq5, hf⟩ := Option.bind_eq_some_iff.mp hf
        refine x_callVP (wf := [(r0, .inr (6, [.ref l0, .ref d0, .ref h0, .ref p0, .ref e9, .int kps, .ref z0, .ref y9]))]) (ws' := (wRP cI cZ cN cC r0 p0 p1 n00 n01 n02 n03 n10 n11 n12 n13 n20 n21 n22 n23 n30 n31 n32 n33 n40 n41 n42 n43 n50 n51 n52 n53 n60 n61 n62 n63 n70 n71 n72 n73 h0 h1 h2 h3 l0 d0 e9 z0 y9 kps q5.1 q5.2.1 q5.2.2.1 q5.2.2.2.1 q5.2.2.2.2.1 q5.2.2.2.2.2.1 q5.2.2.2.2.2.2 pts wrk out mem abv)) (st1 := []) (As := [.ref h0]) (rest := []) E hw vc_X6_116 (c_X4_note (cI := cI) (cZ := cZ) (cN := cN) (cC := cC) (h0 := p0) (p1 := p1) (n00 := n00) (n01 := n01) (n02 := n02) (n03 := n03) (n10 := n10) (n11 := n11) (n12 := n12) (n13 := n13) (n20 := n20) (n21 := n21) (n22 := n22) (n23 := n23) (n30 := n30) (n31 := n31) (n32 := n32) (n33 := n33) (n40 := n40) (n41 := n41) (n42 := n42) (n43 := n43) (n50 := n50) (n51 := n51) (n52 := n52) (n53 := n53) (n60 := n60) (n61 := n61) (n62 := n62) (n63 := n63) (n70 := n70) (n71 := n71) (n72 := n72) (n73 := n73) (k0 := h0) (k1 := h1) (k2 := h2) (k3 := h3)  (nxt := nxt) (psz := psz) (nP := nP) (nW := nW) (nO := nO) (nM := nM) (nA := nA) (pts := pts) (wrk := wrk) (out := out) (mem := mem) (abv := abv)  hq5) 1 4 rfl rfl rfl rfl rfl rfl rfl ⟨Nat.le_of_ble_eq_true rfl, Nat.le_of_ble_eq_true rfl⟩ ⟨Nat.le_refl _, Nat.le_refl _⟩ hl.1 rfl rfl (Nat.le_of_ble_eq_true rfl) dX6_take_54 (fun H locs hw => ?_)
        refine lv_aload_n hx hb dX6_take_57 rfl (lv_at hl 2 rfl) ?_
        refine x_get E hw kin_X6 0 rfl rfl 2 (by decide) kF_X6_28 (v := .ref h0) rfl dX6_take_58 ?_
        refine lv_iload_n hx hb dX6_take_61 rfl (lv_at hl 3 rfl) ?_
        refine lv_iload_n hx hb dX6_take_62 rfl (lv_at hl 4 rfl) ?_
        obtain ⟨q6, hq6, hf⟩ := Option.bind_eq_some_iff.mp hf
        refine x_callV (isC := [35, 36, 37, 38]) (ws' := (wRP cI cZ cN cC r0 p0 p1 n00 n01 n02 n03 n10 n11 n12 n13 n20 n21 n22 n23 n30 n31 n32 n33 n40 n41 n42 n43 n50 n51 n52 n53 n60 n61 n62 n63 n70 n71 n72 n73 h0 h1 h2 h3 l0 d0 e9 z0 y9 kps q5.1 q5.2.1 q5.2.2.1 q5.2.2.2.1 q5.2.2.2.2.1 q5.2.2.2.2.2.1 q5.2.2.2.2.2.2 pts q6.1 q6.2.1 q6.2.2.1 q6.2.2.2)) (st1 := []) (As := [.int x1, .int x2]) (rest := []) E hw vc_X6_129 (c_X3_takeOut (cI := cI) (cZ := cZ) (cN := cN) (cC := cC) (h0 := h0) (h1 := h1) (h2 := h2) (h3 := h3)  (pts := pts) (wrk := wrk) (out := out) (mem := mem) (abv := abv) (x1 := x1) (x2 := x2) hq6) 35 3 rfl rfl rfl rfl rfl rfl rfl rfl rfl ⟨Nat.le_of_ble_eq_true rfl, Nat.le_of_ble_eq_true rfl⟩ ⟨Nat.le_refl _, Nat.le_refl _⟩ hl.1 rfl rfl (Nat.le_of_ble_eq_true rfl) dX6_take_63 (fun H locs hw => ?_)
        refine lv_iload hx hb dX6_take_66 (lv_at hl 0 rfl) ?_
        have hf := Option.some.inj hf; subst hf
        exact x_iret E hw dX6_take_68
      · rw [if_pos c4] at hf
        refine lv_bipush (v := (-4)) hx hb dX6_take_43 (by decide) ?_
        have hf := Option.some.inj hf; subst hf
        exact x_iret E hw dX6_take_45
    · rw [if_neg c2] at hf
      refine lv_bipush (v := (-3)) hx hb dX6_take_24 (by decide) ?_
      have hf := Option.some.inj hf; subst hf
      exact x_iret E hw dX6_take_26

def f_X6_clear (nxt : Int32) (psz : Int32) (nP : (Nat → Int32)) (nW : (Nat → Int32)) (nO : (Nat → Nat → Int32)) (nM : (Nat → Nat → Int32)) (nA : (Nat → Nat → Int32)) (pts : Int32) (wrk : Int32) (out : (Nat → Int32)) (mem : (Nat → Int32)) (abv : (Nat → Int32)) : Option (Int32 × Int32 × Int32 × (Nat → Int32) × (Nat → Int32) × (Nat → Nat → Int32) × (Nat → Nat → Int32) × (Nat → Nat → Int32) × Int32) :=
  if wrk = 0 then
   some ((-4), nxt, psz, nP, nW, nO, nM, nA, wrk)
  else
   (f_X4_note nxt psz nP nW nO nM nA pts wrk out mem abv).bind fun q2 =>
   some (wrk, q2.1, q2.2.1, q2.2.2.1, q2.2.2.2.1, q2.2.2.2.2.1, q2.2.2.2.2.2.1, q2.2.2.2.2.2.2, 0)
set_option maxHeartbeats 4000000 in
set_option maxRecDepth 100000 in
theorem c_X6_clear {l : Launch} {D : va_G} {cI cZ cN cC : ClassId} {r0 p0 p1 n00 n01 n02 n03 n10 n11 n12 n13 n20 n21 n22 n23 n30 n31 n32 n33 n40 n41 n42 n43 n50 n51 n52 n53 n60 n61 n62 n63 n70 n71 n72 n73 h0 h1 h2 h3 l0 d0 e9 z0 y9 : Nat} {kps : Int32} {nxt : Int32} {psz : Int32} {nP : (Nat → Int32)} {nW : (Nat → Int32)} {nO : (Nat → Nat → Int32)} {nM : (Nat → Nat → Int32)} {nA : (Nat → Nat → Int32)} {pts : Int32} {wrk : Int32} {out : (Nat → Int32)} {mem : (Nat → Int32)} {abv : (Nat → Int32)}  {res : Int32 × Int32 × Int32 × (Nat → Int32) × (Nat → Int32) × (Nat → Nat → Int32) × (Nat → Nat → Int32) × (Nat → Nat → Int32) × Int32} (hf : f_X6_clear nxt psz nP nW nO nM nA pts wrk out mem abv = some res) : xMet l D (xtys cI cZ cN cC) yX6_clear cX6_clear 2 (some .int) 3 102 [.ref r0] (wRP cI cZ cN cC r0 p0 p1 n00 n01 n02 n03 n10 n11 n12 n13 n20 n21 n22 n23 n30 n31 n32 n33 n40 n41 n42 n43 n50 n51 n52 n53 n60 n61 n62 n63 n70 n71 n72 n73 h0 h1 h2 h3 l0 d0 e9 z0 y9 kps nxt psz nP nW nO nM nA pts wrk out mem abv) (wRP cI cZ cN cC r0 p0 p1 n00 n01 n02 n03 n10 n11 n12 n13 n20 n21 n22 n23 n30 n31 n32 n33 n40 n41 n42 n43 n50 n51 n52 n53 n60 n61 n62 n63 n70 n71 n72 n73 h0 h1 h2 h3 l0 d0 e9 z0 y9 kps res.2.1 res.2.2.1 res.2.2.2.1 res.2.2.2.2.1 res.2.2.2.2.2.1 res.2.2.2.2.2.2.1 res.2.2.2.2.2.2.2.1 pts res.2.2.2.2.2.2.2.2 out mem abv) (some (.int res.1)) := by
  refine x_enter (by decide) (Nat.le_of_ble_eq_true rfl) ?_
  intro p e s m args below meth c E ls hl hw
  have E : xE p s m args meth c cX6_clear 2 (some .int) RX6 D (xtys cI cZ cN cC) (xA (wRP cI cZ cN cC r0 p0 p1 n00 n01 n02 n03 n10 n11 n12 n13 n20 n21 n22 n23 n30 n31 n32 n33 n40 n41 n42 n43 n50 n51 n52 n53 n60 n61 n62 n63 n70 n71 n72 n73 h0 h1 h2 h3 l0 d0 e9 z0 y9 kps nxt psz nP nW nO nM nA pts wrk out mem abv)) := E
  obtain ⟨hx, hb, -⟩ := id E
  have hl : lv_has ls 2 [(0, .ref r0)] := hl
  unfold f_X6_clear at hf
  refine lv_aload_n hx hb dX6_clear_0 rfl (lv_at hl 0 rfl) ?_
  refine x_get E hw kin_X6 0 rfl rfl 2 (by decide) kF_X6_28 (v := .ref h0) rfl dX6_clear_1 ?_
  refine x_get E hw kin_X3 35 rfl rfl 1 (by decide) kF_X6_132 (v := .int wrk) rfl dX6_clear_4 ?_
  refine lv_istore_n (lv' := [(1, .int wrk), (0, .ref r0)]) hx hb dX6_clear_7 rfl hl (by decide) rfl (fun ls hl => ?_)
  refine lv_iload_n hx hb dX6_clear_8 rfl (lv_at hl 0 rfl) ?_
  refine lv_if_ne (tgt := 15) hx hb dX6_clear_9 (by decide) (fun c1 => ?_) (fun c1 => ?_)
  · rw [if_neg c1] at hf
    refine lv_aload_n hx hb dX6_clear_15 rfl (lv_at hl 1 rfl) ?_
    refine x_get E hw kin_X6 0 rfl rfl 3 (by decide) kF_X6_35 (v := .ref p0) rfl dX6_clear_16 ?_
    refine lv_aload_n hx hb dX6_clear_19 rfl (lv_at hl 1 rfl) ?_
    refine x_get E hw kin_X6 0 rfl rfl 2 (by decide) kF_X6_28 (v := .ref h0) rfl dX6_clear_20 ?_
    obtain ⟨q2, hq2, hf⟩ := Option.bind_eq_some_iff.mp hf
    refine x_callVP (wf := [(r0, .inr (6, [.ref l0, .ref d0, .ref h0, .ref p0, .ref e9, .int kps, .ref z0, .ref y9]))]) (ws' := (wRP cI cZ cN cC r0 p0 p1 n00 n01 n02 n03 n10 n11 n12 n13 n20 n21 n22 n23 n30 n31 n32 n33 n40 n41 n42 n43 n50 n51 n52 n53 n60 n61 n62 n63 n70 n71 n72 n73 h0 h1 h2 h3 l0 d0 e9 z0 y9 kps q2.1 q2.2.1 q2.2.2.1 q2.2.2.2.1 q2.2.2.2.2.1 q2.2.2.2.2.2.1 q2.2.2.2.2.2.2 pts wrk out mem abv)) (st1 := []) (As := [.ref h0]) (rest := []) E hw vc_X6_116 (c_X4_note (cI := cI) (cZ := cZ) (cN := cN) (cC := cC) (h0 := p0) (p1 := p1) (n00 := n00) (n01 := n01) (n02 := n02) (n03 := n03) (n10 := n10) (n11 := n11) (n12 := n12) (n13 := n13) (n20 := n20) (n21 := n21) (n22 := n22) (n23 := n23) (n30 := n30) (n31 := n31) (n32 := n32) (n33 := n33) (n40 := n40) (n41 := n41) (n42 := n42) (n43 := n43) (n50 := n50) (n51 := n51) (n52 := n52) (n53 := n53) (n60 := n60) (n61 := n61) (n62 := n62) (n63 := n63) (n70 := n70) (n71 := n71) (n72 := n72) (n73 := n73) (k0 := h0) (k1 := h1) (k2 := h2) (k3 := h3)  (nxt := nxt) (psz := psz) (nP := nP) (nW := nW) (nO := nO) (nM := nM) (nA := nA) (pts := pts) (wrk := wrk) (out := out) (mem := mem) (abv := abv)  hq2) 1 4 rfl rfl rfl rfl rfl rfl rfl ⟨Nat.le_of_ble_eq_true rfl, Nat.le_of_ble_eq_true rfl⟩ ⟨Nat.le_refl _, Nat.le_refl _⟩ hl.1 rfl rfl (Nat.le_of_ble_eq_true rfl) dX6_clear_23 (fun H locs hw => ?_)
    refine lv_aload_n hx hb dX6_clear_26 rfl (lv_at hl 1 rfl) ?_
    refine x_get E hw kin_X6 0 rfl rfl 2 (by decide) kF_X6_28 (v := .ref h0) rfl dX6_clear_27 ?_
    refine lv_iconst (v := 0) hx hb dX6_clear_30 (by decide) ?_
    refine x_put (ws' := (wRP cI cZ cN cC r0 p0 p1 n00 n01 n02 n03 n10 n11 n12 n13 n20 n21 n22 n23 n30 n31 n32 n33 n40 n41 n42 n43 n50 n51 n52 n53 n60 n61 n62 n63 n70 n71 n72 n73 h0 h1 h2 h3 l0 d0 e9 z0 y9 kps q2.1 q2.2.1 q2.2.2.1 q2.2.2.2.1 q2.2.2.2.2.1 q2.2.2.2.2.2.1 q2.2.2.2.2.2.2 pts 0 out mem abv)) E hw kin_X3 tyX3 tyX3_ok nmX3 35 rfl rfl 1 (by decide) kF_X6_132 rfl (v := .int 0) rfl rfl (Nat.le_of_ble_eq_true rfl) rfl dX6_clear_31 (fun H locs hw => ?_)
    refine lv_iload_n hx hb dX6_clear_34 rfl (lv_at hl 0 rfl) ?_
    have hf := Option.some.inj hf; subst hf
    exact x_iret E hw dX6_clear_35
  · rw [if_pos c1] at hf
    refine lv_bipush (v := (-4)) hx hb dX6_clear_12 (by decide) ?_
    have hf := Option.some.inj hf; subst hf
    exact x_iret E hw dX6_clear_14

def f_X6_undo (nxt : Int32) (psz : Int32) (nP : (Nat → Int32)) (nW : (Nat → Int32)) (nO : (Nat → Nat → Int32)) (nM : (Nat → Nat → Int32)) (nA : (Nat → Nat → Int32)) (pts : Int32) (wrk : Int32) (out : (Nat → Int32)) (mem : (Nat → Int32)) (abv : (Nat → Int32)) : Option (Int32 × Int32 × Int32 × Int32 × Int32 × (Nat → Int32) × (Nat → Int32) × (Nat → Int32)) :=
  if psz = 0 then
   some ((-4), nxt, psz, pts, wrk, out, mem, abv)
  else
   (f_X4_restore nxt psz nP nW nO nM nA out mem abv).bind fun q2 =>
   some (q2.2.1, q2.1, q2.2.1, q2.2.2.1, q2.2.2.2.1, q2.2.2.2.2.1, q2.2.2.2.2.2.1, q2.2.2.2.2.2.2)
set_option maxHeartbeats 4000000 in
set_option maxRecDepth 100000 in
theorem c_X6_undo {l : Launch} {D : va_G} {cI cZ cN cC : ClassId} {r0 p0 p1 n00 n01 n02 n03 n10 n11 n12 n13 n20 n21 n22 n23 n30 n31 n32 n33 n40 n41 n42 n43 n50 n51 n52 n53 n60 n61 n62 n63 n70 n71 n72 n73 h0 h1 h2 h3 l0 d0 e9 z0 y9 : Nat} {kps : Int32} {nxt : Int32} {psz : Int32} {nP : (Nat → Int32)} {nW : (Nat → Int32)} {nO : (Nat → Nat → Int32)} {nM : (Nat → Nat → Int32)} {nA : (Nat → Nat → Int32)} {pts : Int32} {wrk : Int32} {out : (Nat → Int32)} {mem : (Nat → Int32)} {abv : (Nat → Int32)}  {res : Int32 × Int32 × Int32 × Int32 × Int32 × (Nat → Int32) × (Nat → Int32) × (Nat → Int32)} (hf : f_X6_undo nxt psz nP nW nO nM nA pts wrk out mem abv = some res) : xMet l D (xtys cI cZ cN cC) yX6_undo cX6_undo 1 (some .int) 3 102 [.ref r0] (wRP cI cZ cN cC r0 p0 p1 n00 n01 n02 n03 n10 n11 n12 n13 n20 n21 n22 n23 n30 n31 n32 n33 n40 n41 n42 n43 n50 n51 n52 n53 n60 n61 n62 n63 n70 n71 n72 n73 h0 h1 h2 h3 l0 d0 e9 z0 y9 kps nxt psz nP nW nO nM nA pts wrk out mem abv) (wRP cI cZ cN cC r0 p0 p1 n00 n01 n02 n03 n10 n11 n12 n13 n20 n21 n22 n23 n30 n31 n32 n33 n40 n41 n42 n43 n50 n51 n52 n53 n60 n61 n62 n63 n70 n71 n72 n73 h0 h1 h2 h3 l0 d0 e9 z0 y9 kps res.2.1 res.2.2.1 nP nW nO nM nA res.2.2.2.1 res.2.2.2.2.1 res.2.2.2.2.2.1 res.2.2.2.2.2.2.1 res.2.2.2.2.2.2.2) (some (.int res.1)) := by
  refine x_enter (by decide) (Nat.le_of_ble_eq_true rfl) ?_
  intro p e s m args below meth c E ls hl hw
  have E : xE p s m args meth c cX6_undo 1 (some .int) RX6 D (xtys cI cZ cN cC) (xA (wRP cI cZ cN cC r0 p0 p1 n00 n01 n02 n03 n10 n11 n12 n13 n20 n21 n22 n23 n30 n31 n32 n33 n40 n41 n42 n43 n50 n51 n52 n53 n60 n61 n62 n63 n70 n71 n72 n73 h0 h1 h2 h3 l0 d0 e9 z0 y9 kps nxt psz nP nW nO nM nA pts wrk out mem abv)) := E
  obtain ⟨hx, hb, -⟩ := id E
  have hl : lv_has ls 1 [(0, .ref r0)] := hl
  unfold f_X6_undo at hf
  refine lv_aload_n hx hb dX6_undo_0 rfl (lv_at hl 0 rfl) ?_
  refine x_get E hw kin_X6 0 rfl rfl 3 (by decide) kF_X6_35 (v := .ref p0) rfl dX6_undo_1 ?_
  refine x_get E hw kin_X4 1 rfl rfl 2 (by decide) kF_X6_135 (v := .int psz) rfl dX6_undo_4 ?_
  refine lv_if_ne (tgt := 13) hx hb dX6_undo_7 (by decide) (fun c1 => ?_) (fun c1 => ?_)
  · rw [if_neg c1] at hf
    refine lv_aload_n hx hb dX6_undo_13 rfl (lv_at hl 0 rfl) ?_
    refine x_get E hw kin_X6 0 rfl rfl 3 (by decide) kF_X6_35 (v := .ref p0) rfl dX6_undo_14 ?_
    refine lv_aload_n hx hb dX6_undo_17 rfl (lv_at hl 0 rfl) ?_
    refine x_get E hw kin_X6 0 rfl rfl 2 (by decide) kF_X6_28 (v := .ref h0) rfl dX6_undo_18 ?_
    obtain ⟨q2, hq2, hf⟩ := Option.bind_eq_some_iff.mp hf
    refine x_callVP (wf := [(r0, .inr (6, [.ref l0, .ref d0, .ref h0, .ref p0, .ref e9, .int kps, .ref z0, .ref y9]))]) (ws' := (wRP cI cZ cN cC r0 p0 p1 n00 n01 n02 n03 n10 n11 n12 n13 n20 n21 n22 n23 n30 n31 n32 n33 n40 n41 n42 n43 n50 n51 n52 n53 n60 n61 n62 n63 n70 n71 n72 n73 h0 h1 h2 h3 l0 d0 e9 z0 y9 kps q2.1 q2.2.1 nP nW nO nM nA q2.2.2.1 q2.2.2.2.1 q2.2.2.2.2.1 q2.2.2.2.2.2.1 q2.2.2.2.2.2.2)) (st1 := []) (As := [.ref h0]) (rest := []) E hw vc_X6_138 (c_X4_restore (cI := cI) (cZ := cZ) (cN := cN) (cC := cC) (h0 := p0) (p1 := p1) (n00 := n00) (n01 := n01) (n02 := n02) (n03 := n03) (n10 := n10) (n11 := n11) (n12 := n12) (n13 := n13) (n20 := n20) (n21 := n21) (n22 := n22) (n23 := n23) (n30 := n30) (n31 := n31) (n32 := n32) (n33 := n33) (n40 := n40) (n41 := n41) (n42 := n42) (n43 := n43) (n50 := n50) (n51 := n51) (n52 := n52) (n53 := n53) (n60 := n60) (n61 := n61) (n62 := n62) (n63 := n63) (n70 := n70) (n71 := n71) (n72 := n72) (n73 := n73) (k0 := h0) (k1 := h1) (k2 := h2) (k3 := h3)  (nxt := nxt) (psz := psz) (nP := nP) (nW := nW) (nO := nO) (nM := nM) (nA := nA) (pts := pts) (wrk := wrk) (out := out) (mem := mem) (abv := abv)  hq2) 1 4 rfl rfl rfl rfl rfl rfl rfl ⟨Nat.le_of_ble_eq_true rfl, Nat.le_of_ble_eq_true rfl⟩ ⟨Nat.le_refl _, Nat.le_refl _⟩ hl.1 rfl rfl (Nat.le_of_ble_eq_true rfl) dX6_undo_21 (fun H locs hw => ?_)
    refine lv_aload_n hx hb dX6_undo_24 rfl (lv_at hl 0 rfl) ?_
    refine x_get E hw kin_X6 0 rfl rfl 3 (by decide) kF_X6_35 (v := .ref p0) rfl dX6_undo_25 ?_
    refine x_get E hw kin_X4 1 rfl rfl 2 (by decide) kF_X6_135 (v := .int q2.2.1) rfl dX6_undo_28 ?_
    have hf := Option.some.inj hf; subst hf
    exact x_iret E hw dX6_undo_31
  · rw [if_pos c1] at hf
    refine lv_bipush (v := (-4)) hx hb dX6_undo_10 (by decide) ?_
    have hf := Option.some.inj hf; subst hf
    exact x_iret E hw dX6_undo_12

