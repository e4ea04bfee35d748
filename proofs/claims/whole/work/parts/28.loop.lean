def AllOps (Inv : InvT) : Prop := Op_write Inv ∧ Op_erase Inv ∧ Op_fault Inv ∧ Op_net Inv ∧ Op_put Inv ∧ Op_take Inv ∧ Op_clear Inv ∧ Op_undo Inv ∧ Op_keep Inv ∧ Op_back Inv ∧ Op_arc Inv ∧ Op_reaches Inv ∧ Op_above Inv ∧ Op_way Inv ∧ Op_around Inv ∧ Op_needless Inv ∧ Op_reduced Inv ∧ Op_fold Inv ∧ Op_gain Inv ∧ Op_best Inv ∧ Op_loss Inv ∧ Op_worst Inv ∧ Op_sever Inv ∧ Op_chain Inv ∧ Op_add Inv ∧ Op_last Inv ∧ Op_sum Inv ∧ Op_strike Inv ∧ Op_append Inv ∧ Op_drop Inv ∧ Op_count Inv
theorem x_le5 {L i : Nat} (hL : L ≤ 2560) (hi : i ≤ L) (h : ¬ (Int32.ofNat L - 5) < nI i) : i + 5 ≤ L := by
  rcases Nat.lt_or_ge L (i + 5) with q | q
  · refine absurd ?_ h
    rw [Int32.lt_iff_toInt_lt, show (5 : Int32) = nI 5 from rfl, show Int32.ofNat L = nI L from rfl, pk_sub_toInt (by omega) (by omega), nI_toInt (by omega)]
    omega
  · exact q
theorem x_hi {L i k : Nat} {x kk : Int32} (hx : x = nI i) (hk : kk = nI k) (h : i + k < L) (hL : L ≤ 2560) : vp_in (x + kk) L := by
  rw [hx, hk, nI_add]; exact vp_in_nI h (by omega)
set_option maxHeartbeats 8000000 in
set_option maxRecDepth 100000 in
theorem law_loop {p : Program} {l : Launch} {e : Env} {s : State} {m : MethodId} {below : List Frame} {meth : Method} {c : Code} {D : va_G} {cI cZ cN cC : ClassId} {b L : Nat} {xs : Nat → Int32} {cells slots : Nat} {r0 l0 l1 d0 d1 d2 h0 h1 h2 h3 p0 p1 n00 n01 n02 n03 n10 n11 n12 n13 n20 n21 n22 n23 n30 n31 n32 n33 n40 n41 n42 n43 n50 n51 n52 n53 n60 n61 n62 n63 n70 n71 n72 n73 e9 e00 e01 e02 e03 e10 e11 e12 e13 z0 z1 z2 z3 y9 y00 y01 y02 y10 y11 y12 y20 y21 y22 m0 m1 m2 m3 m4 m5 m6 m7 m8 m9 m10 m11 m12 m13 m14 m15 : Nat} {Inv : InvT} (ops : AllOps Inv) (E : xE p s m #[Value.ref b] meth c code 4 ret RL D (xtys cI cZ cN cC) (fun q : Nat => s.heap.size ≤ q)) (hX : va_X b L xs s s.heap) (hbl : b < s.heap.size) (hL : L ≤ 2560) (hcl : cells ≤ room_1.cells ∧ slots ≤ room_1.slots) :
    ∀ (n i : Nat) (x3 : Int32) (kps : Int32) (len : Int32) (txt : (Nat → Int32)) (ncl : Int32) (tso : Int32) (tst : Int32) (ten : Int32) (knd : (Nat → Int32)) (nbs : (Nat → Int32)) (pts : Int32) (wrk : Int32) (out : (Nat → Int32)) (mem : (Nat → Int32)) (abv : (Nat → Int32)) (nxt : Int32) (psz : Int32) (nP : (Nat → Int32)) (nW : (Nat → Int32)) (nO : (Nat → Nat → Int32)) (nM : (Nat → Nat → Int32)) (nA : (Nat → Nat → Int32)) (eP : (Nat → Int32)) (eW : (Nat → Int32)) (eO : (Nat → Nat → Int32)) (eM : (Nat → Nat → Int32)) (eA : (Nat → Nat → Int32)) (usd : (Nat → Int32)) (usi : (Nat → Int32)) (cam : (Nat → Int32)) (cM : (Nat → Int32)) (cS : (Nat → Int32)) (cV : (Nat → Nat → Int32)) (cB : (Nat → Nat → Int32)) (mn : Int32) (um : Int32) (len2 : Int32) (plc : Int32) (srt : Int32) (frm : Int32) (num : Int32) (wrg : Int32) (cm : Int32) (mpt : Int32) (st : (Nat → Int32)) (pst : (Nat → Int32)) (kep : (Nat → Int32)) (isk : (Nat → Int32)) (pil : (Nat → Int32)) (nxs : (Nat → Int32)) (txt2 : (Nat → Int32)) (cls : (Nat → Int32)) (asd : (Nat → Int32)) (opn : (Nat → Int32)) (byy : (Nat → Int32)) (twc : (Nat → Int32)) (szs : (Nat → Int32)) (sos : (Nat → Int32)) (ths : (Nat → Int32)), i ≤ L → L + 1 ≤ i + n → x3 = nI i → Inv kps len txt pts wrk out mem abv nxt psz nP nW nO nM nA eP eW eO eM eA cM cS cV cB mn um len2 st pst kep isk txt2 szs sos ths → ∀ (H : Heap) (locs : List Loc) (ls : Array Slot), xw D (fun q : Nat => s.heap.size ≤ q) s.heap (wLaw cI cZ cN cC r0 l0 l1 d0 d1 d2 h0 h1 h2 h3 p0 p1 n00 n01 n02 n03 n10 n11 n12 n13 n20 n21 n22 n23 n30 n31 n32 n33 n40 n41 n42 n43 n50 n51 n52 n53 n60 n61 n62 n63 n70 n71 n72 n73 e9 e00 e01 e02 e03 e10 e11 e12 e13 z0 z1 z2 z3 y9 y00 y01 y02 y10 y11 y12 y20 y21 y22 m0 m1 m2 m3 m4 m5 m6 m7 m8 m9 m10 m11 m12 m13 m14 m15 kps len txt ncl tso tst ten knd nbs pts wrk out mem abv nxt psz nP nW nO nM nA eP eW eO eM eA usd usi cam cM cS cV cB mn um len2 plc srt frm num wrg cm mpt st pst kep isk pil nxs txt2 cls asd opn byy twc szs sos ths) H locs → lv_has ls 4 [(0, .ref b), (1, .ref r0), (2, .ref m0), (3, .int x3)] → W p l e room_1 s m #[Value.ref b] below meth c H locs cells slots (lw_Z below #[Value.ref b] s) (F0 m 18 ls []) := by
  obtain ⟨hx, hb, hml, hr, hown, hK, hlocks, hcst⟩ := id E
  have hbA : ¬ (fun q : Nat => s.heap.size ≤ q) b := Nat.not_le.mpr hbl
  intro n
  induction n with
  | zero =>
    intro i x3 _ _ _ _ _ _ _ _ _ _ _ _ _ _ _ _ _ _ _ _ _ _ _ _ _ _ _ _ _ _ _ _ _ _ _ _ _ _ _ _ _ _ _ _ _ _ _ _ _ _ _ _ _ _ _ _ _ _ h1 h2
    exact absurd h2 (by omega)
  | succ n ih =>
    intro i x3 kps len txt ncl tso tst ten knd nbs pts wrk out mem abv nxt psz nP nW nO nM nA eP eW eO eM eA usd usi cam cM cS cV cB mn um len2 plc srt frm num wrg cm mpt st pst kep isk pil nxs txt2 cls asd opn byy twc szs sos ths hi hin ex3 hI H locs ls hw hl
    refine lv_iload_n hx hb dL_law_18 rfl (lv_at hl 3 rfl) ?_
    refine lv_aload_n hx hb dL_law_19 rfl (lv_at hl 0 rfl) ?_
    refine va_slen hx hb hX hbl hbA hw.2.2 dL_law_20 ?_
    refine lv_iconst (v := 5) hx hb dL_law_21 (by decide) ?_
    refine lv_isub hx hb dL_law_22 ?_
    refine lv_icmp_gt (tgt := 1021) hx hb dL_law_23 (by decide) (fun c0 => ?_) (fun c0 => ?_)
    · refine lv_iconst (v := 1) hx hb dL_law_1021 (by decide) ?_
      refine va_forget (fun q hq => hw.2.2.2.2 q hq) ?_
      refine W.widen (k := 600000) (n := 7302250) hcl.1 hcl.2 ?_
      exact lw_ret hx hb hr hlocks dL_law_1022
    · have h5 : i + 5 ≤ L := x_le5 hL hi (by rw [← ex3]; exact c0)
      have hi0 : vp_in x3 L := by rw [ex3]; exact vp_in_nI (by omega) (by omega)
      have hi1 : vp_in (x3 + 1) L := x_hi (k := 1) ex3 rfl (by omega) hL
      have hi2 : vp_in (x3 + 2) L := x_hi (k := 2) ex3 rfl (by omega) hL
      have hi3 : vp_in (x3 + 3) L := x_hi (k := 3) ex3 rfl (by omega) hL
      have hi4 : vp_in (x3 + 4) L := x_hi (k := 4) ex3 rfl (by omega) hL
      have kk : ∀ (kps : Int32) (len : Int32) (txt : (Nat → Int32)) (ncl : Int32) (tso : Int32) (tst : Int32) (ten : Int32) (knd : (Nat → Int32)) (nbs : (Nat → Int32)) (pts : Int32) (wrk : Int32) (out : (Nat → Int32)) (mem : (Nat → Int32)) (abv : (Nat → Int32)) (nxt : Int32) (psz : Int32) (nP : (Nat → Int32)) (nW : (Nat → Int32)) (nO : (Nat → Nat → Int32)) (nM : (Nat → Nat → Int32)) (nA : (Nat → Nat → Int32)) (eP : (Nat → Int32)) (eW : (Nat → Int32)) (eO : (Nat → Nat → Int32)) (eM : (Nat → Nat → Int32)) (eA : (Nat → Nat → Int32)) (usd : (Nat → Int32)) (usi : (Nat → Int32)) (cam : (Nat → Int32)) (cM : (Nat → Int32)) (cS : (Nat → Int32)) (cV : (Nat → Nat → Int32)) (cB : (Nat → Nat → Int32)) (mn : Int32) (um : Int32) (len2 : Int32) (plc : Int32) (srt : Int32) (frm : Int32) (num : Int32) (wrg : Int32) (cm : Int32) (mpt : Int32) (st : (Nat → Int32)) (pst : (Nat → Int32)) (kep : (Nat → Int32)) (isk : (Nat → Int32)) (pil : (Nat → Int32)) (nxs : (Nat → Int32)) (txt2 : (Nat → Int32)) (cls : (Nat → Int32)) (asd : (Nat → Int32)) (opn : (Nat → Int32)) (byy : (Nat → Int32)) (twc : (Nat → Int32)) (szs : (Nat → Int32)) (sos : (Nat → Int32)) (ths : (Nat → Int32)), Inv kps len txt pts wrk out mem abv nxt psz nP nW nO nM nA eP eW eO eM eA cM cS cV cB mn um len2 st pst kep isk txt2 szs sos ths → ∀ (H : Heap) (locs : List Loc), xw D (fun q : Nat => s.heap.size ≤ q) s.heap (wLaw cI cZ cN cC r0 l0 l1 d0 d1 d2 h0 h1 h2 h3 p0 p1 n00 n01 n02 n03 n10 n11 n12 n13 n20 n21 n22 n23 n30 n31 n32 n33 n40 n41 n42 n43 n50 n51 n52 n53 n60 n61 n62 n63 n70 n71 n72 n73 e9 e00 e01 e02 e03 e10 e11 e12 e13 z0 z1 z2 z3 y9 y00 y01 y02 y10 y11 y12 y20 y21 y22 m0 m1 m2 m3 m4 m5 m6 m7 m8 m9 m10 m11 m12 m13 m14 m15 kps len txt ncl tso tst ten knd nbs pts wrk out mem abv nxt psz nP nW nO nM nA eP eW eO eM eA usd usi cam cM cS cV cB mn um len2 plc srt frm num wrg cm mpt st pst kep isk pil nxs txt2 cls asd opn byy twc szs sos ths) H locs → W p l e room_1 s m #[Value.ref b] below meth c H locs cells slots (lw_Z below #[Value.ref b] s) (F0 m 1015 ls []) := by
        intro kps len txt ncl tso tst ten knd nbs pts wrk out mem abv nxt psz nP nW nO nM nA eP eW eO eM eA usd usi cam cM cS cV cB mn um len2 plc srt frm num wrg cm mpt st pst kep isk pil nxs txt2 cls asd opn byy twc szs sos ths hI H locs hw
        refine lv_iinc (v := nI (i + 5)) (lv' := [(3, .int (nI (i + 5))), (0, .ref b), (1, .ref r0), (2, .ref m0)]) hx hb dL_law_1015 hl (k := 3) rfl (by rw [ex3]; exact nI_add i 5) (by decide) rfl (fun ls hl => ?_)
        refine lv_goto (tgt := 18) hx hb dL_law_1018 (by decide) ?_
        exact ih (i + 5) (nI (i + 5)) kps len txt ncl tso tst ten knd nbs pts wrk out mem abv nxt psz nP nW nO nM nA eP eW eO eM eA usd usi cam cM cS cV cB mn um len2 plc srt frm num wrg cm mpt st pst kep isk pil nxs txt2 cls asd opn byy twc szs sos ths h5 (by omega) rfl hI _ _ _ hw (lv_sub hl [1, 2, 3, 0] rfl)
      refine lv_aload_n hx hb dL_law_26 rfl (lv_at hl 0 rfl) ?_
      refine lv_iload_n hx hb dL_law_27 rfl (lv_at hl 3 rfl) ?_
      refine va_sld hx hb hX hbl hbA hw.2.2 hi0 dL_law_28 ?_
      refine lv_bipush (v := 31) hx hb dL_law_29 (by decide) ?_
      refine lv_iand hx hb dL_law_31 ?_
      refine lv_topi (fun y ey => ?_)
      obtain ⟨j, hj, ej⟩ := pk_andE (xs x3.toNatClampNeg) (m := 31) 5 (by decide)
      rw [ej] at ey
      subst ey
      obtain ⟨o0, o1, o2, o3, o4, o5, o6, o7, o8, o9, o10, o11, o12, o13, o14, o15, o16, o17, o18, o19, o20, o21, o22, o23, o24, o25, o26, o27, o28, o29, o30⟩ := ops
      rcases (show j = 0 ∨ j = 1 ∨ j = 2 ∨ j = 3 ∨ j = 4 ∨ j = 5 ∨ j = 6 ∨ j = 7 ∨ j = 8 ∨ j = 9 ∨ j = 10 ∨ j = 11 ∨ j = 12 ∨ j = 13 ∨ j = 14 ∨ j = 15 ∨ j = 16 ∨ j = 17 ∨ j = 18 ∨ j = 19 ∨ j = 20 ∨ j = 21 ∨ j = 22 ∨ j = 23 ∨ j = 24 ∨ j = 25 ∨ j = 26 ∨ j = 27 ∨ j = 28 ∨ j = 29 ∨ j = 30 ∨ j = 31 by omega) with rfl | rfl | rfl | rfl | rfl | rfl | rfl | rfl | rfl | rfl | rfl | rfl | rfl | rfl | rfl | rfl | rfl | rfl | rfl | rfl | rfl | rfl | rfl | rfl | rfl | rfl | rfl | rfl | rfl | rfl | rfl | rfl
      · refine lv_tableIn (tgt := 172) hx hb dL_law_32 (by decide) (by decide) rfl (by decide) ?_
        exact law_write o0 hI E hX hbl hbA hi1 hcl hw hl kk
      · refine lv_tableIn (tgt := 195) hx hb dL_law_32 (by decide) (by decide) rfl (by decide) ?_
        exact law_erase o1 hI E hX hbl hbA hcl hw hl kk
      · refine lv_tableIn (tgt := 208) hx hb dL_law_32 (by decide) (by decide) rfl (by decide) ?_
        exact law_fault o2 hI E hX hbl hbA hcl hw hl kk
      · refine lv_tableIn (tgt := 221) hx hb dL_law_32 (by decide) (by decide) rfl (by decide) ?_
        exact law_net o3 hI E hX hbl hbA hcl hw hl kk
      · refine lv_tableIn (tgt := 234) hx hb dL_law_32 (by decide) (by decide) rfl (by decide) ?_
        exact law_put o4 hI E hX hbl hbA hi1 hi2 hcl hw hl kk
      · refine lv_tableIn (tgt := 267) hx hb dL_law_32 (by decide) (by decide) rfl (by decide) ?_
        exact law_take o5 hI E hX hbl hbA hi1 hi2 hcl hw hl kk
      · refine lv_tableIn (tgt := 300) hx hb dL_law_32 (by decide) (by decide) rfl (by decide) ?_
        exact law_clear o6 hI E hX hbl hbA hcl hw hl kk
      · refine lv_tableIn (tgt := 313) hx hb dL_law_32 (by decide) (by decide) rfl (by decide) ?_
        exact law_undo o7 hI E hX hbl hbA hcl hw hl kk
      · refine lv_tableIn (tgt := 326) hx hb dL_law_32 (by decide) (by decide) rfl (by decide) ?_
        exact law_keep o8 hI E hX hbl hbA hi1 hcl hw hl kk
      · refine lv_tableIn (tgt := 349) hx hb dL_law_32 (by decide) (by decide) rfl (by decide) ?_
        exact law_back o9 hI E hX hbl hbA hi1 hcl hw hl kk
      · refine lv_tableIn (tgt := 372) hx hb dL_law_32 (by decide) (by decide) rfl (by decide) ?_
        exact law_arc o10 hI E hX hbl hbA hi1 hi2 hcl hw hl kk
      · refine lv_tableIn (tgt := 405) hx hb dL_law_32 (by decide) (by decide) rfl (by decide) ?_
        exact law_reaches o11 hI E hX hbl hbA hi1 hi2 hcl hw hl kk
      · refine lv_tableIn (tgt := 438) hx hb dL_law_32 (by decide) (by decide) rfl (by decide) ?_
        exact law_above o12 hI E hX hbl hbA hi1 hi2 hcl hw hl kk
      · refine lv_tableIn (tgt := 471) hx hb dL_law_32 (by decide) (by decide) rfl (by decide) ?_
        exact law_way o13 hI E hX hbl hbA hi1 hi2 hi3 hcl hw hl kk
      · refine lv_tableIn (tgt := 514) hx hb dL_law_32 (by decide) (by decide) rfl (by decide) ?_
        exact law_around o14 hI E hX hbl hbA hi1 hi2 hcl hw hl kk
      · refine lv_tableIn (tgt := 547) hx hb dL_law_32 (by decide) (by decide) rfl (by decide) ?_
        exact law_needless o15 hI E hX hbl hbA hi1 hi2 hcl hw hl kk
      · refine lv_tableIn (tgt := 580) hx hb dL_law_32 (by decide) (by decide) rfl (by decide) ?_
        exact law_reduced o16 hI E hX hbl hbA hcl hw hl kk
      · refine lv_tableIn (tgt := 593) hx hb dL_law_32 (by decide) (by decide) rfl (by decide) ?_
        exact law_fold o17 hI E hX hbl hbA hi1 hi2 hcl hw hl kk
      · refine lv_tableIn (tgt := 626) hx hb dL_law_32 (by decide) (by decide) rfl (by decide) ?_
        exact law_gain o18 hI E hX hbl hbA hi1 hi2 hi3 hcl hw hl kk
      · refine lv_tableIn (tgt := 669) hx hb dL_law_32 (by decide) (by decide) rfl (by decide) ?_
        exact law_best o19 hI E hX hbl hbA hcl hw hl kk
      · refine lv_tableIn (tgt := 682) hx hb dL_law_32 (by decide) (by decide) rfl (by decide) ?_
        exact law_loss o20 hI E hX hbl hbA hi1 hi2 hcl hw hl kk
      · refine lv_tableIn (tgt := 715) hx hb dL_law_32 (by decide) (by decide) rfl (by decide) ?_
        exact law_worst o21 hI E hX hbl hbA hcl hw hl kk
      · refine lv_tableIn (tgt := 728) hx hb dL_law_32 (by decide) (by decide) rfl (by decide) ?_
        exact law_sever o22 hI E hX hbl hbA hi1 hi2 hcl hw hl kk
      · refine lv_tableIn (tgt := 761) hx hb dL_law_32 (by decide) (by decide) rfl (by decide) ?_
        exact law_chain o23 hI E hX hbl hbA hi1 hcl hw hl kk
      · refine lv_tableIn (tgt := 784) hx hb dL_law_32 (by decide) (by decide) rfl (by decide) ?_
        exact law_add o24 hI E hX hbl hbA hi1 hi2 hi3 hi4 hcl hw hl kk
      · refine lv_tableIn (tgt := 837) hx hb dL_law_32 (by decide) (by decide) rfl (by decide) ?_
        exact law_last o25 hI E hX hbl hbA hi1 hi2 hcl hw hl kk
      · refine lv_tableIn (tgt := 870) hx hb dL_law_32 (by decide) (by decide) rfl (by decide) ?_
        exact law_sum o26 hI E hX hbl hbA hi1 hi2 hcl hw hl kk
      · refine lv_tableIn (tgt := 903) hx hb dL_law_32 (by decide) (by decide) rfl (by decide) ?_
        exact law_strike o27 hI E hX hbl hbA hi1 hi2 hcl hw hl kk
      · refine lv_tableIn (tgt := 936) hx hb dL_law_32 (by decide) (by decide) rfl (by decide) ?_
        exact law_append o28 hI E hX hbl hbA hi1 hi2 hcl hw hl kk
      · refine lv_tableIn (tgt := 969) hx hb dL_law_32 (by decide) (by decide) rfl (by decide) ?_
        exact law_drop o29 hI E hX hbl hbA hi1 hcl hw hl kk
      · refine lv_tableIn (tgt := 992) hx hb dL_law_32 (by decide) (by decide) rfl (by decide) ?_
        exact law_count o30 hI E hX hbl hbA hi1 hcl hw hl kk
      · refine lv_tableOut (tgt := 1015) hx hb dL_law_32 (Or.inr (by decide)) (by decide) ?_
        exact kk kps len txt ncl tso tst ten knd nbs pts wrk out mem abv nxt psz nP nW nO nM nA eP eW eO eM eA usd usi cam cM cS cV cB mn um len2 plc srt frm num wrg cm mpt st pst kep isk pil nxs txt2 cls asd opn byy twc szs sos ths hI _ _ hw
