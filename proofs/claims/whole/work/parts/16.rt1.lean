abbrev wRW (cI cZ cN cC : ClassId) (r0 l0 l1 d0 h0 p0 e9 z0 y9 : Nat) (kps : Int32) (len : Int32) (txt : Nat → Int32) : va_W := [(r0, .inr (6, [.ref l0, .ref d0, .ref h0, .ref p0, .ref e9, .int kps, .ref z0, .ref y9])), (l0, .inr (2, [.ref l1, .int len])), (l1, .inl (cI, 200, .inl txt))]
abbrev wRL (cI cZ cN cC : ClassId) (r0 h0 h1 h2 h3 l0 d0 p0 e9 z0 y9 : Nat) (kps : Int32) (pts : Int32) (wrk : Int32) (out : Nat → Int32) (mem : Nat → Int32) (abv : Nat → Int32) : va_W := [(r0, .inr (6, [.ref l0, .ref d0, .ref h0, .ref p0, .ref e9, .int kps, .ref z0, .ref y9])), (h0, .inr (3, [.int pts, .int wrk, .ref h1, .ref h2, .ref h3])), (h1, .inl (cI, 10, .inl out)), (h2, .inl (cI, 10, .inl mem)), (h3, .inl (cI, 100, .inl abv))]
abbrev wRF (cI cZ cN cC : ClassId) (r0 d0 d1 d2 l0 l1 h0 h1 h2 h3 p0 e9 z0 y9 : Nat) (kps : Int32) (ncl : Int32) (tso : Int32) (tst : Int32) (ten : Int32) (knd : Nat → Int32) (nbs : Nat → Int32) (len : Int32) (txt : Nat → Int32) (pts : Int32) (wrk : Int32) (out : Nat → Int32) (mem : Nat → Int32) (abv : Nat → Int32) : va_W := [(r0, .inr (6, [.ref l0, .ref d0, .ref h0, .ref p0, .ref e9, .int kps, .ref z0, .ref y9])), (d0, .inr (5, [.ref l0, .ref d1, .ref d2, .int ncl, .int tso, .int tst, .int ten])), (d1, .inl (cI, 24, .inl knd)), (d2, .inl (cI, 72, .inl nbs)), (l0, .inr (2, [.ref l1, .int len])), (l1, .inl (cI, 200, .inl txt)), (h0, .inr (3, [.int pts, .int wrk, .ref h1, .ref h2, .ref h3])), (h1, .inl (cI, 10, .inl out)), (h2, .inl (cI, 10, .inl mem)), (h3, .inl (cI, 100, .inl abv))]
abbrev wRC (cI cZ cN cC : ClassId) (r0 h0 h1 h2 h3 z0 z1 z2 z3 l0 d0 p0 e9 y9 : Nat) (kps : Int32) (pts : Int32) (wrk : Int32) (out : Nat → Int32) (mem : Nat → Int32) (abv : Nat → Int32) (usd : Nat → Int32) (usi : Nat → Int32) (cam : Nat → Int32) : va_W := [(r0, .inr (6, [.ref l0, .ref d0, .ref h0, .ref p0, .ref e9, .int kps, .ref z0, .ref y9])), (h0, .inr (3, [.int pts, .int wrk, .ref h1, .ref h2, .ref h3])), (h1, .inl (cI, 10, .inl out)), (h2, .inl (cI, 10, .inl mem)), (h3, .inl (cI, 100, .inl abv)), (z0, .inr (1, [.ref z1, .ref z2, .ref z3])), (z1, .inl (cI, 10, .inl usd)), (z2, .inl (cI, 10, .inl usi)), (z3, .inl (cI, 10, .inl cam))]
def f_X6_write (x1 : Int32) (len : Int32) (txt : (Nat → Int32)) : Option (Int32 × Int32 × (Nat → Int32)) :=
  if x1 < 0 then
   some ((-3), len, txt)
  else
   if x1 ≤ 255 then
    if len < 200 then
     if xin len 200 then
     some ((len + 1), (len + 1), (upd txt (Int32.toNatClampNeg len) x1))
     else none
    else
     some ((-5), len, txt)
   else
    some ((-3), len, txt)
set_option maxHeartbeats 4000000 in
set_option maxRecDepth 100000 in
theorem c_X6_write {l : Launch} {D : va_G} {cI cZ cN cC : ClassId} {r0 l0 l1 d0 h0 p0 e9 z0 y9 : Nat} {kps : Int32} {len : Int32} {txt : (Nat → Int32)} {x1 : Int32} {res : Int32 × Int32 × (Nat → Int32)} (hf : f_X6_write x1 len txt = some res) : xMet l D (xtys cI cZ cN cC) yX6_write cX6_write 2 (some .int) 0 0 [.ref r0, .int x1] (wRW cI cZ cN cC r0 l0 l1 d0 h0 p0 e9 z0 y9 kps len txt) (wRW cI cZ cN cC r0 l0 l1 d0 h0 p0 e9 z0 y9 kps res.2.1 res.2.2) (some (.int res.1)) := by
  refine x_enter (by decide) (Nat.le_of_ble_eq_true rfl) ?_
  intro p e s m args below meth c E ls hl hw
  have E : xE p s m args meth c cX6_write 2 (some .int) RX6 D (xtys cI cZ cN cC) (xA (wRW cI cZ cN cC r0 l0 l1 d0 h0 p0 e9 z0 y9 kps len txt)) := E
  obtain ⟨hx, hb, -⟩ := id E
  have hl : lv_has ls 2 [(0, .ref r0), (1, .int x1)] := hl
  unfold f_X6_write at hf
  refine lv_iload_n hx hb dX6_write_0 rfl (lv_at hl 1 rfl) ?_
  refine lv_if_lt (tgt := 11) hx hb dX6_write_1 (by decide) (fun c1 => ?_) (fun c1 => ?_)
  · rw [if_pos c1] at hf
    refine lv_bipush (v := (-3)) hx hb dX6_write_11 (by decide) ?_
    have hf := Option.some.inj hf; subst hf
    exact x_iret E hw dX6_write_13
  · rw [if_neg c1] at hf
    refine lv_iload_n hx hb dX6_write_4 rfl (lv_at hl 1 rfl) ?_
    refine lv_sipush (v := 255) hx hb dX6_write_5 (by decide) ?_
    refine lv_icmp_le (tgt := 14) hx hb dX6_write_8 (by decide) (fun c2 => ?_) (fun c2 => ?_)
    · rw [if_pos c2] at hf
      refine lv_aload_n hx hb dX6_write_14 rfl (lv_at hl 0 rfl) ?_
      refine x_get E hw kin_X6 0 rfl rfl 0 (by decide) kF_X6_10 (v := .ref l0) rfl dX6_write_15 ?_
      refine x_get E hw kin_X2 1 rfl rfl 1 (by decide) kF_X6_61 (v := .int len) rfl dX6_write_18 ?_
      refine lv_sipush (v := 200) hx hb dX6_write_21 (by decide) ?_
      refine lv_icmp_lt (tgt := 30) hx hb dX6_write_24 (by decide) (fun c3 => ?_) (fun c3 => ?_)
      · rw [if_pos c3] at hf
        refine lv_aload_n hx hb dX6_write_30 rfl (lv_at hl 0 rfl) ?_
        refine x_get E hw kin_X6 0 rfl rfl 0 (by decide) kF_X6_10 (v := .ref l0) rfl dX6_write_31 ?_
        refine x_get E hw kin_X2 1 rfl rfl 0 (by decide) kF_X6_64 (v := .ref l1) rfl dX6_write_34 ?_
        refine lv_aload_n hx hb dX6_write_37 rfl (lv_at hl 0 rfl) ?_
        refine x_get E hw kin_X6 0 rfl rfl 0 (by decide) kF_X6_10 (v := .ref l0) rfl dX6_write_38 ?_
        refine x_get E hw kin_X2 1 rfl rfl 1 (by decide) kF_X6_61 (v := .int len) rfl dX6_write_41 ?_
        refine lv_iload_n hx hb dX6_write_44 rfl (lv_at hl 1 rfl) ?_
        obtain ⟨g4, hf⟩ := xgd hf
        refine x_iast (ws' := (wRW cI cZ cN cC r0 l0 l1 d0 h0 p0 e9 z0 y9 kps len (upd txt (Int32.toNatClampNeg len) x1))) E hw 2 0 rfl rfl (xin_vp g4) rfl dX6_write_45 (fun H locs hw => ?_)
        refine lv_aload_n hx hb dX6_write_46 rfl (lv_at hl 0 rfl) ?_
        refine x_get E hw kin_X6 0 rfl rfl 0 (by decide) kF_X6_10 (v := .ref l0) rfl dX6_write_47 ?_
        refine lv_dup hx hb dX6_write_50 rfl ?_
        refine x_get E hw kin_X2 1 rfl rfl 1 (by decide) kF_X6_61 (v := .int len) rfl dX6_write_51 ?_
        refine lv_iconst (v := 1) hx hb dX6_write_54 (by decide) ?_
        refine lv_iadd hx hb dX6_write_55 ?_
        refine x_put (ws' := (wRW cI cZ cN cC r0 l0 l1 d0 h0 p0 e9 z0 y9 kps (len + 1) (upd txt (Int32.toNatClampNeg len) x1))) E hw kin_X2 tyX2 tyX2_ok nmX2 1 rfl rfl 1 (by decide) kF_X6_61 rfl (v := .int (len + 1)) rfl rfl (Nat.le_of_ble_eq_true rfl) rfl dX6_write_56 (fun H locs hw => ?_)
        refine lv_aload_n hx hb dX6_write_59 rfl (lv_at hl 0 rfl) ?_
        refine x_get E hw kin_X6 0 rfl rfl 0 (by decide) kF_X6_10 (v := .ref l0) rfl dX6_write_60 ?_
        refine x_get E hw kin_X2 1 rfl rfl 1 (by decide) kF_X6_61 (v := .int (len + 1)) rfl dX6_write_63 ?_
        have hf := Option.some.inj hf; subst hf
        exact x_iret E hw dX6_write_66
      · rw [if_neg c3] at hf
        refine lv_bipush (v := (-5)) hx hb dX6_write_27 (by decide) ?_
        have hf := Option.some.inj hf; subst hf
        exact x_iret E hw dX6_write_29
    · rw [if_neg c2] at hf
      refine lv_bipush (v := (-3)) hx hb dX6_write_11 (by decide) ?_
      have hf := Option.some.inj hf; subst hf
      exact x_iret E hw dX6_write_13

def f_X6_erase (len : Int32) : (Int32 × Int32) :=
  (len, 0)
set_option maxHeartbeats 4000000 in
set_option maxRecDepth 100000 in
theorem c_X6_erase {l : Launch} {D : va_G} {cI cZ cN cC : ClassId} {r0 l0 l1 d0 h0 p0 e9 z0 y9 : Nat} {kps : Int32} {len : Int32} {txt : (Nat → Int32)}  {res : Int32 × Int32} (hf : f_X6_erase len = res) : xMet l D (xtys cI cZ cN cC) yX6_erase cX6_erase 2 (some .int) 0 0 [.ref r0] (wRW cI cZ cN cC r0 l0 l1 d0 h0 p0 e9 z0 y9 kps len txt) (wRW cI cZ cN cC r0 l0 l1 d0 h0 p0 e9 z0 y9 kps res.2 txt) (some (.int res.1)) := by
  refine x_enter (by decide) (Nat.le_of_ble_eq_true rfl) ?_
  intro p e s m args below meth c E ls hl hw
  have E : xE p s m args meth c cX6_erase 2 (some .int) RX6 D (xtys cI cZ cN cC) (xA (wRW cI cZ cN cC r0 l0 l1 d0 h0 p0 e9 z0 y9 kps len txt)) := E
  obtain ⟨hx, hb, -⟩ := id E
  have hl : lv_has ls 2 [(0, .ref r0)] := hl
  unfold f_X6_erase at hf
  refine lv_aload_n hx hb dX6_erase_0 rfl (lv_at hl 0 rfl) ?_
  refine x_get E hw kin_X6 0 rfl rfl 0 (by decide) kF_X6_10 (v := .ref l0) rfl dX6_erase_1 ?_
  refine x_get E hw kin_X2 1 rfl rfl 1 (by decide) kF_X6_61 (v := .int len) rfl dX6_erase_4 ?_
  refine lv_istore_n (lv' := [(1, .int len), (0, .ref r0)]) hx hb dX6_erase_7 rfl hl (by decide) rfl (fun ls hl => ?_)
  refine lv_aload_n hx hb dX6_erase_8 rfl (lv_at hl 1 rfl) ?_
  refine x_get E hw kin_X6 0 rfl rfl 0 (by decide) kF_X6_10 (v := .ref l0) rfl dX6_erase_9 ?_
  refine lv_iconst (v := 0) hx hb dX6_erase_12 (by decide) ?_
  refine x_put (ws' := (wRW cI cZ cN cC r0 l0 l1 d0 h0 p0 e9 z0 y9 kps 0 txt)) E hw kin_X2 tyX2 tyX2_ok nmX2 1 rfl rfl 1 (by decide) kF_X6_61 rfl (v := .int 0) rfl rfl (Nat.le_of_ble_eq_true rfl) rfl dX6_erase_13 (fun H locs hw => ?_)
  refine lv_iload_n hx hb dX6_erase_16 rfl (lv_at hl 0 rfl) ?_
  subst hf
  exact x_iret E hw dX6_erase_17

def f_X6_isPoint (x1 : Int32) (pts : Int32) : (Int32) :=
  if x1 < 0 then
   0
  else
   if pts ≤ x1 then
    0
   else
    1
set_option maxHeartbeats 4000000 in
set_option maxRecDepth 100000 in
theorem c_X6_isPoint {l : Launch} {D : va_G} {cI cZ cN cC : ClassId} {r0 h0 h1 h2 h3 l0 d0 p0 e9 z0 y9 : Nat} {kps : Int32} {pts : Int32} {wrk : Int32} {out : (Nat → Int32)} {mem : (Nat → Int32)} {abv : (Nat → Int32)} {x1 : Int32} {res : Int32} (hf : f_X6_isPoint x1 pts = res) : xMet l D (xtys cI cZ cN cC) yX6_isPoint cX6_isPoint 2 (some .boolean) 0 0 [.ref r0, .int x1] (wRL cI cZ cN cC r0 h0 h1 h2 h3 l0 d0 p0 e9 z0 y9 kps pts wrk out mem abv) (wRL cI cZ cN cC r0 h0 h1 h2 h3 l0 d0 p0 e9 z0 y9 kps pts wrk out mem abv) (some (.int res)) := by
  refine x_enter (by decide) (Nat.le_of_ble_eq_true rfl) ?_
  intro p e s m args below meth c E ls hl hw
  have E : xE p s m args meth c cX6_isPoint 2 (some .boolean) RX6 D (xtys cI cZ cN cC) (xA (wRL cI cZ cN cC r0 h0 h1 h2 h3 l0 d0 p0 e9 z0 y9 kps pts wrk out mem abv)) := E
  obtain ⟨hx, hb, -⟩ := id E
  have hl : lv_has ls 2 [(0, .ref r0), (1, .int x1)] := hl
  unfold f_X6_isPoint at hf
  refine lv_iload_n hx hb dX6_isPoint_0 rfl (lv_at hl 1 rfl) ?_
  refine lv_if_lt (tgt := 19) hx hb dX6_isPoint_1 (by decide) (fun c1 => ?_) (fun c1 => ?_)
  · rw [if_pos c1] at hf
    refine lv_iconst (v := 0) hx hb dX6_isPoint_19 (by decide) ?_
    subst hf
    exact x_zret E hw (xz_n (v := 0) (by decide)) dX6_isPoint_20
  · rw [if_neg c1] at hf
    refine lv_iload_n hx hb dX6_isPoint_4 rfl (lv_at hl 1 rfl) ?_
    refine lv_aload_n hx hb dX6_isPoint_5 rfl (lv_at hl 0 rfl) ?_
    refine x_get E hw kin_X6 0 rfl rfl 2 (by decide) kF_X6_28 (v := .ref h0) rfl dX6_isPoint_6 ?_
    refine x_get E hw kin_X3 1 rfl rfl 0 (by decide) kF_X6_68 (v := .int pts) rfl dX6_isPoint_9 ?_
    refine lv_icmp_ge (tgt := 19) hx hb dX6_isPoint_12 (by decide) (fun c2 => ?_) (fun c2 => ?_)
    · rw [if_pos c2] at hf
      refine lv_iconst (v := 0) hx hb dX6_isPoint_19 (by decide) ?_
      subst hf
      exact x_zret E hw (xz_n (v := 0) (by decide)) dX6_isPoint_20
    · rw [if_neg c2] at hf
      refine lv_iconst (v := 1) hx hb dX6_isPoint_15 (by decide) ?_
      refine lv_goto (tgt := 20) hx hb dX6_isPoint_16 (by decide) ?_
      subst hf
      exact x_zret E hw (xz_n (v := 1) (by decide)) dX6_isPoint_20
theorem z_X6_isPoint {x1 : Int32} {pts : Int32} : xz (f_X6_isPoint x1 pts) = true := by
  unfold f_X6_isPoint
  first | (repeat' split) <;> first | decide | rfl

def f_X6_arePair (x1 : Int32) (x2 : Int32) (pts : Int32) : (Int32) :=
  if (f_X6_isPoint x1 pts) = 0 then
   0
  else
   if (f_X6_isPoint x2 pts) = 0 then
    0
   else
    if x1 = x2 then
     0
    else
     1
set_option maxHeartbeats 4000000 in
set_option maxRecDepth 100000 in
theorem c_X6_arePair {l : Launch} {D : va_G} {cI cZ cN cC : ClassId} {r0 h0 h1 h2 h3 l0 d0 p0 e9 z0 y9 : Nat} {kps : Int32} {pts : Int32} {wrk : Int32} {out : (Nat → Int32)} {mem : (Nat → Int32)} {abv : (Nat → Int32)} {x1 : Int32} {x2 : Int32} {res : Int32} (hf : f_X6_arePair x1 x2 pts = res) : xMet l D (xtys cI cZ cN cC) yX6_arePair cX6_arePair 3 (some .boolean) 1 21 [.ref r0, .int x1, .int x2] (wRL cI cZ cN cC r0 h0 h1 h2 h3 l0 d0 p0 e9 z0 y9 kps pts wrk out mem abv) (wRL cI cZ cN cC r0 h0 h1 h2 h3 l0 d0 p0 e9 z0 y9 kps pts wrk out mem abv) (some (.int res)) := by
  refine x_enter (by decide) (Nat.le_of_ble_eq_true rfl) ?_
  intro p e s m args below meth c E ls hl hw
  have E : xE p s m args meth c cX6_arePair 3 (some .boolean) RX6 D (xtys cI cZ cN cC) (xA (wRL cI cZ cN cC r0 h0 h1 h2 h3 l0 d0 p0 e9 z0 y9 kps pts wrk out mem abv)) := E
  obtain ⟨hx, hb, -⟩ := id E
  have hl : lv_has ls 3 [(0, .ref r0), (1, .int x1), (2, .int x2)] := hl
  unfold f_X6_arePair at hf
  refine lv_aload_n hx hb dX6_arePair_0 rfl (lv_at hl 0 rfl) ?_
  refine lv_iload_n hx hb dX6_arePair_1 rfl (lv_at hl 1 rfl) ?_
  refine x_callVI (ws' := (wRL cI cZ cN cC r0 h0 h1 h2 h3 l0 d0 p0 e9 z0 y9 kps pts wrk out mem abv)) (st1 := [.int (f_X6_isPoint x1 pts)]) (As := [.int x1]) (rest := []) E hw vc_X6_147 (c_X6_isPoint (cI := cI) (cZ := cZ) (cN := cN) (cC := cC) (r0 := r0) (h0 := h0) (h1 := h1) (h2 := h2) (h3 := h3) (l0 := l0) (d0 := d0) (p0 := p0) (e9 := e9) (z0 := z0) (y9 := y9)  (kps := kps) (pts := pts) (wrk := wrk) (out := out) (mem := mem) (abv := abv) (x1 := x1) rfl) 0 6 rfl rfl rfl rfl rfl ⟨Nat.le_of_ble_eq_true rfl, Nat.le_of_ble_eq_true rfl⟩ ⟨Nat.le_refl _, Nat.le_refl _⟩ hl.1 rfl rfl (Nat.le_of_ble_eq_true rfl) dX6_arePair_2 (fun H locs hw => ?_)
  refine lv_if_eq (tgt := 25) hx hb dX6_arePair_5 (by decide) (fun c1 => ?_) (fun c1 => ?_)
  · rw [if_pos c1] at hf
    refine lv_iconst (v := 0) hx hb dX6_arePair_25 (by decide) ?_
    subst hf
    exact x_zret E hw (xz_n (v := 0) (by decide)) dX6_arePair_26
  · rw [if_neg c1] at hf
    refine lv_aload_n hx hb dX6_arePair_8 rfl (lv_at hl 0 rfl) ?_
    refine lv_iload_n hx hb dX6_arePair_9 rfl (lv_at hl 2 rfl) ?_
    refine x_callVI (ws' := (wRL cI cZ cN cC r0 h0 h1 h2 h3 l0 d0 p0 e9 z0 y9 kps pts wrk out mem abv)) (st1 := [.int (f_X6_isPoint x2 pts)]) (As := [.int x2]) (rest := []) E hw vc_X6_147 (c_X6_isPoint (cI := cI) (cZ := cZ) (cN := cN) (cC := cC) (r0 := r0) (h0 := h0) (h1 := h1) (h2 := h2) (h3 := h3) (l0 := l0) (d0 := d0) (p0 := p0) (e9 := e9) (z0 := z0) (y9 := y9)  (kps := kps) (pts := pts) (wrk := wrk) (out := out) (mem := mem) (abv := abv) (x1 := x2) rfl) 0 6 rfl rfl rfl rfl rfl ⟨Nat.le_of_ble_eq_true rfl, Nat.le_of_ble_eq_true rfl⟩ ⟨Nat.le_refl _, Nat.le_refl _⟩ hl.1 rfl rfl (Nat.le_of_ble_eq_true rfl) dX6_arePair_10 (fun H locs hw => ?_)
    refine lv_if_eq (tgt := 25) hx hb dX6_arePair_13 (by decide) (fun c2 => ?_) (fun c2 => ?_)
    · rw [if_pos c2] at hf
      refine lv_iconst (v := 0) hx hb dX6_arePair_25 (by decide) ?_
      subst hf
      exact x_zret E hw (xz_n (v := 0) (by decide)) dX6_arePair_26
    · rw [if_neg c2] at hf
      refine lv_iload_n hx hb dX6_arePair_16 rfl (lv_at hl 1 rfl) ?_
      refine lv_iload_n hx hb dX6_arePair_17 rfl (lv_at hl 2 rfl) ?_
      refine lv_icmp_eq (tgt := 25) hx hb dX6_arePair_18 (by decide) (fun c3 => ?_) (fun c3 => ?_)
      · rw [if_pos c3] at hf
        refine lv_iconst (v := 0) hx hb dX6_arePair_25 (by decide) ?_
        subst hf
        exact x_zret E hw (xz_n (v := 0) (by decide)) dX6_arePair_26
      · rw [if_neg c3] at hf
        refine lv_iconst (v := 1) hx hb dX6_arePair_21 (by decide) ?_
        refine lv_goto (tgt := 26) hx hb dX6_arePair_22 (by decide) ?_
        subst hf
        exact x_zret E hw (xz_n (v := 1) (by decide)) dX6_arePair_26
theorem z_X6_arePair {x1 : Int32} {x2 : Int32} {pts : Int32} : xz (f_X6_arePair x1 x2 pts) = true := by
  unfold f_X6_arePair
  first | (repeat' split) <;> first | decide | exact z_X6_isPoint | rfl

def f_X6_isArcThere (x1 : Int32) (x2 : Int32) (pts : Int32) (out : (Nat → Int32)) : Option (Int32) :=
  if (f_X6_arePair x1 x2 pts) = 0 then
   some 0
  else
   (f_X3_hasArc x1 x2 out).bind fun q2 =>
   if q2 = 0 then
    some 0
   else
    some 1
set_option maxHeartbeats 4000000 in
set_option maxRecDepth 100000 in
theorem c_X6_isArcThere {l : Launch} {D : va_G} {cI cZ cN cC : ClassId} {r0 h0 h1 h2 h3 l0 d0 p0 e9 z0 y9 : Nat} {kps : Int32} {pts : Int32} {wrk : Int32} {out : (Nat → Int32)} {mem : (Nat → Int32)} {abv : (Nat → Int32)} {x1 : Int32} {x2 : Int32} {res : Int32} (hf : f_X6_isArcThere x1 x2 pts out = some res) : xMet l D (xtys cI cZ cN cC) yX6_isArcThere cX6_isArcThere 3 (some .boolean) 2 43 [.ref r0, .int x1, .int x2] (wRL cI cZ cN cC r0 h0 h1 h2 h3 l0 d0 p0 e9 z0 y9 kps pts wrk out mem abv) (wRL cI cZ cN cC r0 h0 h1 h2 h3 l0 d0 p0 e9 z0 y9 kps pts wrk out mem abv) (some (.int res)) := by
  refine x_enter (by decide) (Nat.le_of_ble_eq_true rfl) ?_
  intro p e s m args below meth c E ls hl hw
  have E : xE p s m args meth c cX6_isArcThere 3 (some .boolean) RX6 D (xtys cI cZ cN cC) (xA (wRL cI cZ cN cC r0 h0 h1 h2 h3 l0 d0 p0 e9 z0 y9 kps pts wrk out mem abv)) := E
  obtain ⟨hx, hb, -⟩ := id E
  have hl : lv_has ls 3 [(0, .ref r0), (1, .int x1), (2, .int x2)] := hl
  unfold f_X6_isArcThere at hf
  refine lv_aload_n hx hb dX6_isArcThere_0 rfl (lv_at hl 0 rfl) ?_
  refine lv_iload_n hx hb dX6_isArcThere_1 rfl (lv_at hl 1 rfl) ?_
  refine lv_iload_n hx hb dX6_isArcThere_2 rfl (lv_at hl 2 rfl) ?_
  refine x_callVI (ws' := (wRL cI cZ cN cC r0 h0 h1 h2 h3 l0 d0 p0 e9 z0 y9 kps pts wrk out mem abv)) (st1 := [.int (f_X6_arePair x1 x2 pts)]) (As := [.int x1, .int x2]) (rest := []) E hw vc_X6_113 (c_X6_arePair (cI := cI) (cZ := cZ) (cN := cN) (cC := cC) (r0 := r0) (h0 := h0) (h1 := h1) (h2 := h2) (h3 := h3) (l0 := l0) (d0 := d0) (p0 := p0) (e9 := e9) (z0 := z0) (y9 := y9)  (kps := kps) (pts := pts) (wrk := wrk) (out := out) (mem := mem) (abv := abv) (x1 := x1) (x2 := x2) rfl) 0 6 rfl rfl rfl rfl rfl ⟨Nat.le_of_ble_eq_true rfl, Nat.le_of_ble_eq_true rfl⟩ ⟨Nat.le_refl _, Nat.le_refl _⟩ hl.1 rfl rfl (Nat.le_of_ble_eq_true rfl) dX6_isArcThere_3 (fun H locs hw => ?_)
  refine lv_if_eq (tgt := 25) hx hb dX6_isArcThere_6 (by decide) (fun c1 => ?_) (fun c1 => ?_)
  · rw [if_pos c1] at hf
    refine lv_iconst (v := 0) hx hb dX6_isArcThere_25 (by decide) ?_
    have hf := Option.some.inj hf; subst hf
    exact x_zret E hw (xz_n (v := 0) (by decide)) dX6_isArcThere_26
  · rw [if_neg c1] at hf
    refine lv_aload_n hx hb dX6_isArcThere_9 rfl (lv_at hl 0 rfl) ?_
    refine x_get E hw kin_X6 0 rfl rfl 2 (by decide) kF_X6_28 (v := .ref h0) rfl dX6_isArcThere_10 ?_
    refine lv_iload_n hx hb dX6_isArcThere_13 rfl (lv_at hl 1 rfl) ?_
    refine lv_iload_n hx hb dX6_isArcThere_14 rfl (lv_at hl 2 rfl) ?_
    obtain ⟨q2, hq2, hf⟩ := Option.bind_eq_some_iff.mp hf
    refine x_callV (isC := [1, 2, 3, 4]) (ws' := (wRL cI cZ cN cC r0 h0 h1 h2 h3 l0 d0 p0 e9 z0 y9 kps pts wrk out mem abv)) (st1 := [.int q2]) (As := [.int x1, .int x2]) (rest := []) E hw vc_X6_102 (c_X3_hasArc (cI := cI) (cZ := cZ) (cN := cN) (cC := cC) (h0 := h0) (h1 := h1) (h2 := h2) (h3 := h3)  (pts := pts) (wrk := wrk) (out := out) (mem := mem) (abv := abv) (x1 := x1) (x2 := x2) hq2) 1 3 rfl rfl rfl rfl rfl rfl rfl rfl rfl ⟨Nat.le_of_ble_eq_true rfl, Nat.le_of_ble_eq_true rfl⟩ ⟨Nat.le_refl _, Nat.le_refl _⟩ hl.1 rfl rfl (Nat.le_of_ble_eq_true rfl) dX6_isArcThere_15 (fun H locs hw => ?_)
    refine lv_if_eq (tgt := 25) hx hb dX6_isArcThere_18 (by decide) (fun c3 => ?_) (fun c3 => ?_)
    · rw [if_pos c3] at hf
      refine lv_iconst (v := 0) hx hb dX6_isArcThere_25 (by decide) ?_
      have hf := Option.some.inj hf; subst hf
      exact x_zret E hw (xz_n (v := 0) (by decide)) dX6_isArcThere_26
    · rw [if_neg c3] at hf
      refine lv_iconst (v := 1) hx hb dX6_isArcThere_21 (by decide) ?_
      refine lv_goto (tgt := 26) hx hb dX6_isArcThere_22 (by decide) ?_
      have hf := Option.some.inj hf; subst hf
      exact x_zret E hw (xz_n (v := 1) (by decide)) dX6_isArcThere_26

def f_X6_isTellable (x1 : Int32) (pts : Int32) : (Int32) :=
  if x1 < 0 then
   0
  else
   if (f_X6_arePair (x1 / 10) (x1 - (x1 / 10) * 10) pts) = 0 then
    0
   else
    1
set_option maxHeartbeats 4000000 in
set_option maxRecDepth 100000 in
theorem c_X6_isTellable {l : Launch} {D : va_G} {cI cZ cN cC : ClassId} {r0 h0 h1 h2 h3 l0 d0 p0 e9 z0 y9 : Nat} {kps : Int32} {pts : Int32} {wrk : Int32} {out : (Nat → Int32)} {mem : (Nat → Int32)} {abv : (Nat → Int32)} {x1 : Int32} {res : Int32} (hf : f_X6_isTellable x1 pts = res) : xMet l D (xtys cI cZ cN cC) yX6_isTellable cX6_isTellable 2 (some .boolean) 2 43 [.ref r0, .int x1] (wRL cI cZ cN cC r0 h0 h1 h2 h3 l0 d0 p0 e9 z0 y9 kps pts wrk out mem abv) (wRL cI cZ cN cC r0 h0 h1 h2 h3 l0 d0 p0 e9 z0 y9 kps pts wrk out mem abv) (some (.int res)) := by
  refine x_enter (by decide) (Nat.le_of_ble_eq_true rfl) ?_
  intro p e s m args below meth c E ls hl hw
  have E : xE p s m args meth c cX6_isTellable 2 (some .boolean) RX6 D (xtys cI cZ cN cC) (xA (wRL cI cZ cN cC r0 h0 h1 h2 h3 l0 d0 p0 e9 z0 y9 kps pts wrk out mem abv)) := E
  obtain ⟨hx, hb, -⟩ := id E
  have hl : lv_has ls 2 [(0, .ref r0), (1, .int x1)] := hl
  unfold f_X6_isTellable at hf
  refine lv_iload_n hx hb dX6_isTellable_0 rfl (lv_at hl 1 rfl) ?_
  refine lv_if_lt (tgt := 23) hx hb dX6_isTellable_1 (by decide) (fun c1 => ?_) (fun c1 => ?_)
  · rw [if_pos c1] at hf
    refine lv_iconst (v := 0) hx hb dX6_isTellable_23 (by decide) ?_
    subst hf
    exact x_zret E hw (xz_n (v := 0) (by decide)) dX6_isTellable_24
  · rw [if_neg c1] at hf
    refine lv_aload_n hx hb dX6_isTellable_4 rfl (lv_at hl 0 rfl) ?_
    refine lv_iload_n hx hb dX6_isTellable_5 rfl (lv_at hl 1 rfl) ?_
    refine lv_bipush (v := 10) hx hb dX6_isTellable_6 (by decide) ?_
    refine lv_idiv hx hb dX6_isTellable_8 (by decide) ?_
    refine lv_iload_n hx hb dX6_isTellable_9 rfl (lv_at hl 1 rfl) ?_
    refine lv_bipush (v := 10) hx hb dX6_isTellable_10 (by decide) ?_
    refine lv_irem hx hb dX6_isTellable_12 (by decide) ?_
    refine x_callVI (ws' := (wRL cI cZ cN cC r0 h0 h1 h2 h3 l0 d0 p0 e9 z0 y9 kps pts wrk out mem abv)) (st1 := [.int (f_X6_arePair (x1 / 10) (x1 - (x1 / 10) * 10) pts)]) (As := [.int (x1 / 10), .int (x1 - (x1 / 10) * 10)]) (rest := []) E hw vc_X6_113 (c_X6_arePair (cI := cI) (cZ := cZ) (cN := cN) (cC := cC) (r0 := r0) (h0 := h0) (h1 := h1) (h2 := h2) (h3 := h3) (l0 := l0) (d0 := d0) (p0 := p0) (e9 := e9) (z0 := z0) (y9 := y9)  (kps := kps) (pts := pts) (wrk := wrk) (out := out) (mem := mem) (abv := abv) (x1 := (x1 / 10)) (x2 := (x1 - (x1 / 10) * 10)) rfl) 0 6 rfl rfl rfl rfl rfl ⟨Nat.le_of_ble_eq_true rfl, Nat.le_of_ble_eq_true rfl⟩ ⟨Nat.le_refl _, Nat.le_refl _⟩ hl.1 rfl rfl (Nat.le_of_ble_eq_true rfl) dX6_isTellable_13 (fun H locs hw => ?_)
    refine lv_if_eq (tgt := 23) hx hb dX6_isTellable_16 (by decide) (fun c2 => ?_) (fun c2 => ?_)
    · rw [if_pos c2] at hf
      refine lv_iconst (v := 0) hx hb dX6_isTellable_23 (by decide) ?_
      subst hf
      exact x_zret E hw (xz_n (v := 0) (by decide)) dX6_isTellable_24
    · rw [if_neg c2] at hf
      refine lv_iconst (v := 1) hx hb dX6_isTellable_19 (by decide) ?_
      refine lv_goto (tgt := 24) hx hb dX6_isTellable_20 (by decide) ?_
      subst hf
      exact x_zret E hw (xz_n (v := 1) (by decide)) dX6_isTellable_24
theorem z_X6_isTellable {x1 : Int32} {pts : Int32} : xz (f_X6_isTellable x1 pts) = true := by
  unfold f_X6_isTellable
  first | (repeat' split) <;> first | decide | exact z_X6_arePair | rfl

def f_X6_arc (x1 : Int32) (x2 : Int32) (pts : Int32) (out : (Nat → Int32)) : Option (Int32) :=
  if (f_X6_arePair x1 x2 pts) = 0 then
   some (-2)
  else
   (f_X3_hasArc x1 x2 out).bind fun q2 =>
   if q2 = 0 then
    some 0
   else
    some 1
set_option maxHeartbeats 4000000 in
set_option maxRecDepth 100000 in
theorem c_X6_arc {l : Launch} {D : va_G} {cI cZ cN cC : ClassId} {r0 h0 h1 h2 h3 l0 d0 p0 e9 z0 y9 : Nat} {kps : Int32} {pts : Int32} {wrk : Int32} {out : (Nat → Int32)} {mem : (Nat → Int32)} {abv : (Nat → Int32)} {x1 : Int32} {x2 : Int32} {res : Int32} (hf : f_X6_arc x1 x2 pts out = some res) : xMet l D (xtys cI cZ cN cC) yX6_arc cX6_arc 3 (some .int) 2 43 [.ref r0, .int x1, .int x2] (wRL cI cZ cN cC r0 h0 h1 h2 h3 l0 d0 p0 e9 z0 y9 kps pts wrk out mem abv) (wRL cI cZ cN cC r0 h0 h1 h2 h3 l0 d0 p0 e9 z0 y9 kps pts wrk out mem abv) (some (.int res)) := by
  refine x_enter (by decide) (Nat.le_of_ble_eq_true rfl) ?_
  intro p e s m args below meth c E ls hl hw
  have E : xE p s m args meth c cX6_arc 3 (some .int) RX6 D (xtys cI cZ cN cC) (xA (wRL cI cZ cN cC r0 h0 h1 h2 h3 l0 d0 p0 e9 z0 y9 kps pts wrk out mem abv)) := E
  obtain ⟨hx, hb, -⟩ := id E
  have hl : lv_has ls 3 [(0, .ref r0), (1, .int x1), (2, .int x2)] := hl
  unfold f_X6_arc at hf
  refine lv_aload_n hx hb dX6_arc_0 rfl (lv_at hl 0 rfl) ?_
  refine lv_iload_n hx hb dX6_arc_1 rfl (lv_at hl 1 rfl) ?_
  refine lv_iload_n hx hb dX6_arc_2 rfl (lv_at hl 2 rfl) ?_
  refine x_callVI (ws' := (wRL cI cZ cN cC r0 h0 h1 h2 h3 l0 d0 p0 e9 z0 y9 kps pts wrk out mem abv)) (st1 := [.int (f_X6_arePair x1 x2 pts)]) (As := [.int x1, .int x2]) (rest := []) E hw vc_X6_113 (c_X6_arePair (cI := cI) (cZ := cZ) (cN := cN) (cC := cC) (r0 := r0) (h0 := h0) (h1 := h1) (h2 := h2) (h3 := h3) (l0 := l0) (d0 := d0) (p0 := p0) (e9 := e9) (z0 := z0) (y9 := y9)  (kps := kps) (pts := pts) (wrk := wrk) (out := out) (mem := mem) (abv := abv) (x1 := x1) (x2 := x2) rfl) 0 6 rfl rfl rfl rfl rfl ⟨Nat.le_of_ble_eq_true rfl, Nat.le_of_ble_eq_true rfl⟩ ⟨Nat.le_refl _, Nat.le_refl _⟩ hl.1 rfl rfl (Nat.le_of_ble_eq_true rfl) dX6_arc_3 (fun H locs hw => ?_)
  refine lv_if_ne (tgt := 12) hx hb dX6_arc_6 (by decide) (fun c1 => ?_) (fun c1 => ?_)
  · rw [if_neg c1] at hf
    refine lv_aload_n hx hb dX6_arc_12 rfl (lv_at hl 0 rfl) ?_
    refine x_get E hw kin_X6 0 rfl rfl 2 (by decide) kF_X6_28 (v := .ref h0) rfl dX6_arc_13 ?_
    refine lv_iload_n hx hb dX6_arc_16 rfl (lv_at hl 1 rfl) ?_
    refine lv_iload_n hx hb dX6_arc_17 rfl (lv_at hl 2 rfl) ?_
    obtain ⟨q2, hq2, hf⟩ := Option.bind_eq_some_iff.mp hf
    refine x_callV (isC := [1, 2, 3, 4]) (ws' := (wRL cI cZ cN cC r0 h0 h1 h2 h3 l0 d0 p0 e9 z0 y9 kps pts wrk out mem abv)) (st1 := [.int q2]) (As := [.int x1, .int x2]) (rest := []) E hw vc_X6_102 (c_X3_hasArc (cI := cI) (cZ := cZ) (cN := cN) (cC := cC) (h0 := h0) (h1 := h1) (h2 := h2) (h3 := h3)  (pts := pts) (wrk := wrk) (out := out) (mem := mem) (abv := abv) (x1 := x1) (x2 := x2) hq2) 1 3 rfl rfl rfl rfl rfl rfl rfl rfl rfl ⟨Nat.le_of_ble_eq_true rfl, Nat.le_of_ble_eq_true rfl⟩ ⟨Nat.le_refl _, Nat.le_refl _⟩ hl.1 rfl rfl (Nat.le_of_ble_eq_true rfl) dX6_arc_18 (fun H locs hw => ?_)
    refine lv_if_eq (tgt := 28) hx hb dX6_arc_21 (by decide) (fun c3 => ?_) (fun c3 => ?_)
    · rw [if_pos c3] at hf
      refine lv_iconst (v := 0) hx hb dX6_arc_28 (by decide) ?_
      have hf := Option.some.inj hf; subst hf
      exact x_iret E hw dX6_arc_29
    · rw [if_neg c3] at hf
      refine lv_iconst (v := 1) hx hb dX6_arc_24 (by decide) ?_
      refine lv_goto (tgt := 29) hx hb dX6_arc_25 (by decide) ?_
      have hf := Option.some.inj hf; subst hf
      exact x_iret E hw dX6_arc_29
  · rw [if_pos c1] at hf
    refine lv_bipush (v := (-2)) hx hb dX6_arc_9 (by decide) ?_
    have hf := Option.some.inj hf; subst hf
    exact x_iret E hw dX6_arc_11

def f_X6_reaches (x1 : Int32) (x2 : Int32) (pts : Int32) (mem : (Nat → Int32)) : Option (Int32) :=
  if (f_X6_isPoint x1 pts) = 0 then
   some (-2)
  else
   if (f_X6_isPoint x2 pts) = 0 then
    some (-2)
   else
    (f_X3_comesTo x1 x2 mem).bind fun q3 =>
    if q3 = 0 then
     some 0
    else
     some 1
set_option maxHeartbeats 4000000 in
set_option maxRecDepth 100000 in
theorem c_X6_reaches {l : Launch} {D : va_G} {cI cZ cN cC : ClassId} {r0 h0 h1 h2 h3 l0 d0 p0 e9 z0 y9 : Nat} {kps : Int32} {pts : Int32} {wrk : Int32} {out : (Nat → Int32)} {mem : (Nat → Int32)} {abv : (Nat → Int32)} {x1 : Int32} {x2 : Int32} {res : Int32} (hf : f_X6_reaches x1 x2 pts mem = some res) : xMet l D (xtys cI cZ cN cC) yX6_reaches cX6_reaches 3 (some .int) 2 43 [.ref r0, .int x1, .int x2] (wRL cI cZ cN cC r0 h0 h1 h2 h3 l0 d0 p0 e9 z0 y9 kps pts wrk out mem abv) (wRL cI cZ cN cC r0 h0 h1 h2 h3 l0 d0 p0 e9 z0 y9 kps pts wrk out mem abv) (some (.int res)) := by
  refine x_enter (by decide) (Nat.le_of_ble_eq_true rfl) ?_
  intro p e s m args below meth c E ls hl hw
  have E : xE p s m args meth c cX6_reaches 3 (some .int) RX6 D (xtys cI cZ cN cC) (xA (wRL cI cZ cN cC r0 h0 h1 h2 h3 l0 d0 p0 e9 z0 y9 kps pts wrk out mem abv)) := E
  obtain ⟨hx, hb, -⟩ := id E
  have hl : lv_has ls 3 [(0, .ref r0), (1, .int x1), (2, .int x2)] := hl
  unfold f_X6_reaches at hf
  refine lv_aload_n hx hb dX6_reaches_0 rfl (lv_at hl 0 rfl) ?_
  refine lv_iload_n hx hb dX6_reaches_1 rfl (lv_at hl 1 rfl) ?_
  refine x_callVI (ws' := (wRL cI cZ cN cC r0 h0 h1 h2 h3 l0 d0 p0 e9 z0 y9 kps pts wrk out mem abv)) (st1 := [.int (f_X6_isPoint x1 pts)]) (As := [.int x1]) (rest := []) E hw vc_X6_147 (c_X6_isPoint (cI := cI) (cZ := cZ) (cN := cN) (cC := cC) (r0 := r0) (h0 := h0) (h1 := h1) (h2 := h2) (h3 := h3) (l0 := l0) (d0 := d0) (p0 := p0) (e9 := e9) (z0 := z0) (y9 := y9)  (kps := kps) (pts := pts) (wrk := wrk) (out := out) (mem := mem) (abv := abv) (x1 := x1) rfl) 0 6 rfl rfl rfl rfl rfl ⟨Nat.le_of_ble_eq_true rfl, Nat.le_of_ble_eq_true rfl⟩ ⟨Nat.le_refl _, Nat.le_refl _⟩ hl.1 rfl rfl (Nat.le_of_ble_eq_true rfl) dX6_reaches_2 (fun H locs hw => ?_)
  refine lv_if_eq (tgt := 16) hx hb dX6_reaches_5 (by decide) (fun c1 => ?_) (fun c1 => ?_)
  · rw [if_pos c1] at hf
    refine lv_bipush (v := (-2)) hx hb dX6_reaches_16 (by decide) ?_
    have hf := Option.some.inj hf; subst hf
    exact x_iret E hw dX6_reaches_18
  · rw [if_neg c1] at hf
    refine lv_aload_n hx hb dX6_reaches_8 rfl (lv_at hl 0 rfl) ?_
    refine lv_iload_n hx hb dX6_reaches_9 rfl (lv_at hl 2 rfl) ?_
    refine x_callVI (ws' := (wRL cI cZ cN cC r0 h0 h1 h2 h3 l0 d0 p0 e9 z0 y9 kps pts wrk out mem abv)) (st1 := [.int (f_X6_isPoint x2 pts)]) (As := [.int x2]) (rest := []) E hw vc_X6_147 (c_X6_isPoint (cI := cI) (cZ := cZ) (cN := cN) (cC := cC) (r0 := r0) (h0 := h0) (h1 := h1) (h2 := h2) (h3 := h3) (l0 := l0) (d0 := d0) (p0 := p0) (e9 := e9) (z0 := z0) (y9 := y9)  (kps := kps) (pts := pts) (wrk := wrk) (out := out) (mem := mem) (abv := abv) (x1 := x2) rfl) 0 6 rfl rfl rfl rfl rfl ⟨Nat.le_of_ble_eq_true rfl, Nat.le_of_ble_eq_true rfl⟩ ⟨Nat.le_refl _, Nat.le_refl _⟩ hl.1 rfl rfl (Nat.le_of_ble_eq_true rfl) dX6_reaches_10 (fun H locs hw => ?_)
    refine lv_if_ne (tgt := 19) hx hb dX6_reaches_13 (by decide) (fun c2 => ?_) (fun c2 => ?_)
    · rw [if_neg c2] at hf
      refine lv_aload_n hx hb dX6_reaches_19 rfl (lv_at hl 0 rfl) ?_
      refine x_get E hw kin_X6 0 rfl rfl 2 (by decide) kF_X6_28 (v := .ref h0) rfl dX6_reaches_20 ?_
      refine lv_iload_n hx hb dX6_reaches_23 rfl (lv_at hl 1 rfl) ?_
      refine lv_iload_n hx hb dX6_reaches_24 rfl (lv_at hl 2 rfl) ?_
      obtain ⟨q3, hq3, hf⟩ := Option.bind_eq_some_iff.mp hf
      refine x_callV (isC := [1, 2, 3, 4]) (ws' := (wRL cI cZ cN cC r0 h0 h1 h2 h3 l0 d0 p0 e9 z0 y9 kps pts wrk out mem abv)) (st1 := [.int q3]) (As := [.int x1, .int x2]) (rest := []) E hw vc_X6_151 (c_X3_comesTo (cI := cI) (cZ := cZ) (cN := cN) (cC := cC) (h0 := h0) (h1 := h1) (h2 := h2) (h3 := h3)  (pts := pts) (wrk := wrk) (out := out) (mem := mem) (abv := abv) (x1 := x1) (x2 := x2) hq3) 1 3 rfl rfl rfl rfl rfl rfl rfl rfl rfl ⟨Nat.le_of_ble_eq_true rfl, Nat.le_of_ble_eq_true rfl⟩ ⟨Nat.le_refl _, Nat.le_refl _⟩ hl.1 rfl rfl (Nat.le_of_ble_eq_true rfl) dX6_reaches_25 (fun H locs hw => ?_)
      refine lv_if_eq (tgt := 35) hx hb dX6_reaches_28 (by decide) (fun c4 => ?_) (fun c4 => ?_)
      · rw [if_pos c4] at hf
        refine lv_iconst (v := 0) hx hb dX6_reaches_35 (by decide) ?_
        have hf := Option.some.inj hf; subst hf
        exact x_iret E hw dX6_reaches_36
      · rw [if_neg c4] at hf
        refine lv_iconst (v := 1) hx hb dX6_reaches_31 (by decide) ?_
        refine lv_goto (tgt := 36) hx hb dX6_reaches_32 (by decide) ?_
        have hf := Option.some.inj hf; subst hf
        exact x_iret E hw dX6_reaches_36
    · rw [if_pos c2] at hf
      refine lv_bipush (v := (-2)) hx hb dX6_reaches_16 (by decide) ?_
      have hf := Option.some.inj hf; subst hf
      exact x_iret E hw dX6_reaches_18

def f_X6_above (x1 : Int32) (x2 : Int32) (pts : Int32) (abv : (Nat → Int32)) : Option (Int32) :=
  if (f_X6_isPoint x1 pts) = 0 then
   some (-2)
  else
   if (f_X6_isPoint x2 pts) = 0 then
    some (-2)
   else
    (f_X3_aboveOf x1 x2 abv).bind fun q3 =>
    some q3
set_option maxHeartbeats 4000000 in
set_option maxRecDepth 100000 in
theorem c_X6_above {l : Launch} {D : va_G} {cI cZ cN cC : ClassId} {r0 h0 h1 h2 h3 l0 d0 p0 e9 z0 y9 : Nat} {kps : Int32} {pts : Int32} {wrk : Int32} {out : (Nat → Int32)} {mem : (Nat → Int32)} {abv : (Nat → Int32)} {x1 : Int32} {x2 : Int32} {res : Int32} (hf : f_X6_above x1 x2 pts abv = some res) : xMet l D (xtys cI cZ cN cC) yX6_above cX6_above 3 (some .int) 1 22 [.ref r0, .int x1, .int x2] (wRL cI cZ cN cC r0 h0 h1 h2 h3 l0 d0 p0 e9 z0 y9 kps pts wrk out mem abv) (wRL cI cZ cN cC r0 h0 h1 h2 h3 l0 d0 p0 e9 z0 y9 kps pts wrk out mem abv) (some (.int res)) := by
  refine x_enter (by decide) (Nat.le_of_ble_eq_true rfl) ?_
  intro p e s m args below meth c E ls hl hw
  have E : xE p s m args meth c cX6_above 3 (some .int) RX6 D (xtys cI cZ cN cC) (xA (wRL cI cZ cN cC r0 h0 h1 h2 h3 l0 d0 p0 e9 z0 y9 kps pts wrk out mem abv)) := E
  obtain ⟨hx, hb, -⟩ := id E
  have hl : lv_has ls 3 [(0, .ref r0), (1, .int x1), (2, .int x2)] := hl
  unfold f_X6_above at hf
  refine lv_aload_n hx hb dX6_above_0 rfl (lv_at hl 0 rfl) ?_
  refine lv_iload_n hx hb dX6_above_1 rfl (lv_at hl 1 rfl) ?_
  refine x_callVI (ws' := (wRL cI cZ cN cC r0 h0 h1 h2 h3 l0 d0 p0 e9 z0 y9 kps pts wrk out mem abv)) (st1 := [.int (f_X6_isPoint x1 pts)]) (As := [.int x1]) (rest := []) E hw vc_X6_147 (c_X6_isPoint (cI := cI) (cZ := cZ) (cN := cN) (cC := cC) (r0 := r0) (h0 := h0) (h1 := h1) (h2 := h2) (h3 := h3) (l0 := l0) (d0 := d0) (p0 := p0) (e9 := e9) (z0 := z0) (y9 := y9)  (kps := kps) (pts := pts) (wrk := wrk) (out := out) (mem := mem) (abv := abv) (x1 := x1) rfl) 0 6 rfl rfl rfl rfl rfl ⟨Nat.le_of_ble_eq_true rfl, Nat.le_of_ble_eq_true rfl⟩ ⟨Nat.le_refl _, Nat.le_refl _⟩ hl.1 rfl rfl (Nat.le_of_ble_eq_true rfl) dX6_above_2 (fun H locs hw => ?_)
  refine lv_if_eq (tgt := 16) hx hb dX6_above_5 (by decide) (fun c1 => ?_) (fun c1 => ?_)
  · rw [if_pos c1] at hf
    refine lv_bipush (v := (-2)) hx hb dX6_above_16 (by decide) ?_
    have hf := Option.some.inj hf; subst hf
    exact x_iret E hw dX6_above_18
  · rw [if_neg c1] at hf
    refine lv_aload_n hx hb dX6_above_8 rfl (lv_at hl 0 rfl) ?_
    refine lv_iload_n hx hb dX6_above_9 rfl (lv_at hl 2 rfl) ?_
    refine x_callVI (ws' := (wRL cI cZ cN cC r0 h0 h1 h2 h3 l0 d0 p0 e9 z0 y9 kps pts wrk out mem abv)) (st1 := [.int (f_X6_isPoint x2 pts)]) (As := [.int x2]) (rest := []) E hw vc_X6_147 (c_X6_isPoint (cI := cI) (cZ := cZ) (cN := cN) (cC := cC) (r0 := r0) (h0 := h0) (h1 := h1) (h2 := h2) (h3 := h3) (l0 := l0) (d0 := d0) (p0 := p0) (e9 := e9) (z0 := z0) (y9 := y9)  (kps := kps) (pts := pts) (wrk := wrk) (out := out) (mem := mem) (abv := abv) (x1 := x2) rfl) 0 6 rfl rfl rfl rfl rfl ⟨Nat.le_of_ble_eq_true rfl, Nat.le_of_ble_eq_true rfl⟩ ⟨Nat.le_refl _, Nat.le_refl _⟩ hl.1 rfl rfl (Nat.le_of_ble_eq_true rfl) dX6_above_10 (fun H locs hw => ?_)
    refine lv_if_ne (tgt := 19) hx hb dX6_above_13 (by decide) (fun c2 => ?_) (fun c2 => ?_)
    · rw [if_neg c2] at hf
      refine lv_aload_n hx hb dX6_above_19 rfl (lv_at hl 0 rfl) ?_
      refine x_get E hw kin_X6 0 rfl rfl 2 (by decide) kF_X6_28 (v := .ref h0) rfl dX6_above_20 ?_
      refine lv_iload_n hx hb dX6_above_23 rfl (lv_at hl 1 rfl) ?_
      refine lv_iload_n hx hb dX6_above_24 rfl (lv_at hl 2 rfl) ?_
      obtain ⟨q3, hq3, hf⟩ := Option.bind_eq_some_iff.mp hf
      refine x_callV (isC := [1, 2, 3, 4]) (ws' := (wRL cI cZ cN cC r0 h0 h1 h2 h3 l0 d0 p0 e9 z0 y9 kps pts wrk out mem abv)) (st1 := [.int q3]) (As := [.int x1, .int x2]) (rest := []) E hw vc_X6_154 (c_X3_aboveOf (cI := cI) (cZ := cZ) (cN := cN) (cC := cC) (h0 := h0) (h1 := h1) (h2 := h2) (h3 := h3)  (pts := pts) (wrk := wrk) (out := out) (mem := mem) (abv := abv) (x1 := x1) (x2 := x2) hq3) 1 3 rfl rfl rfl rfl rfl rfl rfl rfl rfl ⟨Nat.le_of_ble_eq_true rfl, Nat.le_of_ble_eq_true rfl⟩ ⟨Nat.le_refl _, Nat.le_refl _⟩ hl.1 rfl rfl (Nat.le_of_ble_eq_true rfl) dX6_above_25 (fun H locs hw => ?_)
      have hf := Option.some.inj hf; subst hf
      exact x_iret E hw dX6_above_28
    · rw [if_pos c2] at hf
      refine lv_bipush (v := (-2)) hx hb dX6_above_16 (by decide) ?_
      have hf := Option.some.inj hf; subst hf
      exact x_iret E hw dX6_above_18

def f_X6_way (N : Nat) (x1 : Int32) (x2 : Int32) (x3 : Int32) (pts : Int32) (mem : (Nat → Int32)) (abv : (Nat → Int32)) : Option (Int32) :=
  if (f_X6_isPoint x1 pts) = 0 then
   some (-2)
  else
   if (f_X6_isPoint x2 pts) = 0 then
    some (-2)
   else
    if 0 ≤ x3 then
     (f_X3_comesTo x1 x2 mem).bind fun q4 =>
     if q4 = 0 then
      some (-1)
     else
      (f_X3_depthOf N x1 x2 abv).bind fun q6 =>
      if x3 ≤ q6 then
       (f_X3_climb N x1 x2 (q6 - x3) abv).bind fun q8 =>
       some q8
      else
       some (-1)
    else
     some (-3)
set_option maxHeartbeats 4000000 in
set_option maxRecDepth 100000 in
theorem c_X6_way {l : Launch} {D : va_G} {cI cZ cN cC : ClassId} {r0 h0 h1 h2 h3 l0 d0 p0 e9 z0 y9 : Nat} {kps : Int32} {pts : Int32} {wrk : Int32} {out : (Nat → Int32)} {mem : (Nat → Int32)} {abv : (Nat → Int32)} {x1 : Int32} {x2 : Int32} {x3 : Int32} {N : Nat} {res : Int32} (hf : f_X6_way N x1 x2 x3 pts mem abv = some res) : xMet l D (xtys cI cZ cN cC) yX6_way cX6_way 5 (some .int) 2 47 [.ref r0, .int x1, .int x2, .int x3] (wRL cI cZ cN cC r0 h0 h1 h2 h3 l0 d0 p0 e9 z0 y9 kps pts wrk out mem abv) (wRL cI cZ cN cC r0 h0 h1 h2 h3 l0 d0 p0 e9 z0 y9 kps pts wrk out mem abv) (some (.int res)) := by
  refine x_enter (by decide) (Nat.le_of_ble_eq_true rfl) ?_
  intro p e s m args below meth c E ls hl hw
  have E : xE p s m args meth c cX6_way 5 (some .int) RX6 D (xtys cI cZ cN cC) (xA (wRL cI cZ cN cC r0 h0 h1 h2 h3 l0 d0 p0 e9 z0 y9 kps pts wrk out mem abv)) := E
  obtain ⟨hx, hb, -⟩ := id E
  have hl : lv_has ls 5 [(0, .ref r0), (1, .int x1), (2, .int x2), (3, .int x3)] := hl
  unfold f_X6_way at hf
  refine lv_aload_n hx hb dX6_way_0 rfl (lv_at hl 0 rfl) ?_
  refine lv_iload_n hx hb dX6_way_1 rfl (lv_at hl 1 rfl) ?_
  refine x_callVI (ws' := (wRL cI cZ cN cC r0 h0 h1 h2 h3 l0 d0 p0 e9 z0 y9 kps pts wrk out mem abv)) (st1 := [.int (f_X6_isPoint x1 pts)]) (As := [.int x1]) (rest := []) E hw vc_X6_147 (c_X6_isPoint (cI := cI) (cZ := cZ) (cN := cN) (cC := cC) (r0 := r0) (h0 := h0) (h1 := h1) (h2 := h2) (h3 := h3) (l0 := l0) (d0 := d0) (p0 := p0) (e9 := e9) (z0 := z0) (y9 := y9)  (kps := kps) (pts := pts) (wrk := wrk) (out := out) (mem := mem) (abv := abv) (x1 := x1) rfl) 0 6 rfl rfl rfl rfl rfl ⟨Nat.le_of_ble_eq_true rfl, Nat.le_of_ble_eq_true rfl⟩ ⟨Nat.le_refl _, Nat.le_refl _⟩ hl.1 rfl rfl (Nat.le_of_ble_eq_true rfl) dX6_way_2 (fun H locs hw => ?_)
  refine lv_if_eq (tgt := 16) hx hb dX6_way_5 (by decide) (fun c1 => ?_) (fun c1 => ?_)
  · rw [if_pos c1] at hf
    refine lv_bipush (v := (-2)) hx hb dX6_way_16 (by decide) ?_
    have hf := Option.some.inj hf; subst hf
    exact x_iret E hw dX6_way_18
  · rw [if_neg c1] at hf
    refine lv_aload_n hx hb dX6_way_8 rfl (lv_at hl 0 rfl) ?_
    refine lv_iload_n hx hb dX6_way_9 rfl (lv_at hl 2 rfl) ?_
    refine x_callVI (ws' := (wRL cI cZ cN cC r0 h0 h1 h2 h3 l0 d0 p0 e9 z0 y9 kps pts wrk out mem abv)) (st1 := [.int (f_X6_isPoint x2 pts)]) (As := [.int x2]) (rest := []) E hw vc_X6_147 (c_X6_isPoint (cI := cI) (cZ := cZ) (cN := cN) (cC := cC) (r0 := r0) (h0 := h0) (h1 := h1) (h2 := h2) (h3 := h3) (l0 := l0) (d0 := d0) (p0 := p0) (e9 := e9) (z0 := z0) (y9 := y9)  (kps := kps) (pts := pts) (wrk := wrk) (out := out) (mem := mem) (abv := abv) (x1 := x2) rfl) 0 6 rfl rfl rfl rfl rfl ⟨Nat.le_of_ble_eq_true rfl, Nat.le_of_ble_eq_true rfl⟩ ⟨Nat.le_refl _, Nat.le_refl _⟩ hl.1 rfl rfl (Nat.le_of_ble_eq_true rfl) dX6_way_10 (fun H locs hw => ?_)
    refine lv_if_ne (tgt := 19) hx hb dX6_way_13 (by decide) (fun c2 => ?_) (fun c2 => ?_)
    · rw [if_neg c2] at hf
      refine lv_iload_n hx hb dX6_way_19 rfl (lv_at hl 3 rfl) ?_
      refine lv_if_ge (tgt := 26) hx hb dX6_way_20 (by decide) (fun c3 => ?_) (fun c3 => ?_)
      · rw [if_pos c3] at hf
        refine lv_aload_n hx hb dX6_way_26 rfl (lv_at hl 0 rfl) ?_
        refine x_get E hw kin_X6 0 rfl rfl 2 (by decide) kF_X6_28 (v := .ref h0) rfl dX6_way_27 ?_
        refine lv_iload_n hx hb dX6_way_30 rfl (lv_at hl 1 rfl) ?_
        refine lv_iload_n hx hb dX6_way_31 rfl (lv_at hl 2 rfl) ?_
        obtain ⟨q4, hq4, hf⟩ := Option.bind_eq_some_iff.mp hf
        refine x_callV (isC := [1, 2, 3, 4]) (ws' := (wRL cI cZ cN cC r0 h0 h1 h2 h3 l0 d0 p0 e9 z0 y9 kps pts wrk out mem abv)) (st1 := [.int q4]) (As := [.int x1, .int x2]) (rest := []) E hw vc_X6_151 (c_X3_comesTo (cI := cI) (cZ := cZ) (cN := cN) (cC := cC) (h0 := h0) (h1 := h1) (h2 := h2) (h3 := h3)  (pts := pts) (wrk := wrk) (out := out) (mem := mem) (abv := abv) (x1 := x1) (x2 := x2) hq4) 1 3 rfl rfl rfl rfl rfl rfl rfl rfl rfl ⟨Nat.le_of_ble_eq_true rfl, Nat.le_of_ble_eq_true rfl⟩ ⟨Nat.le_refl _, Nat.le_refl _⟩ hl.1 rfl rfl (Nat.le_of_ble_eq_true rfl) dX6_way_32 (fun H locs hw => ?_)
        refine lv_if_ne (tgt := 40) hx hb dX6_way_35 (by decide) (fun c5 => ?_) (fun c5 => ?_)
        · rw [if_neg c5] at hf
          refine lv_aload_n hx hb dX6_way_40 rfl (lv_at hl 0 rfl) ?_
          refine x_get E hw kin_X6 0 rfl rfl 2 (by decide) kF_X6_28 (v := .ref h0) rfl dX6_way_41 ?_
          refine lv_iload_n hx hb dX6_way_44 rfl (lv_at hl 1 rfl) ?_
          refine lv_iload_n hx hb dX6_way_45 rfl (lv_at hl 2 rfl) ?_
          obtain ⟨q6, hq6, hf⟩ := Option.bind_eq_some_iff.mp hf
          refine x_callV (isC := [1, 2, 3, 4]) (ws' := (wRL cI cZ cN cC r0 h0 h1 h2 h3 l0 d0 p0 e9 z0 y9 kps pts wrk out mem abv)) (st1 := [.int q6]) (As := [.int x1, .int x2]) (rest := []) E hw vc_X6_157 (c_X3_depthOf (cI := cI) (cZ := cZ) (cN := cN) (cC := cC) (h0 := h0) (h1 := h1) (h2 := h2) (h3 := h3)  (pts := pts) (wrk := wrk) (out := out) (mem := mem) (abv := abv) (x1 := x1) (x2 := x2) hq6) 1 3 rfl rfl rfl rfl rfl rfl rfl rfl rfl ⟨Nat.le_of_ble_eq_true rfl, Nat.le_of_ble_eq_true rfl⟩ ⟨Nat.le_refl _, Nat.le_refl _⟩ hl.1 rfl rfl (Nat.le_of_ble_eq_true rfl) dX6_way_46 (fun H locs hw => ?_)
          refine lv_istore (lv' := [(4, .int q6), (0, .ref r0), (1, .int x1), (2, .int x2), (3, .int x3)]) hx hb dX6_way_49 hl (by decide) rfl (fun ls hl => ?_)
          refine lv_iload_n hx hb dX6_way_51 rfl (lv_at hl 4 rfl) ?_
          refine lv_iload hx hb dX6_way_52 (lv_at hl 0 rfl) ?_
          refine lv_icmp_le (tgt := 61) hx hb dX6_way_54 (by decide) (fun c7 => ?_) (fun c7 => ?_)
          · rw [if_pos c7] at hf
            refine lv_aload_n hx hb dX6_way_61 rfl (lv_at hl 1 rfl) ?_
            refine x_get E hw kin_X6 0 rfl rfl 2 (by decide) kF_X6_28 (v := .ref h0) rfl dX6_way_62 ?_
            refine lv_iload_n hx hb dX6_way_65 rfl (lv_at hl 2 rfl) ?_
            refine lv_iload_n hx hb dX6_way_66 rfl (lv_at hl 3 rfl) ?_
            refine lv_iload hx hb dX6_way_67 (lv_at hl 0 rfl) ?_
            refine lv_iload_n hx hb dX6_way_69 rfl (lv_at hl 4 rfl) ?_
            refine lv_isub hx hb dX6_way_70 ?_
            obtain ⟨q8, hq8, hf⟩ := Option.bind_eq_some_iff.mp hf
            refine x_callV (isC := [1, 2, 3, 4]) (ws' := (wRL cI cZ cN cC r0 h0 h1 h2 h3 l0 d0 p0 e9 z0 y9 kps pts wrk out mem abv)) (st1 := [.int q8]) (As := [.int x1, .int x2, .int (q6 - x3)]) (rest := []) E hw vc_X6_160 (c_X3_climb (cI := cI) (cZ := cZ) (cN := cN) (cC := cC) (h0 := h0) (h1 := h1) (h2 := h2) (h3 := h3)  (pts := pts) (wrk := wrk) (out := out) (mem := mem) (abv := abv) (x1 := x1) (x2 := x2) (x3 := (q6 - x3)) hq8) 1 3 rfl rfl rfl rfl rfl rfl rfl rfl rfl ⟨Nat.le_of_ble_eq_true rfl, Nat.le_of_ble_eq_true rfl⟩ ⟨Nat.le_refl _, Nat.le_refl _⟩ hl.1 rfl rfl (Nat.le_of_ble_eq_true rfl) dX6_way_71 (fun H locs hw => ?_)
            have hf := Option.some.inj hf; subst hf
            exact x_iret E hw dX6_way_74
          · rw [if_neg c7] at hf
            refine lv_iconst (v := (-1)) hx hb dX6_way_57 (by decide) ?_
            refine lv_goto (tgt := 74) hx hb dX6_way_58 (by decide) ?_
            have hf := Option.some.inj hf; subst hf
            exact x_iret E hw dX6_way_74
        · rw [if_pos c5] at hf
          refine lv_iconst (v := (-1)) hx hb dX6_way_38 (by decide) ?_
          have hf := Option.some.inj hf; subst hf
          exact x_iret E hw dX6_way_39
      · rw [if_neg c3] at hf
        refine lv_bipush (v := (-3)) hx hb dX6_way_23 (by decide) ?_
        have hf := Option.some.inj hf; subst hf
        exact x_iret E hw dX6_way_25
    · rw [if_pos c2] at hf
      refine lv_bipush (v := (-2)) hx hb dX6_way_16 (by decide) ?_
      have hf := Option.some.inj hf; subst hf
      exact x_iret E hw dX6_way_18

def f_X6_around (N : Nat) (x1 : Int32) (x2 : Int32) (pts : Int32) (mem : (Nat → Int32)) : Option (Int32) :=
  if (f_X6_isPoint x1 pts) = 0 then
   some (-2)
  else
   if Int32.toInt x2 < 0 ∨ 2 < Int32.toInt x2 then
    some (-3)
   else if x2 = 0 then
    if xin x1 10 then
    some (mem (Int32.toNatClampNeg x1))
    else none
   else if x2 = 1 then
    (f_X3_comersTo N x1 pts mem).bind fun q3 =>
    some q3
   else
    (f_X3_ringOf N x1 pts mem).bind fun q4 =>
    some q4
set_option maxHeartbeats 4000000 in
set_option maxRecDepth 100000 in
theorem c_X6_around {l : Launch} {D : va_G} {cI cZ cN cC : ClassId} {r0 h0 h1 h2 h3 l0 d0 p0 e9 z0 y9 : Nat} {kps : Int32} {pts : Int32} {wrk : Int32} {out : (Nat → Int32)} {mem : (Nat → Int32)} {abv : (Nat → Int32)} {x1 : Int32} {x2 : Int32} {N : Nat} {res : Int32} (hf : f_X6_around N x1 x2 pts mem = some res) : xMet l D (xtys cI cZ cN cC) yX6_around cX6_around 3 (some .int) 4 87 [.ref r0, .int x1, .int x2] (wRL cI cZ cN cC r0 h0 h1 h2 h3 l0 d0 p0 e9 z0 y9 kps pts wrk out mem abv) (wRL cI cZ cN cC r0 h0 h1 h2 h3 l0 d0 p0 e9 z0 y9 kps pts wrk out mem abv) (some (.int res)) := by
  refine x_enter (by decide) (Nat.le_of_ble_eq_true rfl) ?_
  intro p e s m args below meth c E ls hl hw
  have E : xE p s m args meth c cX6_around 3 (some .int) RX6 D (xtys cI cZ cN cC) (xA (wRL cI cZ cN cC r0 h0 h1 h2 h3 l0 d0 p0 e9 z0 y9 kps pts wrk out mem abv)) := E
  obtain ⟨hx, hb, -⟩ := id E
  have hl : lv_has ls 3 [(0, .ref r0), (1, .int x1), (2, .int x2)] := hl
  unfold f_X6_around at hf
  refine lv_aload_n hx hb dX6_around_0 rfl (lv_at hl 0 rfl) ?_
  refine lv_iload_n hx hb dX6_around_1 rfl (lv_at hl 1 rfl) ?_
  refine x_callVI (ws' := (wRL cI cZ cN cC r0 h0 h1 h2 h3 l0 d0 p0 e9 z0 y9 kps pts wrk out mem abv)) (st1 := [.int (f_X6_isPoint x1 pts)]) (As := [.int x1]) (rest := []) E hw vc_X6_147 (c_X6_isPoint (cI := cI) (cZ := cZ) (cN := cN) (cC := cC) (r0 := r0) (h0 := h0) (h1 := h1) (h2 := h2) (h3 := h3) (l0 := l0) (d0 := d0) (p0 := p0) (e9 := e9) (z0 := z0) (y9 := y9)  (kps := kps) (pts := pts) (wrk := wrk) (out := out) (mem := mem) (abv := abv) (x1 := x1) rfl) 0 6 rfl rfl rfl rfl rfl ⟨Nat.le_of_ble_eq_true rfl, Nat.le_of_ble_eq_true rfl⟩ ⟨Nat.le_refl _, Nat.le_refl _⟩ hl.1 rfl rfl (Nat.le_of_ble_eq_true rfl) dX6_around_2 (fun H locs hw => ?_)
  refine lv_if_ne (tgt := 11) hx hb dX6_around_5 (by decide) (fun c1 => ?_) (fun c1 => ?_)
  · rw [if_neg c1] at hf
    refine lv_iload_n hx hb dX6_around_11 rfl (lv_at hl 2 rfl) ?_
    by_cases c0 : Int32.toInt x2 < 0 ∨ 2 < Int32.toInt x2
    · rw [if_pos c0] at hf
      refine lv_tableOut (tgt := 68) hx hb dX6_around_12 c0 (by decide) ?_
      refine lv_bipush (v := (-3)) hx hb dX6_around_68 (by decide) ?_
      have hf := Option.some.inj hf; subst hf
      exact x_iret E hw dX6_around_70
    rw [if_neg c0] at hf
    by_cases c1 : x2 = 0
    · rw [if_pos c1] at hf
      refine lv_tableIn (tgt := 40) hx hb dX6_around_12 (by rw [c1]; decide) (by rw [c1]; decide) (by rw [c1]; rfl) (by decide) ?_
      refine lv_aload_n hx hb dX6_around_40 rfl (lv_at hl 0 rfl) ?_
      refine x_get E hw kin_X6 0 rfl rfl 2 (by decide) kF_X6_28 (v := .ref h0) rfl dX6_around_41 ?_
      refine x_get E hw kin_X3 1 rfl rfl 3 (by decide) kF_X6_164 (v := .ref h2) rfl dX6_around_44 ?_
      refine lv_iload_n hx hb dX6_around_47 rfl (lv_at hl 1 rfl) ?_
      obtain ⟨g2, hf⟩ := xgd hf
      refine x_iald E hw 3 0 rfl rfl (xin_vp g2) dX6_around_48 ?_
      have hf := Option.some.inj hf; subst hf
      exact x_iret E hw dX6_around_49
    rw [if_neg c1] at hf
    by_cases c2 : x2 = 1
    · rw [if_pos c2] at hf
      refine lv_tableIn (tgt := 50) hx hb dX6_around_12 (by rw [c2]; decide) (by rw [c2]; decide) (by rw [c2]; rfl) (by decide) ?_
      refine lv_aload_n hx hb dX6_around_50 rfl (lv_at hl 0 rfl) ?_
      refine x_get E hw kin_X6 0 rfl rfl 2 (by decide) kF_X6_28 (v := .ref h0) rfl dX6_around_51 ?_
      refine lv_iload_n hx hb dX6_around_54 rfl (lv_at hl 1 rfl) ?_
      obtain ⟨q3, hq3, hf⟩ := Option.bind_eq_some_iff.mp hf
      refine x_callV (isC := [1, 2, 3, 4]) (ws' := (wRL cI cZ cN cC r0 h0 h1 h2 h3 l0 d0 p0 e9 z0 y9 kps pts wrk out mem abv)) (st1 := [.int q3]) (As := [.int x1]) (rest := []) E hw vc_X6_167 (c_X3_comersTo (cI := cI) (cZ := cZ) (cN := cN) (cC := cC) (h0 := h0) (h1 := h1) (h2 := h2) (h3 := h3)  (pts := pts) (wrk := wrk) (out := out) (mem := mem) (abv := abv) (x1 := x1) hq3) 1 3 rfl rfl rfl rfl rfl rfl rfl rfl rfl ⟨Nat.le_of_ble_eq_true rfl, Nat.le_of_ble_eq_true rfl⟩ ⟨Nat.le_refl _, Nat.le_refl _⟩ hl.1 rfl rfl (Nat.le_of_ble_eq_true rfl) dX6_around_55 (fun H locs hw => ?_)
      have hf := Option.some.inj hf; subst hf
      exact x_iret E hw dX6_around_58
    rw [if_neg c2] at hf
    have c3 : x2 = 2 := Int32.toInt_inj.mp (by
      have e1 := x_neL (k := 0) (by decide) c1
      have e2 := x_neL (k := 1) (by decide) c2
      show Int32.toInt x2 = 2
      omega)
    refine lv_tableIn (tgt := 59) hx hb dX6_around_12 (by rw [c3]; decide) (by rw [c3]; decide) (by rw [c3]; rfl) (by decide) ?_
    refine lv_aload_n hx hb dX6_around_59 rfl (lv_at hl 0 rfl) ?_
    refine x_get E hw kin_X6 0 rfl rfl 2 (by decide) kF_X6_28 (v := .ref h0) rfl dX6_around_60 ?_
    refine lv_iload_n hx hb dX6_around_63 rfl (lv_at hl 1 rfl) ?_
    obtain ⟨q4, hq4, hf⟩ := Option.bind_eq_some_iff.mp hf
    refine x_callV (isC := [1, 2, 3, 4]) (ws' := (wRL cI cZ cN cC r0 h0 h1 h2 h3 l0 d0 p0 e9 z0 y9 kps pts wrk out mem abv)) (st1 := [.int q4]) (As := [.int x1]) (rest := []) E hw vc_X6_170 (c_X3_ringOf (cI := cI) (cZ := cZ) (cN := cN) (cC := cC) (h0 := h0) (h1 := h1) (h2 := h2) (h3 := h3)  (pts := pts) (wrk := wrk) (out := out) (mem := mem) (abv := abv) (x1 := x1) hq4) 1 3 rfl rfl rfl rfl rfl rfl rfl rfl rfl ⟨Nat.le_of_ble_eq_true rfl, Nat.le_of_ble_eq_true rfl⟩ ⟨Nat.le_refl _, Nat.le_refl _⟩ hl.1 rfl rfl (Nat.le_of_ble_eq_true rfl) dX6_around_64 (fun H locs hw => ?_)
    have hf := Option.some.inj hf; subst hf
    exact x_iret E hw dX6_around_67
  · rw [if_pos c1] at hf
    refine lv_bipush (v := (-2)) hx hb dX6_around_8 (by decide) ?_
    have hf := Option.some.inj hf; subst hf
    exact x_iret E hw dX6_around_10

def f_X6_needless (N : Nat) (x1 : Int32) (x2 : Int32) (pts : Int32) (out : (Nat → Int32)) : Option (Int32) :=
  (f_X6_isArcThere x1 x2 pts out).bind fun q1 =>
  if q1 = 0 then
   some (-2)
  else
   (f_X3_isNeedless N x1 x2 out).bind fun q3 =>
   if q3 = 0 then
    some 0
   else
    some 1
set_option maxHeartbeats 4000000 in
set_option maxRecDepth 100000 in
theorem c_X6_needless {l : Launch} {D : va_G} {cI cZ cN cC : ClassId} {r0 h0 h1 h2 h3 l0 d0 p0 e9 z0 y9 : Nat} {kps : Int32} {pts : Int32} {wrk : Int32} {out : (Nat → Int32)} {mem : (Nat → Int32)} {abv : (Nat → Int32)} {x1 : Int32} {x2 : Int32} {N : Nat} {res : Int32} (hf : f_X6_needless N x1 x2 pts out = some res) : xMet l D (xtys cI cZ cN cC) yX6_needless cX6_needless 3 (some .int) 4 90 [.ref r0, .int x1, .int x2] (wRL cI cZ cN cC r0 h0 h1 h2 h3 l0 d0 p0 e9 z0 y9 kps pts wrk out mem abv) (wRL cI cZ cN cC r0 h0 h1 h2 h3 l0 d0 p0 e9 z0 y9 kps pts wrk out mem abv) (some (.int res)) := by
  refine x_enter (by decide) (Nat.le_of_ble_eq_true rfl) ?_
  intro p e s m args below meth c E ls hl hw
  have E : xE p s m args meth c cX6_needless 3 (some .int) RX6 D (xtys cI cZ cN cC) (xA (wRL cI cZ cN cC r0 h0 h1 h2 h3 l0 d0 p0 e9 z0 y9 kps pts wrk out mem abv)) := E
  obtain ⟨hx, hb, -⟩ := id E
  have hl : lv_has ls 3 [(0, .ref r0), (1, .int x1), (2, .int x2)] := hl
  unfold f_X6_needless at hf
  refine lv_aload_n hx hb dX6_needless_0 rfl (lv_at hl 0 rfl) ?_
  refine lv_iload_n hx hb dX6_needless_1 rfl (lv_at hl 1 rfl) ?_
  refine lv_iload_n hx hb dX6_needless_2 rfl (lv_at hl 2 rfl) ?_
  obtain ⟨q1, hq1, hf⟩ := Option.bind_eq_some_iff.mp hf
  refine x_callVI (ws' := (wRL cI cZ cN cC r0 h0 h1 h2 h3 l0 d0 p0 e9 z0 y9 kps pts wrk out mem abv)) (st1 := [.int q1]) (As := [.int x1, .int x2]) (rest := []) E hw vc_X6_173 (c_X6_isArcThere (cI := cI) (cZ := cZ) (cN := cN) (cC := cC) (r0 := r0) (h0 := h0) (h1 := h1) (h2 := h2) (h3 := h3) (l0 := l0) (d0 := d0) (p0 := p0) (e9 := e9) (z0 := z0) (y9 := y9)  (kps := kps) (pts := pts) (wrk := wrk) (out := out) (mem := mem) (abv := abv) (x1 := x1) (x2 := x2) hq1) 0 6 rfl rfl rfl rfl rfl ⟨Nat.le_of_ble_eq_true rfl, Nat.le_of_ble_eq_true rfl⟩ ⟨Nat.le_refl _, Nat.le_refl _⟩ hl.1 rfl rfl (Nat.le_of_ble_eq_true rfl) dX6_needless_3 (fun H locs hw => ?_)
  refine lv_if_ne (tgt := 12) hx hb dX6_needless_6 (by decide) (fun c2 => ?_) (fun c2 => ?_)
  · rw [if_neg c2] at hf
    refine lv_aload_n hx hb dX6_needless_12 rfl (lv_at hl 0 rfl) ?_
    refine x_get E hw kin_X6 0 rfl rfl 2 (by decide) kF_X6_28 (v := .ref h0) rfl dX6_needless_13 ?_
    refine lv_iload_n hx hb dX6_needless_16 rfl (lv_at hl 1 rfl) ?_
    refine lv_iload_n hx hb dX6_needless_17 rfl (lv_at hl 2 rfl) ?_
    obtain ⟨q3, hq3, hf⟩ := Option.bind_eq_some_iff.mp hf
    refine x_callV (isC := [1, 2, 3, 4]) (ws' := (wRL cI cZ cN cC r0 h0 h1 h2 h3 l0 d0 p0 e9 z0 y9 kps pts wrk out mem abv)) (st1 := [.int q3]) (As := [.int x1, .int x2]) (rest := []) E hw vc_X6_176 (c_X3_isNeedless (cI := cI) (cZ := cZ) (cN := cN) (cC := cC) (h0 := h0) (h1 := h1) (h2 := h2) (h3 := h3)  (pts := pts) (wrk := wrk) (out := out) (mem := mem) (abv := abv) (x1 := x1) (x2 := x2) hq3) 1 3 rfl rfl rfl rfl rfl rfl rfl rfl rfl ⟨Nat.le_of_ble_eq_true rfl, Nat.le_of_ble_eq_true rfl⟩ ⟨Nat.le_refl _, Nat.le_refl _⟩ hl.1 rfl rfl (Nat.le_of_ble_eq_true rfl) dX6_needless_18 (fun H locs hw => ?_)
    refine lv_if_eq (tgt := 28) hx hb dX6_needless_21 (by decide) (fun c4 => ?_) (fun c4 => ?_)
    · rw [if_pos c4] at hf
      refine lv_iconst (v := 0) hx hb dX6_needless_28 (by decide) ?_
      have hf := Option.some.inj hf; subst hf
      exact x_iret E hw dX6_needless_29
    · rw [if_neg c4] at hf
      refine lv_iconst (v := 1) hx hb dX6_needless_24 (by decide) ?_
      refine lv_goto (tgt := 29) hx hb dX6_needless_25 (by decide) ?_
      have hf := Option.some.inj hf; subst hf
      exact x_iret E hw dX6_needless_29
  · rw [if_pos c2] at hf
    refine lv_bipush (v := (-2)) hx hb dX6_needless_9 (by decide) ?_
    have hf := Option.some.inj hf; subst hf
    exact x_iret E hw dX6_needless_11

def f_X6_reduced (N : Nat) (pts : Int32) (out : (Nat → Int32)) (mem : (Nat → Int32)) : Option (Int32) :=
  (f_X3_rings N pts mem).bind fun q1 =>
  if pts ≤ q1 then
   (f_X3_arcs N pts out).bind fun q3 =>
   (f_X3_needlessArcs N pts out).bind fun q4 =>
   some (q3 - q4)
  else
   some (-4)
set_option maxHeartbeats 4000000 in
set_option maxRecDepth 100000 in
theorem c_X6_reduced {l : Launch} {D : va_G} {cI cZ cN cC : ClassId} {r0 h0 h1 h2 h3 l0 d0 p0 e9 z0 y9 : Nat} {kps : Int32} {pts : Int32} {wrk : Int32} {out : (Nat → Int32)} {mem : (Nat → Int32)} {abv : (Nat → Int32)}  {N : Nat} {res : Int32} (hf : f_X6_reduced N pts out mem = some res) : xMet l D (xtys cI cZ cN cC) yX6_reduced cX6_reduced 1 (some .int) 5 113 [.ref r0] (wRL cI cZ cN cC r0 h0 h1 h2 h3 l0 d0 p0 e9 z0 y9 kps pts wrk out mem abv) (wRL cI cZ cN cC r0 h0 h1 h2 h3 l0 d0 p0 e9 z0 y9 kps pts wrk out mem abv) (some (.int res)) := by
  refine x_enter (by decide) (Nat.le_of_ble_eq_true rfl) ?_
  intro p e s m args below meth c E ls hl hw
  have E : xE p s m args meth c cX6_reduced 1 (some .int) RX6 D (xtys cI cZ cN cC) (xA (wRL cI cZ cN cC r0 h0 h1 h2 h3 l0 d0 p0 e9 z0 y9 kps pts wrk out mem abv)) := E
  obtain ⟨hx, hb, -⟩ := id E
  have hl : lv_has ls 1 [(0, .ref r0)] := hl
  unfold f_X6_reduced at hf
  refine lv_aload_n hx hb dX6_reduced_0 rfl (lv_at hl 0 rfl) ?_
  refine x_get E hw kin_X6 0 rfl rfl 2 (by decide) kF_X6_28 (v := .ref h0) rfl dX6_reduced_1 ?_
  obtain ⟨q1, hq1, hf⟩ := Option.bind_eq_some_iff.mp hf
  refine x_callV (isC := [1, 2, 3, 4]) (ws' := (wRL cI cZ cN cC r0 h0 h1 h2 h3 l0 d0 p0 e9 z0 y9 kps pts wrk out mem abv)) (st1 := [.int q1]) (As := []) (rest := []) E hw vc_X6_179 (c_X3_rings (cI := cI) (cZ := cZ) (cN := cN) (cC := cC) (h0 := h0) (h1 := h1) (h2 := h2) (h3 := h3)  (pts := pts) (wrk := wrk) (out := out) (mem := mem) (abv := abv)  hq1) 1 3 rfl rfl rfl rfl rfl rfl rfl rfl rfl ⟨Nat.le_of_ble_eq_true rfl, Nat.le_of_ble_eq_true rfl⟩ ⟨Nat.le_refl _, Nat.le_refl _⟩ hl.1 rfl rfl (Nat.le_of_ble_eq_true rfl) dX6_reduced_4 (fun H locs hw => ?_)
  refine lv_aload_n hx hb dX6_reduced_7 rfl (lv_at hl 0 rfl) ?_
  refine x_get E hw kin_X6 0 rfl rfl 2 (by decide) kF_X6_28 (v := .ref h0) rfl dX6_reduced_8 ?_
  refine x_get E hw kin_X3 1 rfl rfl 0 (by decide) kF_X6_68 (v := .int pts) rfl dX6_reduced_11 ?_
  refine lv_icmp_ge (tgt := 20) hx hb dX6_reduced_14 (by decide) (fun c2 => ?_) (fun c2 => ?_)
  · rw [if_pos c2] at hf
    refine lv_aload_n hx hb dX6_reduced_20 rfl (lv_at hl 0 rfl) ?_
    refine x_get E hw kin_X6 0 rfl rfl 2 (by decide) kF_X6_28 (v := .ref h0) rfl dX6_reduced_21 ?_
    obtain ⟨q3, hq3, hf⟩ := Option.bind_eq_some_iff.mp hf
    refine x_callV (isC := [1, 2, 3, 4]) (ws' := (wRL cI cZ cN cC r0 h0 h1 h2 h3 l0 d0 p0 e9 z0 y9 kps pts wrk out mem abv)) (st1 := [.int q3]) (As := []) (rest := []) E hw vc_X6_106 (c_X3_arcs (cI := cI) (cZ := cZ) (cN := cN) (cC := cC) (h0 := h0) (h1 := h1) (h2 := h2) (h3 := h3)  (pts := pts) (wrk := wrk) (out := out) (mem := mem) (abv := abv)  hq3) 1 3 rfl rfl rfl rfl rfl rfl rfl rfl rfl ⟨Nat.le_of_ble_eq_true rfl, Nat.le_of_ble_eq_true rfl⟩ ⟨Nat.le_refl _, Nat.le_refl _⟩ hl.1 rfl rfl (Nat.le_of_ble_eq_true rfl) dX6_reduced_24 (fun H locs hw => ?_)
    refine lv_aload_n hx hb dX6_reduced_27 rfl (lv_at hl 0 rfl) ?_
    refine x_get E hw kin_X6 0 rfl rfl 2 (by decide) kF_X6_28 (v := .ref h0) rfl dX6_reduced_28 ?_
    obtain ⟨q4, hq4, hf⟩ := Option.bind_eq_some_iff.mp hf
    refine x_callV (isC := [1, 2, 3, 4]) (ws' := (wRL cI cZ cN cC r0 h0 h1 h2 h3 l0 d0 p0 e9 z0 y9 kps pts wrk out mem abv)) (st1 := [.int q4, .int q3]) (As := []) (rest := [.int q3]) E hw vc_X6_182 (c_X3_needlessArcs (cI := cI) (cZ := cZ) (cN := cN) (cC := cC) (h0 := h0) (h1 := h1) (h2 := h2) (h3 := h3)  (pts := pts) (wrk := wrk) (out := out) (mem := mem) (abv := abv)  hq4) 1 3 rfl rfl rfl rfl rfl rfl rfl rfl rfl ⟨Nat.le_of_ble_eq_true rfl, Nat.le_of_ble_eq_true rfl⟩ ⟨Nat.le_refl _, Nat.le_refl _⟩ hl.1 rfl rfl (Nat.le_of_ble_eq_true rfl) dX6_reduced_31 (fun H locs hw => ?_)
    refine lv_isub hx hb dX6_reduced_34 ?_
    have hf := Option.some.inj hf; subst hf
    exact x_iret E hw dX6_reduced_35
  · rw [if_neg c2] at hf
    refine lv_bipush (v := (-4)) hx hb dX6_reduced_17 (by decide) ?_
    have hf := Option.some.inj hf; subst hf
    exact x_iret E hw dX6_reduced_19

def f_X6_foldPair (x1 : Int32) (x2 : Int32) (x3 : Int32) (x4 : Int32) (mem : (Nat → Int32)) : Option (Int32) :=
  (f_X3_comesTo x3 x4 mem).bind fun q1 =>
  if x1 = 3 then
   if q1 = 0 then
    some (((2 * x2) + 0) - (((2 * x2) + 0) / 1000) * 1000)
   else
    some (((2 * x2) + 1) - (((2 * x2) + 1) / 1000) * 1000)
  else
   if q1 = 0 then
    some x2
   else
    if x1 = 0 then
     some (x2 + 1)
    else if x1 = 1 then
     some ((x2 + x3) + x4)
    else
     some (if x2 < (f_X6_tell x3 x4) then (f_X6_tell x3 x4) else x2)
set_option maxHeartbeats 4000000 in
set_option maxRecDepth 100000 in
theorem c_X6_foldPair {l : Launch} {D : va_G} {cI cZ cN cC : ClassId} {r0 h0 h1 h2 h3 l0 d0 p0 e9 z0 y9 : Nat} {kps : Int32} {pts : Int32} {wrk : Int32} {out : (Nat → Int32)} {mem : (Nat → Int32)} {abv : (Nat → Int32)} {x1 : Int32} {x2 : Int32} {x3 : Int32} {x4 : Int32} {res : Int32} (hf : f_X6_foldPair x1 x2 x3 x4 mem = some res) : xMet l D (xtys cI cZ cN cC) yX6_foldPair cX6_foldPair 6 (some .int) 2 43 [.ref r0, .int x1, .int x2, .int x3, .int x4] (wRL cI cZ cN cC r0 h0 h1 h2 h3 l0 d0 p0 e9 z0 y9 kps pts wrk out mem abv) (wRL cI cZ cN cC r0 h0 h1 h2 h3 l0 d0 p0 e9 z0 y9 kps pts wrk out mem abv) (some (.int res)) := by
  refine x_enter (by decide) (Nat.le_of_ble_eq_true rfl) ?_
  intro p e s m args below meth c E ls hl hw
  have E : xE p s m args meth c cX6_foldPair 6 (some .int) RX6 D (xtys cI cZ cN cC) (xA (wRL cI cZ cN cC r0 h0 h1 h2 h3 l0 d0 p0 e9 z0 y9 kps pts wrk out mem abv)) := E
  obtain ⟨hx, hb, -⟩ := id E
  have hl : lv_has ls 6 [(0, .ref r0), (1, .int x1), (2, .int x2), (3, .int x3), (4, .int x4)] := hl
  unfold f_X6_foldPair at hf
  refine lv_aload_n hx hb dX6_foldPair_0 rfl (lv_at hl 0 rfl) ?_
  refine x_get E hw kin_X6 0 rfl rfl 2 (by decide) kF_X6_28 (v := .ref h0) rfl dX6_foldPair_1 ?_
  refine lv_iload_n hx hb dX6_foldPair_4 rfl (lv_at hl 3 rfl) ?_
  refine lv_iload hx hb dX6_foldPair_5 (lv_at hl 4 rfl) ?_
  obtain ⟨q1, hq1, hf⟩ := Option.bind_eq_some_iff.mp hf
  refine x_callV (isC := [1, 2, 3, 4]) (ws' := (wRL cI cZ cN cC r0 h0 h1 h2 h3 l0 d0 p0 e9 z0 y9 kps pts wrk out mem abv)) (st1 := [.int q1]) (As := [.int x3, .int x4]) (rest := []) E hw vc_X6_151 (c_X3_comesTo (cI := cI) (cZ := cZ) (cN := cN) (cC := cC) (h0 := h0) (h1 := h1) (h2 := h2) (h3 := h3)  (pts := pts) (wrk := wrk) (out := out) (mem := mem) (abv := abv) (x1 := x3) (x2 := x4) hq1) 1 3 rfl rfl rfl rfl rfl rfl rfl rfl rfl ⟨Nat.le_of_ble_eq_true rfl, Nat.le_of_ble_eq_true rfl⟩ ⟨Nat.le_refl _, Nat.le_refl _⟩ hl.1 rfl rfl (Nat.le_of_ble_eq_true rfl) dX6_foldPair_7 (fun H locs hw => ?_)
  refine lv_istore (lv' := [(5, .int q1), (0, .ref r0), (1, .int x1), (2, .int x2), (3, .int x3), (4, .int x4)]) hx hb dX6_foldPair_10 hl (by decide) rfl (fun ls hl => ?_)
  refine lv_iload_n hx hb dX6_foldPair_12 rfl (lv_at hl 2 rfl) ?_
  refine lv_iconst (v := 3) hx hb dX6_foldPair_13 (by decide) ?_
  refine lv_icmp_ne (tgt := 36) hx hb dX6_foldPair_14 (by decide) (fun c2 => ?_) (fun c2 => ?_)
  · rw [if_neg c2] at hf
    refine lv_iload hx hb dX6_foldPair_36 (lv_at hl 0 rfl) ?_
    refine lv_if_ne (tgt := 43) hx hb dX6_foldPair_38 (by decide) (fun c3 => ?_) (fun c3 => ?_)
    · rw [if_neg c3] at hf
      refine lv_iload_n hx hb dX6_foldPair_43 rfl (lv_at hl 2 rfl) ?_
      by_cases c1 : x1 = 0
      · rw [if_pos c1] at hf
        refine lv_lookup (tgt := 72) hx hb dX6_foldPair_44 (by decide) (by first | (rw [c1]; done) | (rw [c1]; rfl)) (by decide) ?_
        refine lv_iload_n hx hb dX6_foldPair_72 rfl (lv_at hl 3 rfl) ?_
        refine lv_iconst (v := 1) hx hb dX6_foldPair_73 (by decide) ?_
        refine lv_iadd hx hb dX6_foldPair_74 ?_
        have hf := Option.some.inj hf; subst hf
        exact x_iret E hw dX6_foldPair_75
      rw [if_neg c1] at hf
      by_cases c2 : x1 = 1
      · rw [if_pos c2] at hf
        refine lv_lookup (tgt := 76) hx hb dX6_foldPair_44 (by decide) (by first | (rw [c2]; done) | (rw [c2]; rfl)) (by decide) ?_
        refine lv_iload_n hx hb dX6_foldPair_76 rfl (lv_at hl 3 rfl) ?_
        refine lv_iload_n hx hb dX6_foldPair_77 rfl (lv_at hl 4 rfl) ?_
        refine lv_iadd hx hb dX6_foldPair_78 ?_
        refine lv_iload hx hb dX6_foldPair_79 (lv_at hl 5 rfl) ?_
        refine lv_iadd hx hb dX6_foldPair_81 ?_
        have hf := Option.some.inj hf; subst hf
        exact x_iret E hw dX6_foldPair_82
      rw [if_neg c2] at hf
      refine lv_lookup (tgt := 83) hx hb dX6_foldPair_44 (by decide) (x_lsw_out c1 c2) (by decide) ?_
      refine lv_iload_n hx hb dX6_foldPair_83 rfl (lv_at hl 3 rfl) ?_
      refine lv_iload_n hx hb dX6_foldPair_84 rfl (lv_at hl 4 rfl) ?_
      refine lv_iload hx hb dX6_foldPair_85 (lv_at hl 5 rfl) ?_
      refine x_callS (isC := []) (ws' := (wRL cI cZ cN cC r0 h0 h1 h2 h3 l0 d0 p0 e9 z0 y9 kps pts wrk out mem abv)) (st1 := [.int (f_X6_tell x3 x4), .int x2]) (As := [.int x3, .int x4]) (rest := [.int x2]) E hw vc_X6_189 (c_X6_tell (cI := cI) (cZ := cZ) (cN := cN) (cC := cC)    (x0 := x3) (x1 := x4) rfl) rfl rfl rfl rfl rfl rfl ⟨Nat.le_of_ble_eq_true rfl, Nat.le_of_ble_eq_true rfl⟩ ⟨Nat.le_refl _, Nat.le_refl _⟩ hl.1 rfl rfl (Nat.le_of_ble_eq_true rfl) dX6_foldPair_87 (fun H locs hw => ?_)
      refine va_mmax hx hb (E.2.2.1.trans hl.1.symm) E.2.2.2.2.1 (E.2.2.2.2.2.1.2.use kM_X6_192) (E.2.2.2.2.2.1.2.use kS_J9_max_7cf53) (E.2.2.2.2.2.1.2.use kN_J9) (E.2.2.2.2.2.1.2.use kC_J9_max_7cf53) (Nat.le_of_ble_eq_true rfl) (Nat.le_of_ble_eq_true rfl) (Nat.le_refl _) (Nat.le_refl _) dX6_foldPair_90 ?_
      have hf := Option.some.inj hf; subst hf
      exact x_iret E hw dX6_foldPair_93
    · rw [if_pos c3] at hf
      refine lv_iload_n hx hb dX6_foldPair_41 rfl (lv_at hl 3 rfl) ?_
      have hf := Option.some.inj hf; subst hf
      exact x_iret E hw dX6_foldPair_42
  · rw [if_pos c2] at hf
    refine lv_iconst (v := 2) hx hb dX6_foldPair_17 (by decide) ?_
    refine lv_iload_n hx hb dX6_foldPair_18 rfl (lv_at hl 3 rfl) ?_
    refine lv_imul hx hb dX6_foldPair_19 ?_
    refine lv_iload hx hb dX6_foldPair_20 (lv_at hl 0 rfl) ?_
    refine lv_if_eq (tgt := 29) hx hb dX6_foldPair_22 (by decide) (fun c4 => ?_) (fun c4 => ?_)
    · rw [if_pos c4] at hf
      refine lv_iconst (v := 0) hx hb dX6_foldPair_29 (by decide) ?_
      refine lv_iadd hx hb dX6_foldPair_30 ?_
      refine lv_sipush (v := 1000) hx hb dX6_foldPair_31 (by decide) ?_
      refine lv_irem hx hb dX6_foldPair_34 (by decide) ?_
      have hf := Option.some.inj hf; subst hf
      exact x_iret E hw dX6_foldPair_35
    · rw [if_neg c4] at hf
      refine lv_iconst (v := 1) hx hb dX6_foldPair_25 (by decide) ?_
      refine lv_goto (tgt := 30) hx hb dX6_foldPair_26 (by decide) ?_
      refine lv_iadd hx hb dX6_foldPair_30 ?_
      refine lv_sipush (v := 1000) hx hb dX6_foldPair_31 (by decide) ?_
      refine lv_irem hx hb dX6_foldPair_34 (by decide) ?_
      have hf := Option.some.inj hf; subst hf
      exact x_iret E hw dX6_foldPair_35

def f_X6_fold_43 (k28 : Int32 → Int32 → Option (Int32)) (x1 : Int32) (x4 : Int32) (pts : Int32) (mem : (Nat → Int32)) : Nat → Int32 → Int32 → Option (Int32)
  | 0, _, _ => none
  | n + 1, x3, x5 =>
    if pts ≤ x5 then
     k28 x3 (x4 + 1)
    else
     if x4 = x5 then
      f_X6_fold_43 k28 x1 x4 pts mem n x3 (x5 + 1)
     else
      (f_X6_foldPair x1 x3 x4 x5 mem).bind fun q8 =>
      f_X6_fold_43 k28 x1 x4 pts mem n q8 (x5 + 1)
set_option maxHeartbeats 4000000 in
set_option maxRecDepth 100000 in
theorem b_X6_fold_43 {p : Program} {l : Launch} {e : Env} {s : State} {m : MethodId} {args : Array Value} {below : List Frame} {meth : Method} {c : Code} {D : va_G} {cI cZ cN cC : ClassId} {ws0 : va_W} {r0 h0 h1 h2 h3 l0 d0 p0 e9 z0 y9 : Nat} {x1 : Int32} {x4 : Int32} {kps : Int32} {pts : Int32} {wrk : Int32} {out : (Nat → Int32)} {mem : (Nat → Int32)} {abv : (Nat → Int32)} {res : Int32} (E : xE p s m args meth c cX6_fold 6 (some .int) RX6 D (xtys cI cZ cN cC) (xA ws0)) {k28 : Int32 → Int32 → Option (Int32)} (hk28 : ∀ (x3 : Int32) (x4 : Int32), k28 x3 x4 = some res → ∀ (H : Heap) (locs : List Loc) (ls : Array Slot), xw D (xA ws0) s.heap (wRL cI cZ cN cC r0 h0 h1 h2 h3 l0 d0 p0 e9 z0 y9 kps pts wrk out mem abv) H locs → lv_has ls 6 [(0, .ref r0), (1, .int x1), (3, .int x3), (4, .int x4)] → xG p l e 3 68 s m args below meth c D ws0 (wRL cI cZ cN cC r0 h0 h1 h2 h3 l0 d0 p0 e9 z0 y9 kps pts wrk out mem abv) (some (.int res)) H locs (F0 m 28 ls [])) : ∀ (n : Nat) (x3 : Int32) (x5 : Int32), f_X6_fold_43 k28 x1 x4 pts mem n x3 x5 = some res → ∀ (H : Heap) (locs : List Loc) (ls : Array Slot), xw D (xA ws0) s.heap (wRL cI cZ cN cC r0 h0 h1 h2 h3 l0 d0 p0 e9 z0 y9 kps pts wrk out mem abv) H locs → lv_has ls 6 [(0, .ref r0), (1, .int x1), (3, .int x3), (4, .int x4), (5, .int x5)] → xG p l e 3 68 s m args below meth c D ws0 (wRL cI cZ cN cC r0 h0 h1 h2 h3 l0 d0 p0 e9 z0 y9 kps pts wrk out mem abv) (some (.int res)) H locs (F0 m 43 ls []) := by
  obtain ⟨hx, hb, -⟩ := id E
  intro n
  induction n with
  | zero =>
    intro _ _ hf
    rw [f_X6_fold_43] at hf; cases hf
  | succ n ih =>
    intro x3 x5 hf H locs ls hw hl
    rw [f_X6_fold_43] at hf
    refine lv_iload hx hb dX6_fold_43 (lv_at hl 4 rfl) ?_
    refine lv_aload_n hx hb dX6_fold_45 rfl (lv_at hl 0 rfl) ?_
    refine x_get E hw kin_X6 0 rfl rfl 2 (by decide) kF_X6_28 (v := .ref h0) rfl dX6_fold_46 ?_
    refine x_get E hw kin_X3 1 rfl rfl 0 (by decide) kF_X6_68 (v := .int pts) rfl dX6_fold_49 ?_
    refine lv_icmp_ge (tgt := 79) hx hb dX6_fold_52 (by decide) (fun c6 => ?_) (fun c6 => ?_)
    · rw [if_pos c6] at hf
      refine lv_iinc (v := (x4 + 1)) (lv' := [(4, .int (x4 + 1)), (0, .ref r0), (1, .int x1), (3, .int x3), (5, .int x5)]) hx hb dX6_fold_79 hl (k := 3) rfl rfl (by decide) rfl (fun ls hl => ?_)
      refine lv_goto (tgt := 28) hx hb dX6_fold_82 (by decide) ?_
      exact hk28 _ _ hf _ _ _ hw (lv_sub hl [1, 2, 3, 0] rfl)
    · rw [if_neg c6] at hf
      refine lv_iload hx hb dX6_fold_55 (lv_at hl 3 rfl) ?_
      refine lv_iload hx hb dX6_fold_57 (lv_at hl 4 rfl) ?_
      refine lv_icmp_eq (tgt := 73) hx hb dX6_fold_59 (by decide) (fun c7 => ?_) (fun c7 => ?_)
      · rw [if_pos c7] at hf
        refine lv_iinc (v := (x5 + 1)) (lv' := [(5, .int (x5 + 1)), (0, .ref r0), (1, .int x1), (3, .int x3), (4, .int x4)]) hx hb dX6_fold_73 hl (k := 4) rfl rfl (by decide) rfl (fun ls hl => ?_)
        refine lv_goto (tgt := 43) hx hb dX6_fold_76 (by decide) ?_
        exact ih _ _ hf _ _ _ hw (lv_sub hl [1, 2, 3, 4, 0] rfl)
      · rw [if_neg c7] at hf
        refine lv_aload_n hx hb dX6_fold_62 rfl (lv_at hl 0 rfl) ?_
        refine lv_iload_n hx hb dX6_fold_63 rfl (lv_at hl 1 rfl) ?_
        refine lv_iload_n hx hb dX6_fold_64 rfl (lv_at hl 2 rfl) ?_
        refine lv_iload hx hb dX6_fold_65 (lv_at hl 3 rfl) ?_
        refine lv_iload hx hb dX6_fold_67 (lv_at hl 4 rfl) ?_
        obtain ⟨q8, hq8, hf⟩ := Option.bind_eq_some_iff.mp hf
        refine x_callVI (ws' := (wRL cI cZ cN cC r0 h0 h1 h2 h3 l0 d0 p0 e9 z0 y9 kps pts wrk out mem abv)) (st1 := [.int q8]) (As := [.int x1, .int x3, .int x4, .int x5]) (rest := []) E hw vc_X6_185 (c_X6_foldPair (cI := cI) (cZ := cZ) (cN := cN) (cC := cC) (r0 := r0) (h0 := h0) (h1 := h1) (h2 := h2) (h3 := h3) (l0 := l0) (d0 := d0) (p0 := p0) (e9 := e9) (z0 := z0) (y9 := y9)  (kps := kps) (pts := pts) (wrk := wrk) (out := out) (mem := mem) (abv := abv) (x1 := x1) (x2 := x3) (x3 := x4) (x4 := x5) hq8) 0 6 rfl rfl rfl rfl rfl ⟨Nat.le_of_ble_eq_true rfl, Nat.le_of_ble_eq_true rfl⟩ ⟨Nat.le_refl _, Nat.le_refl _⟩ hl.1 rfl rfl (Nat.le_of_ble_eq_true rfl) dX6_fold_69 (fun H locs hw => ?_)
        refine lv_istore_n (lv' := [(3, .int q8), (0, .ref r0), (1, .int x1), (4, .int x4), (5, .int x5)]) hx hb dX6_fold_72 rfl hl (by decide) rfl (fun ls hl => ?_)
        refine lv_iinc (v := (x5 + 1)) (lv' := [(5, .int (x5 + 1)), (3, .int q8), (0, .ref r0), (1, .int x1), (4, .int x4)]) hx hb dX6_fold_73 hl (k := 4) rfl rfl (by decide) rfl (fun ls hl => ?_)
        refine lv_goto (tgt := 43) hx hb dX6_fold_76 (by decide) ?_
        exact ih _ _ hf _ _ _ hw (lv_sub hl [2, 3, 1, 4, 0] rfl)
def f_X6_fold_28 (N : Nat) (x1 : Int32) (pts : Int32) (mem : (Nat → Int32)) : Nat → Int32 → Int32 → Option (Int32)
  | 0, _, _ => none
  | n + 1, x3, x4 =>
    if pts ≤ x4 then
     some x3
    else
     f_X6_fold_43 (fun x3 x4 => f_X6_fold_28 N x1 pts mem n x3 x4) x1 x4 pts mem N x3 0
set_option maxHeartbeats 4000000 in
set_option maxRecDepth 100000 in
theorem b_X6_fold_28 {p : Program} {l : Launch} {e : Env} {s : State} {m : MethodId} {args : Array Value} {below : List Frame} {meth : Method} {c : Code} {D : va_G} {cI cZ cN cC : ClassId} {ws0 : va_W} {r0 h0 h1 h2 h3 l0 d0 p0 e9 z0 y9 : Nat} {x1 : Int32} {kps : Int32} {pts : Int32} {wrk : Int32} {out : (Nat → Int32)} {mem : (Nat → Int32)} {abv : (Nat → Int32)} {N : Nat} {res : Int32} (E : xE p s m args meth c cX6_fold 6 (some .int) RX6 D (xtys cI cZ cN cC) (xA ws0)) : ∀ (n : Nat) (x3 : Int32) (x4 : Int32), f_X6_fold_28 N x1 pts mem n x3 x4 = some res → ∀ (H : Heap) (locs : List Loc) (ls : Array Slot), xw D (xA ws0) s.heap (wRL cI cZ cN cC r0 h0 h1 h2 h3 l0 d0 p0 e9 z0 y9 kps pts wrk out mem abv) H locs → lv_has ls 6 [(0, .ref r0), (1, .int x1), (3, .int x3), (4, .int x4)] → xG p l e 3 68 s m args below meth c D ws0 (wRL cI cZ cN cC r0 h0 h1 h2 h3 l0 d0 p0 e9 z0 y9 kps pts wrk out mem abv) (some (.int res)) H locs (F0 m 28 ls []) := by
  obtain ⟨hx, hb, -⟩ := id E
  intro n
  induction n with
  | zero =>
    intro _ _ hf
    rw [f_X6_fold_28] at hf; cases hf
  | succ n ih =>
    intro x3 x4 hf H locs ls hw hl
    rw [f_X6_fold_28] at hf
    refine lv_iload hx hb dX6_fold_28 (lv_at hl 3 rfl) ?_
    refine lv_aload_n hx hb dX6_fold_30 rfl (lv_at hl 0 rfl) ?_
    refine x_get E hw kin_X6 0 rfl rfl 2 (by decide) kF_X6_28 (v := .ref h0) rfl dX6_fold_31 ?_
    refine x_get E hw kin_X3 1 rfl rfl 0 (by decide) kF_X6_68 (v := .int pts) rfl dX6_fold_34 ?_
    refine lv_icmp_ge (tgt := 85) hx hb dX6_fold_37 (by decide) (fun c5 => ?_) (fun c5 => ?_)
    · rw [if_pos c5] at hf
      refine lv_iload_n hx hb dX6_fold_85 rfl (lv_at hl 2 rfl) ?_
      have hf := Option.some.inj hf; subst hf
      exact x_iret E hw dX6_fold_86
    · rw [if_neg c5] at hf
      refine lv_iconst (v := 0) hx hb dX6_fold_40 (by decide) ?_
      refine lv_istore (lv' := [(5, .int 0), (0, .ref r0), (1, .int x1), (3, .int x3), (4, .int x4)]) hx hb dX6_fold_41 hl (by decide) rfl (fun ls hl => ?_)
      exact b_X6_fold_43 E ih N _ _ hf _ _ _ hw (lv_sub hl [1, 2, 3, 4, 0] rfl)
def f_X6_fold (N : Nat) (x1 : Int32) (x2 : Int32) (pts : Int32) (mem : (Nat → Int32)) : Option (Int32) :=
  if x1 < 0 then
   some (-3)
  else
   if 3 < x1 then
    some (-3)
   else
    if x2 < 0 then
     some (-3)
    else
     if x2 < 1000 then
      f_X6_fold_28 N x1 pts mem N x2 0
     else
      some (-3)
set_option maxHeartbeats 4000000 in
set_option maxRecDepth 100000 in
theorem c_X6_fold {l : Launch} {D : va_G} {cI cZ cN cC : ClassId} {r0 h0 h1 h2 h3 l0 d0 p0 e9 z0 y9 : Nat} {kps : Int32} {pts : Int32} {wrk : Int32} {out : (Nat → Int32)} {mem : (Nat → Int32)} {abv : (Nat → Int32)} {x1 : Int32} {x2 : Int32} {N : Nat} {res : Int32} (hf : f_X6_fold N x1 x2 pts mem = some res) : xMet l D (xtys cI cZ cN cC) yX6_fold cX6_fold 6 (some .int) 3 68 [.ref r0, .int x1, .int x2] (wRL cI cZ cN cC r0 h0 h1 h2 h3 l0 d0 p0 e9 z0 y9 kps pts wrk out mem abv) (wRL cI cZ cN cC r0 h0 h1 h2 h3 l0 d0 p0 e9 z0 y9 kps pts wrk out mem abv) (some (.int res)) := by
  refine x_enter (by decide) (Nat.le_of_ble_eq_true rfl) ?_
  intro p e s m args below meth c E ls hl hw
  have E : xE p s m args meth c cX6_fold 6 (some .int) RX6 D (xtys cI cZ cN cC) (xA (wRL cI cZ cN cC r0 h0 h1 h2 h3 l0 d0 p0 e9 z0 y9 kps pts wrk out mem abv)) := E
  obtain ⟨hx, hb, -⟩ := id E
  have hl : lv_has ls 6 [(0, .ref r0), (1, .int x1), (2, .int x2)] := hl
  unfold f_X6_fold at hf
  refine lv_iload_n hx hb dX6_fold_0 rfl (lv_at hl 1 rfl) ?_
  refine lv_if_lt (tgt := 20) hx hb dX6_fold_1 (by decide) (fun c1 => ?_) (fun c1 => ?_)
  · rw [if_pos c1] at hf
    refine lv_bipush (v := (-3)) hx hb dX6_fold_20 (by decide) ?_
    have hf := Option.some.inj hf; subst hf
    exact x_iret E hw dX6_fold_22
  · rw [if_neg c1] at hf
    refine lv_iload_n hx hb dX6_fold_4 rfl (lv_at hl 1 rfl) ?_
    refine lv_iconst (v := 3) hx hb dX6_fold_5 (by decide) ?_
    refine lv_icmp_gt (tgt := 20) hx hb dX6_fold_6 (by decide) (fun c2 => ?_) (fun c2 => ?_)
    · rw [if_pos c2] at hf
      refine lv_bipush (v := (-3)) hx hb dX6_fold_20 (by decide) ?_
      have hf := Option.some.inj hf; subst hf
      exact x_iret E hw dX6_fold_22
    · rw [if_neg c2] at hf
      refine lv_iload_n hx hb dX6_fold_9 rfl (lv_at hl 2 rfl) ?_
      refine lv_if_lt (tgt := 20) hx hb dX6_fold_10 (by decide) (fun c3 => ?_) (fun c3 => ?_)
      · rw [if_pos c3] at hf
        refine lv_bipush (v := (-3)) hx hb dX6_fold_20 (by decide) ?_
        have hf := Option.some.inj hf; subst hf
        exact x_iret E hw dX6_fold_22
      · rw [if_neg c3] at hf
        refine lv_iload_n hx hb dX6_fold_13 rfl (lv_at hl 2 rfl) ?_
        refine lv_sipush (v := 1000) hx hb dX6_fold_14 (by decide) ?_
        refine lv_icmp_lt (tgt := 23) hx hb dX6_fold_17 (by decide) (fun c4 => ?_) (fun c4 => ?_)
        · rw [if_pos c4] at hf
          refine lv_iload_n hx hb dX6_fold_23 rfl (lv_at hl 2 rfl) ?_
          refine lv_istore_n (lv' := [(3, .int x2), (0, .ref r0), (1, .int x1), (2, .int x2)]) hx hb dX6_fold_24 rfl hl (by decide) rfl (fun ls hl => ?_)
          refine lv_iconst (v := 0) hx hb dX6_fold_25 (by decide) ?_
          refine lv_istore (lv' := [(4, .int 0), (3, .int x2), (0, .ref r0), (1, .int x1), (2, .int x2)]) hx hb dX6_fold_26 hl (by decide) rfl (fun ls hl => ?_)
          exact b_X6_fold_28 E N _ _ hf _ _ _ hw (lv_sub hl [2, 3, 1, 0] rfl)
        · rw [if_neg c4] at hf
          refine lv_bipush (v := (-3)) hx hb dX6_fold_20 (by decide) ?_
          have hf := Option.some.inj hf; subst hf
          exact x_iret E hw dX6_fold_22

def f_X6_gain (N : Nat) (x1 : Int32) (x2 : Int32) (x3 : Int32) (pts : Int32) (out : (Nat → Int32)) (mem : (Nat → Int32)) : Option (Int32) :=
  if (f_X6_arePair x1 x2 pts) = 0 then
   some (-2)
  else
   if x3 < 0 then
    some (-3)
   else
    if x3 ≤ 1 then
     (f_X3_hasArc x1 x2 out).bind fun q4 =>
     if q4 = 0 then
      if x3 = 0 then
       (f_X3_pairsGained N x1 x2 pts mem).bind fun q8 =>
       some q8
      else
       (f_X3_workGained N x1 x2 pts out mem).bind fun q7 =>
       some q7
     else
      some (-4)
    else
     some (-3)
set_option maxHeartbeats 4000000 in
set_option maxRecDepth 100000 in
theorem c_X6_gain {l : Launch} {D : va_G} {cI cZ cN cC : ClassId} {r0 h0 h1 h2 h3 l0 d0 p0 e9 z0 y9 : Nat} {kps : Int32} {pts : Int32} {wrk : Int32} {out : (Nat → Int32)} {mem : (Nat → Int32)} {abv : (Nat → Int32)} {x1 : Int32} {x2 : Int32} {x3 : Int32} {N : Nat} {res : Int32} (hf : f_X6_gain N x1 x2 x3 pts out mem = some res) : xMet l D (xtys cI cZ cN cC) yX6_gain cX6_gain 4 (some .int) 4 90 [.ref r0, .int x1, .int x2, .int x3] (wRL cI cZ cN cC r0 h0 h1 h2 h3 l0 d0 p0 e9 z0 y9 kps pts wrk out mem abv) (wRL cI cZ cN cC r0 h0 h1 h2 h3 l0 d0 p0 e9 z0 y9 kps pts wrk out mem abv) (some (.int res)) := by
  refine x_enter (by decide) (Nat.le_of_ble_eq_true rfl) ?_
  intro p e s m args below meth c E ls hl hw
  have E : xE p s m args meth c cX6_gain 4 (some .int) RX6 D (xtys cI cZ cN cC) (xA (wRL cI cZ cN cC r0 h0 h1 h2 h3 l0 d0 p0 e9 z0 y9 kps pts wrk out mem abv)) := E
  obtain ⟨hx, hb, -⟩ := id E
  have hl : lv_has ls 4 [(0, .ref r0), (1, .int x1), (2, .int x2), (3, .int x3)] := hl
  unfold f_X6_gain at hf
  refine lv_aload_n hx hb dX6_gain_0 rfl (lv_at hl 0 rfl) ?_
  refine lv_iload_n hx hb dX6_gain_1 rfl (lv_at hl 1 rfl) ?_
  refine lv_iload_n hx hb dX6_gain_2 rfl (lv_at hl 2 rfl) ?_
  refine x_callVI (ws' := (wRL cI cZ cN cC r0 h0 h1 h2 h3 l0 d0 p0 e9 z0 y9 kps pts wrk out mem abv)) (st1 := [.int (f_X6_arePair x1 x2 pts)]) (As := [.int x1, .int x2]) (rest := []) E hw vc_X6_113 (c_X6_arePair (cI := cI) (cZ := cZ) (cN := cN) (cC := cC) (r0 := r0) (h0 := h0) (h1 := h1) (h2 := h2) (h3 := h3) (l0 := l0) (d0 := d0) (p0 := p0) (e9 := e9) (z0 := z0) (y9 := y9)  (kps := kps) (pts := pts) (wrk := wrk) (out := out) (mem := mem) (abv := abv) (x1 := x1) (x2 := x2) rfl) 0 6 rfl rfl rfl rfl rfl ⟨Nat.le_of_ble_eq_true rfl, Nat.le_of_ble_eq_true rfl⟩ ⟨Nat.le_refl _, Nat.le_refl _⟩ hl.1 rfl rfl (Nat.le_of_ble_eq_true rfl) dX6_gain_3 (fun H locs hw => ?_)
  refine lv_if_ne (tgt := 12) hx hb dX6_gain_6 (by decide) (fun c1 => ?_) (fun c1 => ?_)
  · rw [if_neg c1] at hf
    refine lv_iload_n hx hb dX6_gain_12 rfl (lv_at hl 3 rfl) ?_
    refine lv_if_lt (tgt := 21) hx hb dX6_gain_13 (by decide) (fun c2 => ?_) (fun c2 => ?_)
    · rw [if_pos c2] at hf
      refine lv_bipush (v := (-3)) hx hb dX6_gain_21 (by decide) ?_
      have hf := Option.some.inj hf; subst hf
      exact x_iret E hw dX6_gain_23
    · rw [if_neg c2] at hf
      refine lv_iload_n hx hb dX6_gain_16 rfl (lv_at hl 3 rfl) ?_
      refine lv_iconst (v := 1) hx hb dX6_gain_17 (by decide) ?_
      refine lv_icmp_le (tgt := 24) hx hb dX6_gain_18 (by decide) (fun c3 => ?_) (fun c3 => ?_)
      · rw [if_pos c3] at hf
        refine lv_aload_n hx hb dX6_gain_24 rfl (lv_at hl 0 rfl) ?_
        refine x_get E hw kin_X6 0 rfl rfl 2 (by decide) kF_X6_28 (v := .ref h0) rfl dX6_gain_25 ?_
        refine lv_iload_n hx hb dX6_gain_28 rfl (lv_at hl 1 rfl) ?_
        refine lv_iload_n hx hb dX6_gain_29 rfl (lv_at hl 2 rfl) ?_
        obtain ⟨q4, hq4, hf⟩ := Option.bind_eq_some_iff.mp hf
        refine x_callV (isC := [1, 2, 3, 4]) (ws' := (wRL cI cZ cN cC r0 h0 h1 h2 h3 l0 d0 p0 e9 z0 y9 kps pts wrk out mem abv)) (st1 := [.int q4]) (As := [.int x1, .int x2]) (rest := []) E hw vc_X6_102 (c_X3_hasArc (cI := cI) (cZ := cZ) (cN := cN) (cC := cC) (h0 := h0) (h1 := h1) (h2 := h2) (h3 := h3)  (pts := pts) (wrk := wrk) (out := out) (mem := mem) (abv := abv) (x1 := x1) (x2 := x2) hq4) 1 3 rfl rfl rfl rfl rfl rfl rfl rfl rfl ⟨Nat.le_of_ble_eq_true rfl, Nat.le_of_ble_eq_true rfl⟩ ⟨Nat.le_refl _, Nat.le_refl _⟩ hl.1 rfl rfl (Nat.le_of_ble_eq_true rfl) dX6_gain_30 (fun H locs hw => ?_)
        refine lv_if_eq (tgt := 39) hx hb dX6_gain_33 (by decide) (fun c5 => ?_) (fun c5 => ?_)
        · rw [if_pos c5] at hf
          refine lv_iload_n hx hb dX6_gain_39 rfl (lv_at hl 3 rfl) ?_
          refine lv_if_ne (tgt := 55) hx hb dX6_gain_40 (by decide) (fun c6 => ?_) (fun c6 => ?_)
          · rw [if_neg c6] at hf
            refine lv_aload_n hx hb dX6_gain_55 rfl (lv_at hl 0 rfl) ?_
            refine x_get E hw kin_X6 0 rfl rfl 2 (by decide) kF_X6_28 (v := .ref h0) rfl dX6_gain_56 ?_
            refine lv_iload_n hx hb dX6_gain_59 rfl (lv_at hl 1 rfl) ?_
            refine lv_iload_n hx hb dX6_gain_60 rfl (lv_at hl 2 rfl) ?_
            obtain ⟨q7, hq7, hf⟩ := Option.bind_eq_some_iff.mp hf
            refine x_callV (isC := [1, 2, 3, 4]) (ws' := (wRL cI cZ cN cC r0 h0 h1 h2 h3 l0 d0 p0 e9 z0 y9 kps pts wrk out mem abv)) (st1 := [.int q7]) (As := [.int x1, .int x2]) (rest := []) E hw vc_X6_200 (c_X3_workGained (cI := cI) (cZ := cZ) (cN := cN) (cC := cC) (h0 := h0) (h1 := h1) (h2 := h2) (h3 := h3)  (pts := pts) (wrk := wrk) (out := out) (mem := mem) (abv := abv) (x1 := x1) (x2 := x2) hq7) 1 3 rfl rfl rfl rfl rfl rfl rfl rfl rfl ⟨Nat.le_of_ble_eq_true rfl, Nat.le_of_ble_eq_true rfl⟩ ⟨Nat.le_refl _, Nat.le_refl _⟩ hl.1 rfl rfl (Nat.le_of_ble_eq_true rfl) dX6_gain_61 (fun H locs hw => ?_)
            have hf := Option.some.inj hf; subst hf
            exact x_iret E hw dX6_gain_64
          · rw [if_pos c6] at hf
            refine lv_aload_n hx hb dX6_gain_43 rfl (lv_at hl 0 rfl) ?_
            refine x_get E hw kin_X6 0 rfl rfl 2 (by decide) kF_X6_28 (v := .ref h0) rfl dX6_gain_44 ?_
            refine lv_iload_n hx hb dX6_gain_47 rfl (lv_at hl 1 rfl) ?_
            refine lv_iload_n hx hb dX6_gain_48 rfl (lv_at hl 2 rfl) ?_
            obtain ⟨q8, hq8, hf⟩ := Option.bind_eq_some_iff.mp hf
            refine x_callV (isC := [1, 2, 3, 4]) (ws' := (wRL cI cZ cN cC r0 h0 h1 h2 h3 l0 d0 p0 e9 z0 y9 kps pts wrk out mem abv)) (st1 := [.int q8]) (As := [.int x1, .int x2]) (rest := []) E hw vc_X6_197 (c_X3_pairsGained (cI := cI) (cZ := cZ) (cN := cN) (cC := cC) (h0 := h0) (h1 := h1) (h2 := h2) (h3 := h3)  (pts := pts) (wrk := wrk) (out := out) (mem := mem) (abv := abv) (x1 := x1) (x2 := x2) hq8) 1 3 rfl rfl rfl rfl rfl rfl rfl rfl rfl ⟨Nat.le_of_ble_eq_true rfl, Nat.le_of_ble_eq_true rfl⟩ ⟨Nat.le_refl _, Nat.le_refl _⟩ hl.1 rfl rfl (Nat.le_of_ble_eq_true rfl) dX6_gain_49 (fun H locs hw => ?_)
            refine lv_goto (tgt := 64) hx hb dX6_gain_52 (by decide) ?_
            have hf := Option.some.inj hf; subst hf
            exact x_iret E hw dX6_gain_64
        · rw [if_neg c5] at hf
          refine lv_bipush (v := (-4)) hx hb dX6_gain_36 (by decide) ?_
          have hf := Option.some.inj hf; subst hf
          exact x_iret E hw dX6_gain_38
      · rw [if_neg c3] at hf
        refine lv_bipush (v := (-3)) hx hb dX6_gain_21 (by decide) ?_
        have hf := Option.some.inj hf; subst hf
        exact x_iret E hw dX6_gain_23
  · rw [if_pos c1] at hf
    refine lv_bipush (v := (-2)) hx hb dX6_gain_9 (by decide) ?_
    have hf := Option.some.inj hf; subst hf
    exact x_iret E hw dX6_gain_11

def f_X6_best_20 (k6 : Int32 → Int32 → Int32 → Option (Int32)) (N : Nat) (x3 : Int32) (pts : Int32) (out : (Nat → Int32)) (mem : (Nat → Int32)) : Nat → Int32 → Int32 → Int32 → Option (Int32)
  | 0, _, _, _ => none
  | n + 1, x1, x2, x4 =>
    if pts ≤ x4 then
     k6 x1 x2 (x3 + 1)
    else
     if x3 = x4 then
      f_X6_best_20 k6 N x3 pts out mem n x1 x2 (x4 + 1)
     else
      (f_X3_hasArc x3 x4 out).bind fun q4 =>
      if q4 = 0 then
       (f_X3_pairsGained N x3 x4 pts mem).bind fun q6 =>
       if q6 ≤ x2 then
        f_X6_best_20 k6 N x3 pts out mem n x1 x2 (x4 + 1)
       else
        f_X6_best_20 k6 N x3 pts out mem n (f_X6_tell x3 x4) q6 (x4 + 1)
      else
       f_X6_best_20 k6 N x3 pts out mem n x1 x2 (x4 + 1)
set_option maxHeartbeats 4000000 in
set_option maxRecDepth 100000 in
theorem b_X6_best_20 {p : Program} {l : Launch} {e : Env} {s : State} {m : MethodId} {args : Array Value} {below : List Frame} {meth : Method} {c : Code} {D : va_G} {cI cZ cN cC : ClassId} {ws0 : va_W} {r0 h0 h1 h2 h3 l0 d0 p0 e9 z0 y9 : Nat} {x3 : Int32} {kps : Int32} {pts : Int32} {wrk : Int32} {out : (Nat → Int32)} {mem : (Nat → Int32)} {abv : (Nat → Int32)} {N : Nat} {res : Int32} (E : xE p s m args meth c cX6_best 6 (some .int) RX6 D (xtys cI cZ cN cC) (xA ws0)) {k6 : Int32 → Int32 → Int32 → Option (Int32)} (hk6 : ∀ (x1 : Int32) (x2 : Int32) (x3 : Int32), k6 x1 x2 x3 = some res → ∀ (H : Heap) (locs : List Loc) (ls : Array Slot), xw D (xA ws0) s.heap (wRL cI cZ cN cC r0 h0 h1 h2 h3 l0 d0 p0 e9 z0 y9 kps pts wrk out mem abv) H locs → lv_has ls 6 [(0, .ref r0), (1, .int x1), (2, .int x2), (3, .int x3)] → xG p l e 4 90 s m args below meth c D ws0 (wRL cI cZ cN cC r0 h0 h1 h2 h3 l0 d0 p0 e9 z0 y9 kps pts wrk out mem abv) (some (.int res)) H locs (F0 m 6 ls [])) : ∀ (n : Nat) (x1 : Int32) (x2 : Int32) (x4 : Int32), f_X6_best_20 k6 N x3 pts out mem n x1 x2 x4 = some res → ∀ (H : Heap) (locs : List Loc) (ls : Array Slot), xw D (xA ws0) s.heap (wRL cI cZ cN cC r0 h0 h1 h2 h3 l0 d0 p0 e9 z0 y9 kps pts wrk out mem abv) H locs → lv_has ls 6 [(0, .ref r0), (1, .int x1), (2, .int x2), (3, .int x3), (4, .int x4)] → xG p l e 4 90 s m args below meth c D ws0 (wRL cI cZ cN cC r0 h0 h1 h2 h3 l0 d0 p0 e9 z0 y9 kps pts wrk out mem abv) (some (.int res)) H locs (F0 m 20 ls []) := by
  obtain ⟨hx, hb, -⟩ := id E
  intro n
  induction n with
  | zero =>
    intro _ _ _ hf
    rw [f_X6_best_20] at hf; cases hf
  | succ n ih =>
    intro x1 x2 x4 hf H locs ls hw hl
    rw [f_X6_best_20] at hf
    refine lv_iload hx hb dX6_best_20 (lv_at hl 4 rfl) ?_
    refine lv_aload_n hx hb dX6_best_22 rfl (lv_at hl 0 rfl) ?_
    refine x_get E hw kin_X6 0 rfl rfl 2 (by decide) kF_X6_28 (v := .ref h0) rfl dX6_best_23 ?_
    refine x_get E hw kin_X3 1 rfl rfl 0 (by decide) kF_X6_68 (v := .int pts) rfl dX6_best_26 ?_
    refine lv_icmp_ge (tgt := 85) hx hb dX6_best_29 (by decide) (fun c2 => ?_) (fun c2 => ?_)
    · rw [if_pos c2] at hf
      refine lv_iinc (v := (x3 + 1)) (lv' := [(3, .int (x3 + 1)), (0, .ref r0), (1, .int x1), (2, .int x2), (4, .int x4)]) hx hb dX6_best_85 hl (k := 3) rfl rfl (by decide) rfl (fun ls hl => ?_)
      refine lv_goto (tgt := 6) hx hb dX6_best_88 (by decide) ?_
      exact hk6 _ _ _ hf _ _ _ hw (lv_sub hl [1, 2, 3, 0] rfl)
    · rw [if_neg c2] at hf
      refine lv_iload_n hx hb dX6_best_32 rfl (lv_at hl 3 rfl) ?_
      refine lv_iload hx hb dX6_best_33 (lv_at hl 4 rfl) ?_
      refine lv_icmp_eq (tgt := 79) hx hb dX6_best_35 (by decide) (fun c3 => ?_) (fun c3 => ?_)
      · rw [if_pos c3] at hf
        refine lv_iinc (v := (x4 + 1)) (lv' := [(4, .int (x4 + 1)), (0, .ref r0), (1, .int x1), (2, .int x2), (3, .int x3)]) hx hb dX6_best_79 hl (k := 4) rfl rfl (by decide) rfl (fun ls hl => ?_)
        refine lv_goto (tgt := 20) hx hb dX6_best_82 (by decide) ?_
        exact ih _ _ _ hf _ _ _ hw (lv_sub hl [1, 2, 3, 4, 0] rfl)
      · rw [if_neg c3] at hf
        refine lv_aload_n hx hb dX6_best_38 rfl (lv_at hl 0 rfl) ?_
        refine x_get E hw kin_X6 0 rfl rfl 2 (by decide) kF_X6_28 (v := .ref h0) rfl dX6_best_39 ?_
        refine lv_iload_n hx hb dX6_best_42 rfl (lv_at hl 3 rfl) ?_
        refine lv_iload hx hb dX6_best_43 (lv_at hl 4 rfl) ?_
        obtain ⟨q4, hq4, hf⟩ := Option.bind_eq_some_iff.mp hf
        refine x_callV (isC := [1, 2, 3, 4]) (ws' := (wRL cI cZ cN cC r0 h0 h1 h2 h3 l0 d0 p0 e9 z0 y9 kps pts wrk out mem abv)) (st1 := [.int q4]) (As := [.int x3, .int x4]) (rest := []) E hw vc_X6_102 (c_X3_hasArc (cI := cI) (cZ := cZ) (cN := cN) (cC := cC) (h0 := h0) (h1 := h1) (h2 := h2) (h3 := h3)  (pts := pts) (wrk := wrk) (out := out) (mem := mem) (abv := abv) (x1 := x3) (x2 := x4) hq4) 1 3 rfl rfl rfl rfl rfl rfl rfl rfl rfl ⟨Nat.le_of_ble_eq_true rfl, Nat.le_of_ble_eq_true rfl⟩ ⟨Nat.le_refl _, Nat.le_refl _⟩ hl.1 rfl rfl (Nat.le_of_ble_eq_true rfl) dX6_best_45 (fun H locs hw => ?_)
        refine lv_if_ne (tgt := 79) hx hb dX6_best_48 (by decide) (fun c5 => ?_) (fun c5 => ?_)
        · rw [if_neg c5] at hf
          refine lv_iinc (v := (x4 + 1)) (lv' := [(4, .int (x4 + 1)), (0, .ref r0), (1, .int x1), (2, .int x2), (3, .int x3)]) hx hb dX6_best_79 hl (k := 4) rfl rfl (by decide) rfl (fun ls hl => ?_)
          refine lv_goto (tgt := 20) hx hb dX6_best_82 (by decide) ?_
          exact ih _ _ _ hf _ _ _ hw (lv_sub hl [1, 2, 3, 4, 0] rfl)
        · rw [if_pos c5] at hf
          refine lv_aload_n hx hb dX6_best_51 rfl (lv_at hl 0 rfl) ?_
          refine x_get E hw kin_X6 0 rfl rfl 2 (by decide) kF_X6_28 (v := .ref h0) rfl dX6_best_52 ?_
          refine lv_iload_n hx hb dX6_best_55 rfl (lv_at hl 3 rfl) ?_
          refine lv_iload hx hb dX6_best_56 (lv_at hl 4 rfl) ?_
          obtain ⟨q6, hq6, hf⟩ := Option.bind_eq_some_iff.mp hf
          refine x_callV (isC := [1, 2, 3, 4]) (ws' := (wRL cI cZ cN cC r0 h0 h1 h2 h3 l0 d0 p0 e9 z0 y9 kps pts wrk out mem abv)) (st1 := [.int q6]) (As := [.int x3, .int x4]) (rest := []) E hw vc_X6_197 (c_X3_pairsGained (cI := cI) (cZ := cZ) (cN := cN) (cC := cC) (h0 := h0) (h1 := h1) (h2 := h2) (h3 := h3)  (pts := pts) (wrk := wrk) (out := out) (mem := mem) (abv := abv) (x1 := x3) (x2 := x4) hq6) 1 3 rfl rfl rfl rfl rfl rfl rfl rfl rfl ⟨Nat.le_of_ble_eq_true rfl, Nat.le_of_ble_eq_true rfl⟩ ⟨Nat.le_refl _, Nat.le_refl _⟩ hl.1 rfl rfl (Nat.le_of_ble_eq_true rfl) dX6_best_58 (fun H locs hw => ?_)
          refine lv_istore (lv' := [(5, .int q6), (0, .ref r0), (1, .int x1), (2, .int x2), (3, .int x3), (4, .int x4)]) hx hb dX6_best_61 hl (by decide) rfl (fun ls hl => ?_)
          refine lv_iload hx hb dX6_best_63 (lv_at hl 0 rfl) ?_
          refine lv_iload_n hx hb dX6_best_65 rfl (lv_at hl 3 rfl) ?_
          refine lv_icmp_le (tgt := 79) hx hb dX6_best_66 (by decide) (fun c7 => ?_) (fun c7 => ?_)
          · rw [if_pos c7] at hf
            refine lv_iinc (v := (x4 + 1)) (lv' := [(4, .int (x4 + 1)), (5, .int q6), (0, .ref r0), (1, .int x1), (2, .int x2), (3, .int x3)]) hx hb dX6_best_79 hl (k := 5) rfl rfl (by decide) rfl (fun ls hl => ?_)
            refine lv_goto (tgt := 20) hx hb dX6_best_82 (by decide) ?_
            exact ih _ _ _ hf _ _ _ hw (lv_sub hl [2, 3, 4, 5, 0] rfl)
          · rw [if_neg c7] at hf
            refine lv_iload hx hb dX6_best_69 (lv_at hl 0 rfl) ?_
            refine lv_istore_n (lv' := [(2, .int q6), (5, .int q6), (0, .ref r0), (1, .int x1), (3, .int x3), (4, .int x4)]) hx hb dX6_best_71 rfl hl (by decide) rfl (fun ls hl => ?_)
            refine lv_iload_n hx hb dX6_best_72 rfl (lv_at hl 4 rfl) ?_
            refine lv_iload hx hb dX6_best_73 (lv_at hl 5 rfl) ?_
            refine x_callS (isC := []) (ws' := (wRL cI cZ cN cC r0 h0 h1 h2 h3 l0 d0 p0 e9 z0 y9 kps pts wrk out mem abv)) (st1 := [.int (f_X6_tell x3 x4)]) (As := [.int x3, .int x4]) (rest := []) E hw vc_X6_189 (c_X6_tell (cI := cI) (cZ := cZ) (cN := cN) (cC := cC)    (x0 := x3) (x1 := x4) rfl) rfl rfl rfl rfl rfl rfl ⟨Nat.le_of_ble_eq_true rfl, Nat.le_of_ble_eq_true rfl⟩ ⟨Nat.le_refl _, Nat.le_refl _⟩ hl.1 rfl rfl (Nat.le_of_ble_eq_true rfl) dX6_best_75 (fun H locs hw => ?_)
            refine lv_istore_n (lv' := [(1, .int (f_X6_tell x3 x4)), (2, .int q6), (5, .int q6), (0, .ref r0), (3, .int x3), (4, .int x4)]) hx hb dX6_best_78 rfl hl (by decide) rfl (fun ls hl => ?_)
            refine lv_iinc (v := (x4 + 1)) (lv' := [(4, .int (x4 + 1)), (1, .int (f_X6_tell x3 x4)), (2, .int q6), (5, .int q6), (0, .ref r0), (3, .int x3)]) hx hb dX6_best_79 hl (k := 5) rfl rfl (by decide) rfl (fun ls hl => ?_)
            refine lv_goto (tgt := 20) hx hb dX6_best_82 (by decide) ?_
            exact ih _ _ _ hf _ _ _ hw (lv_sub hl [4, 1, 2, 5, 0] rfl)
def f_X6_best_6 (N : Nat) (pts : Int32) (out : (Nat → Int32)) (mem : (Nat → Int32)) : Nat → Int32 → Int32 → Int32 → Option (Int32)
  | 0, _, _, _ => none
  | n + 1, x1, x2, x3 =>
    if pts ≤ x3 then
     some x1
    else
     f_X6_best_20 (fun x1 x2 x3 => f_X6_best_6 N pts out mem n x1 x2 x3) N x3 pts out mem N x1 x2 0
set_option maxHeartbeats 4000000 in
set_option maxRecDepth 100000 in
theorem b_X6_best_6 {p : Program} {l : Launch} {e : Env} {s : State} {m : MethodId} {args : Array Value} {below : List Frame} {meth : Method} {c : Code} {D : va_G} {cI cZ cN cC : ClassId} {ws0 : va_W} {r0 h0 h1 h2 h3 l0 d0 p0 e9 z0 y9 : Nat} {kps : Int32} {pts : Int32} {wrk : Int32} {out : (Nat → Int32)} {mem : (Nat → Int32)} {abv : (Nat → Int32)} {N : Nat} {res : Int32} (E : xE p s m args meth c cX6_best 6 (some .int) RX6 D (xtys cI cZ cN cC) (xA ws0)) : ∀ (n : Nat) (x1 : Int32) (x2 : Int32) (x3 : Int32), f_X6_best_6 N pts out mem n x1 x2 x3 = some res → ∀ (H : Heap) (locs : List Loc) (ls : Array Slot), xw D (xA ws0) s.heap (wRL cI cZ cN cC r0 h0 h1 h2 h3 l0 d0 p0 e9 z0 y9 kps pts wrk out mem abv) H locs → lv_has ls 6 [(0, .ref r0), (1, .int x1), (2, .int x2), (3, .int x3)] → xG p l e 4 90 s m args below meth c D ws0 (wRL cI cZ cN cC r0 h0 h1 h2 h3 l0 d0 p0 e9 z0 y9 kps pts wrk out mem abv) (some (.int res)) H locs (F0 m 6 ls []) := by
  obtain ⟨hx, hb, -⟩ := id E
  intro n
  induction n with
  | zero =>
    intro _ _ _ hf
    rw [f_X6_best_6] at hf; cases hf
  | succ n ih =>
    intro x1 x2 x3 hf H locs ls hw hl
    rw [f_X6_best_6] at hf
    refine lv_iload_n hx hb dX6_best_6 rfl (lv_at hl 3 rfl) ?_
    refine lv_aload_n hx hb dX6_best_7 rfl (lv_at hl 0 rfl) ?_
    refine x_get E hw kin_X6 0 rfl rfl 2 (by decide) kF_X6_28 (v := .ref h0) rfl dX6_best_8 ?_
    refine x_get E hw kin_X3 1 rfl rfl 0 (by decide) kF_X6_68 (v := .int pts) rfl dX6_best_11 ?_
    refine lv_icmp_ge (tgt := 91) hx hb dX6_best_14 (by decide) (fun c1 => ?_) (fun c1 => ?_)
    · rw [if_pos c1] at hf
      refine lv_iload_n hx hb dX6_best_91 rfl (lv_at hl 1 rfl) ?_
      have hf := Option.some.inj hf; subst hf
      exact x_iret E hw dX6_best_92
    · rw [if_neg c1] at hf
      refine lv_iconst (v := 0) hx hb dX6_best_17 (by decide) ?_
      refine lv_istore (lv' := [(4, .int 0), (0, .ref r0), (1, .int x1), (2, .int x2), (3, .int x3)]) hx hb dX6_best_18 hl (by decide) rfl (fun ls hl => ?_)
      exact b_X6_best_20 E ih N _ _ _ hf _ _ _ hw (lv_sub hl [1, 2, 3, 4, 0] rfl)
def f_X6_best (N : Nat) (pts : Int32) (out : (Nat → Int32)) (mem : (Nat → Int32)) : Option (Int32) :=
  f_X6_best_6 N pts out mem N (-1) (-1) 0
set_option maxHeartbeats 4000000 in
set_option maxRecDepth 100000 in
theorem c_X6_best {l : Launch} {D : va_G} {cI cZ cN cC : ClassId} {r0 h0 h1 h2 h3 l0 d0 p0 e9 z0 y9 : Nat} {kps : Int32} {pts : Int32} {wrk : Int32} {out : (Nat → Int32)} {mem : (Nat → Int32)} {abv : (Nat → Int32)}  {N : Nat} {res : Int32} (hf : f_X6_best N pts out mem = some res) : xMet l D (xtys cI cZ cN cC) yX6_best cX6_best 6 (some .int) 4 90 [.ref r0] (wRL cI cZ cN cC r0 h0 h1 h2 h3 l0 d0 p0 e9 z0 y9 kps pts wrk out mem abv) (wRL cI cZ cN cC r0 h0 h1 h2 h3 l0 d0 p0 e9 z0 y9 kps pts wrk out mem abv) (some (.int res)) := by
  refine x_enter (by decide) (Nat.le_of_ble_eq_true rfl) ?_
  intro p e s m args below meth c E ls hl hw
  have E : xE p s m args meth c cX6_best 6 (some .int) RX6 D (xtys cI cZ cN cC) (xA (wRL cI cZ cN cC r0 h0 h1 h2 h3 l0 d0 p0 e9 z0 y9 kps pts wrk out mem abv)) := E
  obtain ⟨hx, hb, -⟩ := id E
  have hl : lv_has ls 6 [(0, .ref r0)] := hl
  unfold f_X6_best at hf
  refine lv_iconst (v := (-1)) hx hb dX6_best_0 (by decide) ?_
  refine lv_istore_n (lv' := [(1, .int (-1)), (0, .ref r0)]) hx hb dX6_best_1 rfl hl (by decide) rfl (fun ls hl => ?_)
  refine lv_iconst (v := (-1)) hx hb dX6_best_2 (by decide) ?_
  refine lv_istore_n (lv' := [(2, .int (-1)), (1, .int (-1)), (0, .ref r0)]) hx hb dX6_best_3 rfl hl (by decide) rfl (fun ls hl => ?_)
  refine lv_iconst (v := 0) hx hb dX6_best_4 (by decide) ?_
  refine lv_istore_n (lv' := [(3, .int 0), (2, .int (-1)), (1, .int (-1)), (0, .ref r0)]) hx hb dX6_best_5 rfl hl (by decide) rfl (fun ls hl => ?_)
  exact b_X6_best_6 E N _ _ _ hf _ _ _ hw (lv_sub hl [3, 2, 1, 0] rfl)

def f_X6_loss (N : Nat) (x1 : Int32) (x2 : Int32) (pts : Int32) (out : (Nat → Int32)) (mem : (Nat → Int32)) (abv : (Nat → Int32)) : Option (Int32) :=
  (f_X6_isArcThere x1 x2 pts out).bind fun q1 =>
  if q1 = 0 then
   some (-2)
  else
   (f_X3_pairsLost N x1 x2 pts out mem abv).bind fun q3 =>
   some q3
set_option maxHeartbeats 4000000 in
set_option maxRecDepth 100000 in
theorem c_X6_loss {l : Launch} {D : va_G} {cI cZ cN cC : ClassId} {r0 h0 h1 h2 h3 l0 d0 p0 e9 z0 y9 : Nat} {kps : Int32} {pts : Int32} {wrk : Int32} {out : (Nat → Int32)} {mem : (Nat → Int32)} {abv : (Nat → Int32)} {x1 : Int32} {x2 : Int32} {N : Nat} {res : Int32} (hf : f_X6_loss N x1 x2 pts out mem abv = some res) : xMet l D (xtys cI cZ cN cC) yX6_loss cX6_loss 3 (some .int) 4 92 [.ref r0, .int x1, .int x2] (wRL cI cZ cN cC r0 h0 h1 h2 h3 l0 d0 p0 e9 z0 y9 kps pts wrk out mem abv) (wRL cI cZ cN cC r0 h0 h1 h2 h3 l0 d0 p0 e9 z0 y9 kps pts wrk out mem abv) (some (.int res)) := by
  refine x_enter (by decide) (Nat.le_of_ble_eq_true rfl) ?_
  intro p e s m args below meth c E ls hl hw
  have E : xE p s m args meth c cX6_loss 3 (some .int) RX6 D (xtys cI cZ cN cC) (xA (wRL cI cZ cN cC r0 h0 h1 h2 h3 l0 d0 p0 e9 z0 y9 kps pts wrk out mem abv)) := E
  obtain ⟨hx, hb, -⟩ := id E
  have hl : lv_has ls 3 [(0, .ref r0), (1, .int x1), (2, .int x2)] := hl
  unfold f_X6_loss at hf
  refine lv_aload_n hx hb dX6_loss_0 rfl (lv_at hl 0 rfl) ?_
  refine lv_iload_n hx hb dX6_loss_1 rfl (lv_at hl 1 rfl) ?_
  refine lv_iload_n hx hb dX6_loss_2 rfl (lv_at hl 2 rfl) ?_
  obtain ⟨q1, hq1, hf⟩ := Option.bind_eq_some_iff.mp hf
  refine x_callVI (ws' := (wRL cI cZ cN cC r0 h0 h1 h2 h3 l0 d0 p0 e9 z0 y9 kps pts wrk out mem abv)) (st1 := [.int q1]) (As := [.int x1, .int x2]) (rest := []) E hw vc_X6_173 (c_X6_isArcThere (cI := cI) (cZ := cZ) (cN := cN) (cC := cC) (r0 := r0) (h0 := h0) (h1 := h1) (h2 := h2) (h3 := h3) (l0 := l0) (d0 := d0) (p0 := p0) (e9 := e9) (z0 := z0) (y9 := y9)  (kps := kps) (pts := pts) (wrk := wrk) (out := out) (mem := mem) (abv := abv) (x1 := x1) (x2 := x2) hq1) 0 6 rfl rfl rfl rfl rfl ⟨Nat.le_of_ble_eq_true rfl, Nat.le_of_ble_eq_true rfl⟩ ⟨Nat.le_refl _, Nat.le_refl _⟩ hl.1 rfl rfl (Nat.le_of_ble_eq_true rfl) dX6_loss_3 (fun H locs hw => ?_)
  refine lv_if_ne (tgt := 12) hx hb dX6_loss_6 (by decide) (fun c2 => ?_) (fun c2 => ?_)
  · rw [if_neg c2] at hf
    refine lv_aload_n hx hb dX6_loss_12 rfl (lv_at hl 0 rfl) ?_
    refine x_get E hw kin_X6 0 rfl rfl 2 (by decide) kF_X6_28 (v := .ref h0) rfl dX6_loss_13 ?_
    refine lv_iload_n hx hb dX6_loss_16 rfl (lv_at hl 1 rfl) ?_
    refine lv_iload_n hx hb dX6_loss_17 rfl (lv_at hl 2 rfl) ?_
    obtain ⟨q3, hq3, hf⟩ := Option.bind_eq_some_iff.mp hf
    refine x_callV (isC := [1, 2, 3, 4]) (ws' := (wRL cI cZ cN cC r0 h0 h1 h2 h3 l0 d0 p0 e9 z0 y9 kps pts wrk out mem abv)) (st1 := [.int q3]) (As := [.int x1, .int x2]) (rest := []) E hw vc_X6_203 (c_X3_pairsLost (cI := cI) (cZ := cZ) (cN := cN) (cC := cC) (h0 := h0) (h1 := h1) (h2 := h2) (h3 := h3)  (pts := pts) (wrk := wrk) (out := out) (mem := mem) (abv := abv) (x1 := x1) (x2 := x2) hq3) 1 3 rfl rfl rfl rfl rfl rfl rfl rfl rfl ⟨Nat.le_of_ble_eq_true rfl, Nat.le_of_ble_eq_true rfl⟩ ⟨Nat.le_refl _, Nat.le_refl _⟩ hl.1 rfl rfl (Nat.le_of_ble_eq_true rfl) dX6_loss_18 (fun H locs hw => ?_)
    have hf := Option.some.inj hf; subst hf
    exact x_iret E hw dX6_loss_21
  · rw [if_pos c2] at hf
    refine lv_bipush (v := (-2)) hx hb dX6_loss_9 (by decide) ?_
    have hf := Option.some.inj hf; subst hf
    exact x_iret E hw dX6_loss_11

def f_X6_worst_20 (k6 : Int32 → Int32 → Int32 → Option (Int32)) (N : Nat) (x3 : Int32) (pts : Int32) (out : (Nat → Int32)) (mem : (Nat → Int32)) (abv : (Nat → Int32)) : Nat → Int32 → Int32 → Int32 → Option (Int32)
  | 0, _, _, _ => none
  | n + 1, x1, x2, x4 =>
    if pts ≤ x4 then
     k6 x1 x2 (x3 + 1)
    else
     (f_X3_hasArc x3 x4 out).bind fun q3 =>
     if q3 = 0 then
      f_X6_worst_20 k6 N x3 pts out mem abv n x1 x2 (x4 + 1)
     else
      (f_X3_pairsLost N x3 x4 pts out mem abv).bind fun q5 =>
      if q5 ≤ x2 then
       f_X6_worst_20 k6 N x3 pts out mem abv n x1 x2 (x4 + 1)
      else
       f_X6_worst_20 k6 N x3 pts out mem abv n (f_X6_tell x3 x4) q5 (x4 + 1)
set_option maxHeartbeats 4000000 in
set_option maxRecDepth 100000 in
theorem b_X6_worst_20 {p : Program} {l : Launch} {e : Env} {s : State} {m : MethodId} {args : Array Value} {below : List Frame} {meth : Method} {c : Code} {D : va_G} {cI cZ cN cC : ClassId} {ws0 : va_W} {r0 h0 h1 h2 h3 l0 d0 p0 e9 z0 y9 : Nat} {x3 : Int32} {kps : Int32} {pts : Int32} {wrk : Int32} {out : (Nat → Int32)} {mem : (Nat → Int32)} {abv : (Nat → Int32)} {N : Nat} {res : Int32} (E : xE p s m args meth c cX6_worst 6 (some .int) RX6 D (xtys cI cZ cN cC) (xA ws0)) {k6 : Int32 → Int32 → Int32 → Option (Int32)} (hk6 : ∀ (x1 : Int32) (x2 : Int32) (x3 : Int32), k6 x1 x2 x3 = some res → ∀ (H : Heap) (locs : List Loc) (ls : Array Slot), xw D (xA ws0) s.heap (wRL cI cZ cN cC r0 h0 h1 h2 h3 l0 d0 p0 e9 z0 y9 kps pts wrk out mem abv) H locs → lv_has ls 6 [(0, .ref r0), (1, .int x1), (2, .int x2), (3, .int x3)] → xG p l e 4 92 s m args below meth c D ws0 (wRL cI cZ cN cC r0 h0 h1 h2 h3 l0 d0 p0 e9 z0 y9 kps pts wrk out mem abv) (some (.int res)) H locs (F0 m 6 ls [])) : ∀ (n : Nat) (x1 : Int32) (x2 : Int32) (x4 : Int32), f_X6_worst_20 k6 N x3 pts out mem abv n x1 x2 x4 = some res → ∀ (H : Heap) (locs : List Loc) (ls : Array Slot), xw D (xA ws0) s.heap (wRL cI cZ cN cC r0 h0 h1 h2 h3 l0 d0 p0 e9 z0 y9 kps pts wrk out mem abv) H locs → lv_has ls 6 [(0, .ref r0), (1, .int x1), (2, .int x2), (3, .int x3), (4, .int x4)] → xG p l e 4 92 s m args below meth c D ws0 (wRL cI cZ cN cC r0 h0 h1 h2 h3 l0 d0 p0 e9 z0 y9 kps pts wrk out mem abv) (some (.int res)) H locs (F0 m 20 ls []) := by
  obtain ⟨hx, hb, -⟩ := id E
  intro n
  induction n with
  | zero =>
    intro _ _ _ hf
    rw [f_X6_worst_20] at hf; cases hf
  | succ n ih =>
    intro x1 x2 x4 hf H locs ls hw hl
    rw [f_X6_worst_20] at hf
    refine lv_iload hx hb dX6_worst_20 (lv_at hl 4 rfl) ?_
    refine lv_aload_n hx hb dX6_worst_22 rfl (lv_at hl 0 rfl) ?_
    refine x_get E hw kin_X6 0 rfl rfl 2 (by decide) kF_X6_28 (v := .ref h0) rfl dX6_worst_23 ?_
    refine x_get E hw kin_X3 1 rfl rfl 0 (by decide) kF_X6_68 (v := .int pts) rfl dX6_worst_26 ?_
    refine lv_icmp_ge (tgt := 79) hx hb dX6_worst_29 (by decide) (fun c2 => ?_) (fun c2 => ?_)
    · rw [if_pos c2] at hf
      refine lv_iinc (v := (x3 + 1)) (lv' := [(3, .int (x3 + 1)), (0, .ref r0), (1, .int x1), (2, .int x2), (4, .int x4)]) hx hb dX6_worst_79 hl (k := 3) rfl rfl (by decide) rfl (fun ls hl => ?_)
      refine lv_goto (tgt := 6) hx hb dX6_worst_82 (by decide) ?_
      exact hk6 _ _ _ hf _ _ _ hw (lv_sub hl [1, 2, 3, 0] rfl)
    · rw [if_neg c2] at hf
      refine lv_aload_n hx hb dX6_worst_32 rfl (lv_at hl 0 rfl) ?_
      refine x_get E hw kin_X6 0 rfl rfl 2 (by decide) kF_X6_28 (v := .ref h0) rfl dX6_worst_33 ?_
      refine lv_iload_n hx hb dX6_worst_36 rfl (lv_at hl 3 rfl) ?_
      refine lv_iload hx hb dX6_worst_37 (lv_at hl 4 rfl) ?_
      obtain ⟨q3, hq3, hf⟩ := Option.bind_eq_some_iff.mp hf
      refine x_callV (isC := [1, 2, 3, 4]) (ws' := (wRL cI cZ cN cC r0 h0 h1 h2 h3 l0 d0 p0 e9 z0 y9 kps pts wrk out mem abv)) (st1 := [.int q3]) (As := [.int x3, .int x4]) (rest := []) E hw vc_X6_102 (c_X3_hasArc (cI := cI) (cZ := cZ) (cN := cN) (cC := cC) (h0 := h0) (h1 := h1) (h2 := h2) (h3 := h3)  (pts := pts) (wrk := wrk) (out := out) (mem := mem) (abv := abv) (x1 := x3) (x2 := x4) hq3) 1 3 rfl rfl rfl rfl rfl rfl rfl rfl rfl ⟨Nat.le_of_ble_eq_true rfl, Nat.le_of_ble_eq_true rfl⟩ ⟨Nat.le_refl _, Nat.le_refl _⟩ hl.1 rfl rfl (Nat.le_of_ble_eq_true rfl) dX6_worst_39 (fun H locs hw => ?_)
      refine lv_if_eq (tgt := 73) hx hb dX6_worst_42 (by decide) (fun c4 => ?_) (fun c4 => ?_)
      · rw [if_pos c4] at hf
        refine lv_iinc (v := (x4 + 1)) (lv' := [(4, .int (x4 + 1)), (0, .ref r0), (1, .int x1), (2, .int x2), (3, .int x3)]) hx hb dX6_worst_73 hl (k := 4) rfl rfl (by decide) rfl (fun ls hl => ?_)
        refine lv_goto (tgt := 20) hx hb dX6_worst_76 (by decide) ?_
        exact ih _ _ _ hf _ _ _ hw (lv_sub hl [1, 2, 3, 4, 0] rfl)
      · rw [if_neg c4] at hf
        refine lv_aload_n hx hb dX6_worst_45 rfl (lv_at hl 0 rfl) ?_
        refine x_get E hw kin_X6 0 rfl rfl 2 (by decide) kF_X6_28 (v := .ref h0) rfl dX6_worst_46 ?_
        refine lv_iload_n hx hb dX6_worst_49 rfl (lv_at hl 3 rfl) ?_
        refine lv_iload hx hb dX6_worst_50 (lv_at hl 4 rfl) ?_
        obtain ⟨q5, hq5, hf⟩ := Option.bind_eq_some_iff.mp hf
        refine x_callV (isC := [1, 2, 3, 4]) (ws' := (wRL cI cZ cN cC r0 h0 h1 h2 h3 l0 d0 p0 e9 z0 y9 kps pts wrk out mem abv)) (st1 := [.int q5]) (As := [.int x3, .int x4]) (rest := []) E hw vc_X6_203 (c_X3_pairsLost (cI := cI) (cZ := cZ) (cN := cN) (cC := cC) (h0 := h0) (h1 := h1) (h2 := h2) (h3 := h3)  (pts := pts) (wrk := wrk) (out := out) (mem := mem) (abv := abv) (x1 := x3) (x2 := x4) hq5) 1 3 rfl rfl rfl rfl rfl rfl rfl rfl rfl ⟨Nat.le_of_ble_eq_true rfl, Nat.le_of_ble_eq_true rfl⟩ ⟨Nat.le_refl _, Nat.le_refl _⟩ hl.1 rfl rfl (Nat.le_of_ble_eq_true rfl) dX6_worst_52 (fun H locs hw => ?_)
        refine lv_istore (lv' := [(5, .int q5), (0, .ref r0), (1, .int x1), (2, .int x2), (3, .int x3), (4, .int x4)]) hx hb dX6_worst_55 hl (by decide) rfl (fun ls hl => ?_)
        refine lv_iload hx hb dX6_worst_57 (lv_at hl 0 rfl) ?_
        refine lv_iload_n hx hb dX6_worst_59 rfl (lv_at hl 3 rfl) ?_
        refine lv_icmp_le (tgt := 73) hx hb dX6_worst_60 (by decide) (fun c6 => ?_) (fun c6 => ?_)
        · rw [if_pos c6] at hf
          refine lv_iinc (v := (x4 + 1)) (lv' := [(4, .int (x4 + 1)), (5, .int q5), (0, .ref r0), (1, .int x1), (2, .int x2), (3, .int x3)]) hx hb dX6_worst_73 hl (k := 5) rfl rfl (by decide) rfl (fun ls hl => ?_)
          refine lv_goto (tgt := 20) hx hb dX6_worst_76 (by decide) ?_
          exact ih _ _ _ hf _ _ _ hw (lv_sub hl [2, 3, 4, 5, 0] rfl)
        · rw [if_neg c6] at hf
          refine lv_iload hx hb dX6_worst_63 (lv_at hl 0 rfl) ?_
          refine lv_istore_n (lv' := [(2, .int q5), (5, .int q5), (0, .ref r0), (1, .int x1), (3, .int x3), (4, .int x4)]) hx hb dX6_worst_65 rfl hl (by decide) rfl (fun ls hl => ?_)
          refine lv_iload_n hx hb dX6_worst_66 rfl (lv_at hl 4 rfl) ?_
          refine lv_iload hx hb dX6_worst_67 (lv_at hl 5 rfl) ?_
          refine x_callS (isC := []) (ws' := (wRL cI cZ cN cC r0 h0 h1 h2 h3 l0 d0 p0 e9 z0 y9 kps pts wrk out mem abv)) (st1 := [.int (f_X6_tell x3 x4)]) (As := [.int x3, .int x4]) (rest := []) E hw vc_X6_189 (c_X6_tell (cI := cI) (cZ := cZ) (cN := cN) (cC := cC)    (x0 := x3) (x1 := x4) rfl) rfl rfl rfl rfl rfl rfl ⟨Nat.le_of_ble_eq_true rfl, Nat.le_of_ble_eq_true rfl⟩ ⟨Nat.le_refl _, Nat.le_refl _⟩ hl.1 rfl rfl (Nat.le_of_ble_eq_true rfl) dX6_worst_69 (fun H locs hw => ?_)
          refine lv_istore_n (lv' := [(1, .int (f_X6_tell x3 x4)), (2, .int q5), (5, .int q5), (0, .ref r0), (3, .int x3), (4, .int x4)]) hx hb dX6_worst_72 rfl hl (by decide) rfl (fun ls hl => ?_)
          refine lv_iinc (v := (x4 + 1)) (lv' := [(4, .int (x4 + 1)), (1, .int (f_X6_tell x3 x4)), (2, .int q5), (5, .int q5), (0, .ref r0), (3, .int x3)]) hx hb dX6_worst_73 hl (k := 5) rfl rfl (by decide) rfl (fun ls hl => ?_)
          refine lv_goto (tgt := 20) hx hb dX6_worst_76 (by decide) ?_
          exact ih _ _ _ hf _ _ _ hw (lv_sub hl [4, 1, 2, 5, 0] rfl)
def f_X6_worst_6 (N : Nat) (pts : Int32) (out : (Nat → Int32)) (mem : (Nat → Int32)) (abv : (Nat → Int32)) : Nat → Int32 → Int32 → Int32 → Option (Int32)
  | 0, _, _, _ => none
  | n + 1, x1, x2, x3 =>
    if pts ≤ x3 then
     some x1
    else
     f_X6_worst_20 (fun x1 x2 x3 => f_X6_worst_6 N pts out mem abv n x1 x2 x3) N x3 pts out mem abv N x1 x2 0
set_option maxHeartbeats 4000000 in
set_option maxRecDepth 100000 in
theorem b_X6_worst_6 {p : Program} {l : Launch} {e : Env} {s : State} {m : MethodId} {args : Array Value} {below : List Frame} {meth : Method} {c : Code} {D : va_G} {cI cZ cN cC : ClassId} {ws0 : va_W} {r0 h0 h1 h2 h3 l0 d0 p0 e9 z0 y9 : Nat} {kps : Int32} {pts : Int32} {wrk : Int32} {out : (Nat → Int32)} {mem : (Nat → Int32)} {abv : (Nat → Int32)} {N : Nat} {res : Int32} (E : xE p s m args meth c cX6_worst 6 (some .int) RX6 D (xtys cI cZ cN cC) (xA ws0)) : ∀ (n : Nat) (x1 : Int32) (x2 : Int32) (x3 : Int32), f_X6_worst_6 N pts out mem abv n x1 x2 x3 = some res → ∀ (H : Heap) (locs : List Loc) (ls : Array Slot), xw D (xA ws0) s.heap (wRL cI cZ cN cC r0 h0 h1 h2 h3 l0 d0 p0 e9 z0 y9 kps pts wrk out mem abv) H locs → lv_has ls 6 [(0, .ref r0), (1, .int x1), (2, .int x2), (3, .int x3)] → xG p l e 4 92 s m args below meth c D ws0 (wRL cI cZ cN cC r0 h0 h1 h2 h3 l0 d0 p0 e9 z0 y9 kps pts wrk out mem abv) (some (.int res)) H locs (F0 m 6 ls []) := by
  obtain ⟨hx, hb, -⟩ := id E
  intro n
  induction n with
  | zero =>
    intro _ _ _ hf
    rw [f_X6_worst_6] at hf; cases hf
  | succ n ih =>
    intro x1 x2 x3 hf H locs ls hw hl
    rw [f_X6_worst_6] at hf
    refine lv_iload_n hx hb dX6_worst_6 rfl (lv_at hl 3 rfl) ?_
    refine lv_aload_n hx hb dX6_worst_7 rfl (lv_at hl 0 rfl) ?_
    refine x_get E hw kin_X6 0 rfl rfl 2 (by decide) kF_X6_28 (v := .ref h0) rfl dX6_worst_8 ?_
    refine x_get E hw kin_X3 1 rfl rfl 0 (by decide) kF_X6_68 (v := .int pts) rfl dX6_worst_11 ?_
    refine lv_icmp_ge (tgt := 85) hx hb dX6_worst_14 (by decide) (fun c1 => ?_) (fun c1 => ?_)
    · rw [if_pos c1] at hf
      refine lv_iload_n hx hb dX6_worst_85 rfl (lv_at hl 1 rfl) ?_
      have hf := Option.some.inj hf; subst hf
      exact x_iret E hw dX6_worst_86
    · rw [if_neg c1] at hf
      refine lv_iconst (v := 0) hx hb dX6_worst_17 (by decide) ?_
      refine lv_istore (lv' := [(4, .int 0), (0, .ref r0), (1, .int x1), (2, .int x2), (3, .int x3)]) hx hb dX6_worst_18 hl (by decide) rfl (fun ls hl => ?_)
      exact b_X6_worst_20 E ih N _ _ _ hf _ _ _ hw (lv_sub hl [1, 2, 3, 4, 0] rfl)
def f_X6_worst (N : Nat) (pts : Int32) (out : (Nat → Int32)) (mem : (Nat → Int32)) (abv : (Nat → Int32)) : Option (Int32) :=
  f_X6_worst_6 N pts out mem abv N (-1) (-1) 0
set_option maxHeartbeats 4000000 in
set_option maxRecDepth 100000 in
theorem c_X6_worst {l : Launch} {D : va_G} {cI cZ cN cC : ClassId} {r0 h0 h1 h2 h3 l0 d0 p0 e9 z0 y9 : Nat} {kps : Int32} {pts : Int32} {wrk : Int32} {out : (Nat → Int32)} {mem : (Nat → Int32)} {abv : (Nat → Int32)}  {N : Nat} {res : Int32} (hf : f_X6_worst N pts out mem abv = some res) : xMet l D (xtys cI cZ cN cC) yX6_worst cX6_worst 6 (some .int) 4 92 [.ref r0] (wRL cI cZ cN cC r0 h0 h1 h2 h3 l0 d0 p0 e9 z0 y9 kps pts wrk out mem abv) (wRL cI cZ cN cC r0 h0 h1 h2 h3 l0 d0 p0 e9 z0 y9 kps pts wrk out mem abv) (some (.int res)) := by
  refine x_enter (by decide) (Nat.le_of_ble_eq_true rfl) ?_
  intro p e s m args below meth c E ls hl hw
  have E : xE p s m args meth c cX6_worst 6 (some .int) RX6 D (xtys cI cZ cN cC) (xA (wRL cI cZ cN cC r0 h0 h1 h2 h3 l0 d0 p0 e9 z0 y9 kps pts wrk out mem abv)) := E
  obtain ⟨hx, hb, -⟩ := id E
  have hl : lv_has ls 6 [(0, .ref r0)] := hl
  unfold f_X6_worst at hf
  refine lv_iconst (v := (-1)) hx hb dX6_worst_0 (by decide) ?_
  refine lv_istore_n (lv' := [(1, .int (-1)), (0, .ref r0)]) hx hb dX6_worst_1 rfl hl (by decide) rfl (fun ls hl => ?_)
  refine lv_iconst (v := (-1)) hx hb dX6_worst_2 (by decide) ?_
  refine lv_istore_n (lv' := [(2, .int (-1)), (1, .int (-1)), (0, .ref r0)]) hx hb dX6_worst_3 rfl hl (by decide) rfl (fun ls hl => ?_)
  refine lv_iconst (v := 0) hx hb dX6_worst_4 (by decide) ?_
  refine lv_istore_n (lv' := [(3, .int 0), (2, .int (-1)), (1, .int (-1)), (0, .ref r0)]) hx hb dX6_worst_5 rfl hl (by decide) rfl (fun ls hl => ?_)
  exact b_X6_worst_6 E N _ _ _ hf _ _ _ hw (lv_sub hl [3, 2, 1, 0] rfl)

def f_X6_putIfNew (N : Nat) (x1 : Int32) (x2 : Int32) (pts : Int32) (wrk : Int32) (out : (Nat → Int32)) (mem : (Nat → Int32)) (abv : (Nat → Int32)) : Option (Int32 × (Nat → Int32) × (Nat → Int32) × (Nat → Int32)) :=
  (f_X3_hasArc x1 x2 out).bind fun q1 =>
  if q1 = 0 then
   (f_X3_arcs N pts out).bind fun q3 =>
   if 40 ≤ q3 then
    some (wrk, out, mem, abv)
   else
    (f_X3_putIn N x1 x2 pts wrk out mem abv).bind fun q5 =>
    some (q5.1, q5.2.1, q5.2.2.1, q5.2.2.2)
  else
   some (wrk, out, mem, abv)
set_option maxHeartbeats 4000000 in
set_option maxRecDepth 100000 in
theorem c_X6_putIfNew {l : Launch} {D : va_G} {cI cZ cN cC : ClassId} {r0 h0 h1 h2 h3 l0 d0 p0 e9 z0 y9 : Nat} {kps : Int32} {pts : Int32} {wrk : Int32} {out : (Nat → Int32)} {mem : (Nat → Int32)} {abv : (Nat → Int32)} {x1 : Int32} {x2 : Int32} {N : Nat} {res : Int32 × (Nat → Int32) × (Nat → Int32) × (Nat → Int32)} (hf : f_X6_putIfNew N x1 x2 pts wrk out mem abv = some res) : xMet l D (xtys cI cZ cN cC) yX6_putIfNew cX6_putIfNew 3 none 30 723 [.ref r0, .int x1, .int x2] (wRL cI cZ cN cC r0 h0 h1 h2 h3 l0 d0 p0 e9 z0 y9 kps pts wrk out mem abv) (wRL cI cZ cN cC r0 h0 h1 h2 h3 l0 d0 p0 e9 z0 y9 kps pts res.1 res.2.1 res.2.2.1 res.2.2.2) none := by
  refine x_enter (by decide) (Nat.le_of_ble_eq_true rfl) ?_
  intro p e s m args below meth c E ls hl hw
  have E : xE p s m args meth c cX6_putIfNew 3 none RX6 D (xtys cI cZ cN cC) (xA (wRL cI cZ cN cC r0 h0 h1 h2 h3 l0 d0 p0 e9 z0 y9 kps pts wrk out mem abv)) := E
  obtain ⟨hx, hb, -⟩ := id E
  have hl : lv_has ls 3 [(0, .ref r0), (1, .int x1), (2, .int x2)] := hl
  unfold f_X6_putIfNew at hf
  refine lv_aload_n hx hb dX6_putIfNew_0 rfl (lv_at hl 0 rfl) ?_
  refine x_get E hw kin_X6 0 rfl rfl 2 (by decide) kF_X6_28 (v := .ref h0) rfl dX6_putIfNew_1 ?_
  refine lv_iload_n hx hb dX6_putIfNew_4 rfl (lv_at hl 1 rfl) ?_
  refine lv_iload_n hx hb dX6_putIfNew_5 rfl (lv_at hl 2 rfl) ?_
  obtain ⟨q1, hq1, hf⟩ := Option.bind_eq_some_iff.mp hf
  refine x_callV (isC := [1, 2, 3, 4]) (ws' := (wRL cI cZ cN cC r0 h0 h1 h2 h3 l0 d0 p0 e9 z0 y9 kps pts wrk out mem abv)) (st1 := [.int q1]) (As := [.int x1, .int x2]) (rest := []) E hw vc_X6_102 (c_X3_hasArc (cI := cI) (cZ := cZ) (cN := cN) (cC := cC) (h0 := h0) (h1 := h1) (h2 := h2) (h3 := h3)  (pts := pts) (wrk := wrk) (out := out) (mem := mem) (abv := abv) (x1 := x1) (x2 := x2) hq1) 1 3 rfl rfl rfl rfl rfl rfl rfl rfl rfl ⟨Nat.le_of_ble_eq_true rfl, Nat.le_of_ble_eq_true rfl⟩ ⟨Nat.le_refl _, Nat.le_refl _⟩ hl.1 rfl rfl (Nat.le_of_ble_eq_true rfl) dX6_putIfNew_6 (fun H locs hw => ?_)
  refine lv_if_ne (tgt := 33) hx hb dX6_putIfNew_9 (by decide) (fun c2 => ?_) (fun c2 => ?_)
  · rw [if_neg c2] at hf
    have hf := Option.some.inj hf; subst hf
    exact x_vret E hw dX6_putIfNew_33
  · rw [if_pos c2] at hf
    refine lv_aload_n hx hb dX6_putIfNew_12 rfl (lv_at hl 0 rfl) ?_
    refine x_get E hw kin_X6 0 rfl rfl 2 (by decide) kF_X6_28 (v := .ref h0) rfl dX6_putIfNew_13 ?_
    obtain ⟨q3, hq3, hf⟩ := Option.bind_eq_some_iff.mp hf
    refine x_callV (isC := [1, 2, 3, 4]) (ws' := (wRL cI cZ cN cC r0 h0 h1 h2 h3 l0 d0 p0 e9 z0 y9 kps pts wrk out mem abv)) (st1 := [.int q3]) (As := []) (rest := []) E hw vc_X6_106 (c_X3_arcs (cI := cI) (cZ := cZ) (cN := cN) (cC := cC) (h0 := h0) (h1 := h1) (h2 := h2) (h3 := h3)  (pts := pts) (wrk := wrk) (out := out) (mem := mem) (abv := abv)  hq3) 1 3 rfl rfl rfl rfl rfl rfl rfl rfl rfl ⟨Nat.le_of_ble_eq_true rfl, Nat.le_of_ble_eq_true rfl⟩ ⟨Nat.le_refl _, Nat.le_refl _⟩ hl.1 rfl rfl (Nat.le_of_ble_eq_true rfl) dX6_putIfNew_16 (fun H locs hw => ?_)
    refine lv_bipush (v := 40) hx hb dX6_putIfNew_19 (by decide) ?_
    refine lv_icmp_ge (tgt := 33) hx hb dX6_putIfNew_21 (by decide) (fun c4 => ?_) (fun c4 => ?_)
    · rw [if_pos c4] at hf
      have hf := Option.some.inj hf; subst hf
      exact x_vret E hw dX6_putIfNew_33
    · rw [if_neg c4] at hf
      refine lv_aload_n hx hb dX6_putIfNew_24 rfl (lv_at hl 0 rfl) ?_
      refine x_get E hw kin_X6 0 rfl rfl 2 (by decide) kF_X6_28 (v := .ref h0) rfl dX6_putIfNew_25 ?_
      refine lv_iload_n hx hb dX6_putIfNew_28 rfl (lv_at hl 1 rfl) ?_
      refine lv_iload_n hx hb dX6_putIfNew_29 rfl (lv_at hl 2 rfl) ?_
      obtain ⟨q5, hq5, hf⟩ := Option.bind_eq_some_iff.mp hf
      refine x_callV (isC := [1, 2, 3, 4]) (ws' := (wRL cI cZ cN cC r0 h0 h1 h2 h3 l0 d0 p0 e9 z0 y9 kps pts q5.1 q5.2.1 q5.2.2.1 q5.2.2.2)) (st1 := []) (As := [.int x1, .int x2]) (rest := []) E hw vc_X6_110 (c_X3_putIn (cI := cI) (cZ := cZ) (cN := cN) (cC := cC) (h0 := h0) (h1 := h1) (h2 := h2) (h3 := h3)  (pts := pts) (wrk := wrk) (out := out) (mem := mem) (abv := abv) (x1 := x1) (x2 := x2) hq5) 1 3 rfl rfl rfl rfl rfl rfl rfl rfl rfl ⟨Nat.le_of_ble_eq_true rfl, Nat.le_of_ble_eq_true rfl⟩ ⟨Nat.le_refl _, Nat.le_refl _⟩ hl.1 rfl rfl (Nat.le_of_ble_eq_true rfl) dX6_putIfNew_30 (fun H locs hw => ?_)
      have hf := Option.some.inj hf; subst hf
      exact x_vret E hw dX6_putIfNew_33

def f_X6_fault (N : Nat) (tso : Int32) (tst : Int32) (knd : (Nat → Int32)) (nbs : (Nat → Int32)) (len : Int32) (txt : (Nat → Int32)) (pts : Int32) : Option (Int32 × Int32 × Int32 × Int32 × Int32 × (Nat → Int32) × (Nat → Int32)) :=
  (f_X5_readAll N pts tso tst knd nbs len txt).bind fun q1 =>
  some (q1.1, q1.2.1, q1.2.2.1, q1.2.2.2.1, q1.2.2.2.2.1, q1.2.2.2.2.2.1, q1.2.2.2.2.2.2)
set_option maxHeartbeats 4000000 in
set_option maxRecDepth 100000 in
theorem c_X6_fault {l : Launch} {D : va_G} {cI cZ cN cC : ClassId} {r0 d0 d1 d2 l0 l1 h0 h1 h2 h3 p0 e9 z0 y9 : Nat} {kps : Int32} {ncl : Int32} {tso : Int32} {tst : Int32} {ten : Int32} {knd : (Nat → Int32)} {nbs : (Nat → Int32)} {len : Int32} {txt : (Nat → Int32)} {pts : Int32} {wrk : Int32} {out : (Nat → Int32)} {mem : (Nat → Int32)} {abv : (Nat → Int32)}  {N : Nat} {res : Int32 × Int32 × Int32 × Int32 × Int32 × (Nat → Int32) × (Nat → Int32)} (hf : f_X6_fault N tso tst knd nbs len txt pts = some res) : xMet l D (xtys cI cZ cN cC) yX6_fault cX6_fault 1 (some .int) 8 174 [.ref r0] (wRF cI cZ cN cC r0 d0 d1 d2 l0 l1 h0 h1 h2 h3 p0 e9 z0 y9 kps ncl tso tst ten knd nbs len txt pts wrk out mem abv) (wRF cI cZ cN cC r0 d0 d1 d2 l0 l1 h0 h1 h2 h3 p0 e9 z0 y9 kps res.2.1 res.2.2.1 res.2.2.2.1 res.2.2.2.2.1 res.2.2.2.2.2.1 res.2.2.2.2.2.2 len txt pts wrk out mem abv) (some (.int res.1)) := by
  refine x_enter (by decide) (Nat.le_of_ble_eq_true rfl) ?_
  intro p e s m args below meth c E ls hl hw
  have E : xE p s m args meth c cX6_fault 1 (some .int) RX6 D (xtys cI cZ cN cC) (xA (wRF cI cZ cN cC r0 d0 d1 d2 l0 l1 h0 h1 h2 h3 p0 e9 z0 y9 kps ncl tso tst ten knd nbs len txt pts wrk out mem abv)) := E
  obtain ⟨hx, hb, -⟩ := id E
  have hl : lv_has ls 1 [(0, .ref r0)] := hl
  unfold f_X6_fault at hf
  refine lv_aload_n hx hb dX6_fault_0 rfl (lv_at hl 0 rfl) ?_
  refine x_get E hw kin_X6 0 rfl rfl 1 (by decide) kF_X6_21 (v := .ref d0) rfl dX6_fault_1 ?_
  refine lv_aload_n hx hb dX6_fault_4 rfl (lv_at hl 0 rfl) ?_
  refine x_get E hw kin_X6 0 rfl rfl 2 (by decide) kF_X6_28 (v := .ref h0) rfl dX6_fault_5 ?_
  refine x_get E hw kin_X3 6 rfl rfl 0 (by decide) kF_X6_68 (v := .int pts) rfl dX6_fault_8 ?_
  obtain ⟨q1, hq1, hf⟩ := Option.bind_eq_some_iff.mp hf
  refine x_callV (isC := [1, 2, 3, 4, 5]) (ws' := (wRF cI cZ cN cC r0 d0 d1 d2 l0 l1 h0 h1 h2 h3 p0 e9 z0 y9 kps q1.2.1 q1.2.2.1 q1.2.2.2.1 q1.2.2.2.2.1 q1.2.2.2.2.2.1 q1.2.2.2.2.2.2 len txt pts wrk out mem abv)) (st1 := [.int q1.1]) (As := [.int pts]) (rest := []) E hw vc_X6_71 (c_X5_readAll (cI := cI) (cZ := cZ) (cN := cN) (cC := cC) (h0 := d0) (h1 := d1) (h2 := d2) (k0 := l0) (k1 := l1)  (ncl := ncl) (tso := tso) (tst := tst) (ten := ten) (knd := knd) (nbs := nbs) (len := len) (txt := txt) (x1 := pts) hq1) 1 5 rfl rfl rfl rfl rfl rfl rfl rfl rfl ⟨Nat.le_of_ble_eq_true rfl, Nat.le_of_ble_eq_true rfl⟩ ⟨Nat.le_refl _, Nat.le_refl _⟩ hl.1 rfl rfl (Nat.le_of_ble_eq_true rfl) dX6_fault_11 (fun H locs hw => ?_)
  have hf := Option.some.inj hf; subst hf
  exact x_iret E hw dX6_fault_14

def f_X6_doClause (N : Nat) (x1 : Int32) (knd : (Nat → Int32)) (nbs : (Nat → Int32)) (pts : Int32) (wrk : Int32) (out : (Nat → Int32)) (mem : (Nat → Int32)) (abv : (Nat → Int32)) : Option (Int32 × Int32 × (Nat → Int32) × (Nat → Int32) × (Nat → Int32)) :=
  (f_X5_numberOf x1 0 nbs).bind fun q1 =>
  (f_X5_numberOf x1 1 nbs).bind fun q2 =>
  (f_X5_numberOf x1 2 nbs).bind fun q3 =>
  if xin x1 24 then
  if Int32.toInt (knd (Int32.toNatClampNeg x1)) < 0 ∨ 3 < Int32.toInt (knd (Int32.toNatClampNeg x1)) then
   (f_X6_putIfNew N q1 q2 pts wrk out mem abv).bind fun q5 =>
   (f_X6_putIfNew N q1 q3 pts q5.1 q5.2.1 q5.2.2.1 q5.2.2.2).bind fun q6 =>
   some (pts, q6.1, q6.2.1, q6.2.2.1, q6.2.2.2)
  else if (knd (Int32.toNatClampNeg x1)) = 0 then
   (f_X3_makeEmpty N q1 out mem abv).bind fun q7 =>
   some (q7.1, q7.2.1, q7.2.2.1, q7.2.2.2.1, q7.2.2.2.2)
  else if (knd (Int32.toNatClampNeg x1)) = 1 then
   (f_X6_putIfNew N q1 q2 pts wrk out mem abv).bind fun q8 =>
   some (pts, q8.1, q8.2.1, q8.2.2.1, q8.2.2.2)
  else if (knd (Int32.toNatClampNeg x1)) = 2 then
   (f_X6_putIfNew N q1 q2 pts wrk out mem abv).bind fun q9 =>
   (f_X6_putIfNew N q2 q3 pts q9.1 q9.2.1 q9.2.2.1 q9.2.2.2).bind fun q10 =>
   (f_X6_putIfNew N q3 q1 pts q10.1 q10.2.1 q10.2.2.1 q10.2.2.2).bind fun q11 =>
   some (pts, q11.1, q11.2.1, q11.2.2.1, q11.2.2.2)
  else
   (f_X6_putIfNew N q1 q2 pts wrk out mem abv).bind fun q12 =>
   (f_X6_putIfNew N q2 q3 pts q12.1 q12.2.1 q12.2.2.1 q12.2.2.2).bind fun q13 =>
   some (pts, q13.1, q13.2.1, q13.2.2.1, q13.2.2.2)
  else none
set_option maxHeartbeats 4000000 in
set_option maxRecDepth 100000 in
theorem c_X6_doClause {l : Launch} {D : va_G} {cI cZ cN cC : ClassId} {r0 d0 d1 d2 l0 l1 h0 h1 h2 h3 p0 e9 z0 y9 : Nat} {kps : Int32} {ncl : Int32} {tso : Int32} {tst : Int32} {ten : Int32} {knd : (Nat → Int32)} {nbs : (Nat → Int32)} {len : Int32} {txt : (Nat → Int32)} {pts : Int32} {wrk : Int32} {out : (Nat → Int32)} {mem : (Nat → Int32)} {abv : (Nat → Int32)} {x1 : Int32} {N : Nat} {res : Int32 × Int32 × (Nat → Int32) × (Nat → Int32) × (Nat → Int32)} (hf : f_X6_doClause N x1 knd nbs pts wrk out mem abv = some res) : xMet l D (xtys cI cZ cN cC) yX6_doClause cX6_doClause 5 none 31 745 [.ref r0, .int x1] (wRF cI cZ cN cC r0 d0 d1 d2 l0 l1 h0 h1 h2 h3 p0 e9 z0 y9 kps ncl tso tst ten knd nbs len txt pts wrk out mem abv) (wRF cI cZ cN cC r0 d0 d1 d2 l0 l1 h0 h1 h2 h3 p0 e9 z0 y9 kps ncl tso tst ten knd nbs len txt res.1 res.2.1 res.2.2.1 res.2.2.2.1 res.2.2.2.2) none := by
  refine x_enter (by decide) (Nat.le_of_ble_eq_true rfl) ?_
  intro p e s m args below meth c E ls hl hw
  have E : xE p s m args meth c cX6_doClause 5 none RX6 D (xtys cI cZ cN cC) (xA (wRF cI cZ cN cC r0 d0 d1 d2 l0 l1 h0 h1 h2 h3 p0 e9 z0 y9 kps ncl tso tst ten knd nbs len txt pts wrk out mem abv)) := E
  obtain ⟨hx, hb, -⟩ := id E
  have hl : lv_has ls 5 [(0, .ref r0), (1, .int x1)] := hl
  unfold f_X6_doClause at hf
  refine lv_aload_n hx hb dX6_doClause_0 rfl (lv_at hl 0 rfl) ?_
  refine x_get E hw kin_X6 0 rfl rfl 1 (by decide) kF_X6_21 (v := .ref d0) rfl dX6_doClause_1 ?_
  refine lv_iload_n hx hb dX6_doClause_4 rfl (lv_at hl 1 rfl) ?_
  refine lv_iconst (v := 0) hx hb dX6_doClause_5 (by decide) ?_
  obtain ⟨q1, hq1, hf⟩ := Option.bind_eq_some_iff.mp hf
  refine x_callV (isC := [1, 2, 3, 4, 5]) (ws' := (wRF cI cZ cN cC r0 d0 d1 d2 l0 l1 h0 h1 h2 h3 p0 e9 z0 y9 kps ncl tso tst ten knd nbs len txt pts wrk out mem abv)) (st1 := [.int q1]) (As := [.int x1, .int 0]) (rest := []) E hw vc_X6_88 (c_X5_numberOf (cI := cI) (cZ := cZ) (cN := cN) (cC := cC) (h0 := d0) (h1 := d1) (h2 := d2) (k0 := l0) (k1 := l1)  (ncl := ncl) (tso := tso) (tst := tst) (ten := ten) (knd := knd) (nbs := nbs) (len := len) (txt := txt) (x1 := x1) (x2 := 0) hq1) 1 5 rfl rfl rfl rfl rfl rfl rfl rfl rfl ⟨Nat.le_of_ble_eq_true rfl, Nat.le_of_ble_eq_true rfl⟩ ⟨Nat.le_refl _, Nat.le_refl _⟩ hl.1 rfl rfl (Nat.le_of_ble_eq_true rfl) dX6_doClause_6 (fun H locs hw => ?_)
  refine lv_istore_n (lv' := [(2, .int q1), (0, .ref r0), (1, .int x1)]) hx hb dX6_doClause_9 rfl hl (by decide) rfl (fun ls hl => ?_)
  refine lv_aload_n hx hb dX6_doClause_10 rfl (lv_at hl 1 rfl) ?_
  refine x_get E hw kin_X6 0 rfl rfl 1 (by decide) kF_X6_21 (v := .ref d0) rfl dX6_doClause_11 ?_
  refine lv_iload_n hx hb dX6_doClause_14 rfl (lv_at hl 2 rfl) ?_
  refine lv_iconst (v := 1) hx hb dX6_doClause_15 (by decide) ?_
  obtain ⟨q2, hq2, hf⟩ := Option.bind_eq_some_iff.mp hf
  refine x_callV (isC := [1, 2, 3, 4, 5]) (ws' := (wRF cI cZ cN cC r0 d0 d1 d2 l0 l1 h0 h1 h2 h3 p0 e9 z0 y9 kps ncl tso tst ten knd nbs len txt pts wrk out mem abv)) (st1 := [.int q2]) (As := [.int x1, .int 1]) (rest := []) E hw vc_X6_88 (c_X5_numberOf (cI := cI) (cZ := cZ) (cN := cN) (cC := cC) (h0 := d0) (h1 := d1) (h2 := d2) (k0 := l0) (k1 := l1)  (ncl := ncl) (tso := tso) (tst := tst) (ten := ten) (knd := knd) (nbs := nbs) (len := len) (txt := txt) (x1 := x1) (x2 := 1) hq2) 1 5 rfl rfl rfl rfl rfl rfl rfl rfl rfl ⟨Nat.le_of_ble_eq_true rfl, Nat.le_of_ble_eq_true rfl⟩ ⟨Nat.le_refl _, Nat.le_refl _⟩ hl.1 rfl rfl (Nat.le_of_ble_eq_true rfl) dX6_doClause_16 (fun H locs hw => ?_)
  refine lv_istore_n (lv' := [(3, .int q2), (2, .int q1), (0, .ref r0), (1, .int x1)]) hx hb dX6_doClause_19 rfl hl (by decide) rfl (fun ls hl => ?_)
  refine lv_aload_n hx hb dX6_doClause_20 rfl (lv_at hl 2 rfl) ?_
  refine x_get E hw kin_X6 0 rfl rfl 1 (by decide) kF_X6_21 (v := .ref d0) rfl dX6_doClause_21 ?_
  refine lv_iload_n hx hb dX6_doClause_24 rfl (lv_at hl 3 rfl) ?_
  refine lv_iconst (v := 2) hx hb dX6_doClause_25 (by decide) ?_
  obtain ⟨q3, hq3, hf⟩ := Option.bind_eq_some_iff.mp hf
  refine x_callV (isC := [1, 2, 3, 4, 5]) (ws' := (wRF cI cZ cN cC r0 d0 d1 d2 l0 l1 h0 h1 h2 h3 p0 e9 z0 y9 kps ncl tso tst ten knd nbs len txt pts wrk out mem abv)) (st1 := [.int q3]) (As := [.int x1, .int 2]) (rest := []) E hw vc_X6_88 (c_X5_numberOf (cI := cI) (cZ := cZ) (cN := cN) (cC := cC) (h0 := d0) (h1 := d1) (h2 := d2) (k0 := l0) (k1 := l1)  (ncl := ncl) (tso := tso) (tst := tst) (ten := ten) (knd := knd) (nbs := nbs) (len := len) (txt := txt) (x1 := x1) (x2 := 2) hq3) 1 5 rfl rfl rfl rfl rfl rfl rfl rfl rfl ⟨Nat.le_of_ble_eq_true rfl, Nat.le_of_ble_eq_true rfl⟩ ⟨Nat.le_refl _, Nat.le_refl _⟩ hl.1 rfl rfl (Nat.le_of_ble_eq_true rfl) dX6_doClause_26 (fun H locs hw => ?_)
  refine lv_istore (lv' := [(4, .int q3), (3, .int q2), (2, .int q1), (0, .ref r0), (1, .int x1)]) hx hb dX6_doClause_29 hl (by decide) rfl (fun ls hl => ?_)
  refine lv_aload_n hx hb dX6_doClause_31 rfl (lv_at hl 3 rfl) ?_
  refine x_get E hw kin_X6 0 rfl rfl 1 (by decide) kF_X6_21 (v := .ref d0) rfl dX6_doClause_32 ?_
  refine x_get E hw kin_X5 1 rfl rfl 1 (by decide) kF_X6_92 (v := .ref d1) rfl dX6_doClause_35 ?_
  refine lv_iload_n hx hb dX6_doClause_38 rfl (lv_at hl 4 rfl) ?_
  obtain ⟨g4, hf⟩ := xgd hf
  refine x_iald E hw 2 0 rfl rfl (xin_vp g4) dX6_doClause_39 ?_
  by_cases c0 : Int32.toInt (knd (Int32.toNatClampNeg x1)) < 0 ∨ 3 < Int32.toInt (knd (Int32.toNatClampNeg x1))
  · rw [if_pos c0] at hf
    refine lv_tableOut (tgt := 131) hx hb dX6_doClause_40 c0 (by decide) ?_
    refine lv_aload_n hx hb dX6_doClause_131 rfl (lv_at hl 3 rfl) ?_
    refine lv_iload_n hx hb dX6_doClause_132 rfl (lv_at hl 2 rfl) ?_
    refine lv_iload_n hx hb dX6_doClause_133 rfl (lv_at hl 1 rfl) ?_
    obtain ⟨q5, hq5, hf⟩ := Option.bind_eq_some_iff.mp hf
    refine x_callV (isC := [0, 6, 7, 8, 9]) (ws' := (wRF cI cZ cN cC r0 d0 d1 d2 l0 l1 h0 h1 h2 h3 p0 e9 z0 y9 kps ncl tso tst ten knd nbs len txt pts q5.1 q5.2.1 q5.2.2.1 q5.2.2.2)) (st1 := []) (As := [.int q1, .int q2]) (rest := []) E hw vc_X6_98 (c_X6_putIfNew (cI := cI) (cZ := cZ) (cN := cN) (cC := cC) (r0 := r0) (h0 := h0) (h1 := h1) (h2 := h2) (h3 := h3) (l0 := l0) (d0 := d0) (p0 := p0) (e9 := e9) (z0 := z0) (y9 := y9)  (kps := kps) (pts := pts) (wrk := wrk) (out := out) (mem := mem) (abv := abv) (x1 := q1) (x2 := q2) hq5) 0 6 rfl rfl rfl rfl rfl rfl rfl rfl rfl ⟨Nat.le_of_ble_eq_true rfl, Nat.le_of_ble_eq_true rfl⟩ ⟨Nat.le_refl _, Nat.le_refl _⟩ hl.1 rfl rfl (Nat.le_of_ble_eq_true rfl) dX6_doClause_134 (fun H locs hw => ?_)
    refine lv_aload_n hx hb dX6_doClause_137 rfl (lv_at hl 3 rfl) ?_
    refine lv_iload_n hx hb dX6_doClause_138 rfl (lv_at hl 2 rfl) ?_
    refine lv_iload hx hb dX6_doClause_139 (lv_at hl 0 rfl) ?_
    obtain ⟨q6, hq6, hf⟩ := Option.bind_eq_some_iff.mp hf
    refine x_callV (isC := [0, 6, 7, 8, 9]) (ws' := (wRF cI cZ cN cC r0 d0 d1 d2 l0 l1 h0 h1 h2 h3 p0 e9 z0 y9 kps ncl tso tst ten knd nbs len txt pts q6.1 q6.2.1 q6.2.2.1 q6.2.2.2)) (st1 := []) (As := [.int q1, .int q3]) (rest := []) E hw vc_X6_98 (c_X6_putIfNew (cI := cI) (cZ := cZ) (cN := cN) (cC := cC) (r0 := r0) (h0 := h0) (h1 := h1) (h2 := h2) (h3 := h3) (l0 := l0) (d0 := d0) (p0 := p0) (e9 := e9) (z0 := z0) (y9 := y9)  (kps := kps) (pts := pts) (wrk := q5.1) (out := q5.2.1) (mem := q5.2.2.1) (abv := q5.2.2.2) (x1 := q1) (x2 := q3) hq6) 0 6 rfl rfl rfl rfl rfl rfl rfl rfl rfl ⟨Nat.le_of_ble_eq_true rfl, Nat.le_of_ble_eq_true rfl⟩ ⟨Nat.le_refl _, Nat.le_refl _⟩ hl.1 rfl rfl (Nat.le_of_ble_eq_true rfl) dX6_doClause_141 (fun H locs hw => ?_)
    have hf := Option.some.inj hf; subst hf
    exact x_vret E hw dX6_doClause_144
  rw [if_neg c0] at hf
  by_cases c1 : (knd (Int32.toNatClampNeg x1)) = 0
  · rw [if_pos c1] at hf
    refine lv_tableIn (tgt := 72) hx hb dX6_doClause_40 (by rw [c1]; decide) (by rw [c1]; decide) (by rw [c1]; rfl) (by decide) ?_
    refine lv_aload_n hx hb dX6_doClause_72 rfl (lv_at hl 3 rfl) ?_
    refine x_get E hw kin_X6 0 rfl rfl 2 (by decide) kF_X6_28 (v := .ref h0) rfl dX6_doClause_73 ?_
    refine lv_iload_n hx hb dX6_doClause_76 rfl (lv_at hl 2 rfl) ?_
    obtain ⟨q7, hq7, hf⟩ := Option.bind_eq_some_iff.mp hf
    refine x_callV (isC := [6, 7, 8, 9]) (ws' := (wRF cI cZ cN cC r0 d0 d1 d2 l0 l1 h0 h1 h2 h3 p0 e9 z0 y9 kps ncl tso tst ten knd nbs len txt q7.1 q7.2.1 q7.2.2.1 q7.2.2.2.1 q7.2.2.2.2)) (st1 := []) (As := [.int q1]) (rest := []) E hw vc_X6_95 (c_X3_makeEmpty (cI := cI) (cZ := cZ) (cN := cN) (cC := cC) (h0 := h0) (h1 := h1) (h2 := h2) (h3 := h3)  (pts := pts) (wrk := wrk) (out := out) (mem := mem) (abv := abv) (x1 := q1) hq7) 6 3 rfl rfl rfl rfl rfl rfl rfl rfl rfl ⟨Nat.le_of_ble_eq_true rfl, Nat.le_of_ble_eq_true rfl⟩ ⟨Nat.le_refl _, Nat.le_refl _⟩ hl.1 rfl rfl (Nat.le_of_ble_eq_true rfl) dX6_doClause_77 (fun H locs hw => ?_)
    refine lv_goto (tgt := 144) hx hb dX6_doClause_80 (by decide) ?_
    have hf := Option.some.inj hf; subst hf
    exact x_vret E hw dX6_doClause_144
  rw [if_neg c1] at hf
  by_cases c2 : (knd (Int32.toNatClampNeg x1)) = 1
  · rw [if_pos c2] at hf
    refine lv_tableIn (tgt := 83) hx hb dX6_doClause_40 (by rw [c2]; decide) (by rw [c2]; decide) (by rw [c2]; rfl) (by decide) ?_
    refine lv_aload_n hx hb dX6_doClause_83 rfl (lv_at hl 3 rfl) ?_
    refine lv_iload_n hx hb dX6_doClause_84 rfl (lv_at hl 2 rfl) ?_
    refine lv_iload_n hx hb dX6_doClause_85 rfl (lv_at hl 1 rfl) ?_
    obtain ⟨q8, hq8, hf⟩ := Option.bind_eq_some_iff.mp hf
    refine x_callV (isC := [0, 6, 7, 8, 9]) (ws' := (wRF cI cZ cN cC r0 d0 d1 d2 l0 l1 h0 h1 h2 h3 p0 e9 z0 y9 kps ncl tso tst ten knd nbs len txt pts q8.1 q8.2.1 q8.2.2.1 q8.2.2.2)) (st1 := []) (As := [.int q1, .int q2]) (rest := []) E hw vc_X6_98 (c_X6_putIfNew (cI := cI) (cZ := cZ) (cN := cN) (cC := cC) (r0 := r0) (h0 := h0) (h1 := h1) (h2 := h2) (h3 := h3) (l0 := l0) (d0 := d0) (p0 := p0) (e9 := e9) (z0 := z0) (y9 := y9)  (kps := kps) (pts := pts) (wrk := wrk) (out := out) (mem := mem) (abv := abv) (x1 := q1) (x2 := q2) hq8) 0 6 rfl rfl rfl rfl rfl rfl rfl rfl rfl ⟨Nat.le_of_ble_eq_true rfl, Nat.le_of_ble_eq_true rfl⟩ ⟨Nat.le_refl _, Nat.le_refl _⟩ hl.1 rfl rfl (Nat.le_of_ble_eq_true rfl) dX6_doClause_86 (fun H locs hw => ?_)
    refine lv_goto (tgt := 144) hx hb dX6_doClause_89 (by decide) ?_
    have hf := Option.some.inj hf; subst hf
    exact x_vret E hw dX6_doClause_144
  rw [if_neg c2] at hf
  by_cases c3 : (knd (Int32.toNatClampNeg x1)) = 2
  · rw [if_pos c3] at hf
    refine lv_tableIn (tgt := 92) hx hb dX6_doClause_40 (by rw [c3]; decide) (by rw [c3]; decide) (by rw [c3]; rfl) (by decide) ?_
    refine lv_aload_n hx hb dX6_doClause_92 rfl (lv_at hl 3 rfl) ?_
    refine lv_iload_n hx hb dX6_doClause_93 rfl (lv_at hl 2 rfl) ?_
    refine lv_iload_n hx hb dX6_doClause_94 rfl (lv_at hl 1 rfl) ?_
    obtain ⟨q9, hq9, hf⟩ := Option.bind_eq_some_iff.mp hf
    refine x_callV (isC := [0, 6, 7, 8, 9]) (ws' := (wRF cI cZ cN cC r0 d0 d1 d2 l0 l1 h0 h1 h2 h3 p0 e9 z0 y9 kps ncl tso tst ten knd nbs len txt pts q9.1 q9.2.1 q9.2.2.1 q9.2.2.2)) (st1 := []) (As := [.int q1, .int q2]) (rest := []) E hw vc_X6_98 (c_X6_putIfNew (cI := cI) (cZ := cZ) (cN := cN) (cC := cC) (r0 := r0) (h0 := h0) (h1 := h1) (h2 := h2) (h3 := h3) (l0 := l0) (d0 := d0) (p0 := p0) (e9 := e9) (z0 := z0) (y9 := y9)  (kps := kps) (pts := pts) (wrk := wrk) (out := out) (mem := mem) (abv := abv) (x1 := q1) (x2 := q2) hq9) 0 6 rfl rfl rfl rfl rfl rfl rfl rfl rfl ⟨Nat.le_of_ble_eq_true rfl, Nat.le_of_ble_eq_true rfl⟩ ⟨Nat.le_refl _, Nat.le_refl _⟩ hl.1 rfl rfl (Nat.le_of_ble_eq_true rfl) dX6_doClause_95 (fun H locs hw => ?_)
    refine lv_aload_n hx hb dX6_doClause_98 rfl (lv_at hl 3 rfl) ?_
    refine lv_iload_n hx hb dX6_doClause_99 rfl (lv_at hl 1 rfl) ?_
    refine lv_iload hx hb dX6_doClause_100 (lv_at hl 0 rfl) ?_
    obtain ⟨q10, hq10, hf⟩ := Option.bind_eq_some_iff.mp hf
    refine x_callV (isC := [0, 6, 7, 8, 9]) (ws' := (wRF cI cZ cN cC r0 d0 d1 d2 l0 l1 h0 h1 h2 h3 p0 e9 z0 y9 kps ncl tso tst ten knd nbs len txt pts q10.1 q10.2.1 q10.2.2.1 q10.2.2.2)) (st1 := []) (As := [.int q2, .int q3]) (rest := []) E hw vc_X6_98 (c_X6_putIfNew (cI := cI) (cZ := cZ) (cN := cN) (cC := cC) (r0 := r0) (h0 := h0) (h1 := h1) (h2 := h2) (h3 := h3) (l0 := l0) (d0 := d0) (p0 := p0) (e9 := e9) (z0 := z0) (y9 := y9)  (kps := kps) (pts := pts) (wrk := q9.1) (out := q9.2.1) (mem := q9.2.2.1) (abv := q9.2.2.2) (x1 := q2) (x2 := q3) hq10) 0 6 rfl rfl rfl rfl rfl rfl rfl rfl rfl ⟨Nat.le_of_ble_eq_true rfl, Nat.le_of_ble_eq_true rfl⟩ ⟨Nat.le_refl _, Nat.le_refl _⟩ hl.1 rfl rfl (Nat.le_of_ble_eq_true rfl) dX6_doClause_102 (fun H locs hw => ?_)
    refine lv_aload_n hx hb dX6_doClause_105 rfl (lv_at hl 3 rfl) ?_
    refine lv_iload hx hb dX6_doClause_106 (lv_at hl 0 rfl) ?_
    refine lv_iload_n hx hb dX6_doClause_108 rfl (lv_at hl 2 rfl) ?_
    obtain ⟨q11, hq11, hf⟩ := Option.bind_eq_some_iff.mp hf
    refine x_callV (isC := [0, 6, 7, 8, 9]) (ws' := (wRF cI cZ cN cC r0 d0 d1 d2 l0 l1 h0 h1 h2 h3 p0 e9 z0 y9 kps ncl tso tst ten knd nbs len txt pts q11.1 q11.2.1 q11.2.2.1 q11.2.2.2)) (st1 := []) (As := [.int q3, .int q1]) (rest := []) E hw vc_X6_98 (c_X6_putIfNew (cI := cI) (cZ := cZ) (cN := cN) (cC := cC) (r0 := r0) (h0 := h0) (h1 := h1) (h2 := h2) (h3 := h3) (l0 := l0) (d0 := d0) (p0 := p0) (e9 := e9) (z0 := z0) (y9 := y9)  (kps := kps) (pts := pts) (wrk := q10.1) (out := q10.2.1) (mem := q10.2.2.1) (abv := q10.2.2.2) (x1 := q3) (x2 := q1) hq11) 0 6 rfl rfl rfl rfl rfl rfl rfl rfl rfl ⟨Nat.le_of_ble_eq_true rfl, Nat.le_of_ble_eq_true rfl⟩ ⟨Nat.le_refl _, Nat.le_refl _⟩ hl.1 rfl rfl (Nat.le_of_ble_eq_true rfl) dX6_doClause_109 (fun H locs hw => ?_)
    refine lv_goto (tgt := 144) hx hb dX6_doClause_112 (by decide) ?_
    have hf := Option.some.inj hf; subst hf
    exact x_vret E hw dX6_doClause_144
  rw [if_neg c3] at hf
  have c4 : (knd (Int32.toNatClampNeg x1)) = 3 := Int32.toInt_inj.mp (by
    have e1 := x_neL (k := 0) (by decide) c1
    have e2 := x_neL (k := 1) (by decide) c2
    have e3 := x_neL (k := 2) (by decide) c3
    show Int32.toInt (knd (Int32.toNatClampNeg x1)) = 3
    omega)
  refine lv_tableIn (tgt := 115) hx hb dX6_doClause_40 (by rw [c4]; decide) (by rw [c4]; decide) (by rw [c4]; rfl) (by decide) ?_
  refine lv_aload_n hx hb dX6_doClause_115 rfl (lv_at hl 3 rfl) ?_
  refine lv_iload_n hx hb dX6_doClause_116 rfl (lv_at hl 2 rfl) ?_
  refine lv_iload_n hx hb dX6_doClause_117 rfl (lv_at hl 1 rfl) ?_
  obtain ⟨q12, hq12, hf⟩ := Option.bind_eq_some_iff.mp hf
  refine x_callV (isC := [0, 6, 7, 8, 9]) (ws' := (wRF cI cZ cN cC r0 d0 d1 d2 l0 l1 h0 h1 h2 h3 p0 e9 z0 y9 kps ncl tso tst ten knd nbs len txt pts q12.1 q12.2.1 q12.2.2.1 q12.2.2.2)) (st1 := []) (As := [.int q1, .int q2]) (rest := []) E hw vc_X6_98 (c_X6_putIfNew (cI := cI) (cZ := cZ) (cN := cN) (cC := cC) (r0 := r0) (h0 := h0) (h1 := h1) (h2 := h2) (h3 := h3) (l0 := l0) (d0 := d0) (p0 := p0) (e9 := e9) (z0 := z0) (y9 := y9)  (kps := kps) (pts := pts) (wrk := wrk) (out := out) (mem := mem) (abv := abv) (x1 := q1) (x2 := q2) hq12) 0 6 rfl rfl rfl rfl rfl rfl rfl rfl rfl ⟨Nat.le_of_ble_eq_true rfl, Nat.le_of_ble_eq_true rfl⟩ ⟨Nat.le_refl _, Nat.le_refl _⟩ hl.1 rfl rfl (Nat.le_of_ble_eq_true rfl) dX6_doClause_118 (fun H locs hw => ?_)
  refine lv_aload_n hx hb dX6_doClause_121 rfl (lv_at hl 3 rfl) ?_
  refine lv_iload_n hx hb dX6_doClause_122 rfl (lv_at hl 1 rfl) ?_
  refine lv_iload hx hb dX6_doClause_123 (lv_at hl 0 rfl) ?_
  obtain ⟨q13, hq13, hf⟩ := Option.bind_eq_some_iff.mp hf
  refine x_callV (isC := [0, 6, 7, 8, 9]) (ws' := (wRF cI cZ cN cC r0 d0 d1 d2 l0 l1 h0 h1 h2 h3 p0 e9 z0 y9 kps ncl tso tst ten knd nbs len txt pts q13.1 q13.2.1 q13.2.2.1 q13.2.2.2)) (st1 := []) (As := [.int q2, .int q3]) (rest := []) E hw vc_X6_98 (c_X6_putIfNew (cI := cI) (cZ := cZ) (cN := cN) (cC := cC) (r0 := r0) (h0 := h0) (h1 := h1) (h2 := h2) (h3 := h3) (l0 := l0) (d0 := d0) (p0 := p0) (e9 := e9) (z0 := z0) (y9 := y9)  (kps := kps) (pts := pts) (wrk := q12.1) (out := q12.2.1) (mem := q12.2.2.1) (abv := q12.2.2.2) (x1 := q2) (x2 := q3) hq13) 0 6 rfl rfl rfl rfl rfl rfl rfl rfl rfl ⟨Nat.le_of_ble_eq_true rfl, Nat.le_of_ble_eq_true rfl⟩ ⟨Nat.le_refl _, Nat.le_refl _⟩ hl.1 rfl rfl (Nat.le_of_ble_eq_true rfl) dX6_doClause_125 (fun H locs hw => ?_)
  refine lv_goto (tgt := 144) hx hb dX6_doClause_128 (by decide) ?_
  have hf := Option.some.inj hf; subst hf
  exact x_vret E hw dX6_doClause_144

def f_X6_sever (N : Nat) (x1 : Int32) (x2 : Int32) (pts : Int32) (out : (Nat → Int32)) (usd : (Nat → Int32)) (usi : (Nat → Int32)) (cam : (Nat → Int32)) : Option (Int32 × (Nat → Int32) × (Nat → Int32) × (Nat → Int32)) :=
  if (f_X6_arePair x1 x2 pts) = 0 then
   some ((-2), usd, usi, cam)
  else
   (f_X1_fewestArcs N x1 x2 usd usi cam pts out).bind fun q2 =>
   some (q2.1, q2.2.1, q2.2.2.1, q2.2.2.2)
set_option maxHeartbeats 4000000 in
set_option maxRecDepth 100000 in
theorem c_X6_sever {l : Launch} {D : va_G} {cI cZ cN cC : ClassId} {r0 h0 h1 h2 h3 z0 z1 z2 z3 l0 d0 p0 e9 y9 : Nat} {kps : Int32} {pts : Int32} {wrk : Int32} {out : (Nat → Int32)} {mem : (Nat → Int32)} {abv : (Nat → Int32)} {usd : (Nat → Int32)} {usi : (Nat → Int32)} {cam : (Nat → Int32)} {x1 : Int32} {x2 : Int32} {N : Nat} {res : Int32 × (Nat → Int32) × (Nat → Int32) × (Nat → Int32)} (hf : f_X6_sever N x1 x2 pts out usd usi cam = some res) : xMet l D (xtys cI cZ cN cC) yX6_sever cX6_sever 3 (some .int) 4 93 [.ref r0, .int x1, .int x2] (wRC cI cZ cN cC r0 h0 h1 h2 h3 z0 z1 z2 z3 l0 d0 p0 e9 y9 kps pts wrk out mem abv usd usi cam) (wRC cI cZ cN cC r0 h0 h1 h2 h3 z0 z1 z2 z3 l0 d0 p0 e9 y9 kps pts wrk out mem abv res.2.1 res.2.2.1 res.2.2.2) (some (.int res.1)) := by
  refine x_enter (by decide) (Nat.le_of_ble_eq_true rfl) ?_
  intro p e s m args below meth c E ls hl hw
  have E : xE p s m args meth c cX6_sever 3 (some .int) RX6 D (xtys cI cZ cN cC) (xA (wRC cI cZ cN cC r0 h0 h1 h2 h3 z0 z1 z2 z3 l0 d0 p0 e9 y9 kps pts wrk out mem abv usd usi cam)) := E
  obtain ⟨hx, hb, -⟩ := id E
  have hl : lv_has ls 3 [(0, .ref r0), (1, .int x1), (2, .int x2)] := hl
  unfold f_X6_sever at hf
  refine lv_aload_n hx hb dX6_sever_0 rfl (lv_at hl 0 rfl) ?_
  refine lv_iload_n hx hb dX6_sever_1 rfl (lv_at hl 1 rfl) ?_
  refine lv_iload_n hx hb dX6_sever_2 rfl (lv_at hl 2 rfl) ?_
  refine x_callV (isC := [0, 1, 2, 3, 4]) (ws' := (wRC cI cZ cN cC r0 h0 h1 h2 h3 z0 z1 z2 z3 l0 d0 p0 e9 y9 kps pts wrk out mem abv usd usi cam)) (st1 := [.int (f_X6_arePair x1 x2 pts)]) (As := [.int x1, .int x2]) (rest := []) E hw vc_X6_113 (c_X6_arePair (cI := cI) (cZ := cZ) (cN := cN) (cC := cC) (r0 := r0) (h0 := h0) (h1 := h1) (h2 := h2) (h3 := h3) (l0 := l0) (d0 := d0) (p0 := p0) (e9 := e9) (z0 := z0) (y9 := y9)  (kps := kps) (pts := pts) (wrk := wrk) (out := out) (mem := mem) (abv := abv) (x1 := x1) (x2 := x2) rfl) 0 6 rfl rfl rfl rfl rfl rfl rfl rfl rfl ⟨Nat.le_of_ble_eq_true rfl, Nat.le_of_ble_eq_true rfl⟩ ⟨Nat.le_refl _, Nat.le_refl _⟩ hl.1 rfl rfl (Nat.le_of_ble_eq_true rfl) dX6_sever_3 (fun H locs hw => ?_)
  refine lv_if_ne (tgt := 12) hx hb dX6_sever_6 (by decide) (fun c1 => ?_) (fun c1 => ?_)
  · rw [if_neg c1] at hf
    refine lv_aload_n hx hb dX6_sever_12 rfl (lv_at hl 0 rfl) ?_
    refine x_get E hw kin_X6 0 rfl rfl 6 (by decide) kF_X6_50 (v := .ref z0) rfl dX6_sever_13 ?_
    refine lv_aload_n hx hb dX6_sever_16 rfl (lv_at hl 0 rfl) ?_
    refine x_get E hw kin_X6 0 rfl rfl 2 (by decide) kF_X6_28 (v := .ref h0) rfl dX6_sever_17 ?_
    refine lv_iload_n hx hb dX6_sever_20 rfl (lv_at hl 1 rfl) ?_
    refine lv_iload_n hx hb dX6_sever_21 rfl (lv_at hl 2 rfl) ?_
    obtain ⟨q2, hq2, hf⟩ := Option.bind_eq_some_iff.mp hf
    refine x_callV (isC := [5, 6, 7, 8, 1, 2, 3, 4]) (ws' := (wRC cI cZ cN cC r0 h0 h1 h2 h3 z0 z1 z2 z3 l0 d0 p0 e9 y9 kps pts wrk out mem abv q2.2.1 q2.2.2.1 q2.2.2.2)) (st1 := [.int q2.1]) (As := [.ref h0, .int x1, .int x2]) (rest := []) E hw vc_X6_206 (c_X1_fewestArcs (cI := cI) (cZ := cZ) (cN := cN) (cC := cC) (h0 := z0) (h1 := z1) (h2 := z2) (h3 := z3) (k0 := h0) (k1 := h1) (k2 := h2) (k3 := h3)  (usd := usd) (usi := usi) (cam := cam) (pts := pts) (wrk := wrk) (out := out) (mem := mem) (abv := abv) (x2 := x1) (x3 := x2) hq2) 5 1 rfl rfl rfl rfl rfl rfl rfl rfl rfl ⟨Nat.le_of_ble_eq_true rfl, Nat.le_of_ble_eq_true rfl⟩ ⟨Nat.le_refl _, Nat.le_refl _⟩ hl.1 rfl rfl (Nat.le_of_ble_eq_true rfl) dX6_sever_22 (fun H locs hw => ?_)
    have hf := Option.some.inj hf; subst hf
    exact x_iret E hw dX6_sever_25
  · rw [if_pos c1] at hf
    refine lv_bipush (v := (-2)) hx hb dX6_sever_9 (by decide) ?_
    have hf := Option.some.inj hf; subst hf
    exact x_iret E hw dX6_sever_11

