/-! ===== net; the start; all calls ===== -/
theorem vanish67 {kps ncl tso tst ten len pts wrk psz : Int32} {knd nbs out mem abv : Nat → Int32} : ∀ (c i m : Nat) (cM cS : Nat → Int32), i + c = 3 → c < m → ∃ cM' cS', f_X6_net_67 kps ncl tso tst ten knd nbs len pts wrk out mem abv psz m (nI i) cM cS = some (ncl, kps, ncl, tso, tst, ten, knd, nbs, len, pts, wrk, out, mem, abv, psz, cM', cS') ∧ (∀ k, i ≤ k → k < 3 → cM' k = 1 ∧ cS' k = 0) ∧ ∀ k, k < i → cM' k = cM k ∧ cS' k = cS k := by
  intro c
  induction c with
  | zero =>
    intro i m cM cS h1 h2
    obtain ⟨m, rfl⟩ : ∃ k, m = k + 1 := ⟨m - 1, by omega⟩
    exact ⟨cM, cS, by rw [f_X6_net_67, if_pos (show (3 : Int32) ≤ nI i from nI_le (a := 3) (by omega) (by omega))], fun k h3 h4 => absurd h4 (by omega), fun k _ => ⟨rfl, rfl⟩⟩
  | succ c ih =>
    intro i m cM cS h1 h2
    obtain ⟨m, rfl⟩ : ∃ k, m = k + 1 := ⟨m - 1, by omega⟩
    obtain ⟨cM', cS', e, g1, g2⟩ := ih (i + 1) m (va_up cM i (f_X0_vanish).1) (va_up cS i (f_X0_vanish).2) (by omega) (by omega)
    refine ⟨cM', cS', ?_, fun k h3 h4 => ?_, fun k hk => ?_⟩
    · rw [f_X6_net_67, if_neg (show ¬ (3 : Int32) ≤ nI i from nI_ge (b := 3) (by omega) (by omega)), if_pos (xin_n (by omega) (by omega)), nI_clamp (by omega), nI_1, e]
    · by_cases ek : k = i
      · subst ek
        rw [(g2 k (by omega)).1, (g2 k (by omega)).2, vu_s, vu_s]
        exact ⟨rfl, rfl⟩
      · exact g1 k (by omega) h4
    · rw [(g2 k (by omega)).1, (g2 k (by omega)).2, vu_n (by omega), vu_n (by omega)]
      exact ⟨rfl, rfl⟩
theorem lose2 : ∀ (c i m : Nat) (szs : Nat → Int32), i + c = 3 → c < m → ∃ Q, f_X7_loseChains_2 m (nI i) szs = some Q ∧ (∀ k, i ≤ k → k < 3 → Q k = -1) ∧ ∀ k, k < i → Q k = szs k := by
  intro c
  induction c with
  | zero =>
    intro i m szs h1 h2
    obtain ⟨m, rfl⟩ : ∃ k, m = k + 1 := ⟨m - 1, by omega⟩
    exact ⟨szs, by rw [f_X7_loseChains_2, if_pos (show (3 : Int32) ≤ nI i from nI_le (a := 3) (by omega) (by omega))], fun k h3 h4 => absurd h4 (by omega), fun k _ => rfl⟩
  | succ c ih =>
    intro i m szs h1 h2
    obtain ⟨m, rfl⟩ : ∃ k, m = k + 1 := ⟨m - 1, by omega⟩
    obtain ⟨Q, e, g1, g2⟩ := ih (i + 1) m (upd szs i (-1)) (by omega) (by omega)
    refine ⟨Q, ?_, fun k h3 h4 => ?_, fun k hk => ?_⟩
    · rw [f_X7_loseChains_2, if_neg (show ¬ (3 : Int32) ≤ nI i from nI_ge (b := 3) (by omega) (by omega)), if_pos (xin_n (by omega) (by omega)), nI_clamp (by omega), nI_1, e]
    · by_cases ek : k = i
      · subst ek
        rw [g2 k (by omega), pk_us]
      · exact g1 k (by omega) h4
    · rw [g2 k (by omega), pk_un (by omega)]
theorem loseM {szs : Nat → Int32} : ∃ Q, f_X7_loseChains 1000 szs = some Q ∧ ∀ k, k < 3 → Q k = -1 := by
  obtain ⟨Q, e, g1, -⟩ := lose2 3 0 1000 szs (by omega) (by omega)
  exact ⟨Q, e, fun k hk => g1 k (by omega) hk⟩
theorem netLoop {c : Nat} (hc : c ≤ 24) {ν : Nat → Nat} {knd nbs cls cM cS isk szs : Nat → Int32} (hν : ∀ j, j < c → Cl knd nbs cls j (ν j) (ν (j + 1))) {tso tst ten plc srt frm num wrg mpt : Int32} :
    ∀ (d j m m' : Nat) (P W : Int32) (O Mm Ab st pil nxs : Nat → Int32), j + d = c → d < m → d < m' → Sim (ν j) P W O Mm Ab st →
      ∃ P' W' O' Mm' Ab' st' pil' nxs', f_X6_net_23 1000 (nI c) tso tst ten knd nbs cM cS m (nI j) P W O Mm Ab = f_X6_net_67 0 (nI c) tso tst ten knd nbs 0 P' W' O' Mm' Ab' 0 1000 0 cM cS ∧
        f_X7_net_12 1000 plc srt frm num wrg (nI c) mpt isk cls szs m' (nI j) (nI (ν j)) st pil nxs = ((f_X7_loseChains 1000 szs).bind fun q4 => some (nI c, nI (ν c), 0, 0, plc, srt, frm, num, wrg, nI c, mpt, st', upd (upd isk (Int32.toNatClampNeg 0) 0) (Int32.toNatClampNeg 1) 0, pil', nxs', cls, q4)) ∧
        Sim (ν c) P' W' O' Mm' Ab' st' := by
  intro d
  induction d with
  | zero =>
    intro j m m' P W O Mm Ab st pil nxs h1 h2 h3 hS
    obtain ⟨m, rfl⟩ : ∃ k, m = k + 1 := ⟨m - 1, by omega⟩
    obtain ⟨m', rfl⟩ : ∃ k, m' = k + 1 := ⟨m' - 1, by omega⟩
    obtain rfl : j = c := by omega
    refine ⟨P, W, O, Mm, Ab, st, pil, nxs, ?_, ?_, hS⟩
    · rw [f_X6_net_23, if_pos (nI_le (by omega) (by omega))]; rfl
    · rw [f_X7_net_12, if_pos (nI_le (by omega) (by omega))]
  | succ d ih =>
    intro j m m' P W O Mm Ab st pil nxs h1 h2 h3 hS
    obtain ⟨m, rfl⟩ : ∃ k, m = k + 1 := ⟨m - 1, by omega⟩
    obtain ⟨m', rfl⟩ : ∃ k, m' = k + 1 := ⟨m' - 1, by omega⟩
    obtain ⟨P1, W1, O1, M1, A1, s1, p1, q1, f1, f2, f3⟩ := clauseBoth hS (show j < 24 by omega) (hν j (by omega)) pil nxs
    obtain ⟨P2, W2, O2, M2, A2, s2, p2, q2, g1, g2, g3⟩ := ih (j + 1) m m' P1 W1 O1 M1 A1 s1 p1 q1 (by omega) (by omega) (by omega) f3
    refine ⟨P2, W2, O2, M2, A2, s2, p2, q2, ?_, ?_, g3⟩
    · rw [f_X6_net_23, if_neg (nI_ge (by omega) (by omega)), f1, Option.bind_some, nI_1]
      exact g1
    · rw [f_X7_net_12, if_neg (nI_ge (by omega) (by omega)), ix4, f2, Option.bind_some, nI_1]
      exact g2
theorem op_net : Op_net Inv0 := by
  intro kps len txt ncl tso tst ten knd nbs pts wrk out mem abv nxt psz nP nW nO nM nA eP eW eO eM eA usd usi cam cM cS cV cB mn um len2 plc srt frm num wrg cm mpt st pst kep isk pil nxs txt2 cls asd opn byy twc szs sos ths hI
  obtain ⟨n, rfl, hS, hH, hK, hX, hC⟩ := id hI
  obtain ⟨A, M, T, g, r⟩ := id hS
  obtain rfl := r.1
  obtain ⟨ln, z, rfl, rfl, t1, t2⟩ := TX_of hX
  rcases readBoth t1 t2 g.1 (tso := tso) (tst := tst) (wrg := wrg) (knd := knd) (nbs := nbs) (cls := cls) with ⟨s, c1, so, st', e, knd', nbs', plc', srt', frm', num', cm', mp', cls', b0, b1, b2⟩ | ⟨c, n', so, st', e, knd', nbs', plc', srt', frm', num', wrg', cls', b0, b1, b2, ν, v0, v1, v2⟩
  · have q1 : ¬ nI s = -1 := fun q => by
      have h1 : ¬ nI s < 0 := nI_pos (by omega)
      rw [q] at h1; exact h1 (by decide)
    refine ⟨(-4, kps, c1, so, st', e, knd', nbs', nI ln, nI n, wrk, out, mem, abv, psz, cM, cS), (-4, nI n, um, nI ln, plc', srt', frm', num', nI s, cm', mp', st, isk, pil, nxs, cls', szs), ⟨1000, ?_⟩, ⟨1000, ?_⟩, rfl, hI⟩
    · rw [f_X6_net, b1, Option.bind_some, if_neg q1]
    · rw [f_X7_net, b2, Option.bind_some, if_pos rfl]
  · subst v0
    obtain ⟨P', W', O', Mm', Ab', s', p', q', f1, f2, f3⟩ := netLoop b0 v2 (cM := cM) (cS := cS) (isk := isk) (szs := szs) (tso := so) (tst := st') (ten := e) (plc := plc') (srt := srt') (frm := frm') (num := num') (wrg := wrg') (mpt := nI n') c 0 1000 1000 (nI (ν 0)) wrk out mem abv st pil nxs (by omega) (by omega) (by omega) hS
    obtain ⟨cM', cS', e1, e2, -⟩ := vanish67 (kps := 0) (ncl := nI c) (tso := so) (tst := st') (ten := e) (len := 0) (pts := P') (wrk := W') (psz := 0) (knd := knd') (nbs := nbs') (out := O') (mem := Mm') (abv := Ab') 3 0 1000 cM cS (by omega) (by omega)
    obtain ⟨Q, e3, e4⟩ := loseM (szs := szs)
    rw [e3, Option.bind_some] at f2
    rw [nI_0] at e1 f1 f2
    obtain ⟨u, nx, -, hnx, -, -, hx, -⟩ := id hH
    refine ⟨(nI c, 0, nI c, so, st', e, knd', nbs', 0, P', W', O', Mm', Ab', 0, cM', cS'), (nI c, nI (ν c), 0, 0, plc', srt', frm', num', wrg', nI c, nI n', s', upd (upd isk (Int32.toNatClampNeg 0) 0) (Int32.toNatClampNeg 1) 0, p', q', cls', Q), ⟨1000, ?_⟩, ⟨1000, ?_⟩, rfl, ν c, rfl, f3, ⟨0, nx, by omega, hnx, rfl, rfl, hx, fun j hj => absurd hj (by omega)⟩, ⟨0, by omega, rfl, fun k hk => ⟨?_, fun h => ?_⟩⟩, ⟨0, by omega, rfl, rfl, fun i hi => absurd hi (by omega)⟩, fun k hk => Or.inl ⟨(e2 k (by omega) hk).1, (e2 k (by omega) hk).2, e4 k hk⟩⟩
    · rw [f_X6_net, b1, Option.bind_some, if_pos rfl]
      exact f1.trans e1
    · rw [f_X7_net, b2, Option.bind_some, if_neg n10]
      exact f2
    · dsimp only
      rw [show Int32.toNatClampNeg 0 = 0 by decide, show Int32.toNatClampNeg 1 = 1 by decide, Nat.zero_testBit]
      rcases (show k = 0 ∨ k = 1 by omega) with rfl | rfl
      · rw [pk_un (by omega), pk_us]; rfl
      · rw [pk_us]; rfl
    · rw [Nat.zero_testBit] at h; exact absurd h (by decide)
theorem start0 : Start Inv0 1000 := by
  obtain ⟨O, Mm, Ab, e1, h1⟩ := emptyBoth (n := 4) (by omega) (out := fun _ => 0) (mem := fun _ => 0) (abv := fun _ => 0)
  obtain ⟨S, e2, h2⟩ := h1 (fun _ => 0)
  obtain ⟨Q, e3, h3⟩ := loseM (szs := fun _ => 0)
  exact ⟨_, _, _, e1, e2, e3, 4, rfl, h2, ⟨0, 0, by omega, by omega, rfl, rfl, rfl, fun j hj => absurd hj (by omega)⟩, ⟨0, by omega, rfl, fun k hk => ⟨by rw [Nat.zero_testBit]; rfl, fun h => by rw [Nat.zero_testBit] at h; exact absurd h (by decide)⟩⟩, ⟨0, by omega, rfl, rfl, fun i hi => absurd hi (by omega)⟩, fun k hk => Or.inl ⟨rfl, rfl, h3 k hk⟩⟩
theorem all0 : AllOps Inv0 := ⟨op_write, op_erase, op_fault, op_net, op_put, op_take, op_clear, op_undo, op_keep, op_back, op_arc, op_reaches, op_above, op_way, op_around, op_needless, op_reduced, op_fold, op_gain, op_best, op_loss, op_worst, op_sever, op_chain, op_add, op_last, op_sum, op_strike, op_append, op_drop, op_count⟩
