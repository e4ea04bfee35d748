/-! ===== keep, back ===== -/
theorem s_arcs {n : Nat} {P W : Int32} {O Mm Ab st : Nat → Int32} (h : Sim n P W O Mm Ab st) : ∃ r, f_X3_arcs 1000 P O = some r ∧ f_X7_arcs 1000 (nI n) st = some r := by
  obtain ⟨A, M, T, g, r⟩ := h
  obtain rfl := r.1
  exact ⟨_, arcsC g r, arcsM g r⟩
theorem kbits : (List.range 4).all (fun kb => (List.range 2).all (fun k => decide ((nI kb ||| ((1 : Int32) <<< (nI k &&& 31))) = nI (kb ||| 2 ^ k) ∧ (kb ||| 2 ^ k) < 4) && (List.range 2).all (fun j => decide ((kb ||| 2 ^ k).testBit j = (kb.testBit j || decide (j = k)))))) = true := by decide +kernel
theorem kbit {kb k : Nat} (h : kb < 4) (hk : k < 2) : (nI kb ||| ((1 : Int32) <<< (nI k &&& 31))) = nI (kb ||| 2 ^ k) ∧ (kb ||| 2 ^ k) < 4 ∧ ∀ j, j < 2 → (kb ||| 2 ^ k).testBit j = (kb.testBit j || decide (j = k)) := by
  have h1 := al2 (al2 kbits kb h) k hk
  rw [Bool.and_eq_true] at h1
  have h2 := of_decide_eq_true h1.1
  exact ⟨h2.1, h2.2, fun j hj => of_decide_eq_true (al2 h1.2 j hj)⟩
theorem in01 (x : Int32) : (f_X7_in x.toInt64 0 1 = 0 ∧ (x < 0 ∨ ¬ x < 2)) ∨ (f_X7_in x.toInt64 0 1 = 1 ∧ ∃ z, z < 2 ∧ x = nI z) := by
  rcases pk_ix x (n := 2) (by omega) with h | h | ⟨z, hz, rfl⟩
  · left
    refine ⟨inM0 (Or.inl ?_), Or.inl h⟩
    rw [Int32.toInt_toInt64]; exact Int32.lt_iff_toInt_lt.mp h
  · left
    have h' := Int32.le_iff_toInt_le.mp h
    rw [nI_toInt (by omega)] at h'
    refine ⟨inM0 (Or.inr ?_), Or.inr fun h2 => ?_⟩
    · rw [Int32.toInt_toInt64]; show (1 : Int) < _; omega
    · have h3 := Int32.lt_iff_toInt_lt.mp h2
      have h4 : (2 : Int32).toInt = 2 := by decide
      omega
  · right
    refine ⟨inM1 ?_ ?_, z, hz, rfl⟩
    · rw [Int32.toInt_toInt64, nI_toInt (by omega)]; show (0 : Int) ≤ _; omega
    · rw [Int32.toInt_toInt64, nI_toInt (by omega)]; show _ ≤ (1 : Int); omega
theorem keep15 {w : Nat} (hw : w < 2) {mn r : Int32} {st isk : Nat → Int32} (ha : f_X7_arcs 1000 mn st = some r) : ∀ (c i m : Nat) (kep : Nat → Int32), i + c = 111 → c < m → ∃ Q, f_X7_keep_15 1000 (nI w) mn st isk m (nI i) kep = some (r, Q, upd isk w 1) ∧ ∀ t, Q t = if 111 * w + i ≤ t ∧ t < 111 * w + 111 then st (t - 111 * w) else kep t := by
  intro c
  induction c with
  | zero =>
    intro i m kep h1 h2
    obtain ⟨m, rfl⟩ : ∃ k, m = k + 1 := ⟨m - 1, by omega⟩
    obtain rfl : i = 111 := by omega
    have q : (111 : Int32) ≤ nI 111 := by decide
    have q2 : xin (nI w) 2 = true := xin_n hw (by omega)
    refine ⟨kep, by rw [f_X7_keep_15, if_pos q, if_pos q2, ha, nI_clamp (by omega)]; rfl, fun t => ?_⟩
    rw [if_neg (by omega)]
  | succ c ih =>
    intro i m kep h1 h2
    obtain ⟨m, rfl⟩ : ∃ k, m = k + 1 := ⟨m - 1, by omega⟩
    have q1 : ¬ (111 : Int32) ≤ nI i := nI_ge (b := 111) (by omega) (by omega)
    have q2 : xin (nI i) 111 = true := xin_n (by omega) (by omega)
    have q3 : xin (nI (111 * w + i)) 222 = true := xin_n (by omega) (by omega)
    obtain ⟨Q, e, hQ⟩ := ih (i + 1) m (upd kep (111 * w + i) (st i)) (by omega) (by omega)
    refine ⟨Q, ?_, fun t => ?_⟩
    · rw [f_X7_keep_15]
      simp only [q1, q2, ix111, q3, ↓reduceIte, nI_clamp (show i < 2 ^ 31 by omega), nI_clamp (show 111 * w + i < 2 ^ 31 by omega), nI_1]
      exact e
    · rw [hQ t]
      by_cases h : t = 111 * w + i
      · rw [if_neg (by omega), if_pos (by omega), h, pk_us, show 111 * w + i - 111 * w = i by omega]
      · rw [pk_un h]
        by_cases h3 : 111 * w + (i + 1) ≤ t ∧ t < 111 * w + 111
        · rw [if_pos h3, if_pos (by omega)]
        · rw [if_neg h3, if_neg (by omega)]
theorem op_keep : Op_keep Inv0 := by
  intro kps len txt ncl tso tst ten knd nbs pts wrk out mem abv nxt psz nP nW nO nM nA eP eW eO eM eA usd usi cam cM cS cV cB mn um len2 plc srt frm num wrg cm mpt st pst kep isk pil nxs txt2 cls asd opn byy twc szs sos ths hI x1
  obtain ⟨n, rfl, hS, hH, hK, hX, hC⟩ := hI
  rcases in01 x1 with ⟨e, h⟩ | ⟨e, w, hw, rfl⟩
  · refine ⟨(-2, kps, eP, eW, eO, eM, eA), (-2, kep, isk), ⟨1000, ?_⟩, ⟨1000, ?_⟩, rfl, n, rfl, hS, hH, hK, hX, hC⟩
    · unfold f_X6_keep
      by_cases h0 : x1 < 0
      · rw [if_pos h0]
      · rw [if_neg h0, if_neg (h.resolve_left h0)]
    · unfold f_X7_keep
      rw [e, if_pos rfl]
  · obtain ⟨kb, hkb, rfl, hk⟩ := hK
    obtain ⟨b1, b2, b3⟩ := kbit hkb hw
    obtain ⟨r, a1, a2⟩ := s_arcs hS
    obtain ⟨Q, eQ, hQ⟩ := keep15 hw (isk := isk) a2 111 0 1000 kep (by omega) (by omega)
    rw [nI_0] at eQ
    have q1 : ¬ nI w < 0 := nI_pos (by omega)
    have q2 : nI w < 2 := nI_lt (b := 2) hw (by omega)
    have q3 : xin (nI w) 2 = true := xin_n hw (by omega)
    have qw := nI_clamp (show w < 2 ^ 31 by omega)
    refine ⟨(r, nI (kb ||| 2 ^ w), va_up eP w (f_X3_copyFrom (eO w) (eM w) (eA w) pts wrk out mem abv).1, va_up eW w (f_X3_copyFrom (eO w) (eM w) (eA w) pts wrk out mem abv).2.1, va_up eO w (f_X3_copyFrom (eO w) (eM w) (eA w) pts wrk out mem abv).2.2.1, va_up eM w (f_X3_copyFrom (eO w) (eM w) (eA w) pts wrk out mem abv).2.2.2.1, va_up eA w (f_X3_copyFrom (eO w) (eM w) (eA w) pts wrk out mem abv).2.2.2.2), (r, Q, upd isk w 1), ⟨1000, ?_⟩, ⟨1000, ?_⟩, rfl, n, rfl, hS, hH, ⟨kb ||| 2 ^ w, b2, rfl, fun j hj => ?_⟩, hX, hC⟩
    · unfold f_X6_keep
      simp only [q1, q2, q3, ↓reduceIte, a1, Option.bind_some, qw, b1]
    · unfold f_X7_keep
      rw [e, if_neg (by decide)]
      exact eQ
    · dsimp only
      by_cases hj2 : j = w
      · subst hj2
        refine ⟨?_, fun _ => ?_⟩
        · rw [pk_us, b3 j hj]; simp [bI]
        · rw [vu_s, vu_s, vu_s, vu_s, vu_s]
          refine Sim_copy hS (fun k hk => ?_)
          rw [hQ, if_pos (by omega), show 111 * j + k - 111 * j = k by omega]
      · have hb : (kb ||| 2 ^ w).testBit j = kb.testBit j := by rw [b3 j hj]; simp [hj2]
        obtain ⟨k1, k2⟩ := hk j hj
        rw [pk_un hj2, hb, vu_n hj2, vu_n hj2, vu_n hj2, vu_n hj2, vu_n hj2]
        refine ⟨k1, fun h => ?_⟩
        refine Sim_congr (k2 h) rfl rfl (fun _ _ => rfl) (fun _ _ => rfl) (fun _ _ => rfl) (fun k hk => ?_)
        rw [hQ, if_neg (by omega)]
theorem back27 {w : Nat} (hw : w < 2) {mn : Int32} {kep : Nat → Int32} : ∀ (c i m : Nat) (st : Nat → Int32), i + c = 111 → c < m → ∃ Q, f_X7_back_27 1000 (nI w) mn kep m (nI i) st = ((f_X7_arcs 1000 mn Q).bind fun q => some (q, 0, Q)) ∧ ∀ t, t < 111 → Q t = if i ≤ t then kep (111 * w + t) else st t := by
  intro c
  induction c with
  | zero =>
    intro i m st h1 h2
    obtain ⟨m, rfl⟩ : ∃ k, m = k + 1 := ⟨m - 1, by omega⟩
    obtain rfl : i = 111 := by omega
    have q : (111 : Int32) ≤ nI 111 := by decide
    refine ⟨st, by rw [f_X7_back_27, if_pos q], fun t ht => ?_⟩
    rw [if_neg (by omega)]
  | succ c ih =>
    intro i m st h1 h2
    obtain ⟨m, rfl⟩ : ∃ k, m = k + 1 := ⟨m - 1, by omega⟩
    have q1 : ¬ (111 : Int32) ≤ nI i := nI_ge (b := 111) (by omega) (by omega)
    have q2 : xin (nI i) 111 = true := xin_n (by omega) (by omega)
    have q3 : xin (nI (111 * w + i)) 222 = true := xin_n (by omega) (by omega)
    obtain ⟨Q, e, hQ⟩ := ih (i + 1) m (upd st i (kep (111 * w + i))) (by omega) (by omega)
    refine ⟨Q, ?_, fun t ht => ?_⟩
    · rw [f_X7_back_27]
      simp only [q1, q2, ix111, q3, ↓reduceIte, nI_clamp (show i < 2 ^ 31 by omega), nI_clamp (show 111 * w + i < 2 ^ 31 by omega), nI_1]
      exact e
    · rw [hQ t ht]
      by_cases h : t = i
      · rw [if_neg (by omega), if_pos (by omega), h, pk_us]
      · rw [pk_un h]
        by_cases h3 : i + 1 ≤ t
        · rw [if_pos h3, if_pos (by omega)]
        · rw [if_neg h3, if_neg (by omega)]
theorem op_back : Op_back Inv0 := by
  intro kps len txt ncl tso tst ten knd nbs pts wrk out mem abv nxt psz nP nW nO nM nA eP eW eO eM eA usd usi cam cM cS cV cB mn um len2 plc srt frm num wrg cm mpt st pst kep isk pil nxs txt2 cls asd opn byy twc szs sos ths hI x1
  obtain ⟨n, rfl, hS, hH, hK, hX, hC⟩ := hI
  rcases in01 x1 with ⟨e, h⟩ | ⟨e, w, hw, rfl⟩
  · refine ⟨(-2, pts, wrk, out, mem, abv, psz), (-2, um, st), ⟨1000, ?_⟩, ⟨1000, ?_⟩, rfl, n, rfl, hS, hH, hK, hX, hC⟩
    · unfold f_X6_back
      by_cases h0 : x1 < 0
      · rw [if_pos h0]
      · rw [if_neg h0, if_neg (h.resolve_left h0)]
    · unfold f_X7_back
      rw [e, if_pos rfl]
  · obtain ⟨kb, hkb, rfl, hk⟩ := id hK
    have q1 : ¬ nI w < 0 := nI_pos (by omega)
    have q2 : nI w < 2 := nI_lt (b := 2) hw (by omega)
    have q3 : xin (nI w) 2 = true := xin_n hw (by omega)
    have qw := nI_clamp (show w < 2 ^ 31 by omega)
    obtain ⟨k1, k2⟩ := hk w hw
    cases hb : kb.testBit w
    · rw [hb] at k1
      refine ⟨(-4, pts, wrk, out, mem, abv, psz), (-4, um, st), ⟨1000, ?_⟩, ⟨1000, ?_⟩, rfl, n, rfl, hS, hH, hK, hX, hC⟩
      · unfold f_X6_back
        rw [if_neg q1, if_pos q2, hasC (by omega) (by omega), hb, if_pos (by rfl)]
      · unfold f_X7_back
        rw [e, if_neg (by decide), if_pos q3, qw, k1, if_pos (by rfl)]
    · rw [hb] at k1
      obtain ⟨Q, eQ, hQ⟩ := back27 hw (mn := nI n) (kep := kep) 111 0 1000 st (by omega) (by omega)
      rw [nI_0] at eQ
      have hS2 := Sim_copy (o1 := out) (o2 := mem) (o3 := abv) (st' := Q) (k2 hb) (fun k hk => by rw [hQ k hk, if_pos (by omega)])
      obtain ⟨r, a1, a2⟩ := s_arcs hS2
      rw [a2] at eQ
      refine ⟨(r, (f_X3_copyFrom out mem abv (eP w) (eW w) (eO w) (eM w) (eA w)).1, (f_X3_copyFrom out mem abv (eP w) (eW w) (eO w) (eM w) (eA w)).2.1, (f_X3_copyFrom out mem abv (eP w) (eW w) (eO w) (eM w) (eA w)).2.2.1, (f_X3_copyFrom out mem abv (eP w) (eW w) (eO w) (eM w) (eA w)).2.2.2.1, (f_X3_copyFrom out mem abv (eP w) (eW w) (eO w) (eM w) (eA w)).2.2.2.2, f_X4_forget), (r, 0, Q), ⟨1000, ?_⟩, ⟨1000, ?_⟩, rfl, n, rfl, hS2, ?_, hK, hX, hC⟩
      · unfold f_X6_back
        rw [if_neg q1, if_pos q2, hasC (by omega) (by omega), hb, if_neg (by decide), if_pos q3, qw, a1]
        rfl
      · unfold f_X7_back
        rw [e, if_neg (by decide), if_pos q3, qw, k1, if_neg (by decide), eQ]
        rfl
      · obtain ⟨u, nx, hu, hnx, g1, g2, g3, hN⟩ := hH
        exact ⟨0, nx, by omega, hnx, rfl, rfl, g3, fun j hj => absurd hj (by omega)⟩
