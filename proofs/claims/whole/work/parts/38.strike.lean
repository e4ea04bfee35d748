theorem tellD {u v : Nat} (hu : u < 10) (hv : v < 10) : nI (10 * u + v) / 10 = nI u ∧ nI (10 * u + v) - nI u * 10 = nI v := by
  have e1 : nI (10 * u + v) / 10 = nI ((10 * u + v) / 10) := pk_div (by omega) (d := 10) (by omega) (by omega)
  have e2 : nI (10 * u + v) - nI (10 * u + v) / 10 * 10 = nI ((10 * u + v) % 10) := pk_rem (by omega) (d := 10) (by omega) (by omega)
  rw [show (10 * u + v) / 10 = u by omega] at e1
  rw [show (10 * u + v) % 10 = v by omega, e1] at e2
  exact ⟨e1, e2⟩
theorem strike_loop {n : Nat} {A M : Nat → Nat} {T : Nat → Nat → Nat} {P W : Int32} {O Mm Ab st : Nat → Int32} (g : Good n A M T) (r : Rep n A M T P W O Mm Ab st) {k j z : Nat} (hk : k < 3) (hj : j ≤ 1) (hz : z ≤ 8) {szs sos0 ths0 : Nat → Int32} : ∀ (c i l m m2 : Nat) (val isa sos ths : Nat → Int32), i + c = z → l ≤ i → c < m → c < m2 →
    (∀ t, t < z → ths (8 * k + t) = val t ∧ sos (8 * k + t) = isa t) → (∀ t, (t < l ∨ (i ≤ t ∧ t < z)) → thing n (isa t) (val t)) → (∀ t, (t < 8 * k ∨ 8 * k + 8 ≤ t) → sos t = sos0 t ∧ ths t = ths0 t) →
    ∃ (l' : Nat) (V I S T2 : Nat → Int32), f_X6_strikeArcs_11 (nI j) (nI z) O m (nI l) (nI i) val isa = some (nI z - nI l', nI l', V, I) ∧ f_X7_strike_46 (nI k) (nI j) (nI z) (nI n) st szs m2 (nI l) (nI i) sos ths = some (nI z - nI l', upd szs k (nI l'), S, T2) ∧ l' ≤ z ∧ (∀ t, t < l' → T2 (8 * k + t) = V t ∧ S (8 * k + t) = I t ∧ thing n (I t) (V t)) ∧ ∀ t, (t < 8 * k ∨ 8 * k + 8 ≤ t) → S t = sos0 t ∧ T2 t = ths0 t := by
  have hn := g.1.2
  have hxk : xin (nI k) 3 = true := xin_n hk (by omega)
  have qk := nI_clamp (show k < 2 ^ 31 by omega)
  intro c
  induction c with
  | zero =>
    intro i l m m2 val isa sos ths h1 hl h2 h3 hR hT hO
    obtain ⟨m, rfl⟩ : ∃ k, m = k + 1 := ⟨m - 1, by omega⟩
    obtain ⟨m2, rfl⟩ : ∃ k, m2 = k + 1 := ⟨m2 - 1, by omega⟩
    obtain rfl : i = z := by omega
    have q1 : nI i ≤ nI i := nI_le (Nat.le_refl _) (by omega)
    refine ⟨l, val, isa, sos, ths, ?_, ?_, hl, fun t ht => ⟨(hR t (by omega)).1, (hR t (by omega)).2, hT t (Or.inl ht)⟩, hO⟩
    · rw [f_X6_strikeArcs_11, if_pos q1]
    · rw [f_X7_strike_46, if_pos q1, if_pos hxk, qk]
  | succ c ih =>
    intro i l m m2 val isa sos ths h1 hl h2 h3 hR hT hO
    obtain ⟨m, rfl⟩ : ∃ k, m = k + 1 := ⟨m - 1, by omega⟩
    obtain ⟨m2, rfl⟩ : ∃ k, m2 = k + 1 := ⟨m2 - 1, by omega⟩
    have q1 : ¬ nI z ≤ nI i := nI_ge (by omega) (by omega)
    have q2 : xin (nI i) 8 = true := xin_n (by omega) (by omega)
    have q2l : xin (nI l) 8 = true := xin_n (by omega) (by omega)
    have q3 : xin (nI (8 * k + i)) 24 = true := xin_n (by omega) (by omega)
    have q3l : xin (nI (8 * k + l)) 24 = true := xin_n (by omega) (by omega)
    have qi := nI_clamp (show i < 2 ^ 31 by omega)
    have ql := nI_clamp (show l < 2 ^ 31 by omega)
    have qki := nI_clamp (show 8 * k + i < 2 ^ 31 by omega)
    have qkl := nI_clamp (show 8 * k + l < 2 ^ 31 by omega)
    obtain ⟨d1, d2⟩ := hR i (by omega)
    have d3 := hT i (Or.inr ⟨Nat.le_refl _, by omega⟩)
    have go := ih (i + 1) l m m2 val isa sos ths (by omega) (by omega) (by omega) (by omega) hR (fun t ht => hT t (by omega)) hO
    have keep := ih (i + 1) (l + 1) m m2 (upd val l (val i)) (upd isa l (isa i)) (upd sos (8 * k + l) (isa i)) (upd ths (8 * k + l) (val i)) (by omega) (by omega) (by omega) (by omega) (fun t ht => by
        by_cases htl : t = l
        · rw [htl, pk_us, pk_us, pk_us, pk_us]; exact ⟨rfl, rfl⟩
        · simp only [pk_un htl, pk_un (show 8 * k + t ≠ 8 * k + l by omega)]; exact hR t ht) (fun t ht => by
        by_cases htl : t = l
        · rw [htl, pk_us, pk_us]; exact d3
        · rw [pk_un htl, pk_un htl]; exact hT t (by omega)) (fun t ht => by
        rw [pk_un (by omega), pk_un (by omega)]; exact hO t ht)
    have nb := nb01 (thing01 d3)
    rcases d3 with ⟨t1, -⟩ | ⟨t1, u, v, hu, hv, huv, t2⟩
    · obtain ⟨l', V, I, S, T2, b1, b2, b3, b4, b5⟩ := keep
      refine ⟨l', V, I, S, T2, ?_, ?_, b3, b4, b5⟩
      · rw [f_X6_strikeArcs_11]
        simp only [q1, q2, q2l, ↓reduceIte, qi, ql, t1, f_X6_strikeArcs_63, nI_1]
        rw [t1] at b1 nb
        rw [nb]
        exact b1
      · rw [f_X7_strike_46]
        simp only [q1, ix8, q3, q3l, ↓reduceIte, qki, qkl, d1, d2, t1, i01, f_X7_strike_115, nI_1]
        rw [t1] at b2
        exact b2
    · obtain ⟨p1, p2⟩ := tellD (u := u) (v := v) (by omega) (by omega)
      have ha := hasArcC g r hu hv
      have hm := isArcM g r hu hv huv
      have hgo : bI ((A u).testBit v) = nI j → ∃ (l' : Nat) (V I S T2 : Nat → Int32), f_X6_strikeArcs_11 (nI j) (nI z) O (m + 1) (nI l) (nI i) val isa = some (nI z - nI l', nI l', V, I) ∧ f_X7_strike_46 (nI k) (nI j) (nI z) (nI n) st szs (m2 + 1) (nI l) (nI i) sos ths = some (nI z - nI l', upd szs k (nI l'), S, T2) ∧ l' ≤ z ∧ (∀ t, t < l' → T2 (8 * k + t) = V t ∧ S (8 * k + t) = I t ∧ thing n (I t) (V t)) ∧ ∀ t, (t < 8 * k ∨ 8 * k + 8 ≤ t) → S t = sos0 t ∧ T2 t = ths0 t := by
        intro hb
        obtain ⟨l', V, I, S, T2, b1, b2, b3, b4, b5⟩ := go
        refine ⟨l', V, I, S, T2, ?_, ?_, b3, b4, b5⟩
        · rw [f_X6_strikeArcs_11]
          simp only [q1, q2, ↓reduceIte, qi, t1, i10, t2, p1, p2, ha, Option.bind_some, hb, f_X6_strikeArcs_63, nI_1]
          exact b1
        · rw [f_X7_strike_46]
          simp only [q1, ix8, q3, ↓reduceIte, qki, d1, d2, t1, t2, p1, p2, hm, Option.bind_some, hb, f_X7_strike_115, nI_1]
          rcases (show j = 0 ∨ j = 1 by omega) with rfl | rfl
          · simp only [i21, nI_0, ↓reduceIte, i10]
            rw [nI_0] at b2
            exact b2
          · simp only [nI_one, ↓reduceIte, i10]
            rw [nI_one] at b2
            exact b2
      have hke : bI ((A u).testBit v) ≠ nI j → ∃ (l' : Nat) (V I S T2 : Nat → Int32), f_X6_strikeArcs_11 (nI j) (nI z) O (m + 1) (nI l) (nI i) val isa = some (nI z - nI l', nI l', V, I) ∧ f_X7_strike_46 (nI k) (nI j) (nI z) (nI n) st szs (m2 + 1) (nI l) (nI i) sos ths = some (nI z - nI l', upd szs k (nI l'), S, T2) ∧ l' ≤ z ∧ (∀ t, t < l' → T2 (8 * k + t) = V t ∧ S (8 * k + t) = I t ∧ thing n (I t) (V t)) ∧ ∀ t, (t < 8 * k ∨ 8 * k + 8 ≤ t) → S t = sos0 t ∧ T2 t = ths0 t := by
        intro hb
        obtain ⟨l', V, I, S, T2, b1, b2, b3, b4, b5⟩ := keep
        refine ⟨l', V, I, S, T2, ?_, ?_, b3, b4, b5⟩
        · rw [f_X6_strikeArcs_11]
          rw [t1, t2] at b1
          rw [t1] at nb
          simp only [q1, q2, q2l, ↓reduceIte, qi, ql, t1, i10, t2, p1, p2, ha, Option.bind_some, hb, f_X6_strikeArcs_63, nI_1, nb]
          exact b1
        · rw [f_X7_strike_46]
          rw [t1, t2] at b2
          simp only [q1, ix8, q3, q3l, ↓reduceIte, qki, qkl, d1, d2, t1, t2, p1, p2, hm, Option.bind_some, f_X7_strike_115, nI_1]
          rcases (show j = 0 ∨ j = 1 by omega) with rfl | rfl
          · rw [nI_0] at hb b2
            simp only [i21, nI_0, ↓reduceIte, hb, i01]
            exact b2
          · rw [nI_one] at hb b2
            simp only [nI_one, ↓reduceIte, hb]
            exact b2
      by_cases hb : bI ((A u).testBit v) = nI j
      · exact hgo hb
      · exact hke hb
theorem op_strike : Op_strike Inv0 := by
  intro kps len txt ncl tso tst ten knd nbs pts wrk out mem abv nxt psz nP nW nO nM nA eP eW eO eM eA usd usi cam cM cS cV cB mn um len2 plc srt frm num wrg cm mpt st pst kep isk pil nxs txt2 cls asd opn byy twc szs sos ths hI x1 x2
  obtain ⟨n, hmn, hS, hH, hK, hX, hC⟩ := hI
  obtain ⟨A, M, T, g, r⟩ := id hS
  obtain rfl := hmn
  rcases isChC x1 with ⟨k, hk, rfl, e1, e2⟩ | ⟨e1, e2⟩
  · rcases oneOf (m := 1) (by omega) (mm := 1) rfl x2 with ⟨j, hj, rfl, e3⟩ | ⟨e3, h3⟩
    · have hxi : xin (nI k) 3 = true := xin_n hk (by omega)
      have q1 : ¬ nI j < 0 := nI_pos (by omega)
      have q2 : nI j ≤ 1 := nI_le (b := 1) hj (by omega)
      have qk := nI_clamp (show k < 2 ^ 31 by omega)
      rcases hC k hk with ⟨c1, c2, c3⟩ | ⟨c1, z, hz, c2, c3, c4⟩
      · refine ⟨(-11, cS, cV, cB), (-11, szs, sos, ths), ⟨1000, ?_⟩, ⟨1000, ?_⟩, rfl, n, rfl, hS, hH, hK, hX, hC⟩
        · unfold f_X6_strike; simp only [e1, hxi, q1, q2, i10, ↓reduceIte, qk, c1]
        · unfold f_X7_strike; simp only [e2, e3, hxi, i10, ↓reduceIte, qk, c3, m1e]
      · have r2 : (0 : Int32) ≤ nI z := nI_pos' (by omega)
        obtain ⟨l', V, I, S, T2, b1, b2, b3, b4, b5⟩ := strike_loop g r hk hj hz (szs := szs) (sos0 := sos) (ths0 := ths) z 0 0 1000 1000 (cV k) (cB k) sos ths (by omega) (by omega) (by omega) (by omega) (fun t ht => ⟨(c4 t ht).1, (c4 t ht).2.1⟩) (fun t ht => (c4 t (by omega)).2.2) (fun t _ => ⟨rfl, rfl⟩)
        rw [nI_0] at b1 b2
        refine ⟨(nI z - nI l', va_up cS k (nI l'), va_up cV k V, va_up cB k I), (nI z - nI l', upd szs k (nI l'), S, T2), ⟨1000, ?_⟩, ⟨1000, ?_⟩, rfl, n, rfl, hS, hH, hK, hX, ?_⟩
        · unfold f_X6_strike f_X6_strikeArcs
          rcases (show j = 0 ∨ j = 1 by omega) with rfl | rfl
          · rw [nI_0] at b1
            simp only [e1, hxi, q1, q2, i21, i10, ↓reduceIte, qk, c1, c2, b1, Option.bind_some]
          · rw [nI_one] at b1
            simp only [e1, hxi, i10, ↓reduceIte, qk, c1, c2, nI_one, b1, Option.bind_some]
            rw [if_neg (by decide), if_pos (by decide)]
        · unfold f_X7_strike
          simp only [e2, e3, hxi, i10, ↓reduceIte, qk, c3, r2]
          exact b2
        · refine InvC_set hC hk (fun a ha hak => ⟨rfl, vu_n hak, vu_n hak, vu_n hak, pk_un hak, fun i hi => b5 _ (by omega)⟩) (Or.inr ⟨c1, l', by omega, vu_s, pk_us, fun i hi => ?_⟩)
          dsimp only
          rw [vu_s, vu_s]
          exact b4 i hi
    · refine ⟨(-3, cS, cV, cB), (-3, szs, sos, ths), ⟨1000, ?_⟩, ⟨1000, ?_⟩, rfl, n, rfl, hS, hH, hK, hX, hC⟩
      · unfold f_X6_strike
        by_cases h0 : x2 < 0
        · simp only [e1, i10, ↓reduceIte, h0]
        · have h4 : ¬ x2 ≤ 1 := h3.resolve_left h0
          simp only [e1, i10, ↓reduceIte, h0, h4]
      · unfold f_X7_strike
        simp only [e2, e3, i10, ↓reduceIte]
  · refine ⟨(-2, cS, cV, cB), (-2, szs, sos, ths), ⟨1000, ?_⟩, ⟨1000, ?_⟩, rfl, n, rfl, hS, hH, hK, hX, hC⟩
    · unfold f_X6_strike; simp only [e1, ↓reduceIte]
    · unfold f_X7_strike; simp only [e2, ↓reduceIte]
