theorem i21 : (nI 0 = 1) = False := eq_false (by decide)
theorem add_tail {n : Nat} {cM cS : Nat → Int32} {cV cB : Nat → Nat → Int32} {szs sos ths : Nat → Int32} (hC : InvC n cM cS cV cB szs sos ths) {k j i : Nat} (hk : k < 3) (hj : j ≤ 1) (hi : i ≤ 1) {x : Int32} (ht : thing n (nI j) x) :
    ∃ (r : Int32) (S : Nat → Int32) (V B : Nat → Nat → Int32) (Z G2 H2 : Nat → Int32), f_X6_add_68 1000 (nI k) (nI j) (nI i) x cM cS cV cB = some (r, S, V, B) ∧ f_X7_add_75 1000 (nI k) (nI j) (nI i) x szs sos ths = some (r, Z, G2, H2) ∧ InvC n cM S V B Z G2 H2 := by
  have hxi : xin (nI k) 3 = true := xin_n hk (by omega)
  have qk := nI_clamp (show k < 2 ^ 31 by omega)
  have h8 : (8 : Int32) * nI k = nI (8 * k) := by rw [show (8 : Int32) = nI 8 from rfl, pk_mul]
  rcases hC k hk with ⟨c1, c2, c3⟩ | ⟨c1, z, hz, c2, c3, c4⟩
  · refine ⟨-11, cS, cV, cB, szs, sos, ths, ?_, ?_, hC⟩
    · unfold f_X6_add_68
      simp only [hxi, ↓reduceIte, qk, c1, i10]
    · unfold f_X7_add_75
      simp only [hxi, ↓reduceIte, qk, c3, m1e]
  · have r2 : (0 : Int32) ≤ nI z := nI_pos' (by omega)
    by_cases hz8 : z = 8
    · subst hz8
      refine ⟨-14, cS, cV, cB, szs, sos, ths, ?_, ?_, hC⟩
      · unfold f_X6_add_68
        have a : ¬ nI 8 < 8 := by decide
        simp only [hxi, ↓reduceIte, qk, c1, c2, a]
      · unfold f_X7_add_75
        have a : nI 8 = 8 := rfl
        simp only [hxi, ↓reduceIte, qk, c3, r2, a]
        rw [if_pos (by decide)]
    · have a1 : nI z < 8 := nI_lt (b := 8) (by omega) (by omega)
      have a2 : ¬ nI z = 8 := fun h => hz8 ((nI_eq (b := 8) (by omega) (by omega)).mp h)
      have key : ∀ p, p ≤ z → ∃ g h g2 h2, f_X0_insert 1000 (nI p) x (nI j) (nI z) (cV k) (cB k) = some (nI z + 1, g, h) ∧ f_X7_add_132 (nI k) (nI j) x (nI (8 * k)) (nI p) szs 1000 (nI z) sos ths = some (nI z + 1, upd szs k (nI z + 1), g2, h2) ∧ InvC n cM (va_up cS k (nI z + 1)) (va_up cV k g) (va_up cB k h) (upd szs k (nI z + 1)) g2 h2 := by
        intro p hp
        obtain ⟨g, h, e1, hg⟩ := insC (p := p) (v := x) (b := nI j) (s := nI z) (z - p) z 1000 (cV k) (cB k) (by omega) (by omega) (by omega) (fun t ht => thing01 (c4 t ht).2.2)
        obtain ⟨g2, h2, e2, hg2⟩ := insM hk (p := p) (so := nI j) (v := x) (szs := szs) (z - p) z 1000 sos ths (by omega) (by omega) (by omega)
        rw [c3] at e2
        refine ⟨g, h, g2, h2, e1, e2, ?_⟩
        rw [nI_1]
        refine InvC_ins hC hk (by omega) hp c1 c4 ht (fun t => ?_) hg2
        rw [(hg t).1, (hg t).2, nb01 (thing01 ht)]
        exact ⟨rfl, rfl⟩
      have h116 : ∀ p, p ≤ z → ∃ g h g2 h2, f_X6_add_116 1000 (nI j) x (nI p) cS cV cB k k = some (nI z + 1, va_up cS k (nI z + 1), va_up cV k g, va_up cB k h) ∧ f_X7_add_132 (nI k) (nI j) x (nI (8 * k)) (nI p) szs 1000 (nI z) sos ths = some (nI z + 1, upd szs k (nI z + 1), g2, h2) ∧ InvC n cM (va_up cS k (nI z + 1)) (va_up cV k g) (va_up cB k h) (upd szs k (nI z + 1)) g2 h2 := by
        intro p hp
        obtain ⟨g, h, g2, h2, e1, e2, e3⟩ := key p hp
        refine ⟨g, h, g2, h2, ?_, e2, e3⟩
        unfold f_X6_add_116
        rcases (show j = 0 ∨ j = 1 by omega) with rfl | rfl
        · rw [nI_0] at e1
          simp only [i21, ↓reduceIte, c2, e1, Option.bind_some, vu_s]
        · rw [nI_one] at e1
          simp only [nI_one, ↓reduceIte, c2, e1, Option.bind_some, vu_s]
      rcases (show i = 0 ∨ i = 1 by omega) with rfl | rfl
      · obtain ⟨g, h, g2, h2, e1, e2, e3⟩ := h116 0 (by omega)
        refine ⟨nI z + 1, _, _, _, _, _, _, ?_, ?_, e3⟩
        · unfold f_X6_add_68
          rw [nI_0] at e1
          simp only [hxi, ↓reduceIte, qk, c1, c2, a1, i21]
          exact e1
        · unfold f_X7_add_75
          rw [nI_0] at e2
          simp only [hxi, ↓reduceIte, qk, c3, r2, a2, i21, h8]
          exact e2
      · obtain ⟨g, h, g2, h2, e1, e2, e3⟩ := h116 z (by omega)
        refine ⟨nI z + 1, _, _, _, _, _, _, ?_, ?_, e3⟩
        · unfold f_X6_add_68
          simp only [hxi, ↓reduceIte, qk, c1, c2, a1, nI_one]
          exact e1
        · unfold f_X7_add_75
          simp only [hxi, ↓reduceIte, qk, c3, r2, a2, nI_one, h8]
          exact e2
theorem inNum (x : Int32) : (f_X7_in x.toInt64 (-9999) 9999 = 1 ∧ ¬ x < -9999 ∧ x ≤ 9999) ∨ (f_X7_in x.toInt64 (-9999) 9999 = 0 ∧ (x < -9999 ∨ ¬ x ≤ 9999)) := by
  have t1 : (-9999 : Int64).toInt = -9999 := by decide
  have t2 : (9999 : Int64).toInt = 9999 := by decide
  have t3 : (-9999 : Int32).toInt = -9999 := by decide
  have t4 : (9999 : Int32).toInt = 9999 := by decide
  by_cases h1 : x < -9999
  · right
    have h := Int32.lt_iff_toInt_lt.mp h1
    refine ⟨inM0 (Or.inl ?_), Or.inl h1⟩
    rw [Int32.toInt_toInt64, t1]; omega
  · have g1 : ¬ x.toInt < -9999 := fun h => h1 (Int32.lt_iff_toInt_lt.mpr (by rw [t3]; exact h))
    by_cases h2 : x ≤ 9999
    · left
      have h := Int32.le_iff_toInt_le.mp h2
      refine ⟨inM1 ?_ ?_, h1, h2⟩
      · rw [Int32.toInt_toInt64, t1]; omega
      · rw [Int32.toInt_toInt64, t2]; omega
    · right
      have g2 : ¬ x.toInt ≤ 9999 := fun h => h2 (Int32.le_iff_toInt_le.mpr (by rw [t4]; exact h))
      refine ⟨inM0 (Or.inr ?_), Or.inr h2⟩
      rw [Int32.toInt_toInt64, t2]; omega
theorem told {n u v : Nat} {x : Int32} (h0 : ¬ x < 0) (hu : x / 10 = nI u) (hv : x - x / 10 * 10 = nI v) (hun : u < 10) (hvn : v < 10) : x = nI (10 * u + v) := by
  obtain ⟨y, hy, rfl⟩ := nI_of h0
  have e1 : nI y / 10 = nI (y / 10) := pk_div hy (d := 10) (by omega) (by omega)
  have e2 : nI y - nI y / 10 * 10 = nI (y % 10) := pk_rem hy (d := 10) (by omega) (by omega)
  rw [e1] at hu
  rw [e2] at hv
  have a1 := (nI_eq (by omega) (by omega)).mp hu
  have a2 := (nI_eq (by omega) (by omega)).mp hv
  congr 1
  omega
theorem op_add : Op_add Inv0 := by
  intro kps len txt ncl tso tst ten knd nbs pts wrk out mem abv nxt psz nP nW nO nM nA eP eW eO eM eA usd usi cam cM cS cV cB mn um len2 plc srt frm num wrg cm mpt st pst kep isk pil nxs txt2 cls asd opn byy twc szs sos ths hI x1 x2 x3 x4
  obtain ⟨n, hmn, hS, hH, hK, hX, hC⟩ := hI
  obtain ⟨A, M, T, g, r⟩ := id hS
  obtain ⟨⟨hn2, hn⟩, -⟩ := id g
  obtain rfl := hmn
  obtain rfl := r.1
  rcases isChC x1 with ⟨k, hk, rfl, e1, e2⟩ | ⟨e1, e2⟩
  · have tail : ∀ j, j ≤ 1 → x2 = nI j → (thing n (nI j) x4) → (j = 0 → f_X7_in x4.toInt64 (-9999) 9999 = 1 ∧ ¬ x4 < -9999 ∧ x4 ≤ 9999) → ∃ (r : Int32) (S : Nat → Int32) (V B : Nat → Nat → Int32) (Z G2 H2 : Nat → Int32), f_X6_add_24 1000 (nI k) x2 x3 x4 cM cS cV cB = some (r, S, V, B) ∧ f_X7_add_37 1000 (nI k) x2 x3 x4 szs sos ths = some (r, Z, G2, H2) ∧ InvC n cM S V B Z G2 H2 := by
      intro j hj ej ht hnum
      subst ej
      have q1 : ¬ nI j < 0 := nI_pos (by omega)
      have q2 : ¬ (1 : Int32) < nI j := nI_nlt (a := 1) (by omega) (by omega)
      rcases oneOf (m := 1) (by omega) (mm := 1) rfl (nI j) with ⟨j', hj', ej', e3⟩ | ⟨e3, h3⟩
      · rcases oneOf (m := 1) (by omega) (mm := 1) rfl x3 with ⟨i, hi, rfl, e4⟩ | ⟨e4, h4⟩
        · obtain ⟨r, S, V, B, Z, G2, H2, b1, b2, b3⟩ := add_tail hC hk hj hi ht
          refine ⟨r, S, V, B, Z, G2, H2, ?_, ?_, b3⟩
          · unfold f_X6_add_24
            have q3 : ¬ nI i < 0 := nI_pos (by omega)
            have q4 : nI i ≤ 1 := nI_le (b := 1) hi (by omega)
            simp only [q1, q2, q3, q4, ↓reduceIte]
            by_cases hj0 : j = 0
            · obtain ⟨n1, n2, n3⟩ := hnum hj0
              subst hj0
              rw [if_pos nI_0, if_neg n2, if_pos n3]; exact b1
            · rw [if_neg (nI_ne0 (by omega) (by omega))]; exact b1
          · unfold f_X7_add_37
            simp only [e3, e4, i10, ↓reduceIte]
            by_cases hj0 : j = 0
            · obtain ⟨n1, n2, n3⟩ := hnum hj0
              subst hj0
              rw [if_pos nI_0, n1, if_neg (by decide)]; exact b2
            · rw [if_neg (nI_ne0 (by omega) (by omega))]; exact b2
        · refine ⟨-3, cS, cV, cB, szs, sos, ths, ?_, ?_, hC⟩
          · unfold f_X6_add_24
            by_cases h0 : x3 < 0
            · simp only [q1, q2, h0, ↓reduceIte]
            · have h5 : ¬ x3 ≤ 1 := h4.resolve_left h0
              simp only [q1, q2, h0, h5, ↓reduceIte]
          · unfold f_X7_add_37
            simp only [e3, e4, i10, ↓reduceIte]
      · exact absurd (h3.resolve_left q1) (fun h => h (nI_le (b := 1) hj (by omega)))
    by_cases hx1 : x2 = 1
    · by_cases h0 : x4 < 0
      · refine ⟨(-2, cS, cV, cB), (-2, szs, sos, ths), ⟨1000, ?_⟩, ⟨1000, ?_⟩, rfl, n, rfl, hS, hH, hK, hX, hC⟩
        · unfold f_X6_add f_X6_isTellable; simp only [e1, i10, hx1, h0, ↓reduceIte]
        · unfold f_X7_add; simp only [e2, i10, hx1, h0, ↓reduceIte]
      · rcases tw0 (n := n) (by omega) hn (x4 / 10) (x4 - x4 / 10 * 10) with ⟨u, v, hu, hv, huv, d1, d2⟩ | ⟨d1, d2⟩
        · have ex := told (n := n) h0 d1 d2 (by omega) (by omega)
          obtain ⟨r, S, V, B, Z, G2, H2, b1, b2, b3⟩ := tail 1 (by omega) (by rw [hx1]; rfl) (Or.inr ⟨rfl, u, v, hu, hv, huv, ex⟩) (fun h => absurd h (by omega))
          refine ⟨(r, S, V, B), (r, Z, G2, H2), ⟨1000, ?_⟩, ⟨1000, ?_⟩, rfl, n, rfl, hS, hH, hK, hX, b3⟩
          · unfold f_X6_add f_X6_isTellable
            rw [hx1] at b1
            simp only [e1, i10, hx1, h0, d2, ↓reduceIte]
            rw [d1, twC1 hu hv huv hn, if_neg (by decide)]
            exact b1
          · unfold f_X7_add
            rw [hx1] at b2
            simp only [e2, i10, hx1, h0, d2, ↓reduceIte]
            rw [d1, twM1 hu hv huv hn, if_neg (by decide)]
            exact b2
        · refine ⟨(-2, cS, cV, cB), (-2, szs, sos, ths), ⟨1000, ?_⟩, ⟨1000, ?_⟩, rfl, n, rfl, hS, hH, hK, hX, hC⟩
          · unfold f_X6_add f_X6_isTellable; simp only [e1, i10, hx1, h0, d1, ↓reduceIte]
          · unfold f_X7_add; simp only [e2, i10, hx1, h0, d2, ↓reduceIte]
    · have out : (f_X6_add_24 1000 (nI k) x2 x3 x4 cM cS cV cB = some (-3, cS, cV, cB) ∧ f_X7_add_37 1000 (nI k) x2 x3 x4 szs sos ths = some (-3, szs, sos, ths)) → ∃ (res : Int32 × (Nat → Int32) × (Nat → Nat → Int32) × (Nat → Nat → Int32)) (rem : Int32 × (Nat → Int32) × (Nat → Int32) × (Nat → Int32)), f_X6_add 1000 (nI k) x2 x3 x4 (nI n) cM cS cV cB = some res ∧ f_X7_add 1000 (nI k) x2 x3 x4 (nI n) szs sos ths = some rem ∧ res.1 = rem.1 ∧ InvC n cM res.2.1 res.2.2.1 res.2.2.2 rem.2.1 rem.2.2.1 rem.2.2.2 := by
        rintro ⟨b1, b2⟩
        refine ⟨(-3, cS, cV, cB), (-3, szs, sos, ths), ?_, ?_, rfl, hC⟩
        · unfold f_X6_add; simp only [e1, i10, hx1, ↓reduceIte]; exact b1
        · unfold f_X7_add; simp only [e2, i10, hx1, ↓reduceIte]; exact b2
      have fin : ∃ (res : Int32 × (Nat → Int32) × (Nat → Nat → Int32) × (Nat → Nat → Int32)) (rem : Int32 × (Nat → Int32) × (Nat → Int32) × (Nat → Int32)), f_X6_add 1000 (nI k) x2 x3 x4 (nI n) cM cS cV cB = some res ∧ f_X7_add 1000 (nI k) x2 x3 x4 (nI n) szs sos ths = some rem ∧ res.1 = rem.1 ∧ InvC n cM res.2.1 res.2.2.1 res.2.2.2 rem.2.1 rem.2.2.1 rem.2.2.2 := by
        rcases oneOf (m := 1) (by omega) (mm := 1) rfl x2 with ⟨j, hj, ej, e3⟩ | ⟨e3, h3⟩
        · have hj0 : j = 0 := by
            rcases (show j = 0 ∨ j = 1 by omega) with h | h
            · exact h
            · subst h; exact absurd ej hx1
          subst hj0
          rcases inNum x4 with ⟨n1, n2, n3⟩ | ⟨n1, n2⟩
          · obtain ⟨r, S, V, B, Z, G2, H2, b1, b2, b3⟩ := tail 0 (by omega) ej (Or.inl ⟨rfl, Int32.not_lt.mp n2, n3⟩) (fun _ => ⟨n1, n2, n3⟩)
            refine ⟨(r, S, V, B), (r, Z, G2, H2), ?_, ?_, rfl, b3⟩
            · unfold f_X6_add; simp only [e1, i10, hx1, ↓reduceIte]; exact b1
            · unfold f_X7_add; simp only [e2, i10, hx1, ↓reduceIte]; exact b2
          · rcases oneOf (m := 1) (by omega) (mm := 1) rfl x3 with ⟨i, hi, rfl, e4⟩ | ⟨e4, h4⟩
            · refine out ⟨?_, ?_⟩
              · unfold f_X6_add_24
                have q3 : ¬ nI i < 0 := nI_pos (by omega)
                have q4 : nI i ≤ 1 := nI_le (b := 1) hi (by omega)
                rw [ej, if_neg (by decide), if_neg (by decide), if_neg q3, if_pos q4, if_pos nI_0]
                by_cases h9 : x4 < -9999
                · rw [if_pos h9]
                · rw [if_neg h9, if_neg (n2.resolve_left h9)]
              · unfold f_X7_add_37
                rw [e3, e4, if_neg (by decide), if_neg (by decide), ej, if_pos nI_0, n1, if_pos rfl]
            · refine out ⟨?_, ?_⟩
              · unfold f_X6_add_24
                rw [ej, if_neg (by decide), if_neg (by decide)]
                by_cases h9 : x3 < 0
                · rw [if_pos h9]
                · rw [if_neg h9, if_neg (h4.resolve_left h9)]
              · unfold f_X7_add_37
                rw [e3, e4, if_neg (by decide), if_pos rfl]
        · refine out ⟨?_, ?_⟩
          · unfold f_X6_add_24
            by_cases h9 : x2 < 0
            · rw [if_pos h9]
            · rw [if_neg h9, if_pos (Int32.not_le.mp (h3.resolve_left h9))]
          · unfold f_X7_add_37
            rw [e3, if_pos rfl]
      obtain ⟨res, rem, b1, b2, b3, b4⟩ := fin
      exact ⟨res, rem, ⟨1000, b1⟩, ⟨1000, b2⟩, b3, n, rfl, hS, hH, hK, hX, b4⟩
  · refine ⟨(-2, cS, cV, cB), (-2, szs, sos, ths), ⟨1000, ?_⟩, ⟨1000, ?_⟩, rfl, n, rfl, hS, hH, hK, hX, hC⟩
    · unfold f_X6_add; simp only [e1, ↓reduceIte]
    · unfold f_X7_add; simp only [e2, ↓reduceIte]
