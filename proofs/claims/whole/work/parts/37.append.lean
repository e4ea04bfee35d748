/-! ===== one chain behind another; arcs struck ===== -/
theorem InvC_app {n : Nat} {cM cS : Nat → Int32} {cV cB : Nat → Nat → Int32} {szs sos ths : Nat → Int32} (hC : InvC n cM cS cV cB szs sos ths) {k z : Nat} (hk : k < 3) (hz : z < 8) (c1 : cM k = 0) (c4 : ∀ i, i < z → ths (8 * k + i) = cV k i ∧ sos (8 * k + i) = cB k i ∧ thing n (cB k i) (cV k i)) {so v : Int32} (ht : thing n so v) :
    InvC n cM (va_up cS k (nI (z + 1))) (va_up cV k (upd (cV k) z v)) (va_up cB k (upd (cB k) z so)) (upd szs k (nI (z + 1))) (upd sos (8 * k + z) so) (upd ths (8 * k + z) v) := by
  refine InvC_ins hC hk hz (Nat.le_refl z) c1 c4 ht (fun t => ?_) (fun t => ?_)
  · by_cases h : t = z
    · rw [i3p h, i3p h, h, pk_us, pk_us]; exact ⟨rfl, rfl⟩
    · rw [i3n h (by omega), i3n h (by omega), pk_un h, pk_un h]; exact ⟨rfl, rfl⟩
  · by_cases h : t = 8 * k + z
    · rw [i3p h, i3p h, h, pk_us, pk_us]; exact ⟨rfl, rfl⟩
    · rw [i3n h (by omega), i3n h (by omega), pk_un h, pk_un h]; exact ⟨rfl, rfl⟩
theorem app_loop {n f t w z : Nat} (hf : f < 3) (ht : t < 3) (hw : w ≤ 8) (hzw : z + w ≤ 8) {cM : Nat → Int32} (mf : cM f = 0) (mt : cM t = 0) : ∀ (c i m m2 : Nat) (cS : Nat → Int32) (cV cB : Nat → Nat → Int32) (szs sos ths : Nat → Int32), i + c = w → c < m → c < m2 → InvC n cM cS cV cB szs sos ths → (∃ y, w ≤ y ∧ y ≤ 8 ∧ cS f = nI y) → cS t = nI (z + i) → ∃ (S : Nat → Int32) (V B : Nat → Nat → Int32) (Z G2 H2 : Nat → Int32), f_X6_append_75 1000 (nI w) f t m (nI i) cS cV cB = some (nI (z + w), S, V, B) ∧ f_X7_append_64 (nI f) (nI t) (nI w) m2 (nI i) szs sos ths = some (nI (z + w), Z, G2, H2) ∧ InvC n cM S V B Z G2 H2 := by
  have hxf : xin (nI f) 3 = true := xin_n hf (by omega)
  have hxt : xin (nI t) 3 = true := xin_n ht (by omega)
  have qf := nI_clamp (show f < 2 ^ 31 by omega)
  have qt := nI_clamp (show t < 2 ^ 31 by omega)
  intro c
  induction c with
  | zero =>
    intro i m m2 cS cV cB szs sos ths h1 h2 h3 hC hy hzt
    obtain ⟨m, rfl⟩ : ∃ k, m = k + 1 := ⟨m - 1, by omega⟩
    obtain ⟨m2, rfl⟩ : ∃ k, m2 = k + 1 := ⟨m2 - 1, by omega⟩
    obtain rfl : i = w := by omega
    have q1 : nI i ≤ nI i := nI_le (Nat.le_refl _) (by omega)
    have hst : szs t = nI (z + i) := by
      rcases hC t ht with ⟨c1, -, -⟩ | ⟨-, z', hz', c2, c3, -⟩
      · rw [mt] at c1; exact absurd c1 (by decide)
      · rw [c2] at hzt; rw [c3]; exact hzt
    refine ⟨cS, cV, cB, szs, sos, ths, ?_, ?_, hC⟩
    · rw [f_X6_append_75]; simp only [q1, ↓reduceIte, hzt]
    · rw [f_X7_append_64]; simp only [q1, hxt, ↓reduceIte, qt, hst]
  | succ c ih =>
    intro i m m2 cS cV cB szs sos ths h1 h2 h3 hC hy hzt
    obtain ⟨m, rfl⟩ : ∃ k, m = k + 1 := ⟨m - 1, by omega⟩
    obtain ⟨m2, rfl⟩ : ∃ k, m2 = k + 1 := ⟨m2 - 1, by omega⟩
    obtain ⟨y, hy1, hy2, hy3⟩ := hy
    have q1 : ¬ nI w ≤ nI i := nI_ge (by omega) (by omega)
    have q2 : xin (nI i) 8 = true := xin_n (by omega) (by omega)
    have q3 : xin (nI (8 * f + i)) 24 = true := xin_n (by omega) (by omega)
    have q4 : xin (nI (8 * t + (z + i))) 24 = true := xin_n (by omega) (by omega)
    have qi := nI_clamp (show i < 2 ^ 31 by omega)
    have qfi := nI_clamp (show 8 * f + i < 2 ^ 31 by omega)
    have qtz := nI_clamp (show 8 * t + (z + i) < 2 ^ 31 by omega)
    obtain ⟨d1, d2, d3⟩ : ths (8 * f + i) = cV f i ∧ sos (8 * f + i) = cB f i ∧ thing n (cB f i) (cV f i) := by
      rcases hC f hf with ⟨c1, -, -⟩ | ⟨-, z', hz', c2, c3, c4⟩
      · rw [mf] at c1; exact absurd c1 (by decide)
      · rw [c2] at hy3
        have := (nI_eq (by omega) (by omega)).mp hy3
        exact c4 i (by omega)
    obtain ⟨hst, c4⟩ : szs t = nI (z + i) ∧ ∀ j, j < z + i → ths (8 * t + j) = cV t j ∧ sos (8 * t + j) = cB t j ∧ thing n (cB t j) (cV t j) := by
      rcases hC t ht with ⟨c1, -, -⟩ | ⟨-, z', hz', c2, c3, c4⟩
      · rw [mt] at c1; exact absurd c1 (by decide)
      · rw [c2] at hzt
        have := (nI_eq (by omega) (by omega)).mp hzt
        subst this
        exact ⟨c3, c4⟩
    have hins : f_X0_insert 1000 (nI (z + i)) (cV f i) (cB f i) (nI (z + i)) (cV t) (cB t) = some (nI (z + i) + 1, upd (cV t) (z + i) (cV f i), upd (cB t) (z + i) (cB f i)) := by
      have r1 : nI (z + i) ≤ nI (z + i) := nI_le (Nat.le_refl _) (by omega)
      have r2 : xin (nI (z + i)) 8 = true := xin_n (by omega) (by omega)
      unfold f_X0_insert
      rw [f_X0_insert_6]
      simp only [r1, r2, ↓reduceIte, nI_clamp (show z + i < 2 ^ 31 by omega), nb01 (thing01 d3)]
    have hC' := InvC_app hC ht (z := z + i) (by omega) mt c4 d3
    obtain ⟨S, V, B, Z, G2, H2, b1, b2, b3⟩ := ih (i + 1) m m2 _ _ _ _ _ _ (by omega) (by omega) (by omega) hC' (by
      by_cases hft : f = t
      · refine ⟨z + i + 1, ?_, by omega, by rw [hft, vu_s]⟩
        rw [hft] at hy3
        have := (nI_eq (by omega) (by omega)).mp (hy3.symm.trans hzt)
        omega
      · exact ⟨y, hy1, hy2, by rw [vu_n hft]; exact hy3⟩) (by rw [vu_s]; rfl)
    refine ⟨S, V, B, Z, G2, H2, ?_, ?_, b3⟩
    · rw [f_X6_append_75]
      simp only [q1, q2, ↓reduceIte, qi, hzt, hins, Option.bind_some, nI_1]
      exact b1
    · rw [f_X7_append_64]
      simp only [q1, hxt, qt, hst, ix8, q3, q4, ↓reduceIte, qfi, qtz, d1, d2, nI_1]
      exact b2
theorem op_append : Op_append Inv0 := by
  intro kps len txt ncl tso tst ten knd nbs pts wrk out mem abv nxt psz nP nW nO nM nA eP eW eO eM eA usd usi cam cM cS cV cB mn um len2 plc srt frm num wrg cm mpt st pst kep isk pil nxs txt2 cls asd opn byy twc szs sos ths hI x1 x2
  obtain ⟨n, hmn, hS, hH, hK, hX, hC⟩ := hI
  rcases isChC x1 with ⟨f, hf, rfl, e1, e2⟩ | ⟨e1, e2⟩
  · rcases isChC x2 with ⟨t, ht, rfl, e3, e4⟩ | ⟨e3, e4⟩
    · have hxf : xin (nI f) 3 = true := xin_n hf (by omega)
      have hxt : xin (nI t) 3 = true := xin_n ht (by omega)
      have qf := nI_clamp (show f < 2 ^ 31 by omega)
      have qt := nI_clamp (show t < 2 ^ 31 by omega)
      have m1 : (-1 : Int32) < 0 := by decide
      rcases hC f hf with ⟨c1, c2, c3⟩ | ⟨c1, w, hw, c2, c3, -⟩
      · refine ⟨(-11, cS, cV, cB), (-11, szs, sos, ths), ⟨1000, ?_⟩, ⟨1000, ?_⟩, rfl, n, hmn, hS, hH, hK, hX, hC⟩
        · unfold f_X6_append; simp only [e1, e3, i10, hxf, hxt, ↓reduceIte, qf, c1]
        · unfold f_X7_append; simp only [e2, e4, i10, hxf, ↓reduceIte, qf, c3, m1]
      · have p1 : ¬ nI w < 0 := nI_pos (by omega)
        rcases hC t ht with ⟨d1, d2, d3⟩ | ⟨d1, z, hz, d2, d3, -⟩
        · refine ⟨(-11, cS, cV, cB), (-11, szs, sos, ths), ⟨1000, ?_⟩, ⟨1000, ?_⟩, rfl, n, hmn, hS, hH, hK, hX, hC⟩
          · unfold f_X6_append; simp only [e1, e3, i10, hxf, hxt, ↓reduceIte, qf, qt, c1, d1]
          · unfold f_X7_append; simp only [e2, e4, i10, hxf, hxt, ↓reduceIte, qf, qt, c3, p1, d3, m1e]
        · have p2 : (0 : Int32) ≤ nI z := nI_pos' (by omega)
          by_cases hzw : z + w ≤ 8
          · have p3 : nI (z + w) ≤ 8 := nI_le (b := 8) hzw (by omega)
            have p4 : nI (w + z) ≤ 8 := nI_le (b := 8) (by omega) (by omega)
            obtain ⟨S, V, B, Z, G2, H2, b1, b2, b3⟩ := app_loop hf ht hw hzw c1 d1 w 0 1000 1000 cS cV cB szs sos ths (by omega) (by omega) (by omega) hC ⟨w, Nat.le_refl _, hw, c2⟩ d2
            rw [nI_0] at b1 b2
            refine ⟨(nI (z + w), S, V, B), (nI (z + w), Z, G2, H2), ⟨1000, ?_⟩, ⟨1000, ?_⟩, rfl, n, hmn, hS, hH, hK, hX, b3⟩
            · unfold f_X6_append; simp only [e1, e3, i10, hxf, hxt, ↓reduceIte, qf, qt, c1, d1, c2, d2, nI_add, p3]; exact b1
            · unfold f_X7_append; simp only [e2, e4, i10, hxf, hxt, ↓reduceIte, qf, qt, c3, p1, d3, p2, nI_add, p4]; exact b2
          · have p3 : ¬ nI (z + w) ≤ 8 := nI_ge (a := 8) (by omega) (by omega)
            have p4 : ¬ nI (w + z) ≤ 8 := nI_ge (a := 8) (by omega) (by omega)
            refine ⟨(-14, cS, cV, cB), (-14, szs, sos, ths), ⟨1000, ?_⟩, ⟨1000, ?_⟩, rfl, n, hmn, hS, hH, hK, hX, hC⟩
            · unfold f_X6_append; simp only [e1, e3, i10, hxf, hxt, ↓reduceIte, qf, qt, c1, d1, c2, d2, nI_add, p3]
            · unfold f_X7_append; simp only [e2, e4, i10, hxf, hxt, ↓reduceIte, qf, qt, c3, p1, d3, p2, nI_add, p4]
    · refine ⟨(-2, cS, cV, cB), (-2, szs, sos, ths), ⟨1000, ?_⟩, ⟨1000, ?_⟩, rfl, n, hmn, hS, hH, hK, hX, hC⟩
      · unfold f_X6_append; simp only [e1, e3, i10, ↓reduceIte]
      · unfold f_X7_append; simp only [e2, e4, i10, ↓reduceIte]
  · refine ⟨(-2, cS, cV, cB), (-2, szs, sos, ths), ⟨1000, ?_⟩, ⟨1000, ?_⟩, rfl, n, hmn, hS, hH, hK, hX, hC⟩
    · unfold f_X6_append; simp only [e1, ↓reduceIte]
    · unfold f_X7_append; simp only [e2, ↓reduceIte]
