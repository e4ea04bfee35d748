/-! ===== chains ===== -/
theorem nI_one : nI 1 = 1 := rfl
theorem nI_two : nI 2 = 2 := rfl
theorem oneOf {m : Nat} (hm : m < 1000) {mm : Int32} (e : mm = nI m) (x : Int32) : (∃ k, k ≤ m ∧ x = nI k ∧ f_X7_isOneOf x mm = 1) ∨ (f_X7_isOneOf x mm = 0 ∧ (x < 0 ∨ ¬ x ≤ mm)) := by
  subst e
  have hT : ((nI m).toInt64).toInt = m := by rw [Int32.toInt_toInt64, nI_toInt (by omega)]
  rcases pk_ix x (n := m + 1) (by omega) with h | h | ⟨k, hk, rfl⟩
  · right
    refine ⟨inM0 (Or.inl ?_), Or.inl h⟩
    rw [Int32.toInt_toInt64]; exact Int32.lt_iff_toInt_lt.mp h
  · right
    have h' := Int32.le_iff_toInt_le.mp h
    rw [nI_toInt (by omega)] at h'
    refine ⟨inM0 (Or.inr ?_), Or.inr fun h2 => ?_⟩
    · rw [hT, Int32.toInt_toInt64]; omega
    · have h3 := Int32.le_iff_toInt_le.mp h2
      rw [nI_toInt (by omega)] at h3
      omega
  · left
    refine ⟨k, by omega, rfl, inM1 ?_ ?_⟩
    · rw [Int32.toInt_toInt64, nI_toInt (by omega)]; show (0 : Int) ≤ _; omega
    · rw [hT, Int32.toInt_toInt64, nI_toInt (by omega)]; omega
theorem ix8 (k i : Nat) : ((8 : Int32) * nI k) + nI i = nI (8 * k + i) := by
  rw [show (8 : Int32) = nI 8 from rfl, pk_mul, nI_add]
theorem m1l : ((0 : Int32) < -1) = False := eq_false (by decide)
theorem m1e : ((0 : Int32) ≤ -1) = False := eq_false (by decide)
theorem i01 : ((0 : Int32) = 1) = False := eq_false (by decide)
theorem op_last : Op_last Inv0 := by
  intro kps len txt ncl tso tst ten knd nbs pts wrk out mem abv nxt psz nP nW nO nM nA eP eW eO eM eA usd usi cam cM cS cV cB mn um len2 plc srt frm num wrg cm mpt st pst kep isk pil nxs txt2 cls asd opn byy twc szs sos ths hI x1 x2
  obtain ⟨n, hmn, hS, hH, hK, hX, hC⟩ := hI
  unfold f_X6_last f_X7_last
  rcases isChC x1 with ⟨k, hk, rfl, e1, e2⟩ | ⟨e1, e2⟩
  · rcases oneOf (m := 1) (by omega) (mm := 1) rfl x2 with ⟨j, hj, rfl, e3⟩ | ⟨e3, h3⟩
    · have hxi : xin (nI k) 3 = true := xin_n hk (by omega)
      have q1 : ¬ nI j < 0 := nI_pos (by omega)
      have q2 : nI j ≤ 1 := nI_le (b := 1) hj (by omega)
      have qk := nI_clamp (show k < 2 ^ 31 by omega)
      rcases hC k hk with ⟨c1, c2, c3⟩ | ⟨c1, z, hz, c2, c3, c4⟩
      · simp only [e1, e2, e3, hxi, q1, q2, i10, ↓reduceIte, qk, c1, c3, m1l, m1e]
        exact ⟨_, _, rfl, rfl, rfl, n, hmn, hS, hH, hK, hX, hC⟩
      · by_cases hz0 : z = 0
        · subst hz0
          have r1 : ¬ (0 : Int32) < nI 0 := by decide
          have r2 : (0 : Int32) ≤ nI 0 := by decide
          simp only [e1, e2, e3, hxi, q1, q2, i10, ↓reduceIte, qk, c1, c2, c3, r1, r2, nI_0]
          exact ⟨_, _, rfl, rfl, rfl, n, hmn, hS, hH, hK, hX, hC⟩
        · obtain ⟨w, rfl⟩ : ∃ w, z = w + 1 := ⟨z - 1, by omega⟩
          obtain ⟨d1, d2, d3⟩ := c4 w (by omega)
          have r1 : (0 : Int32) < nI (w + 1) := nI_lt (a := 0) (by omega) (by omega)
          have r2 : ¬ nI (w + 1) = 0 := nI_ne0 (by omega) (by omega)
          have r3 : xin (nI w) 8 = true := xin_n (by omega) (by omega)
          have r4 : ((8 : Int32) * nI k) + nI (w + 1) - 1 = nI (8 * k + w) := by rw [ix8, show 8 * k + (w + 1) = (8 * k + w) + 1 by omega, nI_pred]
          have r5 : xin (nI (8 * k + w)) 24 = true := xin_n (by omega) (by omega)
          have qw := nI_clamp (show w < 2 ^ 31 by omega)
          have qkw := nI_clamp (show 8 * k + w < 2 ^ 31 by omega)
          have hset : InvC n cM (va_up cS k (nI w)) cV cB (upd szs k (nI w)) sos ths := InvC_set hC hk (fun j hj hjk => ⟨rfl, vu_n hjk, rfl, rfl, pk_un hjk, fun i hi => ⟨rfl, rfl⟩⟩) (Or.inr ⟨c1, w, by omega, vu_s, pk_us, fun i hi => c4 i (by omega)⟩)
          rcases (show j = 0 ∨ j = 1 by omega) with rfl | rfl
          · simp only [e1, e2, e3, hxi, q1, q2, i10, i01, ↓reduceIte, qk, c1, c2, c3, r1, r2, r3, r4, r5, nI_pred, nI_0, qw, qkw, d1, d2, f_X6_last_74]
            by_cases hb : cB k w = 0
            · simp only [hb, ↓reduceIte]
              exact ⟨_, _, rfl, rfl, rfl, n, hmn, hS, hH, hK, hX, hset⟩
            · simp only [hb, ↓reduceIte]
              exact ⟨_, _, rfl, rfl, rfl, n, hmn, hS, hH, hK, hX, hC⟩
          · simp only [e1, e2, e3, hxi, q1, q2, i10, i01, ↓reduceIte, qk, c1, c2, c3, r1, r2, r3, r4, r5, nI_pred, nI_one, qw, qkw, d1, d2, f_X6_last_74]
            by_cases hb : cB k w = 1
            · simp only [hb, ↓reduceIte]
              exact ⟨_, _, rfl, rfl, rfl, n, hmn, hS, hH, hK, hX, hset⟩
            · simp only [hb, ↓reduceIte]
              exact ⟨_, _, rfl, rfl, rfl, n, hmn, hS, hH, hK, hX, hC⟩
    · refine ⟨(-3, cS), (-3, szs), ?_, ?_, rfl, n, hmn, hS, hH, hK, hX, hC⟩
      · by_cases h0 : x2 < 0
        · simp only [e1, i10, ↓reduceIte, h0]
        · have h4 : ¬ x2 ≤ 1 := h3.resolve_left h0
          simp only [e1, i10, ↓reduceIte, h0, h4]
      · simp only [e2, e3, i10, ↓reduceIte]
  · simp only [e1, e2, ↓reduceIte]
    exact ⟨_, _, rfl, rfl, rfl, n, hmn, hS, hH, hK, hX, hC⟩
/-! sums -/
/-- a sum of what counts of the first things -/
def sumC (f : Nat → Int32) (p : Nat → Bool) : Nat → Nat → Int32
  | 0, _ => 0
  | c + 1, i => (if p i then f i else 0) + sumC f p c (i + 1)
theorem totalC {w1 w2 : Int32} {z : Nat} (hz : z ≤ 8) {val isa : Nat → Int32} : ∀ (c m i : Nat) (x : Int32), i + c = z → c < m → f_X0_total_5 w1 w2 (nI z) val isa m x (nI i) = some (x + sumC val (fun i => if isa i = 0 then decide (¬ w1 = 0) else decide (¬ w2 = 0)) c i) := by
  intro c
  induction c with
  | zero =>
    intro m i x h1 h2
    obtain ⟨m, rfl⟩ : ∃ k, m = k + 1 := ⟨m - 1, by omega⟩
    rw [f_X0_total_5, if_pos (nI_le (by omega) (by omega))]
    simp [sumC]
  | succ c ih =>
    intro m i x h1 h2
    obtain ⟨m, rfl⟩ : ∃ k, m = k + 1 := ⟨m - 1, by omega⟩
    have q1 : ¬ nI z ≤ nI i := nI_ge (by omega) (by omega)
    have q2 : xin (nI i) 8 = true := xin_n (by omega) (by omega)
    rw [f_X0_total_5]
    simp only [q1, q2, ↓reduceIte, nI_clamp (show i < 2 ^ 31 by omega), nI_1]
    have ih' := fun x => ih m (i + 1) x (by omega) (by omega)
    by_cases h3 : isa i = 0
    · by_cases h4 : w1 = 0
      · simp only [h3, h4, ↓reduceIte] at ih' ⊢
        rw [ih']
        simp [sumC, h3]
      · simp only [h3, h4, ↓reduceIte] at ih' ⊢
        rw [ih']
        simp [sumC, h3, Int32.add_assoc]
    · by_cases h4 : w2 = 0
      · simp only [h3, h4, ↓reduceIte] at ih' ⊢
        rw [ih']
        simp [sumC, h3]
      · simp only [h3, h4, ↓reduceIte] at ih' ⊢
        rw [ih']
        simp [sumC, h3, Int32.add_assoc]
