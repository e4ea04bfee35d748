theorem sumC_congr {f g : Nat → Int32} {p q : Nat → Bool} : ∀ (c i : Nat), (∀ j, i ≤ j → j < i + c → f j = g j ∧ p j = q j) → sumC f p c i = sumC g q c i := by
  intro c
  induction c with
  | zero => intro i _; rfl
  | succ c ih =>
    intro i h
    obtain ⟨h1, h2⟩ := h i (Nat.le_refl _) (by omega)
    simp only [sumC, h1, h2]
    rw [ih (i + 1) (fun j a b => h j (by omega) (by omega))]
theorem sumM {k j z : Nat} (hk : k < 3) (hj : j ≤ 2) (hz : z ≤ 8) {szs sos ths : Nat → Int32} (hs : szs k = nI z) : ∀ (c m i : Nat) (x : Int32), i + c = z → c < m → f_X7_sum_39 (nI k) (nI j) szs sos ths m x (nI i) = some (x + sumC (fun i => ths (8 * k + i)) (fun i => decide (j = 2) || decide (sos (8 * k + i) = nI j)) c i) := by
  have hxi : xin (nI k) 3 = true := xin_n hk (by omega)
  intro c
  induction c with
  | zero =>
    intro m i x h1 h2
    obtain ⟨m, rfl⟩ : ∃ k, m = k + 1 := ⟨m - 1, by omega⟩
    have q : nI z ≤ nI i := nI_le (by omega) (by omega)
    rw [f_X7_sum_39]
    simp only [hxi, ↓reduceIte, nI_clamp (show k < 2 ^ 31 by omega), hs, q]
    simp [sumC]
  | succ c ih =>
    intro m i x h1 h2
    obtain ⟨m, rfl⟩ : ∃ k, m = k + 1 := ⟨m - 1, by omega⟩
    have q1 : ¬ nI z ≤ nI i := nI_ge (by omega) (by omega)
    have q2 : xin (nI (8 * k + i)) 24 = true := xin_n (by omega) (by omega)
    rw [f_X7_sum_39]
    simp only [hxi, q1, q2, ix8, ↓reduceIte, nI_clamp (show k < 2 ^ 31 by omega), nI_clamp (show 8 * k + i < 2 ^ 31 by omega), hs, nI_1]
    have ih' := fun x => ih m (i + 1) x (by omega) (by omega)
    by_cases h3 : j = 2
    · have h4 : nI j = 2 := by rw [h3]; rfl
      simp only [h4, ↓reduceIte]
      rw [← h4, ih']
      simp [sumC, h3, Int32.add_assoc]
    · have h4 : ¬ nI j = 2 := fun h => h3 ((nI_eq (b := 2) (by omega) (by omega)).mp h)
      simp only [h4, ↓reduceIte]
      by_cases h5 : sos (8 * k + i) = nI j
      · simp only [h5, ↓reduceIte]
        rw [ih']
        simp [sumC, h5, Int32.add_assoc]
      · simp only [h5, ↓reduceIte]
        rw [ih']
        simp [sumC, h5, h3]
theorem op_sum : Op_sum Inv0 := by
  intro kps len txt ncl tso tst ten knd nbs pts wrk out mem abv nxt psz nP nW nO nM nA eP eW eO eM eA usd usi cam cM cS cV cB mn um len2 plc srt frm num wrg cm mpt st pst kep isk pil nxs txt2 cls asd opn byy twc szs sos ths hI x1 x2
  obtain ⟨n, hmn, hS, hH, hK, hX, hC⟩ := hI
  rcases isChC x1 with ⟨k, hk, rfl, e1, e2⟩ | ⟨e1, e2⟩
  · rcases oneOf (m := 2) (by omega) (mm := 2) rfl x2 with ⟨j, hj, rfl, e3⟩ | ⟨e3, h3⟩
    · have hxi : xin (nI k) 3 = true := xin_n hk (by omega)
      have q1 : ¬ nI j < 0 := nI_pos (by omega)
      have q2 : nI j ≤ 2 := nI_le (b := 2) hj (by omega)
      have qk := nI_clamp (show k < 2 ^ 31 by omega)
      rcases hC k hk with ⟨c1, c2, c3⟩ | ⟨c1, z, hz, c2, c3, c4⟩
      · refine ⟨-11, -11, ⟨1000, ?_⟩, ⟨1000, ?_⟩, rfl, n, hmn, hS, hH, hK, hX, hC⟩
        · unfold f_X6_sum
          simp only [e1, hxi, q1, q2, i10, ↓reduceIte, qk, c1]
        · unfold f_X7_sum
          simp only [e2, e3, hxi, i10, ↓reduceIte, qk, c3, m1e]
      · have r2 : (0 : Int32) ≤ nI z := nI_pos' (by omega)
        have hM := sumM hk hj hz c3 (sos := sos) (ths := ths) z 1000 0 500000 (by omega) (by omega)
        rw [nI_0] at hM
        have hcg : ∀ w1 w2 : Int32, ((w1 = 0) ↔ j = 1) → ((w2 = 0) ↔ j = 0) → f_X0_total 1000 w1 w2 (nI z) (cV k) (cB k) = some (sumC (fun i => ths (8 * k + i)) (fun i => decide (j = 2) || decide (sos (8 * k + i) = nI j)) z 0) := by
          intro w1 w2 a1 a2
          unfold f_X0_total
          have hT := totalC hz (w1 := w1) (w2 := w2) (val := cV k) (isa := cB k) z 1000 0 0 (by omega) (by omega)
          rw [nI_0] at hT
          rw [hT, show ∀ y : Int32, (0 : Int32) + y = y from fun y => by rw [Int32.add_comm, Int32.add_zero]]
          congr 1
          refine sumC_congr z 0 (fun i _ hi => ?_)
          obtain ⟨d1, d2, d3⟩ := c4 i (by omega)
          refine ⟨d1.symm, ?_⟩
          rw [d2]
          rcases d3 with ⟨t1, -⟩ | ⟨t1, -⟩
          · rw [t1, if_pos rfl]
            rcases (show j = 0 ∨ j = 1 ∨ j = 2 by omega) with rfl | rfl | rfl
            · have : ¬ w1 = 0 := fun h => absurd (a1.mp h) (by omega)
              simp [this, nI_0]
            · have : w1 = 0 := a1.mpr rfl
              simp [this, nI_one, i01]
            · have : ¬ w1 = 0 := fun h => absurd (a1.mp h) (by omega)
              simp [this]
          · rw [t1, if_neg (by decide)]
            rcases (show j = 0 ∨ j = 1 ∨ j = 2 by omega) with rfl | rfl | rfl
            · have : w2 = 0 := a2.mpr rfl
              simp [this, nI_0, i10]
            · have : ¬ w2 = 0 := fun h => absurd (a2.mp h) (by omega)
              simp [this, nI_one]
            · have : ¬ w2 = 0 := fun h => absurd (a2.mp h) (by omega)
              simp [this]
        refine ⟨500000 + sumC (fun i => ths (8 * k + i)) (fun i => decide (j = 2) || decide (sos (8 * k + i) = nI j)) z 0, 500000 + sumC (fun i => ths (8 * k + i)) (fun i => decide (j = 2) || decide (sos (8 * k + i) = nI j)) z 0, ⟨1000, ?_⟩, ⟨1000, ?_⟩, rfl, n, hmn, hS, hH, hK, hX, hC⟩
        · unfold f_X6_sum f_X6_sum_53
          rcases (show j = 0 ∨ j = 1 ∨ j = 2 by omega) with rfl | rfl | rfl
          · simp only [e1, hxi, q1, q2, i10, i01, ↓reduceIte, qk, c1, c2, nI_0, hcg 1 0 (by decide) (by decide), Option.bind_some]
            rw [if_neg (by decide), if_pos (by decide), Int32.add_comm]
          · simp only [e1, hxi, q1, q2, i10, i01, ↓reduceIte, qk, c1, c2, nI_one, hcg 0 1 (by decide) (by decide), Option.bind_some]
            rw [if_neg (by decide), if_pos (by decide), Int32.add_comm]
          · have a3 : ¬ nI 2 = 1 := by decide
            have a4 : ¬ nI 2 = 0 := by decide
            simp only [e1, hxi, q1, q2, i10, i01, ↓reduceIte, qk, c1, c2, a3, a4, hcg 1 1 (by decide) (by decide), Option.bind_some]
            rw [Int32.add_comm]
        · unfold f_X7_sum
          simp only [e2, e3, hxi, i10, ↓reduceIte, qk, c3, r2]
          exact hM
    · refine ⟨-3, -3, ⟨1000, ?_⟩, ⟨1000, ?_⟩, rfl, n, hmn, hS, hH, hK, hX, hC⟩
      · unfold f_X6_sum
        by_cases h0 : x2 < 0
        · simp only [e1, i10, ↓reduceIte, h0]
        · have h4 : ¬ x2 ≤ 2 := h3.resolve_left h0
          simp only [e1, i10, ↓reduceIte, h0, h4]
      · unfold f_X7_sum
        simp only [e2, e3, i10, ↓reduceIte]
  · refine ⟨-2, -2, ⟨1000, ?_⟩, ⟨1000, ?_⟩, rfl, n, hmn, hS, hH, hK, hX, hC⟩
    · unfold f_X6_sum; simp only [e1, ↓reduceIte]
    · unfold f_X7_sum; simp only [e2, ↓reduceIte]
