/-! ===== the class's ways ===== -/
def rC (A Ud Ui : Nat → Nat) (x y : Nat) : Nat := b2 ((A x).testBit y && !(Ud x).testBit y) + b2 ((Ui x).testBit y)
def IC (n : Nat) (A Ud Ui : Nat → Nat) : Prop :=
  (∀ x, x < n → Ud x < 2 ^ n ∧ Ui x < 2 ^ n) ∧ (∀ x y, x < n → y < n → (Ui x).testBit y = (Ud y).testBit x) ∧ ∀ x y, x < n → (Ud x).testBit y = true → (A x).testBit y = true
def RepU (n : Nat) (usd usi : Nat → Int32) (Ud Ui : Nat → Nat) : Prop := ∀ x, x < n → usd x = nI (Ud x) ∧ usi x = nI (Ui x)
theorem tb_clr {f : Nat → Nat} {q p x y : Nat} : (va_up f q (dif (f q) (2 ^ p)) x).testBit y = ((f x).testBit y && !(decide (x = q) && decide (y = p))) := by
  by_cases e : x = q
  · subst e; rw [vu_s, dif_tb, tb2]; simp
  · rw [vu_n e]; simp [e]
theorem tb_set {f : Nat → Nat} {q p x y : Nat} : (va_up f q (f q ||| 2 ^ p) x).testBit y = ((f x).testBit y || (decide (x = q) && decide (y = p))) := by
  by_cases e : x = q
  · subst e; rw [vu_s, Nat.testBit_or, tb2]; simp
  · rw [vu_n e]; simp [e]
theorem rep_up {n q z : Nat} {f : Nat → Int32} {g : Nat → Nat} (h : ∀ x, x < n → f x = nI (g x)) : ∀ x, x < n → upd f q (nI z) x = nI (va_up g q z x) := by
  intro x hx
  by_cases e : x = q
  · subst e; rw [pk_us, vu_s]
  · rw [pk_un e, vu_n e]; exact h x hx
theorem lt_up {n q z : Nat} {g : Nat → Nat} (h : ∀ x, x < n → g x < 2 ^ n) (hz : z < 2 ^ n) : ∀ x, x < n → va_up g q z x < 2 ^ n := by
  intro x hx
  by_cases e : x = q
  · subst e; rw [vu_s]; exact hz
  · rw [vu_n e]; exact h x hx
theorem stepC {n : Nat} {A Ud Ui : Nat → Nat} {usd usi : Nat → Int32} (hn : n ≤ 10) (hI : IC n A Ud Ui) (hR : RepU n usd usi Ud Ui) {p q : Nat} (hp : p < n) (hq : q < n) (hpq : p ≠ q) (h1 : 1 ≤ rC A Ud Ui p q) : ∃ usd' usi' Ud' Ui', f_X1_useStep (nI p) (nI q) usd usi = some (usd', usi') ∧ RepU n usd' usi' Ud' Ui' ∧ IC n A Ud' Ui' ∧ Push n (rC A Ud Ui) (rC A Ud' Ui') p q := by
  obtain ⟨i1, i2, i3⟩ := hI
  have qp : xin (nI p) 10 = true := xin_n (by omega) (by omega)
  have qq : xin (nI q) 10 = true := xin_n (by omega) (by omega)
  have hqp : q ≠ p := fun e => hpq e.symm
  have hU := i2 p q hp hq
  have hU2 := i2 q p hq hp
  have l1 : ∀ x, x < n → Ud x < 2 ^ n := fun x hx => (i1 x hx).1
  have l2 : ∀ x, x < n → Ui x < 2 ^ n := fun x hx => (i1 x hx).2
  have r1 : ∀ x, x < n → usd x = nI (Ud x) := fun x hx => (hR x hx).1
  have r2 : ∀ x, x < n → usi x = nI (Ui x) := fun x hx => (hR x hx).2
  have hh := hasC (pow10 hn (l2 p hp)) (show q < 10 by omega)
  cases hb : (Ui p).testBit q
  · rw [hb] at hU hh
    have hA : (A p).testBit q = true ∧ (Ud p).testBit q = false := by
      unfold rC at h1
      rw [hb] at h1
      cases ha : (A p).testBit q <;> cases hu : (Ud p).testBit q <;> rw [ha, hu] at h1 <;> simp [b2] at h1 ⊢
    rw [hA.2] at hU2
    refine ⟨upd usd p (nI (Ud p ||| 2 ^ q)), upd usi q (nI (Ui q ||| 2 ^ p)), va_up Ud p (Ud p ||| 2 ^ q), va_up Ui q (Ui q ||| 2 ^ p), ?_, fun x hx => ⟨rep_up r1 x hx, rep_up r2 x hx⟩, ⟨fun x hx => ⟨lt_up l1 (or_lt (l1 p hp) (two_lt hq)) x hx, lt_up l2 (or_lt (l2 q hq) (two_lt hp)) x hx⟩, fun x y hx hy => ?_, fun x y hx h => ?_⟩, fun x y hx hy => ?_⟩
    · unfold f_X1_useStep
      rw [if_pos qp, nI_clamp (by omega), nI_clamp (by omega), r2 p hp, hh, if_pos (by rfl), if_pos qp, if_pos qp, if_pos qq, if_pos qq, r1 p hp, r2 q hq, orC (by omega), orC (by omega)]
    · rw [tb_set, tb_set, i2 x y hx hy, Bool.and_comm]
    · rw [tb_set, Bool.or_eq_true] at h
      rcases h with h | h
      · exact i3 x y hx h
      · rw [Bool.and_eq_true] at h
        rw [of_decide_eq_true h.1, of_decide_eq_true h.2]; exact hA.1
    · simp only [rC, tb_set]
      by_cases e1 : x = p ∧ y = q
      · obtain ⟨rfl, rfl⟩ := e1
        simp [hpq, hqp, hA.1, hA.2, b2, hb]
      · by_cases e2 : x = q ∧ y = p
        · obtain ⟨rfl, rfl⟩ := e2
          simp [hpq, hqp, hU2, b2]
        · have f1 : (decide (x = p) && decide (y = q)) = false := by
            cases hc : (decide (x = p) && decide (y = q))
            · rfl
            · rw [Bool.and_eq_true] at hc; exact absurd ⟨of_decide_eq_true hc.1, of_decide_eq_true hc.2⟩ e1
          have f2 : (decide (x = q) && decide (y = p)) = false := by
            cases hc : (decide (x = q) && decide (y = p))
            · rfl
            · rw [Bool.and_eq_true] at hc; exact absurd ⟨of_decide_eq_true hc.1, of_decide_eq_true hc.2⟩ e2
          rw [f1, f2, if_neg e1, if_neg e2, Bool.or_false, Bool.or_false]
  · rw [hb] at hU hh
    have hA : (A q).testBit p = true := i3 q p hq hU.symm
    refine ⟨upd usd q (nI (dif (Ud q) (2 ^ p))), upd usi p (nI (dif (Ui p) (2 ^ q))), va_up Ud q (dif (Ud q) (2 ^ p)), va_up Ui p (dif (Ui p) (2 ^ q)), ?_, fun x hx => ⟨rep_up r1 x hx, rep_up r2 x hx⟩, ⟨fun x hx => ⟨lt_up l1 (dif_lt (l1 q hq)) x hx, lt_up l2 (dif_lt (l2 p hp)) x hx⟩, fun x y hx hy => ?_, fun x y hx h => ?_⟩, fun x y hx hy => ?_⟩
    · unfold f_X1_useStep
      rw [if_pos qp, nI_clamp (by omega), nI_clamp (by omega), r2 p hp, hh, if_neg (by decide), if_pos qq, if_pos qq, if_pos qp, if_pos qp, r1 q hq, bitC (by omega), bitC (by omega), nx_dif, nx_dif]
    · rw [tb_clr, tb_clr, i2 x y hx hy, Bool.and_comm (decide (x = p))]
    · rw [tb_clr, Bool.and_eq_true] at h
      exact i3 x y hx h.1
    · simp only [rC, tb_clr]
      by_cases e1 : x = p ∧ y = q
      · obtain ⟨rfl, rfl⟩ := e1
        simp [hpq, hqp, b2, hb]
      · by_cases e2 : x = q ∧ y = p
        · obtain ⟨rfl, rfl⟩ := e2
          simp [hpq, hqp, hA, hU.symm, b2]
          omega
        · have f1 : (decide (x = p) && decide (y = q)) = false := by
            cases hc : (decide (x = p) && decide (y = q))
            · rfl
            · rw [Bool.and_eq_true] at hc; exact absurd ⟨of_decide_eq_true hc.1, of_decide_eq_true hc.2⟩ e1
          have f2 : (decide (x = q) && decide (y = p)) = false := by
            cases hc : (decide (x = q) && decide (y = p))
            · rfl
            · rw [Bool.and_eq_true] at hc; exact absurd ⟨of_decide_eq_true hc.1, of_decide_eq_true hc.2⟩ e2
          rw [f1, f2, if_neg e1, if_neg e2, Bool.not_false, Bool.and_true, Bool.and_true]
theorem f75 {n k F : Nat} (hn : n ≤ 10) (hF : F < 2 ^ n) {k12 : Int32 → Int32 → Int32 → (Nat → Int32) → Option (Int32 × (Nat → Int32))} {x4 x5 x6 : Int32} : ∀ (c j m : Nat) (cam : Nat → Int32), j + c = n → c < m → ∃ cam', f_X1_findWay_75 k12 x4 x5 x6 (nI k) (nI F) (nI n) m (nI j) cam = k12 (x4 ||| nI F) ((x5 &&& ((1 <<< (nI k &&& 31)) ^^^ (-1))) ||| nI F) (x6 + 1) cam' ∧ ∀ y, y < n → cam' y = if j ≤ y ∧ F.testBit y = true then nI k else cam y := by
  intro c
  induction c with
  | zero =>
    intro j m cam h1 h2
    obtain ⟨m, rfl⟩ : ∃ k, m = k + 1 := ⟨m - 1, by omega⟩
    refine ⟨cam, by rw [f_X1_findWay_75, if_pos (nI_le (by omega) (by omega))], fun y hy => ?_⟩
    rw [if_neg (by omega)]
  | succ c ih =>
    intro j m cam h1 h2
    obtain ⟨m, rfl⟩ : ∃ k, m = k + 1 := ⟨m - 1, by omega⟩
    have hh := hasC (pow10 hn hF) (show j < 10 by omega)
    cases hb : F.testBit j
    · rw [hb] at hh
      obtain ⟨cam', e, hc⟩ := ih (j + 1) m cam (by omega) (by omega)
      refine ⟨cam', ?_, fun y hy => ?_⟩
      · rw [f_X1_findWay_75, if_neg (nI_ge (by omega) (by omega)), hh, if_pos (by rfl), nI_1, e]
      · rw [hc y hy]
        by_cases ey : y = j
        · subst ey; rw [if_neg (by omega), if_neg (fun h => by rw [hb] at h; exact absurd h.2 (by decide))]
        · by_cases h3 : j + 1 ≤ y ∧ F.testBit y = true
          · rw [if_pos h3, if_pos ⟨by omega, h3.2⟩]
          · rw [if_neg h3, if_neg (fun h => h3 ⟨by omega, h.2⟩)]
    · rw [hb] at hh
      obtain ⟨cam', e, hc⟩ := ih (j + 1) m (upd cam j (nI k)) (by omega) (by omega)
      refine ⟨cam', ?_, fun y hy => ?_⟩
      · rw [f_X1_findWay_75, if_neg (nI_ge (by omega) (by omega)), hh, if_neg (by decide), if_pos (xin_n (by omega) (by omega)), nI_clamp (by omega), nI_1, e]
      · rw [hc y hy]
        by_cases ey : y = j
        · subst ey; rw [if_neg (by omega), pk_us, if_pos ⟨Nat.le_refl _, hb⟩]
        · rw [pk_un ey]
          by_cases h3 : j + 1 ≤ y ∧ F.testBit y = true
          · rw [if_pos h3, if_pos ⟨by omega, h3.2⟩]
          · rw [if_neg h3, if_neg (fun h => h3 ⟨by omega, h.2⟩)]
theorem mw_bool2 : ∀ (d q x b e : Bool), x = (d || q) → (d && q) = false → (e = true → q = true) → (x || (b && !x)) = ((d || e) || ((q && !e) || (b && !x))) ∧ ((d || e) && ((q && !e) || (b && !x))) = false := by decide
section F1
variable {n u v : Nat} {A Ud Ui : Nat → Nat} {O usd usi : Nat → Int32}
theorem fw12 (hn : n ≤ 10) (hv : v < n) (hA : ∀ x, x < n → A x < 2 ^ n) (hO : ∀ x, x < n → O x = nI (A x)) (hI : IC n A Ud Ui) (hR : RepU n usd usi Ud Ui) : ∀ (c i m X Q D : Nat) (cam : Nat → Int32) (rk : Nat → Nat), i + c = 10 → c < m → X < 2 ^ n → Q < 2 ^ n → D < 2 ^ n → (∀ y, X.testBit y = (D.testBit y || Q.testBit y)) → (∀ y, (D.testBit y && Q.testBit y) = false) → pc D = i → X.testBit u = true → (∀ x y, x < n → y < n → D.testBit x = true → 1 ≤ rC A Ud Ui x y → X.testBit y = true) → Came n u X cam (rC A Ud Ui) rk → (∀ y, X.testBit y = true → rk y ≤ i) → ∃ Y cam' rk', f_X1_findWay_12 1000 (nI v) usd usi (nI n) O m (nI X) (nI Q) (nI i) cam = some (bI (Y.testBit v), cam') ∧ Came n u Y cam' (rC A Ud Ui) rk' ∧ (∀ y, Y.testBit y = true → rk' y ≤ 10) ∧ (Y.testBit v = false → Shut n (rC A Ud Ui) u v (fun x => Y.testBit x)) := by
  intro c
  induction c with
  | zero =>
    intro i m X Q D cam rk h1 h2 hX hQ hD k1 k2 k3 k4 k5 k6 k7
    obtain ⟨m, rfl⟩ : ∃ k, m = k + 1 := ⟨m - 1, by omega⟩
    obtain rfl : i = 10 := by omega
    refine ⟨X, cam, rk, ?_, k6, k7, fun h => ?_⟩
    · rw [f_X1_findWay_12, if_pos (show (10 : Int32) ≤ nI 10 by decide), hasC (pow10 hn hX) (by omega)]
    · have := k1 v
      rw [pc10 (pow10 hn hD) k3 (show v < 10 by omega), h] at this
      exact absurd this (by simp)
  | succ c ih =>
    intro i m X Q D cam rk h1 h2 hX hQ hD k1 k2 k3 k4 k5 k6 k7
    obtain ⟨m, rfl⟩ : ∃ k, m = k + 1 := ⟨m - 1, by omega⟩
    rw [f_X1_findWay_12, if_neg (show ¬ (10 : Int32) ≤ nI i from nI_ge (b := 10) (by omega) (by omega)), hasC (pow10 hn hX) (show v < 10 by omega)]
    by_cases hQ0 : Q = 0
    · subst hQ0
      rw [if_pos nI_0]
      refine ⟨X, cam, rk, rfl, k6, fun y hy => by have := k7 y hy; omega, fun h => ⟨k4, h, fun x y hx hy a b => ?_⟩⟩
      have h3 := k1 x
      have a' : X.testBit x = true := a
      have b' : X.testBit y = false := b
      rw [a', Nat.zero_testBit, Bool.or_false] at h3
      by_cases h4 : 1 ≤ rC A Ud Ui x y
      · have h5 := k5 x y hx hy h3.symm h4
        rw [b'] at h5; exact absurd h5 (by decide)
      · omega
    · rw [if_neg (nI_ne0 (by omega) (by have := pow10 hn hQ; omega))]
      cases hXv : X.testBit v
      · obtain ⟨k, hk10, hQk, hlow⟩ := lowx (pow10 hn hQ) hQ0
        have hkn := tb_n hQ hQk
        have hDk : D.testBit k = false := by have := k2 k; rw [hQk, Bool.and_true] at this; exact this
        have hXk : X.testBit k = true := by rw [k1 k, hQk, Bool.or_true]
        have qk : xin (nI k) 10 = true := xin_n hk10 (by omega)
        have hBlt : dif (A k) (Ud k) ||| Ui k < 2 ^ n := or_lt (dif_lt (hA k hkn)) (hI.1 k hkn).2
        have hFlt : dif (dif (A k) (Ud k) ||| Ui k) X < 2 ^ n := dif_lt hBlt
        have hB : ∀ y, (dif (A k) (Ud k) ||| Ui k).testBit y = true ↔ 1 ≤ rC A Ud Ui k y := by
          intro y
          rw [Nat.testBit_or, dif_tb]
          unfold rC
          cases (A k).testBit y && !(Ud k).testBit y <;> cases (Ui k).testBit y <;> simp [b2]
        have hFb : ∀ y, (dif (dif (A k) (Ud k) ||| Ui k) X).testBit y = true → 1 ≤ rC A Ud Ui k y ∧ X.testBit y = false := by
          intro y hy
          rw [dif_tb, Bool.and_eq_true] at hy
          exact ⟨(hB y).mp hy.1, by cases h : X.testBit y; rfl; rw [h] at hy; exact absurd hy.2 (by decide)⟩
        obtain ⟨cam1, e1, hc1⟩ := f75 (k := k) hn hFlt (k12 := fun x4 x5 x6 cam => f_X1_findWay_12 1000 (nI v) usd usi (nI n) O m x4 x5 x6 cam) (x4 := nI X) (x5 := nI Q) (x6 := nI i) n 0 1000 cam (by omega) (by omega)
        rw [nI_0] at e1
        obtain ⟨Y, cam', rk', hY, hrest⟩ := ih (i + 1) m (X ||| dif (dif (A k) (Ud k) ||| Ui k) X) (dif Q (2 ^ k) ||| dif (dif (A k) (Ud k) ||| Ui k) X) (D ||| 2 ^ k) cam1 (fun y => if (dif (dif (A k) (Ud k) ||| Ui k) X).testBit y = true then i + 1 else rk y) (by omega) (by omega) (or_lt hX hFlt) (or_lt (dif_lt hQ) hFlt) (or_lt hD (two_lt hkn))
          (fun y => by
            simp only [Nat.testBit_or (x := X), Nat.testBit_or (x := dif Q (2 ^ k)), Nat.testBit_or (x := D), dif_tb _ X, dif_tb Q, tb2]
            exact (mw_bool2 _ _ _ _ _ (k1 y) (k2 y) (fun h => by rw [of_decide_eq_true h]; exact hQk)).1)
          (fun y => by
            simp only [Nat.testBit_or (x := dif Q (2 ^ k)), Nat.testBit_or (x := D), dif_tb _ X, dif_tb Q, tb2]
            exact (mw_bool2 _ _ _ _ _ (k1 y) (k2 y) (fun h => by rw [of_decide_eq_true h]; exact hQk)).2)
          (by rw [pcs (pow10 hn hD) hk10 hDk, k3])
          (by rw [Nat.testBit_or, k4, Bool.true_or])
          (fun x y hx hy a b => by
            rw [Nat.testBit_or, tb2, Bool.or_eq_true] at a
            rw [Nat.testBit_or, Bool.or_eq_true]
            rcases a with a | a
            · exact Or.inl (k5 x y hx hy a b)
            · have := of_decide_eq_true a
              subst this
              cases hXy : X.testBit y
              · exact Or.inr (by rw [dif_tb, (hB y).mpr b, hXy]; rfl)
              · exact Or.inl rfl)
          (fun y hy a b => by
            by_cases hf : (dif (dif (A k) (Ud k) ||| Ui k) X).testBit y = true
            · obtain ⟨f1, f2⟩ := hFb y hf
              have hkf : ¬ (dif (dif (A k) (Ud k) ||| Ui k) X).testBit k = true := fun h => by
                have := (hFb k h).2
                rw [hXk] at this; exact absurd this (by decide)
              refine ⟨k, hkn, by rw [hc1 y hy, if_pos ⟨by omega, hf⟩], by rw [Nat.testBit_or, hXk, Bool.true_or], f1, ?_⟩
              have := k7 k hXk
              dsimp only
              rw [if_neg hkf, if_pos hf]
              omega
            · rw [Nat.testBit_or, Bool.or_eq_true] at a
              have a' := a.resolve_right hf
              obtain ⟨p, p1, p2, p3, p4, p5⟩ := k6 y hy a' b
              have hpf : ¬ (dif (dif (A k) (Ud k) ||| Ui k) X).testBit p = true := fun h => by
                have := (hFb p h).2
                rw [p3] at this; exact absurd this (by decide)
              refine ⟨p, p1, by rw [hc1 y hy, if_neg (fun h => hf h.2), p2], by rw [Nat.testBit_or, p3, Bool.true_or], p4, ?_⟩
              dsimp only
              rw [if_neg hpf, if_neg hf]
              exact p5)
          (fun y hy => by
            by_cases hf : (dif (dif (A k) (Ud k) ||| Ui k) X).testBit y = true
            · show (if _ then _ else _) ≤ _
              rw [if_pos hf]; exact Nat.le_refl _
            · show (if _ then _ else _) ≤ _
              rw [if_neg hf]
              rw [Nat.testBit_or, Bool.or_eq_true] at hy
              have := k7 y (hy.resolve_right hf)
              omega)
        refine ⟨Y, cam', rk', ?_, hrest⟩
        rw [if_pos (by rfl), hlow, if_pos qk, if_pos qk, if_pos qk, nI_clamp (by omega), hO k hkn, (hR k hkn).1, (hR k hkn).2, nx_dif, nx_or, nx_dif, e1]
        rw [bitC hk10, nx_or, nx_dif, nx_or, nI_1]
        exact hY
      · rw [if_neg (by decide)]
        exact ⟨X, cam, rk, by rw [hXv], k6, fun y hy => by have := k7 y hy; omega, fun h => by rw [hXv] at h; exact absurd h (by decide)⟩
end F1
