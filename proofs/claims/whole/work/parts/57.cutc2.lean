section F2
variable {n u v : Nat} {A : Nat → Nat} {O : Nat → Int32}
/-- the arcs as numbers -/
def arcN (A : Nat → Nat) (x y : Nat) : Nat := b2 ((A x).testBit y)
theorem arcN_le (x y : Nat) : arcN A x y ≤ 1 := by unfold arcN b2; split <;> omega
theorem uw5 (hn : n ≤ 10) {X : Nat} {cam : Nat → Int32} {r0 : Nat → Nat → Nat} {rk : Nat → Nat} (hu : u < n) (hC : Came n u X cam r0 rk) : ∀ (c q i m : Nat) (usd usi : Nat → Int32) (Ud Ui : Nat → Nat), rk q ≤ c → i + c = 10 → c < m → q < n → X.testBit q = true → RepU n usd usi Ud Ui → IC n A Ud Ui → Gone n r0 (rC A Ud Ui) rk v q → ∃ usd' usi' Ud' Ui', f_X1_useWay_5 (nI u) cam m (nI q) (nI i) usd usi = some (usd', usi') ∧ RepU n usd' usi' Ud' Ui' ∧ IC n A Ud' Ui' ∧ Gone n r0 (rC A Ud' Ui') rk v u := by
  intro c
  induction c with
  | zero =>
    intro q i m usd usi Ud Ui h1 h2 h3 hq hX hR hI hG
    obtain ⟨m, rfl⟩ : ∃ k, m = k + 1 := ⟨m - 1, by omega⟩
    obtain rfl : i = 10 := by omega
    have e : q = u := by
      by_cases e : q = u
      · exact e
      · obtain ⟨p, p1, p2, p3, p4, p5⟩ := hC q hq hX e
        omega
    subst e
    refine ⟨usd, usi, Ud, Ui, ?_, hR, hI, hG⟩
    rw [f_X1_useWay_5, if_pos (show (10 : Int32) ≤ nI 10 by decide)]
  | succ c ih =>
    intro q i m usd usi Ud Ui h1 h2 h3 hq hX hR hI hG
    obtain ⟨m, rfl⟩ : ∃ k, m = k + 1 := ⟨m - 1, by omega⟩
    rw [f_X1_useWay_5, if_neg (show ¬ (10 : Int32) ≤ nI i from nI_ge (b := 10) (by omega) (by omega))]
    by_cases e : q = u
    · subst e
      rw [if_pos rfl]
      exact ⟨usd, usi, Ud, Ui, rfl, hR, hI, hG⟩
    · obtain ⟨p, p1, p2, p3, p4, p5⟩ := hC q hq hX e
      obtain ⟨e1, -⟩ := hG.1 p q p1 hq p5
      have hpq : p ≠ q := fun e => by rw [e] at p5; omega
      obtain ⟨usd1, usi1, Ud1, Ui1, s1, s2, s3, s4⟩ := stepC hn hI hR p1 hq hpq (by rw [e1]; exact p4)
      obtain ⟨usd', usi', Ud', Ui', t1, t2⟩ := ih p (i + 1) m usd1 usi1 Ud1 Ui1 (by omega) (by omega) (by omega) p1 p3 s2 s3 (hG.step p1 hq p5 s4)
      refine ⟨usd', usi', Ud', Ui', ?_, t2⟩
      rw [if_neg (fun h => e ((nI_eq (by omega) (by omega)).mp h)), if_pos (xin_n (by omega) (by omega)), nI_clamp (by omega), p2, s1, Option.bind_some, nI_1]
      exact t1
theorem fa19 (hn : n ≤ 10) (hu : u < n) (hv : v < n) (huv : u ≠ v) (hA : ∀ x, x < n → A x < 2 ^ n) (hO : ∀ x, x < n → O x = nI (A x)) : ∀ (c k m : Nat) (usd usi cam : Nat → Int32) (Ud Ui : Nat → Nat), k + c = 10 → c < m → RepU n usd usi Ud Ui → IC n A Ud Ui → Flow n (arcN A) (rC A Ud Ui) u v k → ∃ K usd' usi' cam', f_X1_fewestArcs_19 1000 (nI u) (nI v) (nI n) O m (nI k) usd usi cam = some (nI K, usd', usi', cam') ∧ Least n (arcN A) u v K := by
  intro c
  induction c with
  | zero =>
    intro k m usd usi cam Ud Ui h1 h2 hR hI hF
    have := hF.le9 hn hu huv (fun x y _ _ => arcN_le x y)
    omega
  | succ c ih =>
    intro k m usd usi cam Ud Ui h1 h2 hR hI hF
    obtain ⟨m, rfl⟩ : ∃ k, m = k + 1 := ⟨m - 1, by omega⟩
    have hu2 : 2 ^ u < 2 ^ n := two_lt hu
    have tu : ∀ y, (2 ^ u).testBit y = decide (y = u) := fun y => tb2 u y
    obtain ⟨Y, cam', rk, e1, c1, c2, c3⟩ := fw12 (u := u) hn hv hA hO hI hR 10 0 1000 (2 ^ u) (2 ^ u) 0 cam (fun _ => 0) (by omega) (by omega) hu2 hu2 (Nat.two_pow_pos n) (fun y => by rw [Nat.zero_testBit, Bool.false_or]) (fun y => by rw [Nat.zero_testBit, Bool.false_and]) (by decide) (by rw [tu]; simp) (fun x y _ _ h => by rw [Nat.zero_testBit] at h; exact absurd h (by decide)) (fun y _ h e => by rw [tu] at h; exact absurd (of_decide_eq_true h) e) (fun _ _ => Nat.zero_le _)
    rw [nI_0] at e1
    have e2 : f_X1_findWay 1000 (nI u) (nI v) usd usi cam (nI n) O = some (bI (Y.testBit v), cam') := by
      unfold f_X1_findWay
      rw [bitC (by omega)]
      exact e1
    rw [f_X1_fewestArcs_19, if_neg (show ¬ (10 : Int32) ≤ nI k from nI_ge (b := 10) (by omega) (by omega)), e2, Option.bind_some]
    cases hYv : Y.testBit v
    · rw [if_pos (by rfl)]
      exact ⟨k, usd, usi, cam', rfl, hF.least (c3 hYv)⟩
    · rw [if_neg (show ¬ bI true = 0 by decide)]
      have hrk := c2 v hYv
      obtain ⟨usd1, usi1, Ud1, Ui1, t1, t2, t3, t4⟩ := uw5 (A := A) hn hu c1 10 v 0 1000 usd usi Ud Ui hrk (by omega) (by omega) hv hYv hR hI (Gone.start n _ rk v)
      rw [nI_0] at t1
      obtain ⟨K, usd', usi', cam2, w1, w2⟩ := ih (k + 1) m usd1 usi1 cam' Ud1 Ui1 (by omega) (by omega) t2 t3 (t4.flow hF)
      refine ⟨K, usd', usi', cam2, ?_, w2⟩
      unfold f_X1_useWay
      rw [t1, Option.bind_some, nI_1]
      exact w1
theorem fill5 {x : Int32} {nn : Nat} (hnn : nn ≤ 100) : ∀ (c i m : Nat) (arr : Nat → Int32), i + c = nn → c < m → ∃ Q, f_J7_fill_53178_5 x (nI nn) nn m (nI i) arr = some Q ∧ ∀ t, t < nn → Q t = if i ≤ t then x else arr t := by
  intro c
  induction c with
  | zero =>
    intro i m arr h1 h2
    obtain ⟨m, rfl⟩ : ∃ k, m = k + 1 := ⟨m - 1, by omega⟩
    refine ⟨arr, by rw [f_J7_fill_53178_5, if_pos (nI_le (by omega) (by omega))], fun t ht => ?_⟩
    rw [if_neg (by omega)]
  | succ c ih =>
    intro i m arr h1 h2
    obtain ⟨m, rfl⟩ : ∃ k, m = k + 1 := ⟨m - 1, by omega⟩
    obtain ⟨Q, e, hQ⟩ := ih (i + 1) m (upd arr i x) (by omega) (by omega)
    refine ⟨Q, ?_, fun t ht => ?_⟩
    · rw [f_J7_fill_53178_5, if_neg (nI_ge (by omega) (by omega)), if_pos (xin_n (by omega) (by omega)), nI_clamp (by omega), nI_1, e]
    · rw [hQ t ht]
      by_cases h : t = i
      · rw [if_neg (by omega), if_pos (by omega), h, pk_us]
      · rw [pk_un h]
        by_cases h3 : i + 1 ≤ t
        · rw [if_pos h3, if_pos (by omega)]
        · rw [if_neg h3, if_neg (by omega)]
theorem fillJ {x : Int32} {nn : Nat} (hnn : nn ≤ 100) (arr : Nat → Int32) : ∃ Q, f_J7_fill_53178 1000 x arr nn = some Q ∧ ∀ t, t < nn → Q t = x := by
  obtain ⟨Q, e, hQ⟩ := fill5 (x := x) hnn nn 0 1000 arr (by omega) (by omega)
  refine ⟨Q, e, fun t ht => ?_⟩
  rw [hQ t ht, if_pos (by omega)]
theorem flow0 (h : ∀ x y, x < n → y < n → rC A (fun _ => 0) (fun _ => 0) x y = arcN A x y) : Flow n (arcN A) (rC A (fun _ => 0) (fun _ => 0)) u v 0 := by
  refine ⟨fun x y hx hy => by rw [h x y hx hy, h y x hy hx], fun S _ _ => ?_⟩
  rw [Nat.add_zero]
  exact dsum_congr (fun x y hx hy => by rw [h x y hx hy])
theorem severC (hn : n ≤ 10) (hu : u < n) (hv : v < n) (huv : u ≠ v) (hA : ∀ x, x < n → A x < 2 ^ n) (hO : ∀ x, x < n → O x = nI (A x)) (usd usi cam : Nat → Int32) : ∃ K usd' usi' cam', f_X1_fewestArcs 1000 (nI u) (nI v) usd usi cam (nI n) O = some (nI K, usd', usi', cam') ∧ Least n (arcN A) u v K := by
  obtain ⟨Q1, e1, h1⟩ := fillJ (x := 0) (nn := 10) (by omega) usd
  obtain ⟨Q2, e2, h2⟩ := fillJ (x := 0) (nn := 10) (by omega) usi
  obtain ⟨K, usd', usi', cam', e, hL⟩ := fa19 (u := u) (v := v) hn hu hv huv hA hO 10 0 1000 Q1 Q2 cam (fun _ => 0) (fun _ => 0) (by omega) (by omega) (fun x hx => ⟨h1 x (by omega), h2 x (by omega)⟩) ⟨fun x _ => ⟨Nat.two_pow_pos n, Nat.two_pow_pos n⟩, fun x y _ _ => by rw [Nat.zero_testBit, Nat.zero_testBit], fun x y _ h => by rw [Nat.zero_testBit] at h; exact absurd h (by decide)⟩ (flow0 (fun x y _ _ => by simp [rC, arcN, b2]))
  refine ⟨K, usd', usi', cam', ?_, hL⟩
  unfold f_X1_fewestArcs
  rw [e1, Option.bind_some, e2, Option.bind_some]
  rw [nI_0] at e
  exact e
end F2
