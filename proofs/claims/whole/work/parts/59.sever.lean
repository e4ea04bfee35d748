section F5
variable {n u v : Nat} {A : Nat → Nat}
theorem s63 (hn : n ≤ 10) (hu : u < n) {X : Nat} {byy : Nat → Int32} {r0 : Nat → Nat → Nat} {rk : Nat → Nat} (hC : Came n u X byy r0 rk) (h0 : ∀ x y, x < n → y < n → r0 x y + r0 y x ≤ 2) (k51 : Int32 → (Nat → Int32) → (Nat → Int32) → (Nat → Int32) → Option (Int32 × (Nat → Int32) × (Nat → Int32) × (Nat → Int32))) (x3 : Int32) : ∀ (c q m : Nat) (opn twc : Nat → Int32) (Op Tw : Nat → Nat), rk q ≤ c → c < m → q < n → X.testBit q = true → RepU n opn twc Op Tw → IM n Op Tw → Gone n r0 (rM Op Tw) rk v q → ∃ opn' twc' Op' Tw', f_X7_sever_63 k51 (nI u) x3 byy m (nI q) opn twc = k51 (x3 + 1) opn' byy twc' ∧ RepU n opn' twc' Op' Tw' ∧ IM n Op' Tw' ∧ Gone n r0 (rM Op' Tw') rk v u := by
  intro c
  induction c with
  | zero =>
    intro q m opn twc Op Tw h1 h3 hq hX hR hI hG
    obtain ⟨m, rfl⟩ : ∃ k, m = k + 1 := ⟨m - 1, by omega⟩
    have e : q = u := by
      by_cases e : q = u
      · exact e
      · obtain ⟨p, p1, p2, p3, p4, p5⟩ := hC q hq hX e
        omega
    subst e
    refine ⟨opn, twc, Op, Tw, ?_, hR, hI, hG⟩
    rw [f_X7_sever_63, if_pos rfl]
  | succ c ih =>
    intro q m opn twc Op Tw h1 h3 hq hX hR hI hG
    obtain ⟨m, rfl⟩ : ∃ k, m = k + 1 := ⟨m - 1, by omega⟩
    rw [f_X7_sever_63]
    by_cases e : q = u
    · subst e
      rw [if_pos rfl]
      exact ⟨opn, twc, Op, Tw, rfl, hR, hI, hG⟩
    · obtain ⟨p, p1, p2, p3, p4, p5⟩ := hC q hq hX e
      obtain ⟨e1, -⟩ := hG.1 p q p1 hq p5
      have hpq : p ≠ q := fun e => by rw [e] at p5; omega
      have qq : xin (nI q) 10 = true := xin_n (by omega) (by omega)
      obtain ⟨opn1, twc1, Op1, Tw1, s1, s2, s3, s4⟩ := stepM hn hI hR p1 hq hpq (by rw [e1]; exact p4) (by rw [hG.2.1 p q p1 hq]; exact h0 p q p1 hq)
      obtain ⟨opn', twc', Op', Tw', t1, t2⟩ := ih p m opn1 twc1 Op1 Tw1 (by omega) (by omega) p1 p3 s2 s3 (hG.step p1 hq p5 s4)
      refine ⟨opn', twc', Op', Tw', ?_, t2⟩
      rw [if_neg (fun h => e ((nI_eq (by omega) (by omega)).mp h)), if_pos qq, nI_clamp (by omega), p2, s1, Option.bind_some, if_pos qq]
      exact t1
theorem s51 (hn : n ≤ 10) (hu : u < n) (hv : v < n) (huv : u ≠ v) : ∀ (c k m : Nat) (opn byy twc : Nat → Int32) (Op Tw : Nat → Nat), k + c = 10 → c < m → RepU n opn twc Op Tw → IM n Op Tw → Flow n (arcN A) (rM Op Tw) u v k → ∃ K opn' byy' twc', f_X7_sever_51 1000 (nI u) (nI v) (nI n) m (nI k) opn byy twc = some (nI K, opn', byy', twc') ∧ Least n (arcN A) u v K := by
  intro c
  induction c with
  | zero =>
    intro k m opn byy twc Op Tw h1 h2 hR hI hF
    have := hF.le9 hn hu huv (fun x y _ _ => arcN_le x y)
    omega
  | succ c ih =>
    intro k m opn byy twc Op Tw h1 h2 hR hI hF
    obtain ⟨m, rfl⟩ : ∃ k, m = k + 1 := ⟨m - 1, by omega⟩
    obtain ⟨Y, byy', rk, e1, hB, c3⟩ := findsM hn hu hv hI (fun x hx => (hR x hx).1) byy
    rw [f_X7_sever_51, e1, Option.bind_some]
    cases hYv : Y.testBit v
    · rw [if_pos (by rfl)]
      exact ⟨k, opn, byy', twc, rfl, hF.least (c3 hYv)⟩
    · rw [if_neg (show ¬ bI true = 0 by decide)]
      have hrk := hB.2.2.2.2.2 v hYv
      have hp10 : pc Y ≤ 10 := pcn_le Y 10
      have h0 : ∀ x y, x < n → y < n → rM Op Tw x y + rM Op Tw y x ≤ 2 := by
        intro x y hx hy
        rw [hF.1 x y hx hy]
        have := arcN_le (A := A) x y
        have := arcN_le (A := A) y x
        omega
      obtain ⟨opn1, twc1, Op1, Tw1, t1, t2, t3, t4⟩ := s63 (v := v) hn hu hB.2.2.2.2.1 h0 (fun x3 opn byy twc => f_X7_sever_51 1000 (nI u) (nI v) (nI n) m x3 opn byy twc) (nI k) 10 v 1000 opn twc Op Tw (by omega) (by omega) hv hYv hR hI (Gone.start n _ rk v)
      obtain ⟨K, opn', byy2, twc', w1, w2⟩ := ih (k + 1) m opn1 byy' twc1 Op1 Tw1 (by omega) (by omega) t2 t3 (t4.flow hF)
      refine ⟨K, opn', byy2, twc', ?_, w2⟩
      rw [t1, nI_1]
      exact w1
theorem s14 (hn : n ≤ 10) {st byy : Nat → Int32} {x1 x2 : Int32} : ∀ (c i m : Nat) (opn twc : Nat → Int32), i + c = n → c < m → ∃ Q1 Q2, f_X7_sever_14 1000 x1 x2 (nI n) st byy m (nI i) opn twc = f_X7_sever_51 1000 x1 x2 (nI n) 1000 0 Q1 byy Q2 ∧ ∀ y, y < n → Q1 y = (if i ≤ y then st y else opn y) ∧ Q2 y = (if i ≤ y then 0 else twc y) := by
  intro c
  induction c with
  | zero =>
    intro i m opn twc h1 h2
    obtain ⟨m, rfl⟩ : ∃ k, m = k + 1 := ⟨m - 1, by omega⟩
    refine ⟨opn, twc, by rw [f_X7_sever_14, if_pos (nI_le (by omega) (by omega))], fun y hy => ?_⟩
    rw [if_neg (show ¬ i ≤ y by omega), if_neg (show ¬ i ≤ y by omega)]
    exact ⟨rfl, rfl⟩
  | succ c ih =>
    intro i m opn twc h1 h2
    obtain ⟨m, rfl⟩ : ∃ k, m = k + 1 := ⟨m - 1, by omega⟩
    obtain ⟨Q1, Q2, e, hQ⟩ := ih (i + 1) m (upd opn i (st i)) (upd twc i 0) (by omega) (by omega)
    have qi : xin (nI i) 10 = true := xin_n (by omega) (by omega)
    have qi2 : xin (nI i) 111 = true := xin_n (by omega) (by omega)
    refine ⟨Q1, Q2, ?_, fun y hy => ?_⟩
    · rw [f_X7_sever_14, if_neg (nI_ge (by omega) (by omega)), ix0, if_pos qi2, if_pos qi, if_pos qi, nI_clamp (by omega), nI_1, e]
    · obtain ⟨a, b⟩ := hQ y hy
      rw [a, b]
      by_cases h : y = i
      · rw [if_neg (show ¬ i + 1 ≤ y by omega), if_neg (show ¬ i + 1 ≤ y by omega), if_pos (show i ≤ y by omega), if_pos (show i ≤ y by omega), h, pk_us, pk_us]
        exact ⟨rfl, rfl⟩
      · rw [pk_un h, pk_un h]
        by_cases h3 : i + 1 ≤ y
        · rw [if_pos h3, if_pos h3, if_pos (show i ≤ y by omega), if_pos (show i ≤ y by omega)]
          exact ⟨rfl, rfl⟩
        · rw [if_neg h3, if_neg h3, if_neg (show ¬ i ≤ y by omega), if_neg (show ¬ i ≤ y by omega)]
          exact ⟨rfl, rfl⟩
theorem severM (hn : n ≤ 10) (hu : u < n) (hv : v < n) (huv : u ≠ v) (hA : ∀ x, x < n → A x < 2 ^ n) {st : Nat → Int32} (hS : ∀ x, x < n → st x = nI (A x)) (opn byy twc : Nat → Int32) : ∃ K opn' byy' twc', f_X7_sever_14 1000 (nI u) (nI v) (nI n) st byy 1000 0 opn twc = some (nI K, opn', byy', twc') ∧ Least n (arcN A) u v K := by
  obtain ⟨Q1, Q2, e, hQ⟩ := s14 hn (st := st) (byy := byy) (x1 := nI u) (x2 := nI v) n 0 1000 opn twc (by omega) (by omega)
  have hr : ∀ x y, rM A (fun _ => 0) x y = arcN A x y := fun x y => by simp [rM, arcN, b2]
  obtain ⟨K, opn', byy', twc', e1, hL⟩ := s51 (A := A) (u := u) (v := v) hn hu hv huv 10 0 1000 Q1 byy Q2 A (fun _ => 0) (by omega) (by omega) (fun x hx => by
    obtain ⟨a, b⟩ := hQ x hx
    rw [a, b, if_pos (Nat.zero_le x), if_pos (Nat.zero_le x)]
    exact ⟨hS x hx, rfl⟩) ⟨fun x hx => ⟨hA x hx, Nat.two_pow_pos n⟩, fun x y _ _ h => by rw [Nat.zero_testBit] at h; exact absurd h (by decide)⟩ ⟨fun x y _ _ => by rw [hr, hr], fun S _ _ => by
      rw [Nat.add_zero]
      exact dsum_congr (fun x y _ _ => by rw [hr])⟩
  refine ⟨K, opn', byy', twc', ?_, hL⟩
  rw [nI_0] at e e1
  rw [e, e1]
end F5
theorem op_sever : Op_sever Inv0 := by
  intro kps len txt ncl tso tst ten knd nbs pts wrk out mem abv nxt psz nP nW nO nM nA eP eW eO eM eA usd usi cam cM cS cV cB mn um len2 plc srt frm num wrg cm mpt st pst kep isk pil nxs txt2 cls asd opn byy twc szs sos ths hI x1 x2
  obtain ⟨n, rfl, hS, hH, hK, hX, hC⟩ := hI
  obtain ⟨A, M, T, g, r⟩ := id hS
  obtain ⟨⟨hn2, hn⟩, -⟩ := id g
  obtain rfl := r.1
  rcases tw0 (by omega) hn x1 x2 with ⟨u, v, hu, hv, huv, rfl, rfl⟩ | ⟨a, b⟩
  · obtain ⟨K, usd', usi', cam', e1, h1⟩ := severC hn hu hv huv (fun x hx => (g.2.1 x hx).1) (fun x hx => (r.2.2.1 x hx).1) usd usi cam
    obtain ⟨K', opn', byy', twc', e2, h2⟩ := severM hn hu hv huv (fun x hx => (g.2.1 x hx).1) (fun x hx => (r.2.2.1 x hx).2) opn byy twc
    obtain rfl := h1.eq h2
    refine ⟨(nI K, usd', usi', cam'), (nI K, opn', byy', twc'), ⟨1000, ?_⟩, ⟨1000, ?_⟩, rfl, n, rfl, hS, hH, hK, hX, hC⟩
    · unfold f_X6_sever
      rw [twC1 hu hv huv hn, if_neg (by decide), e1]
      rfl
    · unfold f_X7_sever
      rw [twM1 hu hv huv hn, if_neg (by decide), e2]
  · refine ⟨(-2, usd, usi, cam), (-2, opn, byy, twc), ⟨1000, ?_⟩, ⟨1000, ?_⟩, rfl, n, rfl, hS, hH, hK, hX, hC⟩
    · unfold f_X6_sever; rw [a, if_pos rfl]
    · unfold f_X7_sever; rw [b, if_pos rfl]
