/-! ===== a net without arcs; an arc of a text ===== -/
theorem fillG {nn : Nat} (hnn : nn < 1000) {x : Int32} : ∀ (c i m : Nat) (arr : Nat → Int32), i + c = nn → c < m → ∃ Q, f_J7_fill_53178_5 x (nI nn) nn m (nI i) arr = some Q ∧ ∀ j, Q j = if i ≤ j ∧ j < nn then x else arr j := by
  intro c
  induction c with
  | zero =>
    intro i m arr h1 h2
    obtain ⟨m, rfl⟩ : ∃ k, m = k + 1 := ⟨m - 1, by omega⟩
    refine ⟨arr, by rw [f_J7_fill_53178_5, if_pos (nI_le (by omega) (by omega))], fun j => ?_⟩
    rw [if_neg (by omega)]
  | succ c ih =>
    intro i m arr h1 h2
    obtain ⟨m, rfl⟩ : ∃ k, m = k + 1 := ⟨m - 1, by omega⟩
    obtain ⟨Q, e, hQ⟩ := ih (i + 1) m (upd arr i x) (by omega) (by omega)
    refine ⟨Q, ?_, fun j => ?_⟩
    · rw [f_J7_fill_53178_5, if_neg (nI_ge (by omega) (by omega)), if_pos (xin_n (by omega) (by omega)), nI_clamp (by omega), nI_1, e]
    · rw [hQ j]
      by_cases e2 : j = i
      · rw [if_neg (by omega), if_pos (by omega), e2, pk_us]
      · rw [pk_un e2]
        by_cases h3 : i + 1 ≤ j ∧ j < nn
        · rw [if_pos h3, if_pos (by omega)]
        · rw [if_neg h3, if_neg (by omega)]
theorem fillB {nn : Nat} (hnn : nn < 1000) {x : Int32} {arr : Nat → Int32} : ∃ Q, f_J7_fill_53178 1000 x arr nn = some Q ∧ ∀ j, j < nn → Q j = x := by
  obtain ⟨Q, e, hQ⟩ := fillG hnn (x := x) nn 0 1000 arr (by omega) (by omega)
  exact ⟨Q, e, fun j hj => by rw [hQ j, if_pos (by omega)]⟩
theorem empty28 {pts wrk : Int32} {out abv : Nat → Int32} : ∀ (c i m : Nat) (mem : Nat → Int32), i + c = 10 → c < m → ∃ Q, f_X3_makeEmpty_28 pts wrk out abv m (nI i) mem = some (pts, wrk, out, Q, abv) ∧ ∀ j, Q j = if i ≤ j ∧ j < 10 then nI (2 ^ j) else mem j := by
  intro c
  induction c with
  | zero =>
    intro i m mem h1 h2
    obtain ⟨m, rfl⟩ : ∃ k, m = k + 1 := ⟨m - 1, by omega⟩
    refine ⟨mem, by rw [f_X3_makeEmpty_28, if_pos (show (10 : Int32) ≤ nI i from nI_le (a := 10) (by omega) (by omega))], fun j => ?_⟩
    rw [if_neg (by omega)]
  | succ c ih =>
    intro i m mem h1 h2
    obtain ⟨m, rfl⟩ : ∃ k, m = k + 1 := ⟨m - 1, by omega⟩
    obtain ⟨Q, e, hQ⟩ := ih (i + 1) m (upd mem i (nI (2 ^ i))) (by omega) (by omega)
    refine ⟨Q, ?_, fun j => ?_⟩
    · rw [f_X3_makeEmpty_28, if_neg (show ¬ (10 : Int32) ≤ nI i from nI_ge (b := 10) (by omega) (by omega)), if_pos (xin_n (by omega) (by omega)), nI_clamp (by omega), bitC (by omega), nI_1, e]
    · rw [hQ j]
      by_cases e2 : j = i
      · rw [if_neg (by omega), if_pos (by omega), e2, pk_us]
      · rw [pk_un e2]
        by_cases h3 : i + 1 ≤ j ∧ j < 10
        · rw [if_pos h3, if_pos (by omega)]
        · rw [if_neg h3, if_neg (by omega)]
theorem ix11 (s : Nat) : ((10 : Int32) + 11 * nI s) = nI (10 + 11 * s) := by
  rw [show (11 : Int32) = nI 11 from rfl, show (10 : Int32) = nI 10 from rfl, pk_mul, nI_add]
theorem begin28 {n : Nat} (hn : n ≤ 10) : ∀ (c i m : Nat) (st : Nat → Int32), i + c = n → c < m → ∃ Q, f_X7_begin_28 (nI n) m (nI i) st = some (nI n, Q) ∧ (∀ s, i ≤ s → s < n → Q (10 + 11 * s) = 1) ∧ ∀ j, (∀ s, i ≤ s → s < n → j ≠ 10 + 11 * s) → Q j = st j := by
  intro c
  induction c with
  | zero =>
    intro i m st h1 h2
    obtain ⟨m, rfl⟩ : ∃ k, m = k + 1 := ⟨m - 1, by omega⟩
    exact ⟨st, by rw [f_X7_begin_28, if_pos (nI_le (by omega) (by omega))], fun s h3 h4 => absurd h4 (by omega), fun j _ => rfl⟩
  | succ c ih =>
    intro i m st h1 h2
    obtain ⟨m, rfl⟩ : ∃ k, m = k + 1 := ⟨m - 1, by omega⟩
    obtain ⟨Q, e, hQ1, hQ2⟩ := ih (i + 1) m (upd st (10 + 11 * i) 1) (by omega) (by omega)
    refine ⟨Q, ?_, fun s h3 h4 => ?_, fun j hj => ?_⟩
    · rw [f_X7_begin_28, if_neg (nI_ge (by omega) (by omega)), ix11, if_pos (xin_n (by omega) (by omega)), nI_clamp (by omega), nI_1, e]
    · by_cases es : s = i
      · subst es
        rw [hQ2 _ (fun s' h5 _ => by omega), pk_us]
      · exact hQ1 s (by omega) h4
    · rw [hQ2 j (fun s h5 h6 => hj s (by omega) h6), pk_un (hj i (by omega) (by omega))]
theorem begin7 {n : Nat} : ∀ (c i m : Nat) (st : Nat → Int32), i + c = 111 → c < m → ∃ Q, f_X7_begin_7 1000 (nI n) m (nI i) st = f_X7_begin_28 (nI n) 1000 0 Q ∧ ∀ j, Q j = if i ≤ j ∧ j < 111 then 0 else st j := by
  intro c
  induction c with
  | zero =>
    intro i m st h1 h2
    obtain ⟨m, rfl⟩ : ∃ k, m = k + 1 := ⟨m - 1, by omega⟩
    refine ⟨st, by rw [f_X7_begin_7, if_pos (show (111 : Int32) ≤ nI i from nI_le (a := 111) (by omega) (by omega))], fun j => ?_⟩
    rw [if_neg (by omega)]
  | succ c ih =>
    intro i m st h1 h2
    obtain ⟨m, rfl⟩ : ∃ k, m = k + 1 := ⟨m - 1, by omega⟩
    obtain ⟨Q, e, hQ⟩ := ih (i + 1) m (upd st i 0) (by omega) (by omega)
    refine ⟨Q, ?_, fun j => ?_⟩
    · rw [f_X7_begin_7, if_neg (show ¬ (111 : Int32) ≤ nI i from nI_ge (b := 111) (by omega) (by omega)), if_pos (xin_n (by omega) (by omega)), nI_clamp (by omega), nI_1, e]
    · rw [hQ j]
      by_cases e2 : j = i
      · rw [if_neg (by omega), if_pos (by omega), e2, pk_us]
      · rw [pk_un e2]
        by_cases h3 : i + 1 ≤ j ∧ j < 111
        · rw [if_pos h3, if_pos (by omega)]
        · rw [if_neg h3, if_neg (by omega)]
/-- both begin a net of n points without arcs -/
theorem emptyBoth {n : Nat} (hn : 2 ≤ n ∧ n ≤ 10) {out mem abv : Nat → Int32} : ∃ O Mm Ab, f_X3_makeEmpty 1000 (nI n) out mem abv = some (nI n, 0, O, Mm, Ab) ∧ ∀ st, ∃ S, f_X7_begin 1000 (nI n) st = some (nI n, S) ∧ Sim n (nI n) 0 O Mm Ab S := by
  obtain ⟨O, e1, h1⟩ := fillB (nn := 10) (by omega) (x := 0) (arr := out)
  obtain ⟨Ab, e2, h2⟩ := fillB (nn := 100) (by omega) (x := -1) (arr := abv)
  obtain ⟨Mm, e3, h3⟩ := empty28 (pts := nI n) (wrk := 0) (out := O) (abv := Ab) 10 0 1000 mem (by omega) (by omega)
  refine ⟨O, Mm, Ab, ?_, fun st => ?_⟩
  · rw [f_X3_makeEmpty, e1, Option.bind_some, e2, Option.bind_some]
    exact e3
  · obtain ⟨Q, e4, h4⟩ := begin7 (n := n) 111 0 1000 st (by omega) (by omega)
    obtain ⟨S, e5, h5, h6⟩ := begin28 hn.2 n 0 1000 Q (by omega) (by omega)
    rw [nI_0] at e4 e5
    refine ⟨S, by rw [f_X7_begin, e4, e5], fun _ => 0, _, root, good_mk hn (fun u hu => ⟨Nat.two_pow_pos n, Nat.zero_testBit u⟩) (fun s hs => vu_s) (fun s v hs hv hne => Or.inl (vu_n hne)) (fun s u v hs hu hv h1 h2 => ?_) (fun s hs => ⟨_, RK_root hn.2 hs⟩) ?_, rfl, ?_, fun u hu => ⟨?_, ?_⟩, fun s hs => ?_, fun s v hs hv => ⟨?_, ?_⟩⟩
    · rw [Nat.zero_testBit] at h2; exact absurd h2 (by decide)
    · have e : cntA (fun _ => 0) n = 0 := by
        show sumN (fun _ => pc 0) n = 0
        rw [show pc 0 = 0 by decide, sumN_z]
      omega
    · rw [h6 110 (fun s _ _ => by omega), h4, if_pos (by omega)]
    · rw [h1 u (by omega)]; rfl
    · rw [h6 u (fun s _ _ => by omega), h4, if_pos (by omega)]; rfl
    · show Mm s = nI (vm n (root s))
      rw [h3 s, if_pos (by omega), vm_root hs]
    · rw [h2 _ (by omega), abC_root]
    · by_cases e : v = s
      · subst e
        rw [show 10 + 10 * v + v = 10 + 11 * v by omega, h5 v (by omega) hs]
        show (1 : Int32) = nI (va_up (fun _ => 0) v 1 v)
        rw [vu_s]; rfl
      · rw [h6 _ (fun s' _ h8 => by omega), h4, if_pos (by omega)]
        show (0 : Int32) = nI (va_up (fun _ => 0) s 1 v)
        rw [vu_n e]; rfl
/-- both put in what isn't there yet -/
theorem putNewBoth {n u v : Nat} {P W : Int32} {O Mm Ab st : Nat → Int32} (hS : Sim n P W O Mm Ab st) (hu : u < n) (hv : v < n) (huv : u ≠ v) (pil nxs : Nat → Int32) : ∃ W' O' Mm' Ab' st' pil' nxs', f_X6_putIfNew 1000 (nI u) (nI v) P W O Mm Ab = some (W', O', Mm', Ab') ∧ f_X7_putIfNew 1000 (nI u) (nI v) (nI n) st pil nxs = some (st', pil', nxs') ∧ Sim n P W' O' Mm' Ab' st' := by
  obtain ⟨A, M, T, g, r⟩ := id hS
  obtain ⟨⟨hn2, hn⟩, -⟩ := id g
  obtain rfl := r.1
  have hM : f_X7_putIfNew 1000 (nI u) (nI v) (nI n) st pil nxs = if bI ((A u).testBit v) = 0 then (f_X7_arcs 1000 (nI n) st).bind fun q3 => if 40 ≤ q3 then some (st, pil, nxs) else (f_X7_putIn 1000 (nI u) (nI v) (nI n) st pil nxs).bind fun q5 => some (q5.1, q5.2.1, q5.2.2) else some (st, pil, nxs) := by
    rw [f_X7_putIfNew, ix0, if_pos (xin_n (by omega) (by omega)), nI_clamp (by omega), (r.2.2.1 u hu).2, hasM (pow10 hn (g.2.1 u hu).1) (by omega)]
  rw [hM, f_X6_putIfNew, hasArcC g r hu hv, Option.bind_some]
  cases hb : (A u).testBit v
  · have h40 : cntA A n ≤ 40 := g.2.2.2.2.2.2.2
    rw [if_pos (by rfl), if_pos (by rfl), arcsC g r, arcsM g r, Option.bind_some, Option.bind_some]
    by_cases hlt : cntA A n < 40
    · have q1 : ¬ (40 : Int32) ≤ nI (cntA A n) := nI_ge (b := 40) hlt (by omega)
      obtain ⟨T', K, Mm', Ab', hP, e5, hM⟩ := putBoth g r hu hv
      obtain ⟨st', pil', nxs', e6, r'⟩ := hM pil nxs
      have g' := putGood g hu hv huv hP (by rw [cntA_add hn hu hv (fun w hw => (g.2.1 w hw).1) hb]; omega)
      rw [if_neg q1, if_neg q1, e5, e6, Option.bind_some, Option.bind_some]
      exact ⟨_, _, _, _, _, _, _, rfl, rfl, _, _, _, g', r'⟩
    · have q1 : (40 : Int32) ≤ nI (cntA A n) := nI_le (a := 40) (by omega) (by omega)
      rw [if_pos q1, if_pos q1]
      exact ⟨_, _, _, _, _, _, _, rfl, rfl, hS⟩
  · rw [if_neg (by decide), if_neg (by decide)]
    exact ⟨_, _, _, _, _, _, _, rfl, rfl, hS⟩
/-- both do a clause -/
theorem clauseBoth {n n2 j : Nat} {P W : Int32} {O Mm Ab st knd nbs cls : Nat → Int32} (hS : Sim n P W O Mm Ab st) (hj : j < 24) (hC : Cl knd nbs cls j n n2) (pil nxs : Nat → Int32) : ∃ P' W' O' Mm' Ab' st' pil' nxs', f_X6_doClause 1000 (nI j) knd nbs P W O Mm Ab = some (P', W', O', Mm', Ab') ∧ f_X7_doClause 1000 (nI (4 * j)) (nI n) st pil nxs cls = some (nI n2, st', pil', nxs') ∧ Sim n2 P' W' O' Mm' Ab' st' := by
  obtain ⟨k, a, k1, k2, k3, k4⟩ := hC
  have n0 : f_X5_numberOf (nI j) 0 nbs = some (nbs (3 * j)) := by
    rw [f_X5_numberOf, show (0 : Int32) = nI 0 from rfl, ix3, if_pos (xin_n (by omega) (by omega)), nI_clamp (by omega)]; rfl
  have n1 : f_X5_numberOf (nI j) 1 nbs = some (nbs (3 * j + 1)) := by
    rw [f_X5_numberOf, show (1 : Int32) = nI 1 from rfl, ix3, if_pos (xin_n (by omega) (by omega)), nI_clamp (by omega)]
  have n2' : f_X5_numberOf (nI j) 2 nbs = some (nbs (3 * j + 2)) := by
    rw [f_X5_numberOf, show (2 : Int32) = nI 2 from rfl, ix3, if_pos (xin_n (by omega) (by omega)), nI_clamp (by omega)]
  have i1 : nI (4 * j) + 1 = nI (4 * j + 1) := nI_1 _
  have i2 : nI (4 * j) + 2 = nI (4 * j + 2) := nI_add _ 2
  have i3 : nI (4 * j) + 3 = nI (4 * j + 3) := nI_add _ 3
  have x0 : xin (nI (4 * j)) 96 = true := xin_n (by omega) (by omega)
  have x1 : xin (nI (4 * j + 1)) 96 = true := xin_n (by omega) (by omega)
  have x2 : xin (nI (4 * j + 2)) 96 = true := xin_n (by omega) (by omega)
  have x3 : xin (nI (4 * j + 3)) 96 = true := xin_n (by omega) (by omega)
  have c0 : Int32.toNatClampNeg (nI (4 * j)) = 4 * j := nI_clamp (by omega)
  have c1 : Int32.toNatClampNeg (nI (4 * j + 1)) = 4 * j + 1 := nI_clamp (by omega)
  have c2 : Int32.toNatClampNeg (nI (4 * j + 2)) = 4 * j + 2 := nI_clamp (by omega)
  have c3 : Int32.toNatClampNeg (nI (4 * j + 3)) = 4 * j + 3 := nI_clamp (by omega)
  rw [f_X6_doClause, f_X7_doClause, n0, n1, n2', Option.bind_some, Option.bind_some, Option.bind_some, if_pos (xin_n (by omega) (by omega)), nI_clamp (by omega), k2, i1, i2, i3, if_pos x1, if_pos x2, if_pos x3, if_pos x0, c0, c1, c2, c3, k3]
  rcases k4 with ⟨e0, e1, e2, e3, e4⟩ | ⟨e0, rfl, e2, e3⟩
  · subst e0
    obtain ⟨O', Mm', Ab', f1, f2⟩ := emptyBoth (n := n2) ⟨e1, e2⟩ (out := O) (mem := Mm) (abv := Ab)
    obtain ⟨S, f3, f4⟩ := f2 st
    rw [if_neg (by decide), if_pos nI_0, if_neg (by decide), if_pos nI_0, e3, e4, f1, f3, Option.bind_some, Option.bind_some]
    exact ⟨_, _, _, _, _, _, _, _, rfl, rfl, f4⟩
  · rcases (show k = 1 ∨ k = 2 ∨ k = 3 ∨ k = 4 by omega) with rfl | rfl | rfl | rfl
    · obtain ⟨a0, b0, l0⟩ := e2 0 (by decide)
      obtain ⟨a1, b1, l1⟩ := e2 1 (by decide)
      have d01 := e3 0 1 (by decide) (by decide) (by decide)
      obtain ⟨W1, O1, M1, A1, s1, p1, q1, f1, f2, f3⟩ := putNewBoth hS l0 l1 d01 pil nxs
      rw [if_neg (by decide), if_neg (by decide), if_pos (by rfl), if_neg (by decide), if_neg (by decide), if_pos (by rfl), show nbs (3 * j) = nI (a 0) from a0, a1, show cls (4 * j + 1) = nI (a 0) from b0, show cls (4 * j + 2) = nI (a 1) from b1, f1, f2, Option.bind_some, Option.bind_some]
      exact ⟨_, _, _, _, _, _, _, _, rfl, rfl, f3⟩
    · obtain ⟨a0, b0, l0⟩ := e2 0 (by decide)
      obtain ⟨a1, b1, l1⟩ := e2 1 (by decide)
      obtain ⟨a2, b2, l2⟩ := e2 2 (by decide)
      have d01 := e3 0 1 (by decide) (by decide) (by decide)
      have d12 := e3 1 2 (by decide) (by decide) (by decide)
      have d20 := e3 2 0 (by decide) (by decide) (by decide)
      obtain ⟨W1, O1, M1, A1, s1, p1, q1, f1, f2, f3⟩ := putNewBoth hS l0 l1 d01 pil nxs
      obtain ⟨W2, O2, M2, A2, s2, p2, q2, g1, g2, g3⟩ := putNewBoth f3 l1 l2 d12 p1 q1
      obtain ⟨W3, O3, M3, A3, s3, p3, q3, h1, h2, h3⟩ := putNewBoth g3 l2 l0 d20 p2 q2
      rw [if_neg (by decide), if_neg (by decide), if_neg (by decide), if_pos (by rfl), if_neg (by decide), if_neg (by decide), if_neg (by decide), if_pos (by rfl), show nbs (3 * j) = nI (a 0) from a0, a1, a2, show cls (4 * j + 1) = nI (a 0) from b0, show cls (4 * j + 2) = nI (a 1) from b1, show cls (4 * j + 3) = nI (a 2) from b2, f1, f2, Option.bind_some, Option.bind_some]
      dsimp only
      rw [g1, g2, Option.bind_some, Option.bind_some]
      dsimp only
      rw [if_pos x0, if_pos (by rfl), h1, h2, Option.bind_some, Option.bind_some]
      exact ⟨_, _, _, _, _, _, _, _, rfl, rfl, h3⟩
    · obtain ⟨a0, b0, l0⟩ := e2 0 (by decide)
      obtain ⟨a1, b1, l1⟩ := e2 1 (by decide)
      obtain ⟨a2, b2, l2⟩ := e2 2 (by decide)
      have d01 := e3 0 1 (by decide) (by decide) (by decide)
      have d12 := e3 1 2 (by decide) (by decide) (by decide)
      obtain ⟨W1, O1, M1, A1, s1, p1, q1, f1, f2, f3⟩ := putNewBoth hS l0 l1 d01 pil nxs
      obtain ⟨W2, O2, M2, A2, s2, p2, q2, g1, g2, g3⟩ := putNewBoth f3 l1 l2 d12 p1 q1
      rw [if_neg (by decide), if_neg (by decide), if_neg (by decide), if_neg (by decide), if_neg (by decide), if_neg (by decide), if_neg (by decide), if_neg (by decide), if_pos (by rfl), show nbs (3 * j) = nI (a 0) from a0, a1, a2, show cls (4 * j + 1) = nI (a 0) from b0, show cls (4 * j + 2) = nI (a 1) from b1, show cls (4 * j + 3) = nI (a 2) from b2, f1, f2, Option.bind_some, Option.bind_some]
      dsimp only
      rw [g1, g2, Option.bind_some, Option.bind_some]
      dsimp only
      rw [if_pos x0, if_neg (by decide)]
      exact ⟨_, _, _, _, _, _, _, _, rfl, rfl, g3⟩
    · obtain ⟨a0, b0, l0⟩ := e2 0 (by decide)
      obtain ⟨a1, b1, l1⟩ := e2 1 (by decide)
      obtain ⟨a2, b2, l2⟩ := e2 2 (by decide)
      have d01 := e3 0 1 (by decide) (by decide) (by decide)
      have d02 := e3 0 2 (by decide) (by decide) (by decide)
      obtain ⟨W1, O1, M1, A1, s1, p1, q1, f1, f2, f3⟩ := putNewBoth hS l0 l1 d01 pil nxs
      obtain ⟨W2, O2, M2, A2, s2, p2, q2, g1, g2, g3⟩ := putNewBoth f3 l0 l2 d02 p1 q1
      rw [if_pos (by decide), if_neg (by decide), if_neg (by decide), if_neg (by decide), if_neg (by decide), if_neg (by decide), show nbs (3 * j) = nI (a 0) from a0, a1, a2, show cls (4 * j + 1) = nI (a 0) from b0, show cls (4 * j + 2) = nI (a 1) from b1, show cls (4 * j + 3) = nI (a 2) from b2, f1, f2, Option.bind_some, Option.bind_some]
      dsimp only
      rw [g1, g2, Option.bind_some, Option.bind_some]
      exact ⟨_, _, _, _, _, _, _, _, rfl, rfl, g3⟩
