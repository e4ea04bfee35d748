/-! ===== what holds when an arc has been put in ===== -/
def addA (A : Nat → Nat) (u v w : Nat) : Nat := if w = u then A w ||| 2 ^ v else A w
theorem addA_tb {A : Nat → Nat} {u v x y : Nat} (h : (addA A u v x).testBit y = true) : (A x).testBit y = true ∨ (x = u ∧ y = v) := by
  unfold addA at h
  by_cases e : x = u
  · rw [if_pos e, Nat.testBit_or, tb2, Bool.or_eq_true] at h
    rcases h with h | h
    · exact Or.inl h
    · exact Or.inr ⟨e, of_decide_eq_true h⟩
  · rw [if_neg e] at h; exact Or.inl h
theorem addA_old {A : Nat → Nat} {u v x y : Nat} (h : (A x).testBit y = true) : (addA A u v x).testBit y = true := by
  unfold addA
  by_cases e : x = u
  · rw [if_pos e, Nat.testBit_or, h, Bool.true_or]
  · rw [if_neg e]; exact h
theorem addA_uv {A : Nat → Nat} {u v : Nat} : (addA A u v u).testBit v = true := by
  rw [addA, if_pos rfl, Nat.testBit_or, tb2]; simp
theorem addA_lt {A : Nat → Nat} {n u v : Nat} (hv : v < n) (hA : ∀ w, w < n → A w < 2 ^ n) : ∀ w, w < n → addA A u v w < 2 ^ n := by
  intro w hw
  unfold addA
  split
  · exact or_lt (hA w hw) (two_lt hv)
  · exact hA w hw
theorem cntA_add {A : Nat → Nat} {n u v : Nat} (hn : n ≤ 10) (hu : u < n) (hv : v < n) (hA : ∀ w, w < n → A w < 2 ^ n) (h : (A u).testBit v = false) : cntA (addA A u v) n = cntA A n + 1 := by
  have e : cntA A n + 1 = cntA A n + sumN (fun w => if w = u then 1 else 0) n := by rw [sumN_one n hu]
  rw [e, cntA, cntA, ← sumN_add]
  refine sumN_congr n (fun w hw => ?_)
  unfold addA
  by_cases ew : w = u
  · subst ew; rw [if_pos rfl, if_pos rfl, pcs (pow10 hn (hA w hw)) (by omega) h]
  · rw [if_neg ew, if_neg ew, Nat.add_zero]
theorem pc_cnt {n : Nat} {t : Nat → Nat} (hn : n ≤ 10) : pc (vm n t) = cnt n t := by
  rw [pc_sum hn vm_lt, cnt]
  refine sumN_congr n (fun v hv => ?_)
  rw [vm_tb hv]
  by_cases h : t v = 0
  · simp [h]
  · simp [h]
section D6
variable {n : Nat} {A M : Nat → Nat} {T : Nat → Nat → Nat} {P W : Int32} {O Mm Ab st : Nat → Int32}
theorem vm_M (g : Good n A M T) {s : Nat} (hs : s < n) : M s = vm n (T s) :=
  eq_tb (g.2.2.1 s hs).1 vm_lt (fun v hv => by rw [(g.2.2.1 s hs).2 v hv, vm_tb hv])
theorem RK_good (g : Good n A M T) {s : Nat} (hs : s < n) : ∃ r, RK n (T s) r := by
  obtain ⟨r, r1, r2⟩ := g.2.2.2.2.2.2.1 s hs
  refine ⟨r, fun v hv h => ?_, fun v a hv h => ⟨?_, r2 v a hv h⟩⟩
  · rw [← pc_cnt g.1.2, ← vm_M g hs]; exact r1 v hv h
  · have hne : v ≠ s := fun e => by rw [e, g.2.2.2.1 s hs] at h; omega
    rcases g.2.2.2.2.1 s v hs hv hne with h0 | ⟨b, hb, h1, h2, h3⟩
    · omega
    · obtain rfl : a = b := by omega
      exact h3
/-- a net whose trees are told by T' -/
theorem good_mk {A' : Nat → Nat} {T' : Nat → Nat → Nat} (h0 : 2 ≤ n ∧ n ≤ 10) (hA : ∀ u, u < n → A' u < 2 ^ n ∧ (A' u).testBit u = false) (h1 : ∀ s, s < n → T' s s = 1) (h2 : ∀ s v, s < n → v < n → v ≠ s → T' s v = 0 ∨ ∃ a, a < n ∧ T' s v = a + 2 ∧ (A' a).testBit v = true ∧ T' s a ≠ 0) (h3 : ∀ s u v, s < n → u < n → v < n → T' s u ≠ 0 → (A' u).testBit v = true → T' s v ≠ 0) (h4 : ∀ s, s < n → ∃ r, RK n (T' s) r) (h5 : cntA A' n ≤ 40) : Good n A' (fun s => vm n (T' s)) T' := by
  refine ⟨h0, hA, fun s hs => ⟨vm_lt, fun v hv => vm_tb hv⟩, h1, h2, h3, fun s hs => ?_, h5⟩
  obtain ⟨r, r1, r2⟩ := h4 s hs
  exact ⟨r, fun v hv h => by rw [pc_cnt h0.2]; exact r1 v hv h, fun v a hv h => (r2 v a hv h).2⟩
theorem PutT.pres {A' : Nat → Nat} {u v : Nat} {t t' : Nat → Nat} {k : Nat} (h : PutT A' n u v t t' k) {y : Nat} (hy : t y ≠ 0) : t' y = t y := by
  rcases h with ⟨-, e, -⟩ | ⟨-, -, e, -⟩ | ⟨-, h2, j, d, -⟩
  · rw [e]
  · rw [e]
  · have hne : y ≠ v := fun e => hy (by rw [e]; exact h2)
    rw [d.pres y (by rw [vu_n hne]; exact hy), vu_n hne]
theorem PutT.par {A' : Nat → Nat} {u v : Nat} {t t' : Nat → Nat} {k : Nat} (h : PutT A' n u v t t' k) (hu : u < n) (hv : v < n) (hA : (A' u).testBit v = true) {y : Nat} (h0 : t y = 0) (h1 : t' y ≠ 0) : ∃ a, a < n ∧ t' y = a + 2 ∧ (A' a).testBit y = true ∧ t' a ≠ 0 := by
  have hp := fun {y : Nat} (hy : t y ≠ 0) => h.pres hy
  rcases h with ⟨-, e, -⟩ | ⟨-, -, e, -⟩ | ⟨h2, h3, j, d, -⟩
  · rw [e] at h1; exact absurd h0 h1
  · rw [e] at h1; exact absurd h0 h1
  · have ev : t' v = u + 2 := by rw [d.pres v (by rw [vu_s]; omega), vu_s]
    by_cases hy : y = v
    · subst hy
      exact ⟨u, hu, ev, hA, by rw [hp h2]; exact h2⟩
    · exact d.par hv (by rw [vu_s]; omega) y (by rw [vu_n hy]; exact h0) h1
theorem PutT.clo {u v : Nat} {t t' : Nat → Nat} {k : Nat} (h : PutT (addA A u v) n u v t t' k) (hc : ∀ x y, x < n → y < n → t x ≠ 0 → (A x).testBit y = true → t y ≠ 0) {x y : Nat} (hx : x < n) (hy : y < n) (h1 : t' x ≠ 0) (h2 : (addA A u v x).testBit y = true) : t' y ≠ 0 := by
  have hp := fun {y : Nat} (hy : t y ≠ 0) => h.pres hy
  rcases h with ⟨p1, e, -⟩ | ⟨p1, p2, e, -⟩ | ⟨p1, p2, j, d, -⟩
  · rw [e] at h1 ⊢
    rcases addA_tb h2 with h3 | ⟨rfl, rfl⟩
    · exact hc x y hx hy h1 h3
    · exact absurd p1 h1
  · rw [e] at h1 ⊢
    rcases addA_tb h2 with h3 | ⟨rfl, rfl⟩
    · exact hc x y hx hy h1 h3
    · exact p2
  · have ev : t' v = u + 2 := by rw [d.pres v (by rw [vu_s]; omega), vu_s]
    by_cases h0 : t x = 0
    · by_cases hxv : x = v
      · subst hxv; exact d.clo.1 y (by omega) hy h2
      · exact d.clo.2 x (by rw [vu_n hxv]; exact h0) h1 y hy h2
    · rcases addA_tb h2 with h3 | ⟨rfl, rfl⟩
      · have h4 := hc x y hx hy h0 h3
        rw [hp h4]; exact h4
      · rw [ev]; omega
theorem PutT.rank {A' : Nat → Nat} {u v : Nat} {t t' : Nat → Nat} {k : Nat} (h : PutT A' n u v t t' k) (hu : u < n) (hv : v < n) {r : Nat → Nat} (hr : RK n t r) : ∃ r', RK n t' r' := by
  rcases h with ⟨p1, e, -⟩ | ⟨p1, p2, e, -⟩ | ⟨p1, p2, j, d, -⟩
  · rw [e]; exact ⟨r, hr⟩
  · rw [e]; exact ⟨r, hr⟩
  · exact d.rank hv (by rw [vu_s]; omega) _ (RK_up hr hv p2 hu p1)
theorem putGood (g : Good n A M T) {u v : Nat} (hu : u < n) (hv : v < n) (huv : u ≠ v) {T' : Nat → Nat → Nat} {K : Nat → Nat} (hP : ∀ s, s < n → PutT (addA A u v) n u v (T s) (T' s) (K s)) (h40 : cntA (addA A u v) n ≤ 40) : Good n (addA A u v) (fun s => vm n (T' s)) T' := by
  refine good_mk g.1 (fun w hw => ⟨addA_lt hv (fun w hw => (g.2.1 w hw).1) w hw, ?_⟩) (fun s hs => ?_) (fun s y hs hy hne => ?_) (fun s x y hs hx hy h1 h2 => ?_) (fun s hs => ?_) h40
  · cases hb : (addA A u v w).testBit w
    · rfl
    · rcases addA_tb hb with h | ⟨h1, h2⟩
      · rw [(g.2.1 w hw).2] at h; exact h.symm
      · exact absurd (h1.symm.trans h2) huv
  · have := g.2.2.2.1 s hs
    rw [(hP s hs).pres (by omega), this]
  · by_cases h0 : T s y = 0
    · by_cases h1 : T' s y = 0
      · exact Or.inl h1
      · exact Or.inr ((hP s hs).par hu hv addA_uv h0 h1)
    · rcases g.2.2.2.2.1 s y hs hy hne with h1 | ⟨a, a1, a2, a3, a4⟩
      · exact absurd h1 h0
      · exact Or.inr ⟨a, a1, by rw [(hP s hs).pres h0, a2], addA_old a3, by rw [(hP s hs).pres a4]; exact a4⟩
  · exact (hP s hs).clo (fun x y hx hy h3 h4 => g.2.2.2.2.2.1 s x y hs hx hy h3 h4) hx hy h1 h2
  · obtain ⟨r, hr⟩ := RK_good g hs
    exact (hP s hs).rank hu hv hr
/-- both sides put the arc from u to v in -/
theorem putBoth (g : Good n A M T) (r : Rep n A M T P W O Mm Ab st) {u v : Nat} (hu : u < n) (hv : v < n) : ∃ T' K Mm' Ab', (∀ s, s < n → PutT (addA A u v) n u v (T s) (T' s) (K s)) ∧ f_X3_putIn 1000 (nI u) (nI v) (nI n) W O Mm Ab = some (W + nI (sumN K n), upd O u (nI (addA A u v u)), Mm', Ab') ∧ ∀ pil nxs, ∃ st' pil' nxs', f_X7_putIn 1000 (nI u) (nI v) (nI n) st pil nxs = some (st', pil', nxs') ∧ Rep n (addA A u v) (fun s => vm n (T' s)) T' (nI n) (W + nI (sumN K n)) (upd O u (nI (addA A u v u))) Mm' Ab' st' := by
  have hn := g.1.2
  have hex : ∀ s, ∃ p : (Nat → Nat) × Nat, PutT (addA A u v) n u v (T s) p.1 p.2 := fun s => by
    obtain ⟨t', k, h⟩ := putT_ex (addA A u v) n u v (T s)
    exact ⟨(t', k), h⟩
  obtain ⟨F, hF⟩ := Classical.axiomOfChoice hex
  have hA : ∀ w, w < n → addA A u v w < 2 ^ n := addA_lt hv (fun w hw => (g.2.1 w hw).1)
  have eu : addA A u v u = A u ||| 2 ^ v := if_pos rfl
  have hO : ∀ w, w < n → upd O u (nI (addA A u v u)) w = nI (addA A u v w) := by
    intro w hw
    by_cases e : w = u
    · subst e; rw [pk_us]
    · rw [pk_un e, (r.2.2.1 w hw).1, addA, if_neg e]
  have hS : ∀ w, w < n → upd st u (nI (addA A u v u)) w = nI (addA A u v w) := by
    intro w hw
    by_cases e : w = u
    · subst e; rw [pk_us]
    · rw [pk_un e, (r.2.2.1 w hw).2, addA, if_neg e]
  obtain ⟨Mm', Ab', e1, f1, -⟩ := putC14 (K := fun s => (F s).2) (T' := fun s => (F s).1) hn hA hO hu hv (fun s _ => hF s) n 0 1000 W Mm Ab (by omega) (by omega) (fun s _ hs => ⟨by rw [r.2.2.2.1 s hs, vm_M g hs], fun y hy => (r.2.2.2.2 s y hs hy).1⟩)
  rw [nI_0, sumF_all] at e1
  refine ⟨fun s => (F s).1, fun s => (F s).2, Mm', Ab', fun s _ => hF s, ?_, fun pil nxs => ?_⟩
  · unfold f_X3_putIn
    rw [if_pos (xin_n (by omega) (by omega)), if_pos (xin_n (by omega) (by omega)), nI_clamp (by omega), (r.2.2.1 u hu).1, orC (by omega), ← eu]
    exact e1
  · obtain ⟨st', pil', nxs', e2, b1, b2, b3, -⟩ := putM16 (K := fun s => (F s).2) (T' := fun s => (F s).1) (T := T) hn hA hu hv (fun s y hs hy => Tsm g hs hy) (fun s _ => hF s) n 0 1000 (upd st u (nI (addA A u v u))) pil nxs (by omega) (by omega) hS (fun s y _ hs hy => by rw [pk_un (by omega)]; exact (r.2.2.2.2 s y hs hy).2)
    rw [nI_0] at e2
    rw [sumF_all, pk_un (by omega)] at b1
    refine ⟨st', pil', nxs', ?_, rfl, ?_, fun w hw => ⟨hO w hw, b2 w hw⟩, fun s hs => (f1 s (by omega) hs).1, fun s y hs hy => ⟨(f1 s (by omega) hs).2 y hy, b3 s y (by omega) hs hy⟩⟩
    · unfold f_X7_putIn
      rw [ix0, if_pos (xin_n (by omega) (by omega)), if_pos (xin_n (by omega) (by omega)), nI_clamp (by omega), (r.2.2.1 u hu).2, orC (by omega), ← eu]
      exact e2
    · rw [b1, ← r.2.1]
end D6
theorem op_put : Op_put Inv0 := by
  intro kps len txt ncl tso tst ten knd nbs pts wrk out mem abv nxt psz nP nW nO nM nA eP eW eO eM eA usd usi cam cM cS cV cB mn um len2 plc srt frm num wrg cm mpt st pst kep isk pil nxs txt2 cls asd opn byy twc szs sos ths hI x1 x2
  obtain ⟨n, rfl, hS, hH, hK, hX, hC⟩ := hI
  obtain ⟨A, M, T, g, r⟩ := id hS
  obtain ⟨⟨hn2, hn⟩, -⟩ := id g
  obtain rfl := r.1
  rcases tw0 (by omega) hn x1 x2 with ⟨u, v, hu, hv, huv, rfl, rfl⟩ | ⟨a, b⟩
  · cases hb : (A u).testBit v
    · have h40 : cntA A n ≤ 40 := g.2.2.2.2.2.2.2
      by_cases hlt : cntA A n < 40
      · have q1 : nI (cntA A n) < 40 := nI_lt (b := 40) hlt (by omega)
        have q2 : ¬ nI (cntA A n) = 40 := fun h => by
          have := (nI_eq (b := 40) (by omega) (by omega)).mp h
          omega
        obtain ⟨a, b, p, w, o, mm, ab, vv, q, e1, e2, h2⟩ := noteBoth hH hS
        obtain ⟨y, e3, e4⟩ := s_pairs hS
        obtain ⟨T', K, Mm', Ab', hP, e5, hM⟩ := putBoth g r hu hv
        obtain ⟨st', pil', nxs', e6, r'⟩ := hM pil nxs
        have g' := putGood g hu hv huv hP (by rw [cntA_add hn hu hv (fun w hw => (g.2.1 w hw).1) hb]; omega)
        have hS' : Sim n (nI n) (wrk + nI (sumN K n)) (upd out u (nI (addA A u v u))) Mm' Ab' st' := ⟨_, _, _, g', r'⟩
        obtain ⟨z, e7, e8⟩ := s_pairs hS'
        refine ⟨(z - y, a, b, p, w, o, mm, ab, wrk + nI (sumN K n), upd out u (nI (addA A u v u)), Mm', Ab'), (z - y, vv, st', q, pil', nxs'), ⟨1000, ?_⟩, ⟨1000, ?_⟩, rfl, n, rfl, hS', h2, hK, hX, hC⟩
        · unfold f_X6_put
          rw [twC1 hu hv huv hn, if_neg (by decide), hasArcC g r hu hv, hb, Option.bind_some, if_pos (by rfl), arcsC g r, Option.bind_some, if_pos q1, e1, Option.bind_some, e3, Option.bind_some, e5, Option.bind_some, e7]
          rfl
        · unfold f_X7_put
          rw [twM1 hu hv huv hn, if_neg (by decide), isArcM g r hu hv huv, hb, Option.bind_some, if_pos (by rfl), arcsM g r, Option.bind_some, if_neg q2, e4, Option.bind_some, e2, Option.bind_some, e6, Option.bind_some, e8]
          rfl
      · have e40 : cntA A n = 40 := by omega
        refine ⟨(-5, nxt, psz, nP, nW, nO, nM, nA, wrk, out, mem, abv), (-5, um, st, pst, pil, nxs), ⟨1000, ?_⟩, ⟨1000, ?_⟩, rfl, n, rfl, hS, hH, hK, hX, hC⟩
        · unfold f_X6_put
          rw [twC1 hu hv huv hn, if_neg (by decide), hasArcC g r hu hv, hb, Option.bind_some, if_pos (by rfl), arcsC g r, Option.bind_some, e40, if_neg (by decide)]
        · unfold f_X7_put
          rw [twM1 hu hv huv hn, if_neg (by decide), isArcM g r hu hv huv, hb, Option.bind_some, if_pos (by rfl), arcsM g r, Option.bind_some, e40, if_pos (by rfl)]
    · refine ⟨(-4, nxt, psz, nP, nW, nO, nM, nA, wrk, out, mem, abv), (-4, um, st, pst, pil, nxs), ⟨1000, ?_⟩, ⟨1000, ?_⟩, rfl, n, rfl, hS, hH, hK, hX, hC⟩
      · unfold f_X6_put
        rw [twC1 hu hv huv hn, if_neg (by decide), hasArcC g r hu hv, hb, Option.bind_some, if_neg (by decide)]
      · unfold f_X7_put
        rw [twM1 hu hv huv hn, if_neg (by decide), isArcM g r hu hv huv, hb, Option.bind_some, if_neg (by decide)]
  · refine ⟨(-2, nxt, psz, nP, nW, nO, nM, nA, wrk, out, mem, abv), (-2, um, st, pst, pil, nxs), ⟨1000, ?_⟩, ⟨1000, ?_⟩, rfl, n, rfl, hS, hH, hK, hX, hC⟩
    · unfold f_X6_put; rw [a, if_pos rfl]
    · unfold f_X7_put; rw [b, if_pos rfl]
