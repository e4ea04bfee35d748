/-! ===== both grow a tree alike ===== -/
/-- the set of a tree -/
def vm (n : Nat) (t : Nat → Nat) : Nat := msk (fun v => decide (t v ≠ 0)) n
/-- tree s of the class told as t -/
def rowC (n s : Nat) (t : Nat → Nat) (Ab : Nat → Int32) (j : Nat) : Int32 := if 10 * s ≤ j ∧ j < 10 * s + n then abC (t (j - 10 * s)) else Ab j
/-- tree s of the reference told as t, its work as w -/
def rowM (n s : Nat) (t : Nat → Nat) (w : Int32) (st : Nat → Int32) (j : Nat) : Int32 := if j = 110 then w else if 10 + 10 * s ≤ j ∧ j < 10 + 10 * s + n then nI (t (j - (10 + 10 * s))) else st j
section D2
variable {n : Nat} {t : Nat → Nat} {Ab st Mm : Nat → Int32}
theorem vm_tb {v : Nat} (hv : v < n) : (vm n t).testBit v = decide (t v ≠ 0) := by rw [vm, msk_tb]; simp [hv]
theorem vm_lt : vm n t < 2 ^ n := msk_lt _ _
theorem vm_up {i x : Nat} (hi : i < n) (hx : x ≠ 0) : vm n t ||| 2 ^ i = vm n (va_up t i x) := by
  refine eq_tb (or_lt vm_lt (two_lt hi)) vm_lt (fun v hv => ?_)
  rw [Nat.testBit_or, tb2, vm_tb hv, vm_tb hv]
  by_cases e : v = i
  · subst e; rw [vu_s]; simp [hx]
  · rw [vu_n e]; simp [e]
theorem rowC_at {s v : Nat} (hv : v < n) : rowC n s t Ab (10 * s + v) = abC (t v) := by
  rw [rowC, if_pos (by omega), Nat.add_sub_cancel_left]
theorem rowM_at {s v : Nat} {w : Int32} (hs : s < 10) (hn : n ≤ 10) (hv : v < n) : rowM n s t w st (10 + 10 * s + v) = nI (t v) := by
  rw [rowM, if_neg (by omega), if_pos (by omega), Nat.add_sub_cancel_left]
theorem rowM_w {s : Nat} {w : Int32} : rowM n s t w st 110 = w := by rw [rowM, if_pos rfl]
theorem rowM_o {s u : Nat} {w : Int32} (hu : u < 10) : rowM n s t w st u = st u := by rw [rowM, if_neg (by omega), if_neg (by omega)]
theorem rowC_up {s i x : Nat} (hi : i < n) : upd (rowC n s t Ab) (10 * s + i) (abC x) = rowC n s (va_up t i x) Ab := by
  funext j
  by_cases e : j = 10 * s + i
  · subst e; rw [pk_us, rowC_at hi, vu_s]
  · rw [pk_un e]
    unfold rowC
    by_cases h : 10 * s ≤ j ∧ j < 10 * s + n
    · rw [if_pos h, if_pos h, vu_n (by omega)]
    · rw [if_neg h, if_neg h]
theorem rowM_up {s i x : Nat} {w : Int32} (hs : s < 10) (hn : n ≤ 10) (hi : i < n) : upd (rowM n s t w st) (10 + 10 * s + i) (nI x) = rowM n s (va_up t i x) w st := by
  funext j
  by_cases e : j = 10 + 10 * s + i
  · subst e; rw [pk_us, rowM_at hs hn hi, vu_s]
  · rw [pk_un e]
    unfold rowM
    by_cases h0 : j = 110
    · rw [if_pos h0, if_pos h0]
    · rw [if_neg h0, if_neg h0]
      by_cases h : 10 + 10 * s ≤ j ∧ j < 10 + 10 * s + n
      · rw [if_pos h, if_pos h, vu_n (by omega)]
      · rw [if_neg h, if_neg h]
theorem rowM_w2 {s : Nat} {w x : Int32} : upd (rowM n s t w st) 110 x = rowM n s t x st := by
  funext j
  by_cases e : j = 110
  · subst e; rw [pk_us, rowM_w]
  · rw [pk_un e]
    unfold rowM
    rw [if_neg e, if_neg e]
theorem upd2 {f : Nat → Int32} {k : Nat} {x y : Int32} : upd (upd f k x) k y = upd f k y := by
  funext j
  by_cases e : j = k
  · subst e; rw [pk_us, pk_us]
  · rw [pk_un e, pk_un e, pk_un e]
theorem abC2 (u : Nat) : abC (u + 2) = nI u := by rw [abC, if_neg (by omega), Nat.add_sub_cancel]
end D2
section D3
variable {n : Nat} {A : Nat → Nat} {O Ab st Mm : Nat → Int32}
theorem goC (hn : n ≤ 10) (hA : ∀ u, u < n → A u < 2 ^ n) (hO : ∀ u, u < n → O u = nI (A u)) {s : Nat} (hs : s < n) {u i : Nat} {t t' : Nat → Nat} {k : Nat} (h : Dfs A n u i t t' k) : u < n → i ≤ n → ∀ (d dep m : Nat) (wrk : Int32), zc n t ≤ d → dep + zc n t ≤ 10 → n - i < m → f_X3_followArcs_3 (f_gr 1000 d) (nI s) (nI u) (nI dep) (nI n) O m (nI i) wrk (upd Mm s (nI (vm n t))) (rowC n s t Ab) = some (wrk + nI k, upd Mm s (nI (vm n t')), rowC n s t' Ab) := by
  have hasA : ∀ u i, u < n → i < n → f_X3_hasArc (nI u) (nI i) O = some (bI ((A u).testBit i)) := by
    intro u i hu hi
    unfold f_X3_hasArc
    rw [if_pos (xin_n (by omega) (by omega)), nI_clamp (by omega), hO u hu, hasC (pow10 hn (hA u hu)) (by omega)]
  have comes : ∀ (t : Nat → Nat) i, i < n → f_X3_comesTo (nI s) (nI i) (upd Mm s (nI (vm n t))) = some (bI (decide (t i ≠ 0))) := by
    intro t i hi
    unfold f_X3_comesTo
    rw [if_pos (xin_n (by omega) (by omega)), nI_clamp (by omega), pk_us, hasC (pow10 hn vm_lt) (by omega), vm_tb hi]
  induction h using Dfs.ind with
  | @done u i t h =>
    intro hu hin d dep m wrk h1 h2 h3
    obtain ⟨m, rfl⟩ : ∃ k, m = k + 1 := ⟨m - 1, by omega⟩
    rw [f_X3_followArcs_3, if_pos (nI_le h (by omega)), nI_0, Int32.add_zero]
  | @skip u i t t' k hi hb d ih =>
    intro hu hin d dep m wrk h1 h2 h3
    obtain ⟨m, rfl⟩ : ∃ k, m = k + 1 := ⟨m - 1, by omega⟩
    rw [f_X3_followArcs_3, if_neg (nI_ge hi (by omega)), hasA u i hu hi, hb, Option.bind_some, if_pos (by rfl), nI_1]
    exact ih hu (by omega) d dep m wrk h1 h2 (by omega)
  | @old u i t t' k hi hb h0 d ih =>
    intro hu hin d dep m wrk h1 h2 h3
    obtain ⟨m, rfl⟩ : ∃ k, m = k + 1 := ⟨m - 1, by omega⟩
    rw [f_X3_followArcs_3, if_neg (nI_ge hi (by omega)), hasA u i hu hi, hb, Option.bind_some, if_neg (by decide), comes t i hi, Option.bind_some, if_neg (by simp [h0, bI]), nI_1, ih hu (by omega) d dep m _ h1 h2 (by omega)]
    rw [Int32.add_assoc, Int32.add_comm 1, nI_1]
  | @new u i t t1 t' k1 k2 hi hb h0 d1 d2 ih1 ih2 =>
    intro hu hin d dep m wrk h1 h2 h3
    obtain ⟨m, rfl⟩ : ∃ k, m = k + 1 := ⟨m - 1, by omega⟩
    have hz := zc_up hi h0 (show u + 2 ≠ 0 by omega)
    obtain ⟨d, rfl⟩ : ∃ k, d = k + 1 := ⟨d - 1, by omega⟩
    have hz1 := d1.zc
    have q1 : xin (nI s) 10 = true := xin_n (by omega) (by omega)
    have q2 : xin (nI (10 * s + i)) 100 = true := xin_n (by omega) (by omega)
    have q3 : nI (dep + 1) ≤ 10 := nI_le (b := 10) (by omega) (by omega)
    have k1' := ih1 hi (by omega) d (dep + 1) 1000 (wrk + 1) (by omega) (by omega) (by omega)
    rw [nI_0] at k1'
    have hg : f_gr 1000 (d + 1) (nI s) (nI i) (nI u) (nI (dep + 1)) (nI n) (wrk + 1) O (upd Mm s (nI (vm n t))) (rowC n s t Ab) = some (wrk + 1 + nI k1, upd Mm s (nI (vm n t1)), rowC n s t1 Ab) := by
      rw [f_gr]
      unfold f_X3_graft
      rw [if_pos q3, if_pos q1, if_pos q1, ixC, if_pos q2, nI_clamp (by omega), nI_clamp (by omega), pk_us, orC (show i < 10 by omega), upd2, vm_up hi (show u + 2 ≠ 0 by omega), ← abC2 u, rowC_up hi]
      unfold f_X3_followArcs
      dsimp only
      rw [k1']
      rfl
    rw [f_X3_followArcs_3, if_neg (nI_ge hi (by omega)), hasA u i hu hi, hb, Option.bind_some, if_neg (by decide), comes t i hi, Option.bind_some, if_pos (by simp [h0, bI]), nI_1, hg, Option.bind_some]
    rw [nI_1, ih2 hu (by omega) (d + 1) dep m _ (by omega) (by omega) (by omega)]
    rw [Int32.add_assoc, Int32.add_assoc, nI_add, Int32.add_comm 1, nI_1]
theorem Dfs.bd {u i : Nat} {t t' : Nat → Nat} {k : Nat} (h : Dfs A n u i t t' k) : u < n → (∀ v, v < n → t v < n + 2) → ∀ v, v < n → t' v < n + 2 := by
  induction h using Dfs.ind with
  | done _ => intro _ h; exact h
  | skip _ _ _ ih => exact ih
  | old _ _ _ _ ih => exact ih
  | @new u i t t1 t' k1 k2 hi hb h0 d1 d2 ih1 ih2 =>
    intro hu h
    refine ih2 hu (ih1 hi (fun v hv => ?_))
    by_cases e : v = i
    · subst e; rw [vu_s]; omega
    · rw [vu_n e]; exact h v hv
theorem isInR (hn : n ≤ 10) {s : Nat} (hs : s < n) {t : Nat → Nat} (hb : ∀ v, v < n → t v < n + 2) {i : Nat} (hi : i < n) {w : Int32} : f_X7_isIn (nI s) (nI i) (rowM n s t w st) = some (bI (decide (t i ≠ 0))) := by
  have := hb i hi
  unfold f_X7_isIn
  rw [ixM, if_pos (xin_n (by omega) (by omega)), nI_clamp (by omega), rowM_at (by omega) hn hi]
  by_cases h : t i = 0
  · rw [h, if_pos (by decide)]; rfl
  · rw [if_neg (nI_nle (by omega) (by omega))]; simp [bI, h]
theorem goM (hn : n ≤ 10) (hA : ∀ u, u < n → A u < 2 ^ n) (hO : ∀ u, u < n → st u = nI (A u)) {s : Nat} (hs : s < n) {u i : Nat} {t t' : Nat → Nat} {k : Nat} (h : Dfs A n u i t t' k) : u < n → i ≤ n → (∀ v, v < n → t v < n + 2) → ∀ (p : Nat) (w : Int32) (pil nxs : Nat → Int32), p + 1 + zc n t ≤ 11 → pil p = nI u → nxs p = nI i → ∃ q pil' nxs', q ≤ (n - i + 1) + 11 * (zc n t - zc n t') ∧ (∀ F, f_X7_goOn_16 (nI s) (nI n) (F + q) (nI (p + 1)) (rowM n s t w st) pil nxs = f_X7_goOn_16 (nI s) (nI n) F (nI p) (rowM n s t' (w + nI k) st) pil' nxs') ∧ ∀ j, j < p → pil' j = pil j ∧ nxs' j = nxs j := by
  have hasA : ∀ u i, u < n → i < n → f_X7_has (nI (A u)) (nI i) = bI ((A u).testBit i) := fun u i hu hi => hasM (pow10 hn (hA u hu)) (by omega)
  induction h using Dfs.ind with
  | @done u i t h =>
    intro hu hin hbd p w pil nxs hp e1 e2
    obtain rfl : i = n := by omega
    have q1 : xin (nI p) 11 = true := xin_n (by omega) (by omega)
    refine ⟨1, pil, upd nxs p (nI (i + 1)), by omega, fun F => ?_, fun j hj => ⟨rfl, pk_un (by omega)⟩⟩
    rw [f_X7_goOn_16, if_neg (nI_nle (by omega) (by omega)), nI_pred, if_pos q1, if_pos q1, if_pos q1, if_pos q1, nI_clamp (by omega), e2, if_neg (nI_nlt (by omega) (by omega)), pk_m1, nI_0, Int32.add_zero, nI_1]
  | @skip u i t t' k hi hb d ih =>
    intro hu hin hbd p w pil nxs hp e1 e2
    have q1 : xin (nI p) 11 = true := xin_n (by omega) (by omega)
    have q2 : xin (nI u) 111 = true := xin_n (by omega) (by omega)
    obtain ⟨q, pil', nxs', h1, h2, h3⟩ := ih hu (by omega) hbd p w pil (upd nxs p (nI (i + 1))) hp e1 pk_us
    refine ⟨q + 1, pil', nxs', by omega, fun F => ?_, fun j hj => ⟨(h3 j hj).1, by rw [(h3 j hj).2, pk_un (by omega)]⟩⟩
    rw [← Nat.add_assoc, f_X7_goOn_16, if_neg (nI_nle (by omega) (by omega)), nI_pred, if_pos q1, if_pos q1, if_pos q1, if_pos q1, nI_clamp (by omega), e2, if_pos (nI_lt hi (by omega)), e1, ix0, if_pos q2, nI_clamp (by omega), rowM_o (by omega), hO u hu, hasA u i hu hi, hb, if_pos (by rfl), nI_1]
    exact h2 F
  | @old u i t t' k hi hb h0 d ih =>
    intro hu hin hbd p w pil nxs hp e1 e2
    have q1 : xin (nI p) 11 = true := xin_n (by omega) (by omega)
    have q2 : xin (nI u) 111 = true := xin_n (by omega) (by omega)
    obtain ⟨q, pil', nxs', h1, h2, h3⟩ := ih hu (by omega) hbd p (w + 1) pil (upd nxs p (nI (i + 1))) hp e1 pk_us
    refine ⟨q + 1, pil', nxs', by omega, fun F => ?_, fun j hj => ⟨(h3 j hj).1, by rw [(h3 j hj).2, pk_un (by omega)]⟩⟩
    rw [← Nat.add_assoc, f_X7_goOn_16, if_neg (nI_nle (by omega) (by omega)), nI_pred, if_pos q1, if_pos q1, if_pos q1, if_pos q1, nI_clamp (by omega), e2, if_pos (nI_lt hi (by omega)), e1, ix0, if_pos q2, nI_clamp (by omega), rowM_o (by omega), hO u hu, hasA u i hu hi, hb, if_neg (by decide), c110, rowM_w, rowM_w2, isInR hn hs hbd hi, Option.bind_some, if_neg (by simp [h0, bI]), nI_1, h2 F, Int32.add_assoc, Int32.add_comm 1, nI_1]
  | @new u i t t1 t' k1 k2 hi hb h0 d1 d2 ih1 ih2 =>
    intro hu hin hbd p w pil nxs hp e1 e2
    have hz := zc_up hi h0 (show u + 2 ≠ 0 by omega)
    have hz1 := d1.zc
    have hz2 := d2.zc
    have q1 : xin (nI p) 11 = true := xin_n (by omega) (by omega)
    have q2 : xin (nI u) 111 = true := xin_n (by omega) (by omega)
    have q3 : xin (nI (p + 1)) 11 = true := xin_n (by omega) (by omega)
    have q4 : xin (nI (10 + 10 * s + i)) 111 = true := xin_n (by omega) (by omega)
    have hbd1 : ∀ v, v < n → va_up t i (u + 2) v < n + 2 := by
      intro v hv
      by_cases e : v = i
      · subst e; rw [vu_s]; omega
      · rw [vu_n e]; exact hbd v hv
    have pne : p ≠ p + 1 := by omega
    obtain ⟨qa, pila, nxsa, a1, a2, a3⟩ := ih1 hi (by omega) hbd1 (p + 1) (w + 1) (upd pil (p + 1) (nI i)) (upd (upd nxs p (nI (i + 1))) (p + 1) 0) (by omega) pk_us pk_us
    obtain ⟨b1, b2⟩ := a3 p (by omega)
    rw [pk_un pne] at b1 b2
    rw [pk_us] at b2
    obtain ⟨qb, pilb, nxsb, c1, c2, c3⟩ := ih2 hu (by omega) (d1.bd hi hbd1) p (w + 1 + nI k1) pila nxsa (by omega) (by rw [b1, e1]) b2
    refine ⟨qa + qb + 1, pilb, nxsb, by omega, fun F => ?_, fun j hj => ?_⟩
    · rw [← Nat.add_assoc, f_X7_goOn_16, if_neg (nI_nle (by omega) (by omega)), nI_pred, if_pos q1, if_pos q1, if_pos q1, if_pos q1, nI_clamp (by omega), e2, if_pos (nI_lt hi (by omega)), e1, ix0, if_pos q2, nI_clamp (by omega), rowM_o (by omega), hO u hu, hasA u i hu hi, hb, if_neg (by decide), c110, rowM_w, rowM_w2, isInR hn hs hbd hi, Option.bind_some, if_pos (by simp [h0, bI]), ixM, if_pos q4, if_pos q3, if_pos q3, nI_clamp (by omega), nI_clamp (by omega), show nI u + 2 = nI (u + 2) from nI_add u 2, rowM_up (by omega) hn hi, nI_1, nI_1, show F + (qa + qb) = F + qb + qa by omega, a2 (F + qb), c2 F]
      rw [Int32.add_assoc, Int32.add_assoc, nI_add, Int32.add_comm 1, nI_1]
    · obtain ⟨f1, f2⟩ := a3 j (by omega)
      obtain ⟨g1, g2⟩ := c3 j hj
      rw [g1, g2, f1, f2, pk_un (by omega), pk_un (by omega), pk_un (by omega)]
      exact ⟨rfl, rfl⟩
/-- the reference goes on from u to the end -/
theorem goOnM (hn : n ≤ 10) (hA : ∀ u, u < n → A u < 2 ^ n) (hO : ∀ u, u < n → st u = nI (A u)) {s : Nat} (hs : s < n) {u : Nat} {t t' : Nat → Nat} {k : Nat} (h : Dfs A n u 0 t t' k) (hu : u < n) (hbd : ∀ v, v < n → t v < n + 2) (w : Int32) (pil nxs : Nat → Int32) : ∃ pil' nxs', f_X7_goOn 1000 (nI s) (nI u) (nI n) (rowM n s t w st) pil nxs = some (rowM n s t' (w + nI k) st, pil', nxs') := by
  have hz : zc n t ≤ n := by have := zc_cnt n t; omega
  obtain ⟨q, pil', nxs', h1, h2, h3⟩ := goM hn hA hO hs h hu (by omega) hbd 0 w (upd pil 0 (nI u)) (upd nxs 0 0) (by omega) pk_us pk_us
  refine ⟨pil', nxs', ?_⟩
  unfold f_X7_goOn
  have := h2 (999 - q + 1)
  rw [show 999 - q + 1 + q = 1000 by omega] at this
  have e0 : Int32.toNatClampNeg 0 = 0 := by decide
  rw [e0]
  refine Eq.trans this ?_
  rw [f_X7_goOn_16, if_pos (by decide)]
end D3
