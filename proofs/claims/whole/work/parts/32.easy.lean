/-! ===== reads of one place; the text's letters; chains made and dropped ===== -/
theorem i10 : ((1 : Int32) = 0) = False := eq_false (by decide)
section S2
variable {n : Nat} {A M : Nat → Nat} {T : Nat → Nat → Nat} {P W : Int32} {O Mm Ab st : Nat → Int32}
theorem s_reaches (h : Sim n P W O Mm Ab st) (x1 x2 : Int32) : ∃ r, f_X6_reaches x1 x2 P Mm = some r ∧ f_X7_reaches x1 x2 (nI n) st = some r := by
  obtain ⟨A, M, T, g, r⟩ := h
  obtain ⟨⟨hn2, hn⟩, -⟩ := id g
  obtain rfl := r.1
  unfold f_X6_reaches f_X7_reaches
  rcases pt0 (by omega) hn x1 with ⟨u, hu, rfl⟩ | ⟨a, b⟩
  · rcases pt0 (by omega) hn x2 with ⟨v, hv, rfl⟩ | ⟨a, b⟩
    · simp only [ptC1 hu hn, ptM1 hu hn, ptC1 hv hn, ptM1 hv hn, i10, ↓reduceIte, comesToC g r hu hv, isInM g r hu hv, Option.bind_some]
      cases decide (T u v ≠ 0) <;> exact ⟨_, rfl, rfl⟩
    · simp only [ptC1 hu hn, ptM1 hu hn, a, b, i10, ↓reduceIte]
      exact ⟨_, rfl, rfl⟩
  · simp only [a, b, ↓reduceIte]
    exact ⟨_, rfl, rfl⟩
theorem Tsm (g : Good n A M T) {s v : Nat} (hs : s < n) (hv : v < n) : T s v < n + 2 := by
  by_cases h : v = s
  · subst h; rw [g.2.2.2.1 v hs]; omega
  · rcases g.2.2.2.2.1 s v hs hv h with h | ⟨a, ha, h, -⟩
    · omega
    · omega
theorem aboveOfC (g : Good n A M T) (r : Rep n A M T P W O Mm Ab st) {s v : Nat} (hs : s < n) (hv : v < n) : f_X3_aboveOf (nI s) (nI v) Ab = some (abC (T s v)) := by
  have hn := g.1.2
  unfold f_X3_aboveOf
  rw [ixC, if_pos (xin_n (by omega) (by omega)), nI_clamp (by omega), (r.2.2.2.2 s v hs hv).1]
theorem aboveOfM (g : Good n A M T) (r : Rep n A M T P W O Mm Ab st) {s v : Nat} (hs : s < n) (hv : v < n) : f_X7_aboveOf (nI s) (nI v) st = some (abC (T s v)) := by
  have hn := g.1.2
  have ht := Tsm g hs hv
  unfold f_X7_aboveOf abC
  rw [ixM, if_pos (xin_n (by omega) (by omega)), nI_clamp (by omega), (r.2.2.2.2 s v hs hv).2]
  by_cases h : T s v < 2
  · rw [if_neg (show ¬ (2 : Int32) ≤ nI (T s v) from nI_ge (b := 2) h (by omega)), if_pos h]
  · rw [if_pos (show (2 : Int32) ≤ nI (T s v) from nI_le (a := 2) (by omega) (by omega)), if_neg h, show (2 : Int32) = nI 2 from rfl, pk_sub (by omega)]
theorem s_above (h : Sim n P W O Mm Ab st) (x1 x2 : Int32) : ∃ r, f_X6_above x1 x2 P Ab = some r ∧ f_X7_above x1 x2 (nI n) st = some r := by
  obtain ⟨A, M, T, g, r⟩ := h
  obtain ⟨⟨hn2, hn⟩, -⟩ := id g
  obtain rfl := r.1
  unfold f_X6_above f_X7_above
  rcases pt0 (by omega) hn x1 with ⟨u, hu, rfl⟩ | ⟨a, b⟩
  · rcases pt0 (by omega) hn x2 with ⟨v, hv, rfl⟩ | ⟨a, b⟩
    · simp only [ptC1 hu hn, ptM1 hu hn, ptC1 hv hn, ptM1 hv hn, i10, ↓reduceIte, aboveOfC g r hu hv, aboveOfM g r hu hv, Option.bind_some]
      exact ⟨_, rfl, rfl⟩
    · simp only [ptC1 hu hn, ptM1 hu hn, a, b, i10, ↓reduceIte]
      exact ⟨_, rfl, rfl⟩
  · simp only [a, b, ↓reduceIte]
    exact ⟨_, rfl, rfl⟩
end S2
theorem op_arc : Op_arc Inv0 := by
  intro kps len txt ncl tso tst ten knd nbs pts wrk out mem abv nxt psz nP nW nO nM nA eP eW eO eM eA usd usi cam cM cS cV cB mn um len2 plc srt frm num wrg cm mpt st pst kep isk pil nxs txt2 cls asd opn byy twc szs sos ths hI x1 x2
  obtain ⟨n, rfl, hS, hH, hK, hX, hC⟩ := hI
  obtain ⟨r, h1, h2⟩ := s_arc hS x1 x2
  exact ⟨r, r, h1, h2, rfl, n, rfl, hS, hH, hK, hX, hC⟩
theorem op_reaches : Op_reaches Inv0 := by
  intro kps len txt ncl tso tst ten knd nbs pts wrk out mem abv nxt psz nP nW nO nM nA eP eW eO eM eA usd usi cam cM cS cV cB mn um len2 plc srt frm num wrg cm mpt st pst kep isk pil nxs txt2 cls asd opn byy twc szs sos ths hI x1 x2
  obtain ⟨n, rfl, hS, hH, hK, hX, hC⟩ := hI
  obtain ⟨r, h1, h2⟩ := s_reaches hS x1 x2
  exact ⟨r, r, h1, h2, rfl, n, rfl, hS, hH, hK, hX, hC⟩
theorem op_above : Op_above Inv0 := by
  intro kps len txt ncl tso tst ten knd nbs pts wrk out mem abv nxt psz nP nW nO nM nA eP eW eO eM eA usd usi cam cM cS cV cB mn um len2 plc srt frm num wrg cm mpt st pst kep isk pil nxs txt2 cls asd opn byy twc szs sos ths hI x1 x2
  obtain ⟨n, rfl, hS, hH, hK, hX, hC⟩ := hI
  obtain ⟨r, h1, h2⟩ := s_above hS x1 x2
  exact ⟨r, r, h1, h2, rfl, n, rfl, hS, hH, hK, hX, hC⟩
theorem op_erase : Op_erase Inv0 := by
  intro kps len txt ncl tso tst ten knd nbs pts wrk out mem abv nxt psz nP nW nO nM nA eP eW eO eM eA usd usi cam cM cS cV cB mn um len2 plc srt frm num wrg cm mpt st pst kep isk pil nxs txt2 cls asd opn byy twc szs sos ths hI
  obtain ⟨n, hmn, hS, hH, hK, hX, hC⟩ := hI
  obtain ⟨ln, h1, h2, h3, h4⟩ := hX
  exact ⟨_, _, rfl, rfl, by rw [f_X6_erase, f_X7_erase, h2, h3], n, hmn, hS, hH, hK, ⟨0, by omega, rfl, rfl, fun i hi => absurd hi (by omega)⟩, hC⟩
theorem in255 (x : Int32) : (f_X7_in x.toInt64 0 255 = 0 ∧ (x < 0 ∨ ¬ x ≤ 255)) ∨ (f_X7_in x.toInt64 0 255 = 1 ∧ ∃ z, z < 256 ∧ x = nI z) := by
  rcases pk_ix x (n := 256) (by omega) with h | h | ⟨z, hz, rfl⟩
  · left
    refine ⟨inM0 (Or.inl ?_), Or.inl h⟩
    rw [Int32.toInt_toInt64]; exact Int32.lt_iff_toInt_lt.mp h
  · left
    have h' := Int32.le_iff_toInt_le.mp h
    rw [nI_toInt (by omega)] at h'
    refine ⟨inM0 (Or.inr ?_), Or.inr fun h2 => ?_⟩
    · rw [Int32.toInt_toInt64]; show (255 : Int) < _; omega
    · have h3 := Int32.le_iff_toInt_le.mp h2
      have h4 : (255 : Int32).toInt = 255 := by decide
      omega
  · right
    refine ⟨inM1 ?_ ?_, z, hz, rfl⟩
    · rw [Int32.toInt_toInt64, nI_toInt (by omega)]; show (0 : Int) ≤ _; omega
    · rw [Int32.toInt_toInt64, nI_toInt (by omega)]; show _ ≤ (255 : Int); omega
theorem op_write : Op_write Inv0 := by
  intro kps len txt ncl tso tst ten knd nbs pts wrk out mem abv nxt psz nP nW nO nM nA eP eW eO eM eA usd usi cam cM cS cV cB mn um len2 plc srt frm num wrg cm mpt st pst kep isk pil nxs txt2 cls asd opn byy twc szs sos ths hI x1
  obtain ⟨n, hmn, hS, hH, hK, hX, hC⟩ := hI
  obtain ⟨ln, h1, rfl, rfl, h4⟩ := id hX
  rcases in255 x1 with ⟨e, h⟩ | ⟨e, z, hz, rfl⟩
  · refine ⟨(-3, nI ln, txt), (-3, nI ln, txt2), ?_, ?_, rfl, n, hmn, hS, hH, hK, hX, hC⟩
    · unfold f_X6_write
      rcases h with h | h
      · rw [if_pos h]
      · by_cases h0 : x1 < 0
        · rw [if_pos h0]
        · rw [if_neg h0, if_neg h]
    · unfold f_X7_write
      rw [e, if_pos rfl]
  · have q1 : ¬ nI z < 0 := nI_pos (by omega)
    have q2 : nI z ≤ 255 := nI_le (b := 255) (by omega) (by omega)
    unfold f_X6_write f_X7_write
    by_cases h5 : ln = 200
    · subst h5
      refine ⟨(-5, nI 200, txt), (-5, nI 200, txt2), ?_, ?_, rfl, n, hmn, hS, hH, hK, hX, hC⟩
      · rw [if_neg q1, if_pos q2, if_neg (by decide)]
      · rw [e, if_neg (by decide), if_pos (show nI 200 = 200 from rfl)]
    · have q3 : nI ln < 200 := nI_lt (b := 200) (by omega) (by omega)
      have q4 : xin (nI ln) 200 = true := xin_n (by omega) (by omega)
      have q5 : ¬ nI ln = 200 := fun h => h5 ((nI_eq (b := 200) (by omega) (by omega)).mp h)
      simp only [q1, q2, q3, q4, q5, e, i10, ↓reduceIte, nI_clamp (show ln < 2 ^ 31 by omega), nI_1]
      refine ⟨_, _, rfl, rfl, rfl, n, hmn, hS, hH, hK, ⟨ln + 1, by omega, rfl, rfl, fun i hi => ?_⟩, hC⟩
      by_cases hi2 : i = ln
      · subst hi2
        dsimp only
        rw [pk_us, pk_us]
        exact ⟨rfl, z, hz, rfl⟩
      · dsimp only
        rw [pk_un hi2, pk_un hi2]
        exact h4 i (by omega)
theorem isChC (x : Int32) : (∃ k, k < 3 ∧ x = nI k ∧ f_X6_isChain x = 1 ∧ f_X7_isChain x = 1) ∨ (f_X6_isChain x = 0 ∧ f_X7_isChain x = 0) := by
  rcases pk_ix x (n := 3) (by omega) with h | h | ⟨k, hk, rfl⟩
  · right
    refine ⟨by unfold f_X6_isChain; rw [if_pos h], inM0 (Or.inl ?_)⟩
    rw [Int32.toInt_toInt64]; exact Int32.lt_iff_toInt_lt.mp h
  · right
    have h' := Int32.le_iff_toInt_le.mp h
    rw [nI_toInt (by omega)] at h'
    refine ⟨?_, inM0 (Or.inr ?_)⟩
    · unfold f_X6_isChain
      by_cases hx : x < 0
      · rw [if_pos hx]
      · rw [if_neg hx, if_pos (show (3 : Int32) ≤ x from h)]
    · rw [Int32.toInt_toInt64]; show (2 : Int) < _; omega
  · left
    refine ⟨k, hk, rfl, ?_, inM1 ?_ ?_⟩
    · unfold f_X6_isChain
      rw [if_neg (nI_pos (by omega)), if_neg (show ¬ (3 : Int32) ≤ nI k from nI_ge (b := 3) hk (by omega))]
    · rw [Int32.toInt_toInt64, nI_toInt (by omega)]; show (0 : Int) ≤ _; omega
    · rw [Int32.toInt_toInt64, nI_toInt (by omega)]; show _ ≤ (2 : Int); omega
theorem vu_s {α : Type} {f : Nat → α} {k : Nat} {v : α} : va_up f k v k = v := by simp [va_up]
theorem vu_n {α : Type} {f : Nat → α} {k j : Nat} {v : α} (h : j ≠ k) : va_up f k v j = f j := by simp [va_up, h]
/-- one chain is changed, the others stay -/
theorem InvC_set {n : Nat} {cM cS : Nat → Int32} {cV cB : Nat → Nat → Int32} {szs sos ths : Nat → Int32} {cM' cS' : Nat → Int32} {cV' cB' : Nat → Nat → Int32} {szs' sos' ths' : Nat → Int32} (h : InvC n cM cS cV cB szs sos ths) {k : Nat} (hk : k < 3)
    (ho : ∀ j, j < 3 → j ≠ k → cM' j = cM j ∧ cS' j = cS j ∧ cV' j = cV j ∧ cB' j = cB j ∧ szs' j = szs j ∧ ∀ i, i < 8 → sos' (8 * j + i) = sos (8 * j + i) ∧ ths' (8 * j + i) = ths (8 * j + i))
    (hh : (cM' k = 1 ∧ cS' k = 0 ∧ szs' k = -1) ∨ (cM' k = 0 ∧ ∃ z, z ≤ 8 ∧ cS' k = nI z ∧ szs' k = nI z ∧ ∀ i, i < z → ths' (8 * k + i) = cV' k i ∧ sos' (8 * k + i) = cB' k i ∧ thing n (cB' k i) (cV' k i))) : InvC n cM' cS' cV' cB' szs' sos' ths' := by
  intro j hj
  by_cases hjk : j = k
  · subst hjk; exact hh
  · obtain ⟨a1, a2, a3, a4, a5, a6⟩ := ho j hj hjk
    rw [a1, a2, a3, a4, a5]
    rcases h j hj with h | ⟨h1, z, hz, h2, h3, h4⟩
    · exact Or.inl h
    · refine Or.inr ⟨h1, z, hz, h2, h3, fun i hi => ?_⟩
      rw [(a6 i (by omega)).1, (a6 i (by omega)).2]
      exact h4 i hi
theorem op_chain : Op_chain Inv0 := by
  intro kps len txt ncl tso tst ten knd nbs pts wrk out mem abv nxt psz nP nW nO nM nA eP eW eO eM eA usd usi cam cM cS cV cB mn um len2 plc srt frm num wrg cm mpt st pst kep isk pil nxs txt2 cls asd opn byy twc szs sos ths hI x1
  obtain ⟨n, hmn, hS, hH, hK, hX, hC⟩ := hI
  unfold f_X6_chain f_X7_chain
  rcases isChC x1 with ⟨k, hk, rfl, e1, e2⟩ | ⟨e1, e2⟩
  · simp only [e1, e2, i10, ↓reduceIte, xin_n hk (show 3 < 2 ^ 31 by omega), nI_clamp (show k < 2 ^ 31 by omega)]
    refine ⟨_, _, rfl, rfl, rfl, n, hmn, hS, hH, hK, hX, InvC_set hC hk (fun j hj hjk => ⟨vu_n hjk, vu_n hjk, rfl, rfl, pk_un hjk, fun i hi => ⟨rfl, rfl⟩⟩) (Or.inr ⟨?_, 0, by omega, ?_, ?_, fun i hi => absurd hi (by omega)⟩)⟩
    · exact vu_s
    · exact vu_s
    · exact pk_us
  · simp only [e1, e2, ↓reduceIte]
    exact ⟨_, _, rfl, rfl, rfl, n, hmn, hS, hH, hK, hX, hC⟩
theorem op_drop : Op_drop Inv0 := by
  intro kps len txt ncl tso tst ten knd nbs pts wrk out mem abv nxt psz nP nW nO nM nA eP eW eO eM eA usd usi cam cM cS cV cB mn um len2 plc srt frm num wrg cm mpt st pst kep isk pil nxs txt2 cls asd opn byy twc szs sos ths hI x1
  obtain ⟨n, hmn, hS, hH, hK, hX, hC⟩ := hI
  unfold f_X6_drop f_X7_drop
  rcases isChC x1 with ⟨k, hk, rfl, e1, e2⟩ | ⟨e1, e2⟩
  · have hxi : xin (nI k) 3 = true := xin_n hk (by omega)
    have hset : InvC n (va_up cM k 1) (va_up cS k 0) cV cB (upd szs k (-1)) sos ths := InvC_set hC hk (fun j hj hjk => ⟨vu_n hjk, vu_n hjk, rfl, rfl, pk_un hjk, fun i hi => ⟨rfl, rfl⟩⟩) (Or.inl ⟨vu_s, vu_s, pk_us⟩)
    have m1 : ¬ (0 : Int32) ≤ -1 := by decide
    rcases hC k hk with ⟨c1, c2, c3⟩ | ⟨c1, z, hz, c2, c3, c4⟩
    · simp only [e1, e2, hxi, i10, ↓reduceIte, nI_clamp (show k < 2 ^ 31 by omega), c1, c3, m1]
      refine ⟨_, _, rfl, rfl, rfl, n, hmn, hS, hH, hK, hX, ?_⟩
      exact InvC_set hC hk (fun j hj hjk => ⟨rfl, rfl, rfl, rfl, pk_un hjk, fun i hi => ⟨rfl, rfl⟩⟩) (Or.inl ⟨c1, c2, pk_us⟩)
    · have m2 : (0 : Int32) ≤ nI z := nI_pos' (by omega)
      simp only [e1, e2, hxi, i10, ↓reduceIte, nI_clamp (show k < 2 ^ 31 by omega), c1, c2, c3, m2]
      exact ⟨_, _, rfl, rfl, rfl, n, hmn, hS, hH, hK, hX, hset⟩
  · simp only [e1, e2, ↓reduceIte]
    exact ⟨_, _, rfl, rfl, rfl, n, hmn, hS, hH, hK, hX, hC⟩
