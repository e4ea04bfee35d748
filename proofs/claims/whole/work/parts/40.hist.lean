/-! ===== notes, undo, clear; keep, back ===== -/
theorem ix111 (w i : Nat) : ((111 : Int32) * nI w) + nI i = nI (111 * w + i) := by
  rw [show (111 : Int32) = nI 111 from rfl, pk_mul, nI_add]
theorem note51 {w : Nat} (hw : w ≤ 7) {st : Nat → Int32} : ∀ (c i m : Nat) (pst : Nat → Int32), i + c = 111 → c < m → ∃ Q, f_X7_note_51 (nI w) st m (nI i) pst = some (nI (w + 1), Q) ∧ ∀ t, Q t = if 111 * w + i ≤ t ∧ t < 111 * w + 111 then st (t - 111 * w) else pst t := by
  intro c
  induction c with
  | zero =>
    intro i m pst h1 h2
    obtain ⟨m, rfl⟩ : ∃ k, m = k + 1 := ⟨m - 1, by omega⟩
    obtain rfl : i = 111 := by omega
    have q : (111 : Int32) ≤ nI 111 := by decide
    refine ⟨pst, by rw [f_X7_note_51, if_pos q, nI_1], fun t => ?_⟩
    rw [if_neg (by omega)]
  | succ c ih =>
    intro i m pst h1 h2
    obtain ⟨m, rfl⟩ : ∃ k, m = k + 1 := ⟨m - 1, by omega⟩
    have q1 : ¬ (111 : Int32) ≤ nI i := nI_ge (b := 111) (by omega) (by omega)
    have q2 : xin (nI i) 111 = true := xin_n (by omega) (by omega)
    have q3 : xin (nI (111 * w + i)) 888 = true := xin_n (by omega) (by omega)
    obtain ⟨Q, e, hQ⟩ := ih (i + 1) m (upd pst (111 * w + i) (st i)) (by omega) (by omega)
    refine ⟨Q, ?_, fun t => ?_⟩
    · rw [f_X7_note_51]
      simp only [q1, q2, ix111, q3, ↓reduceIte, nI_clamp (show i < 2 ^ 31 by omega), nI_clamp (show 111 * w + i < 2 ^ 31 by omega), nI_1]
      exact e
    · rw [hQ t]
      by_cases h : t = 111 * w + i
      · rw [if_neg (by omega), if_pos (by omega), h, pk_us, show 111 * w + i - 111 * w = i by omega]
      · rw [pk_un h]
        by_cases h3 : 111 * w + (i + 1) ≤ t ∧ t < 111 * w + 111
        · rw [if_pos h3, if_pos (by omega)]
        · rw [if_neg h3, if_neg (by omega)]
theorem note11 {st : Nat → Int32} : ∀ (c i m : Nat) (pst : Nat → Int32), i + c = 777 → c < m → ∃ Q, f_X7_note_11 1000 (nI 8) st m (nI i) pst = f_X7_note_51 (nI 7) st 1000 0 Q ∧ ∀ t, Q t = if i ≤ t ∧ t < 777 then pst (t + 111) else pst t := by
  intro c
  induction c with
  | zero =>
    intro i m pst h1 h2
    obtain ⟨m, rfl⟩ : ∃ k, m = k + 1 := ⟨m - 1, by omega⟩
    obtain rfl : i = 777 := by omega
    have q : (777 : Int32) ≤ nI 777 := by decide
    refine ⟨pst, by rw [f_X7_note_11, if_pos q, show nI 8 - 1 = nI 7 from nI_pred 7], fun t => ?_⟩
    rw [if_neg (by omega)]
  | succ c ih =>
    intro i m pst h1 h2
    obtain ⟨m, rfl⟩ : ∃ k, m = k + 1 := ⟨m - 1, by omega⟩
    have q1 : ¬ (777 : Int32) ≤ nI i := nI_ge (b := 777) (by omega) (by omega)
    have q2 : xin (nI i) 888 = true := xin_n (by omega) (by omega)
    have q3 : xin (nI (i + 111)) 888 = true := xin_n (by omega) (by omega)
    have q4 : nI i + 111 = nI (i + 111) := nI_add i 111
    obtain ⟨Q, e, hQ⟩ := ih (i + 1) m (upd pst i (pst (i + 111))) (by omega) (by omega)
    refine ⟨Q, ?_, fun t => ?_⟩
    · rw [f_X7_note_11]
      simp only [q1, q2, q4, q3, ↓reduceIte, nI_clamp (show i < 2 ^ 31 by omega), nI_clamp (show i + 111 < 2 ^ 31 by omega), nI_1]
      exact e
    · rw [hQ t]
      by_cases h3 : i + 1 ≤ t ∧ t < 777
      · rw [if_pos h3, if_pos (by omega), pk_un (by omega)]
      · by_cases h : t = i
        · rw [if_neg h3, if_pos (by omega), h, pk_us]
        · rw [if_neg h3, if_neg (by omega), pk_un h]
theorem noteM {u : Nat} (hu : u ≤ 8) {st pst : Nat → Int32} : ∃ Q, (f_X7_note 1000 (nI u) st pst = some (nI (if u = 8 then 8 else u + 1), Q)) ∧ (u < 8 → (∀ j k, j < u → k < 111 → Q (111 * j + k) = pst (111 * j + k)) ∧ ∀ k, k < 111 → Q (111 * u + k) = st k) ∧ (u = 8 → (∀ j k, j < 7 → k < 111 → Q (111 * j + k) = pst (111 * (j + 1) + k)) ∧ ∀ k, k < 111 → Q (111 * 7 + k) = st k) := by
  unfold f_X7_note
  by_cases h : u = 8
  · subst h
    obtain ⟨Q1, e1, h1⟩ := note11 (st := st) 777 0 1000 pst (by omega) (by omega)
    obtain ⟨Q2, e2, h2⟩ := note51 (w := 7) (by omega) (st := st) 111 0 1000 Q1 (by omega) (by omega)
    rw [nI_0] at e1 e2
    refine ⟨Q2, ?_, fun hh => absurd hh (by omega), fun _ => ⟨fun j k hj hk => ?_, fun k hk => ?_⟩⟩
    · rw [if_pos (show nI 8 = 8 from rfl), e1, e2, if_pos rfl]
    · rw [h2, if_neg (by omega), h1, if_pos (by omega), show 111 * j + k + 111 = 111 * (j + 1) + k by omega]
    · rw [h2, if_pos (by omega), show 111 * 7 + k - 111 * 7 = k by omega]
  · obtain ⟨Q2, e2, h2⟩ := note51 (w := u) (by omega) (st := st) 111 0 1000 pst (by omega) (by omega)
    rw [nI_0] at e2
    refine ⟨Q2, ?_, fun _ => ⟨fun j k hj hk => ?_, fun k hk => ?_⟩, fun hh => absurd hh h⟩
    · rw [if_neg (show ¬ nI u = 8 from fun hh => h ((nI_eq (b := 8) (by omega) (by omega)).mp hh)), e2, if_neg h]
    · rw [h2, if_neg (by omega)]
    · rw [h2, if_pos (by omega), show 111 * u + k - 111 * u = k by omega]
theorem rem8 (y : Nat) (hy : y < 1000) : nI y - nI y / 8 * 8 = nI (y % 8) := pk_rem (by omega) (d := 8) (by omega) (by omega)
/-- both sides note the net as it is -/
theorem noteBoth {n : Nat} {pts wrk nxt psz um : Int32} {out mem abv st nP nW pst : Nat → Int32} {nO nM nA : Nat → Nat → Int32} (hH : InvH n nxt psz nP nW nO nM nA um pst) (hS : Sim n pts wrk out mem abv st) :
    ∃ (a b : Int32) (p w : Nat → Int32) (o mm ab : Nat → Nat → Int32) (v : Int32) (q : Nat → Int32), f_X4_note nxt psz nP nW nO nM nA pts wrk out mem abv = some (a, b, p, w, o, mm, ab) ∧ f_X7_note 1000 um st pst = some (v, q) ∧ InvH n a b p w o mm ab v q := by
  obtain ⟨u, nx, hu, hnx, rfl, rfl, rfl, hN⟩ := hH
  obtain ⟨Q, e, hlt, h8⟩ := noteM hu (st := st) (pst := pst)
  have q1 : xin (nI nx) 8 = true := xin_n hnx (by omega)
  have qn := nI_clamp (show nx < 2 ^ 31 by omega)
  have e1 : nI nx + 1 - (nI nx + 1) / 8 * 8 = nI ((nx + 1) % 8) := by rw [nI_1, rem8 _ (by omega)]
  have e2 : (if (8 : Int32) < nI u + 1 then 8 else nI u + 1) = nI (if u = 8 then 8 else u + 1) := by
    rw [nI_1]
    by_cases h : u = 8
    · subst h; decide
    · rw [if_neg (show ¬ (8 : Int32) < nI (u + 1) from nI_nlt (a := 8) (by omega) (by omega)), if_neg h]
  have hS' : ∀ (st' : Nat → Int32), (∀ k, k < 111 → st' k = st k) → _ := fun st' h => Sim_copy (o1 := nO nx) (o2 := nM nx) (o3 := nA nx) (st' := st') hS h
  refine ⟨nI ((nx + 1) % 8), nI (if u = 8 then 8 else u + 1), va_up nP nx (f_X3_copyFrom (nO nx) (nM nx) (nA nx) pts wrk out mem abv).1, va_up nW nx (f_X3_copyFrom (nO nx) (nM nx) (nA nx) pts wrk out mem abv).2.1, va_up nO nx (f_X3_copyFrom (nO nx) (nM nx) (nA nx) pts wrk out mem abv).2.2.1, va_up nM nx (f_X3_copyFrom (nO nx) (nM nx) (nA nx) pts wrk out mem abv).2.2.2.1, va_up nA nx (f_X3_copyFrom (nO nx) (nM nx) (nA nx) pts wrk out mem abv).2.2.2.2, nI (if u = 8 then 8 else u + 1), Q, ?_, e, ?_⟩
  · unfold f_X4_note
    simp only [q1, ↓reduceIte, qn, e1, e2]
  · refine ⟨if u = 8 then 8 else u + 1, (nx + 1) % 8, by split <;> omega, by omega, rfl, rfl, rfl, fun j hj => ?_⟩
    by_cases h : u = 8
    · subst h
      rw [if_pos rfl] at hj ⊢
      obtain ⟨k1, k2⟩ := h8 rfl
      by_cases hj7 : j = 7
      · subst hj7
        have es : slot ((nx + 1) % 8) 8 7 = nx := by unfold slot; omega
        rw [es, vu_s, vu_s, vu_s, vu_s, vu_s]
        exact hS' _ k2
      · have es : slot ((nx + 1) % 8) 8 j = slot nx 8 (j + 1) := by unfold slot; omega
        have en : slot nx 8 (j + 1) ≠ nx := by unfold slot; omega
        rw [es, vu_n en, vu_n en, vu_n en, vu_n en, vu_n en]
        exact Sim_congr (hN (j + 1) (by omega)) rfl rfl (fun _ _ => rfl) (fun _ _ => rfl) (fun _ _ => rfl) (fun k hk => k1 j k (by omega) hk)
    · rw [if_neg h] at hj ⊢
      obtain ⟨k1, k2⟩ := hlt (by omega)
      by_cases hju : j = u
      · subst hju
        have es : slot ((nx + 1) % 8) (j + 1) j = nx := by unfold slot; omega
        rw [es, vu_s, vu_s, vu_s, vu_s, vu_s]
        exact hS' _ k2
      · have es : slot ((nx + 1) % 8) (u + 1) j = slot nx u j := by unfold slot; omega
        have en : slot nx u j ≠ nx := by unfold slot; omega
        rw [es, vu_n en, vu_n en, vu_n en, vu_n en, vu_n en]
        exact Sim_congr (hN j (by omega)) rfl rfl (fun _ _ => rfl) (fun _ _ => rfl) (fun _ _ => rfl) (fun k hk => k1 j k (by omega) hk)
theorem c110 : Int32.toNatClampNeg 110 = 110 := by decide
theorem Sim_work {n : Nat} {P W w : Int32} {O Mm Ab st : Nat → Int32} (h : Sim n P W O Mm Ab st) : Sim n P w O Mm Ab (upd st 110 w) := by
  obtain ⟨A, M, T, g, r1, r2, r3, r4, r5⟩ := h
  have hn := g.1.2
  refine ⟨A, M, T, g, r1, by rw [pk_us], fun u hu => ?_, r4, fun s v hs hv => ?_⟩
  · rw [pk_un (by omega)]; exact r3 u hu
  · rw [pk_un (by omega)]; exact r5 s v hs hv
theorem op_clear : Op_clear Inv0 := by
  intro kps len txt ncl tso tst ten knd nbs pts wrk out mem abv nxt psz nP nW nO nM nA eP eW eO eM eA usd usi cam cM cS cV cB mn um len2 plc srt frm num wrg cm mpt st pst kep isk pil nxs txt2 cls asd opn byy twc szs sos ths hI
  obtain ⟨n, hmn, hS, hH, hK, hX, hC⟩ := hI
  have hw : wrk = st 110 := by obtain ⟨A, M, T, g, r⟩ := hS; exact r.2.1
  by_cases h0 : wrk = 0
  · refine ⟨(-4, nxt, psz, nP, nW, nO, nM, nA, wrk), (-4, um, st, pst), ?_, ⟨1000, ?_⟩, rfl, n, hmn, hS, hH, hK, hX, hC⟩
    · unfold f_X6_clear; rw [if_pos h0]
    · unfold f_X7_clear; rw [c110, if_pos (by rw [← hw]; exact h0)]
  · obtain ⟨a, b, p, w, o, mm, ab, v, q, e1, e2, h2⟩ := noteBoth hH hS
    refine ⟨(wrk, a, b, p, w, o, mm, ab, 0), (st 110, v, upd st 110 0, q), ?_, ⟨1000, ?_⟩, hw, n, hmn, Sim_work hS, h2, hK, hX, hC⟩
    · unfold f_X6_clear; rw [if_neg h0, e1]; rfl
    · unfold f_X7_clear; rw [c110, if_neg (by rw [← hw]; exact h0), e2]; rfl
theorem undo22 {w : Nat} (hw : w ≤ 7) {pst : Nat → Int32} : ∀ (c i m : Nat) (st : Nat → Int32), i + c = 111 → c < m → ∃ Q, f_X7_undo_22 (nI w) pst m (nI i) st = some (nI w, nI w, Q) ∧ ∀ t, t < 111 → Q t = if i ≤ t then pst (111 * w + t) else st t := by
  intro c
  induction c with
  | zero =>
    intro i m st h1 h2
    obtain ⟨m, rfl⟩ : ∃ k, m = k + 1 := ⟨m - 1, by omega⟩
    obtain rfl : i = 111 := by omega
    have q : (111 : Int32) ≤ nI 111 := by decide
    refine ⟨st, by rw [f_X7_undo_22, if_pos q], fun t ht => ?_⟩
    rw [if_neg (by omega)]
  | succ c ih =>
    intro i m st h1 h2
    obtain ⟨m, rfl⟩ : ∃ k, m = k + 1 := ⟨m - 1, by omega⟩
    have q1 : ¬ (111 : Int32) ≤ nI i := nI_ge (b := 111) (by omega) (by omega)
    have q2 : xin (nI i) 111 = true := xin_n (by omega) (by omega)
    have q3 : xin (nI (111 * w + i)) 888 = true := xin_n (by omega) (by omega)
    obtain ⟨Q, e, hQ⟩ := ih (i + 1) m (upd st i (pst (111 * w + i))) (by omega) (by omega)
    refine ⟨Q, ?_, fun t ht => ?_⟩
    · rw [f_X7_undo_22]
      simp only [q1, q2, ix111, q3, ↓reduceIte, nI_clamp (show i < 2 ^ 31 by omega), nI_clamp (show 111 * w + i < 2 ^ 31 by omega), nI_1]
      exact e
    · rw [hQ t ht]
      by_cases h : t = i
      · rw [if_neg (by omega), if_pos (by omega), h, pk_us]
      · rw [pk_un h]
        by_cases h3 : i + 1 ≤ t
        · rw [if_pos h3, if_pos (by omega)]
        · rw [if_neg h3, if_neg (by omega)]
theorem op_undo : Op_undo Inv0 := by
  intro kps len txt ncl tso tst ten knd nbs pts wrk out mem abv nxt psz nP nW nO nM nA eP eW eO eM eA usd usi cam cM cS cV cB mn um len2 plc srt frm num wrg cm mpt st pst kep isk pil nxs txt2 cls asd opn byy twc szs sos ths hI
  obtain ⟨n, hmn, hS, hH, hK, hX, hC⟩ := hI
  obtain ⟨u, nx, hu, hnx, rfl, rfl, rfl, hN⟩ := id hH
  by_cases h0 : u = 0
  · subst h0
    refine ⟨(-4, nI nx, nI 0, pts, wrk, out, mem, abv), (-4, nI 0, st), ?_, ⟨1000, ?_⟩, rfl, n, hmn, hS, hH, hK, hX, hC⟩
    · unfold f_X6_undo; rw [if_pos nI_0]
    · unfold f_X7_undo; rw [if_pos nI_0]
  · obtain ⟨w, rfl⟩ : ∃ w, u = w + 1 := ⟨u - 1, by omega⟩
    obtain ⟨Q, e, hQ⟩ := undo22 (w := w) (by omega) (pst := pst) 111 0 1000 st (by omega) (by omega)
    rw [nI_0] at e
    have e1 : nI nx + 8 - 1 - (nI nx + 8 - 1) / 8 * 8 = nI ((nx + 7) % 8) := by
      rw [show (8 : Int32) = nI 8 from rfl, nI_add, show nx + 8 = (nx + 7) + 1 by omega, nI_pred]
      exact rem8 _ (by omega)
    have q1 : xin (nI ((nx + 7) % 8)) 8 = true := xin_n (by omega) (by omega)
    have qn := nI_clamp (show (nx + 7) % 8 < 2 ^ 31 by omega)
    have hs := hN w (by omega)
    rw [show slot nx (w + 1) w = (nx + 7) % 8 by unfold slot; omega] at hs
    have hS2 := Sim_copy (o1 := out) (o2 := mem) (o3 := abv) (st' := Q) hs (fun k hk => by rw [hQ k hk, if_pos (by omega)])
    refine ⟨(nI w, nI ((nx + 7) % 8), nI w, _, _, _, _, _), (nI w, nI w, Q), ?_, ⟨1000, ?_⟩, rfl, n, hmn, hS2, ⟨w, (nx + 7) % 8, by omega, by omega, rfl, rfl, rfl, fun j hj => ?_⟩, hK, hX, hC⟩
    · unfold f_X6_undo f_X4_restore
      rw [if_neg (nI_ne0 (by omega) (by omega))]
      simp only [e1, q1, ↓reduceIte, qn, nI_pred, Option.bind_some]
      rfl
    · unfold f_X7_undo
      rw [if_neg (nI_ne0 (by omega) (by omega)), nI_pred]
      exact e
    · rw [show slot ((nx + 7) % 8) w j = slot nx (w + 1) j by unfold slot; omega]
      exact hN j (by omega)
