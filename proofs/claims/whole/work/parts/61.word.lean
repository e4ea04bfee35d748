/-! ===== the text: words, told apart by both ===== -/
def w3 (z : Nat → Nat) (s a b c : Nat) : Option Int32 := if z s = a then if z (s + 1) = b then if z (s + 2) = c then some 1 else some 0 else some 0 else some 0
def w4 (z : Nat → Nat) (s a b c d : Nat) : Option Int32 := if z s = a then if z (s + 1) = b then if z (s + 2) = c then if z (s + 3) = d then some 1 else some 0 else some 0 else some 0 else some 0
theorem w3_or {z : Nat → Nat} {s e a b c : Nat} : ∃ r, (if e = s + 3 then w3 z s a b c else some 0) = some r := by
  unfold w3; repeat' split
  all_goals exact ⟨_, rfl⟩
theorem w4_or {z : Nat → Nat} {s e a b c d : Nat} : ∃ r, (if e = s + 4 then w4 z s a b c d else some 0) = some r := by
  unfold w4; repeat' split
  all_goals exact ⟨_, rfl⟩
/-- which word it is, out of five answers -/
def kch (r0 r1 r2 r3 r4 : Int32) : Option Int32 := if r0 = 0 then if r1 = 0 then if r2 = 0 then if r3 = 0 then if r4 = 0 then some (-1) else some 4 else some 3 else some 2 else some 1 else some 0
theorem kch_or {r0 r1 r2 r3 r4 : Int32} : ∃ q, kch r0 r1 r2 r3 r4 = some q ∧ (q = -1 ∨ ∃ k, k < 5 ∧ q = nI k) := by
  unfold kch; repeat' split
  · exact ⟨_, rfl, Or.inl rfl⟩
  · exact ⟨_, rfl, Or.inr ⟨4, by omega, rfl⟩⟩
  · exact ⟨_, rfl, Or.inr ⟨3, by omega, rfl⟩⟩
  · exact ⟨_, rfl, Or.inr ⟨2, by omega, rfl⟩⟩
  · exact ⟨_, rfl, Or.inr ⟨1, by omega, rfl⟩⟩
  · exact ⟨_, rfl, Or.inr ⟨0, by omega, rfl⟩⟩
theorem wIx : ∀ k, k < 5 → f_X5_wordOf (nI k) = k := by
  intro k hk
  have h : (List.range 5).all (fun k => decide (f_X5_wordOf (nI k) = k)) = true := by decide +kernel
  exact of_decide_eq_true (al2 h k hk)
section R2
variable {ln : Nat} {z : Nat → Nat} {txt : Nat → Int32} {s e : Nat}
theorem ti_step (h : TX ln z txt) {i k m a L : Nat} (hL : xlen.getD i 0 = L) (hL5 : L < 5) (hk : k < L) (hs : s + k < ln) (hc : f_Schar i (nI k) = nI a) (ha : a < 256) : f_X5_tokenIs_20 (nI s) txt i (m + 1) (nI k) = if z (s + k) = a then f_X5_tokenIs_20 (nI s) txt i m (nI (k + 1)) else some 0 := by
  have h0 := h.1
  have hz := h.2 (s + k) hs
  rw [f_X5_tokenIs_20, f_Slen, hL, if_neg (nI_ge hk (by omega)), nI_add, if_pos (xin_n (by omega) (by omega)), if_pos (xin_n hk (by omega)), nI_clamp (by omega), hz.2, hc, nI_1]
  by_cases e : z (s + k) = a
  · rw [if_pos e, if_pos (by rw [e])]
  · rw [if_neg e, if_neg (fun q => e ((nI_eq (by omega) (by omega)).mp q))]
theorem ti_end {i m L : Nat} (hL : xlen.getD i 0 = L) (hL5 : L < 5) : f_X5_tokenIs_20 (nI s) txt i (m + 1) (nI L) = some 1 := by
  rw [f_X5_tokenIs_20, f_Slen, hL, if_pos (nI_le (by omega) (by omega))]
theorem tI3 (h : TX ln z txt) (hse : s ≤ e) (hel : e ≤ ln) {i a b c : Nat} (hL : xlen.getD i 0 = 3) (ca : f_Schar i (nI 0) = nI a) (cb : f_Schar i (nI 1) = nI b) (cc : f_Schar i (nI 2) = nI c) (ha : a < 256) (hb : b < 256) (hc : c < 256) : f_X5_tokenIs 1000 (nI s) (nI e) txt i = if e = s + 3 then w3 z s a b c else some 0 := by
  have h0 := h.1
  rw [f_X5_tokenIs, f_Slen, hL, pk_sub hse]
  by_cases he : e = s + 3
  · have e1 : f_X5_tokenIs_20 (nI s) txt i 1000 0 = f_X5_tokenIs_20 (nI s) txt i (996 + 1 + 1 + 1 + 1) (nI 0) := rfl
    rw [if_pos (by rw [show e - s = 3 by omega]), if_pos he, e1, ti_step h hL (by omega) (by omega) (by omega) ca ha, ti_step h hL (by omega) (by omega) (by omega) cb hb, ti_step h hL (by omega) (by omega) (by omega) cc hc, ti_end hL (by omega)]
    rfl
  · rw [if_neg (fun q => he (by have := (nI_eq (by omega) (by omega)).mp q; omega)), if_neg he]
theorem tI4 (h : TX ln z txt) (hse : s ≤ e) (hel : e ≤ ln) {i a b c d : Nat} (hL : xlen.getD i 0 = 4) (ca : f_Schar i (nI 0) = nI a) (cb : f_Schar i (nI 1) = nI b) (cc : f_Schar i (nI 2) = nI c) (cd : f_Schar i (nI 3) = nI d) (ha : a < 256) (hb : b < 256) (hc : c < 256) (hd : d < 256) : f_X5_tokenIs 1000 (nI s) (nI e) txt i = if e = s + 4 then w4 z s a b c d else some 0 := by
  have h0 := h.1
  rw [f_X5_tokenIs, f_Slen, hL, pk_sub hse]
  by_cases he : e = s + 4
  · have e1 : f_X5_tokenIs_20 (nI s) txt i 1000 0 = f_X5_tokenIs_20 (nI s) txt i (995 + 1 + 1 + 1 + 1 + 1) (nI 0) := rfl
    rw [if_pos (by rw [show e - s = 4 by omega]), if_pos he, e1, ti_step h hL (by omega) (by omega) (by omega) ca ha, ti_step h hL (by omega) (by omega) (by omega) cb hb, ti_step h hL (by omega) (by omega) (by omega) cc hc, ti_step h hL (by omega) (by omega) (by omega) cd hd, ti_end hL (by omega)]
    rfl
  · rw [if_neg (fun q => he (by have := (nI_eq (by omega) (by omega)).mp q; omega)), if_neg he]
theorem lt_at (h : TX ln z txt) {i a : Nat} (hi : i < ln) (ha : a < 256) : (txt i = nI a) = (z i = a) := by
  have hz := h.2 i hi
  rw [hz.2]
  exact propext (nI_eq (by omega) (by omega))
theorem iW3 (h : TX ln z txt) (hse : s ≤ e) (hel : e ≤ ln) {a b c : Nat} (ha : a < 256) (hb : b < 256) (hc : c < 256) : f_X7_isWord (nI a) (nI b) (nI c) 0 (nI e) 1 (nI s) txt = if e = s + 3 then w3 z s a b c else some 0 := by
  have h0 := h.1
  rw [f_X7_isWord, if_pos rfl, f_X7_isWord_10, if_pos rfl, pk_sub hse]
  by_cases he : e = s + 3
  · have q1 : nI (e - s) = 3 := by rw [show e - s = 3 by omega]; rfl
    have x0 : xin (nI s) 200 = true := xin_n (by omega) (by omega)
    have x1 : xin (nI s + 1) 200 = true := by rw [nI_1]; exact xin_n (by omega) (by omega)
    have x2 : xin (nI s + 2) 200 = true := by rw [show nI s + 2 = nI (s + 2) from nI_add s 2]; exact xin_n (by omega) (by omega)
    have y0 : Int32.toNatClampNeg (nI s) = s := nI_clamp (by omega)
    have y1 : Int32.toNatClampNeg (nI s + 1) = s + 1 := by rw [nI_1, nI_clamp (by omega)]
    have y2 : Int32.toNatClampNeg (nI s + 2) = s + 2 := by rw [show nI s + 2 = nI (s + 2) from nI_add s 2, nI_clamp (by omega)]
    simp only [q1, x0, x1, x2, y0, y1, y2, ↓reduceIte, lt_at h (show s < ln by omega) ha, lt_at h (show s + 1 < ln by omega) hb, lt_at h (show s + 2 < ln by omega) hc]
    rw [if_pos he]
    rfl
  · rw [if_neg (fun q => he (by have := (nI_eq (b := 3) (by omega) (by omega)).mp q; omega)), if_neg he]
theorem iW4 (h : TX ln z txt) (hse : s ≤ e) (hel : e ≤ ln) {a b c d : Nat} (ha : a < 256) (hb : b < 256) (hc : c < 256) (hd : d < 256) (hd0 : ¬ nI d = 0) : f_X7_isWord (nI a) (nI b) (nI c) (nI d) (nI e) 1 (nI s) txt = if e = s + 4 then w4 z s a b c d else some 0 := by
  have h0 := h.1
  rw [f_X7_isWord, if_neg hd0, f_X7_isWord_10, if_pos rfl, pk_sub hse]
  by_cases he : e = s + 4
  · have q1 : nI (e - s) = 4 := by rw [show e - s = 4 by omega]; rfl
    have x0 : xin (nI s) 200 = true := xin_n (by omega) (by omega)
    have x1 : xin (nI s + 1) 200 = true := by rw [nI_1]; exact xin_n (by omega) (by omega)
    have x2 : xin (nI s + 2) 200 = true := by rw [show nI s + 2 = nI (s + 2) from nI_add s 2]; exact xin_n (by omega) (by omega)
    have x3 : xin (nI s + 3) 200 = true := by rw [show nI s + 3 = nI (s + 3) from nI_add s 3]; exact xin_n (by omega) (by omega)
    have y0 : Int32.toNatClampNeg (nI s) = s := nI_clamp (by omega)
    have y1 : Int32.toNatClampNeg (nI s + 1) = s + 1 := by rw [nI_1, nI_clamp (by omega)]
    have y2 : Int32.toNatClampNeg (nI s + 2) = s + 2 := by rw [show nI s + 2 = nI (s + 2) from nI_add s 2, nI_clamp (by omega)]
    have y3 : Int32.toNatClampNeg (nI s + 3) = s + 3 := by rw [show nI s + 3 = nI (s + 3) from nI_add s 3, nI_clamp (by omega)]
    simp only [q1, x0, x1, x2, x3, y0, y1, y2, y3, hd0, ↓reduceIte, lt_at h (show s < ln by omega) ha, lt_at h (show s + 1 < ln by omega) hb, lt_at h (show s + 2 < ln by omega) hc, lt_at h (show s + 3 < ln by omega) hd]
    rw [if_pos he]
    rfl
  · rw [if_neg (fun q => he (by have := (nI_eq (b := 4) (by omega) (by omega)).mp q; omega)), if_neg he]
theorem kd_step {m k : Nat} {r : Int32} (hk : k < 5) (h : f_X5_tokenIs 1000 (nI s) (nI e) txt k = some r) : f_X5_kindOfToken_12 1000 (nI s) (nI e) txt (m + 1) (nI k) = if r = 0 then f_X5_kindOfToken_12 1000 (nI s) (nI e) txt m (nI (k + 1)) else some (nI k) := by
  rw [f_X5_kindOfToken_12, if_neg (show ¬ (5 : Int32) ≤ nI k from nI_ge (b := 5) hk (by omega)), wIx k hk, h, Option.bind_some, nI_1]
theorem kind1 {txt2 : Nat → Int32} (h : TX ln z txt) (h' : TX ln z txt2) (hse : s ≤ e) (hel : e ≤ ln) : ∃ q, f_X5_kindOfToken 1000 1 (nI s) (nI e) txt = some q ∧ f_X7_wordOf (nI e) 1 (nI s) txt2 = some q ∧ (q = -1 ∨ ∃ k, k < 5 ∧ q = nI k) := by
  obtain ⟨r0, a0⟩ := w3_or (z := z) (s := s) (e := e) (a := 110) (b := 101) (c := 116)
  obtain ⟨r1, a1⟩ := w3_or (z := z) (s := s) (e := e) (a := 97) (b := 114) (c := 99)
  obtain ⟨r2, a2⟩ := w4_or (z := z) (s := s) (e := e) (a := 114) (b := 105) (c := 110) (d := 103)
  obtain ⟨r3, a3⟩ := w4_or (z := z) (s := s) (e := e) (a := 112) (b := 97) (c := 116) (d := 104)
  obtain ⟨r4, a4⟩ := w4_or (z := z) (s := s) (e := e) (a := 115) (b := 116) (c := 97) (d := 114)
  have t0 := (tI3 h hse hel (i := 0) (a := 110) (b := 101) (c := 116) rfl (by decide +kernel) (by decide +kernel) (by decide +kernel) (by omega) (by omega) (by omega)).trans a0
  have t1 := (tI3 h hse hel (i := 1) (a := 97) (b := 114) (c := 99) rfl (by decide +kernel) (by decide +kernel) (by decide +kernel) (by omega) (by omega) (by omega)).trans a1
  have t2 := (tI4 h hse hel (i := 2) (a := 114) (b := 105) (c := 110) (d := 103) rfl (by decide +kernel) (by decide +kernel) (by decide +kernel) (by decide +kernel) (by omega) (by omega) (by omega) (by omega)).trans a2
  have t3 := (tI4 h hse hel (i := 3) (a := 112) (b := 97) (c := 116) (d := 104) rfl (by decide +kernel) (by decide +kernel) (by decide +kernel) (by decide +kernel) (by omega) (by omega) (by omega) (by omega)).trans a3
  have t4 := (tI4 h hse hel (i := 4) (a := 115) (b := 116) (c := 97) (d := 114) rfl (by decide +kernel) (by decide +kernel) (by decide +kernel) (by decide +kernel) (by omega) (by omega) (by omega) (by omega)).trans a4
  have u0 : f_X7_isWord 110 101 116 0 (nI e) 1 (nI s) txt2 = some r0 := (iW3 h' hse hel (a := 110) (b := 101) (c := 116) (by omega) (by omega) (by omega)).trans a0
  have u1 : f_X7_isWord 97 114 99 0 (nI e) 1 (nI s) txt2 = some r1 := (iW3 h' hse hel (a := 97) (b := 114) (c := 99) (by omega) (by omega) (by omega)).trans a1
  have u2 : f_X7_isWord 114 105 110 103 (nI e) 1 (nI s) txt2 = some r2 := (iW4 h' hse hel (a := 114) (b := 105) (c := 110) (d := 103) (by omega) (by omega) (by omega) (by omega) (by decide)).trans a2
  have u3 : f_X7_isWord 112 97 116 104 (nI e) 1 (nI s) txt2 = some r3 := (iW4 h' hse hel (a := 112) (b := 97) (c := 116) (d := 104) (by omega) (by omega) (by omega) (by omega) (by decide)).trans a3
  have u4 : f_X7_isWord 115 116 97 114 (nI e) 1 (nI s) txt2 = some r4 := (iW4 h' hse hel (a := 115) (b := 116) (c := 97) (d := 114) (by omega) (by omega) (by omega) (by omega) (by decide)).trans a4
  have K : f_X5_kindOfToken 1000 1 (nI s) (nI e) txt = kch r0 r1 r2 r3 r4 := by
    have e1 : f_X5_kindOfToken_12 1000 (nI s) (nI e) txt 1000 0 = f_X5_kindOfToken_12 1000 (nI s) (nI e) txt (994 + 1 + 1 + 1 + 1 + 1 + 1) (nI 0) := rfl
    rw [f_X5_kindOfToken, if_pos rfl, e1, kd_step (by omega) t0, kd_step (by omega) t1, kd_step (by omega) t2, kd_step (by omega) t3, kd_step (by omega) t4, f_X5_kindOfToken_12, if_pos (show (5 : Int32) ≤ nI 5 by decide)]
    rfl
  have V : f_X7_wordOf (nI e) 1 (nI s) txt2 = kch r0 r1 r2 r3 r4 := by
    simp only [f_X7_wordOf, u0, u1, u2, u3, u4, Option.bind_some]
    rfl
  obtain ⟨q, k1, k2⟩ := kch_or (r0 := r0) (r1 := r1) (r2 := r2) (r3 := r3) (r4 := r4)
  exact ⟨q, K.trans k1, V.trans k1, k2⟩
theorem iW0 {a b c d plc srt frm : Int32} (h : ¬ srt = 1) : f_X7_isWord a b c d plc srt frm txt = some 0 := by
  rw [f_X7_isWord, f_X7_isWord_10, f_X7_isWord_10, if_neg h, if_neg h]
  split <;> rfl
theorem kindBoth {txt2 : Nat → Int32} (h : TX ln z txt) (h' : TX ln z txt2) {p so : Nat} {num : Int32} (ht : TOK ln z txt txt2 p so s e num) : ∃ q, f_X5_kindOfToken 1000 (nI so) (nI s) (nI e) txt = some q ∧ f_X7_wordOf (nI e) (srM so (z s)) (nI s) txt2 = some q ∧ (q = -1 ∨ ∃ k, k < 5 ∧ q = nI k) := by
  obtain ⟨⟨p1, p2, p3, p4⟩, -⟩ := ht
  have h0 := h.1
  by_cases e1 : so = 1
  · subst e1
    exact kind1 h h' p2 p3
  · have hso : so < 4 := by
      rcases p4 with p4 | p4
      · omega
      · have := sN_cases (z s); omega
    have n1 : ¬ srM so (z s) = 1 := by
      unfold srM
      by_cases e3 : so = 3
      · rw [if_pos e3]
        rcases p4 with p4 | p4
        · omega
        · exact (srM_3 (h.2 s (by omega)).1).2.1
      · rw [if_neg e3]; exact fun q => e1 ((nI_eq (b := 1) (by omega) (by omega)).mp q)
    have n2 : ¬ nI so = 1 := fun q => e1 ((nI_eq (b := 1) (by omega) (by omega)).mp q)
    refine ⟨-1, by rw [f_X5_kindOfToken, if_neg n2], ?_, Or.inl rfl⟩
    simp only [f_X7_wordOf, iW0 n1, Option.bind_some, ↓reduceIte]
end R2
