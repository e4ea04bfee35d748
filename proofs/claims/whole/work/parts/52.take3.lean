section E5
variable {n : Nat} {A M : Nat → Nat} {T : Nat → Nat → Nat} {P W : Int32} {O Mm Ab st : Nat → Int32} {F G : Nat}
/-- both sides take the arcs from F to G out -/
theorem takeBoth (g : Good n A M T) (r : Rep n A M T P W O Mm Ab st) (hF : F < 2 ^ n) (hG : G < 2 ^ n) : ∃ T' K O' Mm' Ab', (∀ s, s < n → TakeT (subA A F G) n F G s (T s) (T' s) (K s)) ∧ f_X3_takeOut 1000 (nI F) (nI G) (nI n) W O Mm Ab = some (W + nI (sumN K n), O', Mm', Ab') ∧ ∀ x4 um pst pil nxs, ∃ st' pil' nxs', f_X7_take_102 1000 (nI F) (nI G) (nI (full n)) x4 (nI n) um pst pil nxs 1000 0 st = ((f_X7_arcs 1000 (nI n) st').bind fun q16 => some (x4 - q16, um, st', pst, pil', nxs')) ∧ Rep n (subA A F G) (fun s => vm n (T' s)) T' (nI n) (W + nI (sumN K n)) O' Mm' Ab' st' := by
  have hn := g.1.2
  have hex : ∀ s, ∃ p : (Nat → Nat) × Nat, TakeT (subA A F G) n F G s (T s) p.1 p.2 := fun s => by
    obtain ⟨t', k, h⟩ := takeT_ex (subA A F G) n F G s (T s)
    exact ⟨(t', k), h⟩
  obtain ⟨E, hE⟩ := Classical.axiomOfChoice hex
  have hA : ∀ w, w < n → subA A F G w < 2 ^ n := fun w hw => sub_lt (fun i hi => by rw [subA_tb, Bool.and_eq_true] at hi; exact hi.1) (g.2.1 w hw).1
  have hb : ∀ s y, s < n → y < n → T s y < n + 2 := fun s y hs hy => Tsm g hs hy
  obtain ⟨O', e0, o1, -⟩ := takeC2 (A := A) (Mm := Mm) (Ab := Ab) (G := G) hn hF (wrk := W) n 0 1000 O (by omega) (by omega) (fun w _ hw => (r.2.2.1 w hw).1)
  obtain ⟨Mm', Ab', e1, f1, -⟩ := takeC38 (K := fun s => (E s).2) (T' := fun s => (E s).1) (O := O') hn hA (fun w hw => o1 w (by omega) hw) hF hG hb (fun s _ => hE s) n 0 1000 W Mm Ab (by omega) (by omega) (fun s _ hs => ⟨by rw [r.2.2.2.1 s hs, vm_M g hs], fun y hy => (r.2.2.2.2 s y hs hy).1⟩)
  rw [nI_0] at e0
  rw [nI_0, sumF_all] at e1
  refine ⟨fun s => (E s).1, fun s => (E s).2, O', Mm', Ab', fun s _ => hE s, ?_, fun x4 um pst pil nxs => ?_⟩
  · unfold f_X3_takeOut
    rw [e0, e1]
  · obtain ⟨st1, e2, s1, s2⟩ := takeM102 (A := A) (G := G) hn (fun w hw => (g.2.1 w hw).1) hF (x4 := x4) (um := um) (pst := pst) (pil := pil) (nxs := nxs) n 0 1000 st (by omega) (by omega) (fun w _ hw => (r.2.2.1 w hw).2)
    obtain ⟨st', pil', nxs', e3, b1, b2, b3, -⟩ := takeM148 (K := fun s => (E s).2) (T' := fun s => (E s).1) (T := T) hn hA hF hG hb (fun s _ => hE s) (x4 := x4) (um := um) (pst := pst) n 0 1000 st1 pil nxs (by omega) (by omega) (fun w hw => s1 w (by omega) hw) (fun s y _ hs hy => by rw [s2 _ (by omega)]; exact (r.2.2.2.2 s y hs hy).2)
    rw [nI_0] at e2 e3
    rw [sumF_all, s2 110 (by omega)] at b1
    refine ⟨st', pil', nxs', by rw [e2, e3], rfl, ?_, fun w hw => ⟨o1 w (by omega) hw, b2 w hw⟩, fun s hs => (f1 s (by omega) hs).1, fun s y hs hy => ⟨(f1 s (by omega) hs).2 y hy, b3 s y (by omega) hs hy⟩⟩
    rw [b1, ← r.2.1]
end E5
theorem cntB_le (A : Nat → Nat) (F G n : Nat) : cntB A F G n ≤ cntA A n := by
  have := cntA_sub A F G n
  omega
theorem op_take : Op_take Inv0 := by
  intro kps len txt ncl tso tst ten knd nbs pts wrk out mem abv nxt psz nP nW nO nM nA eP eW eO eM eA usd usi cam cM cS cV cB mn um len2 plc srt frm num wrg cm mpt st pst kep isk pil nxs txt2 cls asd opn byy twc szs sos ths hI x1 x2
  obtain ⟨n, rfl, hS, hH, hK, hX, hC⟩ := hI
  obtain ⟨A, M, T, g, r⟩ := id hS
  obtain ⟨⟨hn2, hn⟩, -⟩ := id g
  obtain rfl := r.1
  have eall : ((1 : Int32) <<< (nI n &&& 31)) - 1 = f_X3_allPoints (nI n) := rfl
  by_cases h1 : x1 &&& (f_X3_allPoints (nI n) ^^^ (-1)) = 0
  · by_cases h2 : x2 &&& (f_X3_allPoints (nI n) ^^^ (-1)) = 0
    · obtain ⟨F, hF, rfl⟩ := mask_in hn h1
      obtain ⟨G, hG, rfl⟩ := mask_in hn h2
      have h40 : cntA A n ≤ 40 := g.2.2.2.2.2.2.2
      have hle := cntB_le A F G n
      have hM := takeM40 g r hF hG (x3 := f_X3_allPoints (nI n)) (x4 := nI (cntA A n)) (um := um) (pst := pst) (pil := pil) (nxs := nxs) n 0 1000 0 (by omega) (by omega)
      rw [sumF_all, Nat.zero_add, nI_0] at hM
      have ecb : sumN (fun u => if F.testBit u = true then pc (A u &&& G) else 0) n = cntB A F G n := rfl
      rw [ecb] at hM
      by_cases h0 : cntB A F G n = 0
      · refine ⟨(-4, nxt, psz, nP, nW, nO, nM, nA, wrk, out, mem, abv), (-4, um, st, pst, pil, nxs), ⟨1000, ?_⟩, ⟨1000, ?_⟩, rfl, n, rfl, hS, hH, hK, hX, hC⟩
        · unfold f_X6_take
          rw [if_pos h1, if_pos h2, betwC g r (pow10 hn hF) (pow10 hn hG), Option.bind_some, h0, if_pos (by rfl)]
        · unfold f_X7_take
          rw [eall, if_pos h1, if_pos h2, arcsM g r, Option.bind_some, hM, h0, if_pos (by rfl)]
      · have q0 : ¬ nI (cntB A F G n) = 0 := fun h => h0 ((nI_eq (b := 0) (by omega) (by omega)).mp h)
        obtain ⟨a, b, p, w, o, mm, ab, vv, q, e1, e2, hN⟩ := noteBoth hH hS
        obtain ⟨T', K, O', Mm', Ab', hP, e5, hMM⟩ := takeBoth g r hF hG
        obtain ⟨st', pil', nxs', e6, r'⟩ := hMM (nI (cntA A n)) vv q pil nxs
        have g' := takeGood g hP
        have hS' : Sim n (nI n) (wrk + nI (sumN K n)) O' Mm' Ab' st' := ⟨_, _, _, g', r'⟩
        have hsub := cntA_sub A F G n
        have ed : nI (cntA A n) - nI (cntA (subA A F G) n) = nI (cntB A F G n) := by
          rw [pk_sub (by omega), show cntA A n - cntA (subA A F G) n = cntB A F G n by omega]
        refine ⟨(nI (cntB A F G n), a, b, p, w, o, mm, ab, wrk + nI (sumN K n), O', Mm', Ab'), (nI (cntB A F G n), vv, st', q, pil', nxs'), ⟨1000, ?_⟩, ⟨1000, ?_⟩, rfl, n, rfl, hS', hN, hK, hX, hC⟩
        · unfold f_X6_take
          rw [if_pos h1, if_pos h2, betwC g r (pow10 hn hF) (pow10 hn hG), Option.bind_some, if_neg q0, e1, Option.bind_some, e5]
          rfl
        · unfold f_X7_take
          rw [eall, if_pos h1, if_pos h2, arcsM g r, Option.bind_some, hM, if_neg q0, e2, Option.bind_some, allP hn, e6, arcsM g' r', Option.bind_some, ed]
    · refine ⟨(-3, nxt, psz, nP, nW, nO, nM, nA, wrk, out, mem, abv), (-3, um, st, pst, pil, nxs), ⟨1000, ?_⟩, ⟨1000, ?_⟩, rfl, n, rfl, hS, hH, hK, hX, hC⟩
      · unfold f_X6_take; rw [if_pos h1, if_neg h2]
      · unfold f_X7_take; rw [eall, if_pos h1, if_neg h2]
  · refine ⟨(-3, nxt, psz, nP, nW, nO, nM, nA, wrk, out, mem, abv), (-3, um, st, pst, pil, nxs), ⟨1000, ?_⟩, ⟨1000, ?_⟩, rfl, n, rfl, hS, hH, hK, hX, hC⟩
    · unfold f_X6_take; rw [if_neg h1]
    · unfold f_X7_take; rw [eall, if_neg h1]
