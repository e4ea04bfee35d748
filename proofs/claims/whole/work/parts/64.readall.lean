/-! ===== the text: all of it; fault ===== -/
/-- both have read the text: the same fault, or the same clauses -/
def OUT (n0 : Nat) (x : Option (Int32 × Int32 × Int32 × Int32 × Int32 × (Nat → Int32) × (Nat → Int32))) (y : Option (Int32 × Int32 × Int32 × Int32 × Int32 × Int32 × Int32 × Int32 × (Nat → Int32))) : Prop :=
  (∃ (s : Nat) (c1 so st e : Int32) (knd nbs : Nat → Int32) (plc srt frm num cm mp : Int32) (cls : Nat → Int32), s ≤ 200 ∧ x = some (nI s, c1, so, st, e, knd, nbs) ∧ y = some (0, plc, srt, frm, num, nI s, cm, mp, cls)) ∨
  (∃ (c n : Nat) (so st e : Int32) (knd nbs : Nat → Int32) (plc srt frm num wrg : Int32) (cls : Nat → Int32), c ≤ 24 ∧ x = some (-1, nI c, so, st, e, knd, nbs) ∧ y = some (1, plc, srt, frm, num, wrg, nI c, nI n, cls) ∧ Cls knd nbs cls n0 c n)
/-- the reference from a clause on -/
def rcM (len : Int32) (txt : Nat → Int32) (m : Nat) (plc wrg cm mpt : Int32) (cls : Nat → Int32) : Option (Int32 × Int32 × Int32 × Int32 × Int32 × Int32 × Int32 × Int32 × (Nat → Int32)) :=
  (f_X7_next 1000 len plc txt).bind fun q6 =>
      (f_X7_readClause 1000 len q6.1 q6.2.1 q6.2.2.1 q6.2.2.2 wrg cm mpt txt cls).bind fun q7 =>
      if q7.1 = 0 then
       some (0, q7.2.1, q7.2.2.1, q7.2.2.2.1, q7.2.2.2.2.1, q7.2.2.2.2.2.1, q7.2.2.2.2.2.2.1, q7.2.2.2.2.2.2.2.1, q7.2.2.2.2.2.2.2.2)
      else
       f_X7_readAll_31 1000 len txt m q7.2.1 q7.2.2.1 q7.2.2.2.1 q7.2.2.2.2.1 q7.2.2.2.2.2.1 q7.2.2.2.2.2.2.1 q7.2.2.2.2.2.2.2.1 q7.2.2.2.2.2.2.2.2
section R5
variable {ln : Nat} {z : Nat → Nat} {txt txt2 : Nat → Int32}
theorem TOK.sr0 (h : TX ln z txt) {p so s e : Nat} {num : Int32} (ht : TOK ln z txt txt2 p so s e num) : srM so (z s) = 0 ↔ so = 0 := by
  have h4 := ht.so_lt
  obtain ⟨⟨p1, p2, p3, p4⟩, -⟩ := ht
  unfold srM
  by_cases e3 : so = 3
  · rw [if_pos e3]
    rcases p4 with p4 | p4
    · omega
    · exact ⟨fun q => absurd q (srM_3 (h.2 s (by omega)).1).1, fun q => by omega⟩
  · rw [if_neg e3]
    exact nI_eq (b := 0) (by omega) (by omega)
theorem TOK.semi (h : TX ln z txt) {p so s e : Nat} {num : Int32} (ht : TOK ln z txt txt2 p so s e num) : (srM so (z s) = -941 ∧ f_X5_isSemicolon (nI so) (nI s) txt = some 1) ∨ (¬ srM so (z s) = -941 ∧ f_X5_isSemicolon (nI so) (nI s) txt = some 0) := by
  have h4 := ht.so_lt
  have h0 := h.1
  obtain ⟨⟨p1, p2, p3, p4⟩, -⟩ := ht
  unfold srM f_X5_isSemicolon
  by_cases e3 : so = 3
  · rcases p4 with p4 | p4
    · omega
    · have hz := h.2 s (by omega)
      have hs := (srM_3 hz.1).2.2.2
      subst e3
      rw [if_pos rfl, if_pos (show nI 3 = 3 from rfl), if_pos (xin_n (by omega) (by omega)), nI_clamp (by omega), hz.2]
      by_cases e : z s = 59
      · left
        refine ⟨hs.mpr e, ?_⟩
        rw [e]; exact if_pos rfl
      · right
        refine ⟨fun q => e (hs.mp q), if_neg (show ¬ nI (z s) = 59 from fun q => e ((nI_eq (b := 59) (by omega) (by omega)).mp q))⟩
  · right
    rw [if_neg e3, if_neg (show ¬ nI so = 3 from fun q => e3 ((nI_eq (b := 3) (by omega) (by omega)).mp q))]
    refine ⟨fun q => ?_, rfl⟩
    have h1 : ¬ nI so < 0 := nI_pos (by omega)
    rw [q] at h1; exact h1 (by decide)
theorem readLoop (h : TX ln z txt) (h' : TX ln z txt2) {n0 : Nat} : ∀ (d c m m' n p : Nat) (tso tst wrg : Int32) (knd nbs cls : Nat → Int32), c + d = 23 → d + 1 < m → d + 1 < m' → p ≤ ln → (2 ≤ n ∧ n ≤ 10) → Cls knd nbs cls n0 c n →
    OUT n0 (f_X5_readAll_12 1000 (nI ln) txt m (nI n) (nI c) tso tst (nI p) knd nbs) (rcM (nI ln) txt2 m' (nI p) wrg (nI c) (nI n) cls) := by
  have h0 := h.1
  intro d
  induction d with
  | zero =>
    intro c m m' n p tso tst wrg knd nbs cls h1 h2 h3 hp hn hC
    obtain ⟨m, rfl⟩ : ∃ k, m = k + 1 + 1 := ⟨m - 2, by omega⟩
    obtain ⟨m', rfl⟩ : ∃ k, m' = k + 1 := ⟨m' - 1, by omega⟩
    obtain ⟨so, s, e, num, ht⟩ := tok h h' hp
    rw [f_X5_readAll_12, if_neg (show ¬ (24 : Int32) ≤ nI c from nI_ge (b := 24) (by omega) (by omega)), rcM, ht.2.2.1, Option.bind_some]
    dsimp only
    rcases rClause h h' (knd := knd) (nbs := nbs) (cls := cls) (wrg := wrg) (c := c) (n := n) ht (by omega) hn with ⟨knd', s1, so1, e1, nbs', plc, srt, frm, num1, cm, mp, cls', b1, b2, b3⟩ | ⟨tso', tst', p', n2, knd', nbs', cls', so2, s2, e2, num2, wrg', g1, g2, g3, g4, g5, g6, g7, g8, g9⟩
    · rw [b2, b3, Option.bind_some, Option.bind_some, if_pos rfl, if_pos rfl]
      exact Or.inl ⟨s1, _, _, _, _, _, _, _, _, _, _, _, _, _, b1, rfl, rfl⟩
    · have hC2 := hC.snoc g6 g7 g8 g9
      obtain ⟨k, a, k1, k2, k3, k4⟩ := id g6
      obtain ⟨r1, r2, r3, -⟩ := g4.1
      have hx2 : (if knd' c = 0 then (f_X5_numberOf (nI c) 0 nbs').bind fun q6 => f_X5_readAll_56 (fun x2 ncl tso tst ten knd nbs => f_X5_readAll_12 1000 (nI ln) txt (m + 1) x2 ncl tso tst ten knd nbs) 1000 q6 (nI c) (nI p') knd' nbs' (nI ln) txt else f_X5_readAll_56 (fun x2 ncl tso tst ten knd nbs => f_X5_readAll_12 1000 (nI ln) txt (m + 1) x2 ncl tso tst ten knd nbs) 1000 (nI n) (nI c) (nI p') knd' nbs' (nI ln) txt) = f_X5_readAll_56 (fun x2 ncl tso tst ten knd nbs => f_X5_readAll_12 1000 (nI ln) txt (m + 1) x2 ncl tso tst ten knd nbs) 1000 (nI n2) (nI c) (nI p') knd' nbs' (nI ln) txt := by
        rw [k2]
        rcases k4 with ⟨e0, -, -, e3, -⟩ | ⟨e0, e3, -⟩
        · subst e0
          rw [if_pos nI_0, f_X5_numberOf, show (0 : Int32) = nI 0 from rfl, ix3, if_pos (xin_n (by omega) (by omega)), nI_clamp (by omega), Option.bind_some, show 3 * c + 0 = 3 * c from rfl, e3]
        · rw [if_neg (nI_ne0 (by omega) (by omega)), e3]
      rw [g3, g5, Option.bind_some, Option.bind_some, if_neg n10, if_neg n10, if_pos (xin_n (by omega) (by omega)), nI_clamp (by omega)]
      dsimp only
      rw [hx2, f_X5_readAll_56, g4.2.1, Option.bind_some, f_X7_readAll_31, nI_1]
      dsimp only
      have hf : ∀ (x : Option (Int32 × Int32 × Int32 × Int32 × Int32 × (Nat → Int32) × (Nat → Int32))), (∃ (c1 so st e : Int32) (knd nbs : Nat → Int32), x = some (nI s2, c1, so, st, e, knd, nbs)) → so2 ≠ 0 → OUT n0 x (f_X7_readAll_63 (nI e2) (srM so2 (z s2)) (nI s2) num2 wrg' (nI (c + 1)) (nI n2) cls') := by
        intro x hx hs0
        obtain ⟨c1, so, st, e, knd, nbs, hx⟩ := hx
        rw [f_X7_readAll_63, if_neg (fun q => hs0 ((g4.sr0 h).mp q))]
        exact Or.inl ⟨s2, c1, so, st, e, knd, nbs, _, _, _, _, _, _, _, by omega, hx, rfl⟩
      by_cases z0 : so2 = 0
      · have q0 := (g4.sr0 h).mpr z0
        rw [if_pos (show nI so2 = 0 by rw [z0]; rfl), q0, if_neg (by decide), f_X7_readAll_63, if_pos rfl]
        exact Or.inr ⟨c + 1, n2, _, _, _, _, _, _, _, _, _, _, _, by omega, rfl, rfl, hC2⟩
      · have hso := g4.so_lt
        rw [if_neg (nI_ne0 (by omega) (by omega))]
        rcases g4.semi h with ⟨q1, q2⟩ | ⟨q1, q2⟩
        · rw [q2, Option.bind_some, if_neg n10, if_pos q1, if_pos (show (24 : Int32) ≤ nI (c + 1) from nI_le (a := 24) (by omega) (by omega)), f_X5_readAll_12, if_pos (show (24 : Int32) ≤ nI (c + 1) from nI_le (a := 24) (by omega) (by omega))]
          exact hf _ ⟨_, _, _, _, _, _, rfl⟩ z0
        · rw [q2, Option.bind_some, if_pos rfl, if_neg q1]
          exact hf _ ⟨_, _, _, _, _, _, rfl⟩ z0
  | succ d ih =>
    intro c m m' n p tso tst wrg knd nbs cls h1 h2 h3 hp hn hC
    obtain ⟨m, rfl⟩ : ∃ k, m = k + 1 + 1 := ⟨m - 2, by omega⟩
    obtain ⟨m', rfl⟩ : ∃ k, m' = k + 1 := ⟨m' - 1, by omega⟩
    obtain ⟨so, s, e, num, ht⟩ := tok h h' hp
    rw [f_X5_readAll_12, if_neg (show ¬ (24 : Int32) ≤ nI c from nI_ge (b := 24) (by omega) (by omega)), rcM, ht.2.2.1, Option.bind_some]
    dsimp only
    rcases rClause h h' (knd := knd) (nbs := nbs) (cls := cls) (wrg := wrg) (c := c) (n := n) ht (by omega) hn with ⟨knd', s1, so1, e1, nbs', plc, srt, frm, num1, cm, mp, cls', b1, b2, b3⟩ | ⟨tso', tst', p', n2, knd', nbs', cls', so2, s2, e2, num2, wrg', g1, g2, g3, g4, g5, g6, g7, g8, g9⟩
    · rw [b2, b3, Option.bind_some, Option.bind_some, if_pos rfl, if_pos rfl]
      exact Or.inl ⟨s1, _, _, _, _, _, _, _, _, _, _, _, _, _, b1, rfl, rfl⟩
    · have hC2 := hC.snoc g6 g7 g8 g9
      obtain ⟨k, a, k1, k2, k3, k4⟩ := id g6
      obtain ⟨r1, r2, r3, -⟩ := g4.1
      have hx2 : (if knd' c = 0 then (f_X5_numberOf (nI c) 0 nbs').bind fun q6 => f_X5_readAll_56 (fun x2 ncl tso tst ten knd nbs => f_X5_readAll_12 1000 (nI ln) txt (m + 1) x2 ncl tso tst ten knd nbs) 1000 q6 (nI c) (nI p') knd' nbs' (nI ln) txt else f_X5_readAll_56 (fun x2 ncl tso tst ten knd nbs => f_X5_readAll_12 1000 (nI ln) txt (m + 1) x2 ncl tso tst ten knd nbs) 1000 (nI n) (nI c) (nI p') knd' nbs' (nI ln) txt) = f_X5_readAll_56 (fun x2 ncl tso tst ten knd nbs => f_X5_readAll_12 1000 (nI ln) txt (m + 1) x2 ncl tso tst ten knd nbs) 1000 (nI n2) (nI c) (nI p') knd' nbs' (nI ln) txt := by
        rw [k2]
        rcases k4 with ⟨e0, -, -, e3, -⟩ | ⟨e0, e3, -⟩
        · subst e0
          rw [if_pos nI_0, f_X5_numberOf, show (0 : Int32) = nI 0 from rfl, ix3, if_pos (xin_n (by omega) (by omega)), nI_clamp (by omega), Option.bind_some, show 3 * c + 0 = 3 * c from rfl, e3]
        · rw [if_neg (nI_ne0 (by omega) (by omega)), e3]
      rw [g3, g5, Option.bind_some, Option.bind_some, if_neg n10, if_neg n10, if_pos (xin_n (by omega) (by omega)), nI_clamp (by omega)]
      dsimp only
      rw [hx2, f_X5_readAll_56, g4.2.1, Option.bind_some, nI_1]
      dsimp only
      have hf : ∀ (x : Option (Int32 × Int32 × Int32 × Int32 × Int32 × (Nat → Int32) × (Nat → Int32))), (∃ (c1 so st e : Int32) (knd nbs : Nat → Int32), x = some (nI s2, c1, so, st, e, knd, nbs)) → so2 ≠ 0 → OUT n0 x (f_X7_readAll_63 (nI e2) (srM so2 (z s2)) (nI s2) num2 wrg' (nI (c + 1)) (nI n2) cls') := by
        intro x hx hs0
        obtain ⟨c1, so, st, e, knd, nbs, hx⟩ := hx
        rw [f_X7_readAll_63, if_neg (fun q => hs0 ((g4.sr0 h).mp q))]
        exact Or.inl ⟨s2, c1, so, st, e, knd, nbs, _, _, _, _, _, _, _, by omega, hx, rfl⟩
      by_cases z0 : so2 = 0
      · have q0 := (g4.sr0 h).mpr z0
        rw [if_pos (show nI so2 = 0 by rw [z0]; rfl), q0, f_X7_readAll_31, if_neg (by decide), f_X7_readAll_63, if_pos rfl]
        exact Or.inr ⟨c + 1, n2, _, _, _, _, _, _, _, _, _, _, _, by omega, rfl, rfl, hC2⟩
      · have hso := g4.so_lt
        rw [if_neg (nI_ne0 (by omega) (by omega))]
        rcases g4.semi h with ⟨q1, q2⟩ | ⟨q1, q2⟩
        · have e31 : f_X7_readAll_31 1000 (nI ln) txt2 (m' + 1) (nI e2) (srM so2 (z s2)) (nI s2) num2 wrg' (nI (c + 1)) (nI n2) cls' = rcM (nI ln) txt2 m' (nI e2) wrg' (nI (c + 1)) (nI n2) cls' := by
            rw [f_X7_readAll_31, if_pos q1, if_neg (show ¬ (24 : Int32) ≤ nI (c + 1) from nI_ge (b := 24) (by omega) (by omega))]
            rfl
          rw [q2, Option.bind_some, if_neg n10, e31]
          exact ih (c + 1) (m + 1) m' n2 e2 (nI so2) (nI s2) wrg' knd' nbs' cls' (by omega) (by omega) (by omega) r3 g2 hC2
        · rw [q2, Option.bind_some, if_pos rfl, f_X7_readAll_31, if_neg q1]
          exact hf _ ⟨_, _, _, _, _, _, rfl⟩ z0
/-- both read the text -/
theorem readBoth (h : TX ln z txt) (h' : TX ln z txt2) {n : Nat} (hn : 2 ≤ n ∧ n ≤ 10) {tso tst wrg : Int32} {knd nbs cls : Nat → Int32} : OUT n (f_X5_readAll 1000 (nI n) tso tst knd nbs (nI ln) txt) (f_X7_readAll 1000 (nI n) (nI ln) wrg txt2 cls) := by
  have e1 : f_X7_readAll 1000 (nI n) (nI ln) wrg txt2 cls = rcM (nI ln) txt2 1000 (nI 0) wrg (nI 0) (nI n) cls := rfl
  have e2 : f_X5_readAll 1000 (nI n) tso tst knd nbs (nI ln) txt = f_X5_readAll_12 1000 (nI ln) txt 1000 (nI n) (nI 0) tso tst (nI 0) knd nbs := rfl
  rw [e1, e2]
  exact readLoop h h' 23 0 1000 1000 n 0 tso tst wrg knd nbs cls (by omega) (by omega) (by omega) (by omega) hn ⟨fun _ => n, rfl, rfl, fun j hj => absurd hj (by omega)⟩
end R5
theorem TX_of {len len2 : Int32} {txt txt2 : Nat → Int32} (h : InvX len txt len2 txt2) : ∃ ln z, len = nI ln ∧ len2 = nI ln ∧ TX ln z txt ∧ TX ln z txt2 := by
  obtain ⟨ln, h1, h2, h3, h4⟩ := h
  have key : ∀ i, i < ln → (txt i).toNatClampNeg < 256 ∧ txt i = nI (txt i).toNatClampNeg := by
    intro i hi
    obtain ⟨-, z, hz, e⟩ := h4 i hi
    rw [e, nI_clamp (by omega)]; exact ⟨hz, rfl⟩
  refine ⟨ln, fun i => (txt i).toNatClampNeg, h2, h3, ⟨h1, key⟩, h1, fun i hi => ?_⟩
  rw [(h4 i hi).1]; exact key i hi
theorem op_fault : Op_fault Inv0 := by
  intro kps len txt ncl tso tst ten knd nbs pts wrk out mem abv nxt psz nP nW nO nM nA eP eW eO eM eA usd usi cam cM cS cV cB mn um len2 plc srt frm num wrg cm mpt st pst kep isk pil nxs txt2 cls asd opn byy twc szs sos ths hI
  obtain ⟨n, rfl, hS, hH, hK, hX, hC⟩ := id hI
  obtain ⟨A, M, T, g, r⟩ := id hS
  obtain rfl := r.1
  obtain ⟨ln, z, rfl, rfl, t1, t2⟩ := TX_of hX
  rcases readBoth t1 t2 g.1 (tso := tso) (tst := tst) (wrg := wrg) (knd := knd) (nbs := nbs) (cls := cls) with ⟨s, c1, so, st', e, knd', nbs', plc', srt', frm', num', cm', mp', cls', b0, b1, b2⟩ | ⟨c, n', so, st', e, knd', nbs', plc', srt', frm', num', wrg', cls', b0, b1, b2, -⟩
  · refine ⟨(nI s, c1, so, st', e, knd', nbs'), (nI s, plc', srt', frm', num', nI s, cm', mp', cls'), ⟨1000, ?_⟩, ⟨1000, ?_⟩, rfl, hI⟩
    · rw [f_X6_fault, b1]; rfl
    · rw [f_X7_fault, b2]; rfl
  · refine ⟨(-1, nI c, so, st', e, knd', nbs'), (-1, plc', srt', frm', num', wrg', nI c, nI n', cls'), ⟨1000, ?_⟩, ⟨1000, ?_⟩, rfl, hI⟩
    · rw [f_X6_fault, b1]; rfl
    · rw [f_X7_fault, b2]; rfl
