def xtm (i : Nat) : Term := [Term.string RX5 92, Term.string RX5 94, Term.string RX5 96, Term.string RX5 98, Term.string RX5 100].getD i (Term.string RX5 92)
set_option maxHeartbeats 8000000 in
set_option maxRecDepth 100000 in
theorem law_known {p : Program} {s : State} {m : MethodId} {meth : Method} {c : Code} {b L : Nat} {xs : Nat → Int32} (C0 : lw_At p s m meth c b L xs) : ∃ (D : va_G) (cI cZ cN cC : ClassId), xK D (xtys cI cZ cN cC) s ∧ xCst (fun q : Nat => s.heap.size ≤ q) s s.heap ∧ nB #[Value.ref b] s (fun q : Nat => s.heap.size ≤ q) := by
  obtain ⟨hx, hb, hr, hml, hown, hts, hX, hbl, hlocks, hgv⟩ := C0
  have hH : xH s := fun w hw => va_Nw.of (xm_tab (List.mem_filter.mp hw).2) (hts w (List.mem_filter.mp hw).1)
  have hu : ∀ w ∈ xT, w.before #[Value.ref b] s = true := fun w h => hH.use h
  obtain ⟨c0, i0, hn0⟩ := u_known (C := RX0) (T := TX0) (N := 4) (n := 4) hu kin_X0 (hH.use kT_X0)
  obtain ⟨c1, i1, hn1⟩ := u_known (C := RX1) (T := TX1) (N := 3) (n := 3) hu kin_X1 (hH.use kT_X1)
  obtain ⟨c2, i2, hn2⟩ := u_known (C := RX2) (T := TX2) (N := 2) (n := 2) hu kin_X2 (hH.use kT_X2)
  obtain ⟨c3, i3, hn3⟩ := u_known (C := RX3) (T := TX3) (N := 5) (n := 5) hu kin_X3 (hH.use kT_X3)
  obtain ⟨c4, i4, hn4⟩ := u_known (C := RX4) (T := TX4) (N := 3) (n := 3) hu kin_X4 (hH.use kT_X4)
  obtain ⟨c5, i5, hn5⟩ := u_known (C := RX5) (T := TX5) (N := 7) (n := 7) hu kin_X5 (hH.use kT_X5)
  obtain ⟨c6, i6, hn6⟩ := u_known (C := RX6) (T := TX6) (N := 8) (n := 8) hu kin_X6 (hH.use kT_X6)
  obtain ⟨c7, i7, hn7⟩ := u_known (C := RX7) (T := TX7) (N := 25) (n := 25) hu kin_X7 (hH.use kT_X7)
  have aI := hts (.arrayClass .int) (List.mem_of_getElem? (i := 103) (by decide +kernel))
  have aZ := hts (.arrayClass .boolean) (List.mem_of_getElem? (i := 228) (by decide +kernel))
  have aN := hts (.arrayOver (.object "ReachTrees$Net")) (List.mem_of_getElem? (i := 175) (by decide +kernel))
  have aC := hts (.arrayOver (.object "ReachTrees$Chain")) (List.mem_of_getElem? (i := 205) (by decide +kernel))
  obtain ⟨cI, kI, oI, e1, e2, e3⟩ := Cond.arrayClass_spec aI
  obtain ⟨cZ, kZ, oZ, z1, z2, z3⟩ := Cond.arrayClass_spec aZ
  obtain ⟨oN, cN, kN, n1, n2, n3, n4, n5⟩ := Cond.arrayOver_spec aN
  obtain ⟨oC, cC, kC, t1, t2, t3, t4, t5⟩ := Cond.arrayOver_spec aC
  have hs := flat_of_before _ hgv
  have hA : ∀ a : Nat, a < s.heap.size → ¬ (fun q : Nat => s.heap.size ≤ q) a := fun a h => Nat.not_le.mpr h
  have hex : (List.range 5).all (fun i => decide (Cond.exactly (xtm i) "java/lang/String" ∈ flatC (Jvm.Cond.and given_1 narrow_1))) = true := by decide +kernel
  have hco : (List.range 5).all (fun i => decide (Cond.eq (.field (xtm i) "java/lang/String" "coder" "B") (.int 0) ∈ flatC (Jvm.Cond.and given_1 narrow_1))) = true := by decide +kernel
  have har : (List.range 5).all (fun i => decide (Cond.arrayOf (.field (xtm i) "java/lang/String" "value" "[B") .byte ∈ flatC (Jvm.Cond.and given_1 narrow_1))) = true := by decide +kernel
  have hle : (List.range 5).all (fun i => decide (Cond.eq (.length (.field (xtm i) "java/lang/String" "value" "[B")) (.int (Int32.ofNat (xlen.getD i 0))) ∈ flatC (Jvm.Cond.and given_1 narrow_1))) = true := by decide +kernel
  have hel : (List.range 5).all (fun i => (List.range (xlen.getD i 0)).all (fun j => decide (Cond.eq (.elem (.field (xtm i) "java/lang/String" "value" "[B") (.int (Int32.ofNat j))) (.int ((xbyt.getD i []).getD j 0)) ∈ flatC (Jvm.Cond.and given_1 narrow_1)))) = true := by decide +kernel
  have hne : (List.range 5).all (fun i => (List.range 5).all (fun j => decide (i = j) || decide (Cond.not (Cond.eq (xtm i) (xtm j)) ∈ flatC (Jvm.Cond.and given_1 narrow_1)) || decide (Cond.not (Cond.eq (xtm j) (xtm i)) ∈ flatC (Jvm.Cond.and given_1 narrow_1)))) = true := by decide +kernel
  have al : ∀ {f : Nat → Bool} {n : Nat}, (List.range n).all f = true → ∀ i, i < n → f i = true := fun h i hi => List.all_eq_true.mp h i (List.mem_range.mpr hi)
  obtain ⟨adK, adV, hS5, hT5⟩ := vk_Sof (args := #[Value.ref b]) (s := s) (N := 5) (tm := xtm) (len := xlen) (byt := xbyt) (A := fun q : Nat => s.heap.size ≤ q) (by decide) (fun i hi => hs _ (of_decide_eq_true (al hex i hi))) (fun i hi => hs _ (of_decide_eq_true (al hco i hi))) (fun i hi => hs _ (of_decide_eq_true (al har i hi))) (fun i hi => hs _ (of_decide_eq_true (al hle i hi))) (fun i hi j hj => hs _ (of_decide_eq_true (al (al hel i hi) j hj))) (fun i j hi hj hij => by
      have h := al (al hne i hi) j hj
      simp only [Bool.or_eq_true, decide_eq_true_eq] at h
      rcases h with (h | h) | h
      · exact absurd h hij
      · exact Or.inl (hs _ h)
      · exact Or.inr (hs _ h)) hA
  refine ⟨(fun k => [c0, c1, c2, c3, c4, c5, c6, c7].getD k c0, fun k => [i0, i1, i2, i3, i4, i5, i6, i7].getD k i0), cI, cZ, cN, cC, ⟨⟨fun k q hq => ?_, fun k q hq => ?_⟩, hH⟩, ⟨adK, adV, hS5, ⟨?_, ?_, ?_, ?_, ?_⟩, ?_, ?_⟩, aI, aZ, va_AO.of aN, va_AO.of aC, fun q h => h⟩
  · match k, hq with
    | 0, hq => cases hq; exact hn0
    | 1, hq => cases hq; exact hn1
    | 2, hq => cases hq; exact hn2
    | 3, hq => cases hq; exact hn3
    | 4, hq => cases hq; exact hn4
    | 5, hq => cases hq; exact hn5
    | 6, hq => cases hq; exact hn6
    | 7, hq => cases hq; exact hn7
    | k + 8, hq => simp [vwCl] at hq
  · match k, hq with
    | 0, hq => cases hq; exact ⟨fun n z => ⟨fun k h => (by cases h), kI, e2, oI, e3⟩, e1⟩
    | 1, hq => cases hq; exact ⟨fun n z => ⟨fun k h => (by cases h), kZ, z2, oZ, z3⟩, z1⟩
    | 2, hq => cases hq; exact ⟨fun n z => ⟨fun k h => (by cases h), kN, n3, oN, n4⟩, kN, oN, n3, n4, n1, n5⟩
    | 3, hq => cases hq; exact ⟨fun n z => ⟨fun k h => (by cases h), kC, t3, oC, t4⟩, kC, oC, t3, t4, t1, t5⟩
    | k + 4, hq => simp at hq
  · exact vk_R.of (A := #[Value.ref b]) (hts (.stringRef RX5 92 "net") (List.mem_of_getElem? (i := 288) (by decide +kernel))) (hT5 0 (by decide))
  · exact vk_R.of (A := #[Value.ref b]) (hts (.stringRef RX5 94 "arc") (List.mem_of_getElem? (i := 289) (by decide +kernel))) (hT5 1 (by decide))
  · exact vk_R.of (A := #[Value.ref b]) (hts (.stringRef RX5 96 "ring") (List.mem_of_getElem? (i := 290) (by decide +kernel))) (hT5 2 (by decide))
  · exact vk_R.of (A := #[Value.ref b]) (hts (.stringRef RX5 98 "path") (List.mem_of_getElem? (i := 291) (by decide +kernel))) (hT5 3 (by decide))
  · exact vk_R.of (A := #[Value.ref b]) (hts (.stringRef RX5 100 "star") (List.mem_of_getElem? (i := 292) (by decide +kernel))) (hT5 4 (by decide))
  · exact va_Zof (args := #[Value.ref b]) (hts (.laysStatic "java/lang/String" "COMPACT_STRINGS" "Z") (List.mem_of_getElem? (i := 306) (by decide +kernel))) (hH.use kN_J0) (va_eqi (hs _ (by decide +kernel))) hA
  · exact va_Zqof (args := #[Value.ref b]) (hts (.laysStatic "jdk/internal/util/Preconditions" "SIOOBE_FORMATTER" "Ljava/util/function/BiFunction;") (List.mem_of_getElem? (i := 322) (by decide +kernel))) (hH.use kN_J3) (hs _ (by decide +kernel)) hA
