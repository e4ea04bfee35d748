theorem x_dapp {A : Nat → Prop} {w1 w2 : va_W} : va_D A (w1 ++ w2) ↔ va_D A w1 ∧ va_D A w2 ∧ ∀ x ∈ w1, ∀ y ∈ w2, x.1 ≠ y.1 := by
  constructor
  · intro h
    have hl : ∀ (k : Nat) (q : Nat × va_E), w1[k]? = some q → (w1 ++ w2)[k]? = some q := fun k q hq => by
      rw [List.getElem?_append_left (List.getElem?_eq_some_iff.mp hq).1]; exact hq
    refine ⟨⟨fun i j a b ha hb hab => h.1 i j a b (hl i a ha) (hl j b hb) hab, fun k q hq => h.2 k q (hl k q hq)⟩, x_sufD rfl h, fun x hx y hy hxy => ?_⟩
    obtain ⟨i, hi⟩ := List.mem_iff_getElem?.mp hx
    obtain ⟨j, hj⟩ := List.mem_iff_getElem?.mp hy
    have := h.1 _ _ x y (hl i x hi) (x_suf rfl hj) hxy
    have := (List.getElem?_eq_some_iff.mp hi).1
    omega
  · rintro ⟨h1, h2, h3⟩
    exact va_D.app h1 h2 (fun i j x y hx hy hxy => h3 x (List.mem_of_getElem? hx) y (List.mem_of_getElem? hy) hxy)
theorem x_papp {D : va_G} {H : Heap} {w1 w2 : va_W} : va_P D vwCl (w1 ++ w2) H ↔ va_P D vwCl w1 H ∧ va_P D vwCl w2 H := by
  constructor
  · intro h
    exact ⟨fun k q hq => h k q (by rw [List.getElem?_append_left (List.getElem?_eq_some_iff.mp hq).1]; exact hq), fun k q hq => h _ q (x_suf rfl hq)⟩
  · rintro ⟨h1, h2⟩
    exact va_P.app h1 h2
theorem x_mv {D : va_G} {A : Nat → Prop} {H0 H : Heap} {locs : List Loc} {X s1 Y : va_W} (h : xw D A H0 (X ++ (s1 ++ Y)) H locs) : xw D A H0 (X ++ (Y ++ s1)) H locs := by
  obtain ⟨hP, hD, hS⟩ := h
  rw [x_papp, x_papp] at hP
  rw [x_dapp, x_dapp] at hD
  obtain ⟨dX, ⟨ds, dY, dsY⟩, dXr⟩ := hD
  refine ⟨x_papp.mpr ⟨hP.1, x_papp.mpr ⟨hP.2.2, hP.2.1⟩⟩, x_dapp.mpr ⟨dX, x_dapp.mpr ⟨dY, ds, fun x hx y hy e => dsY y hy x hx e.symm⟩, fun x hx y hy => dXr x hx y ?_⟩, hS⟩
  rcases List.mem_append.mp hy with hy | hy
  · exact List.mem_append_right _ hy
  · exact List.mem_append_left _ hy
section XL
variable {p : Program} {l : Launch} {e : Env} {R : Room} {s : State} {m : MethodId} {args : Array Value} {below : List Frame} {meth : Method} {c : Code} {H : Heap} {locs : List Loc} {cells slots : Nat} {Q : State → Prop}
variable {cc : ByteArray} {nL : Nat} {ret : Option FieldType} {own : String} {D : va_G} {tys : List (ClassId × FieldType)} {A : Nat → Prop} {wc wc' wf : va_W} {pc : Nat} {ls : Array Slot} {rest st0 st1 : List Value} {r : Option Value}
variable {y : MethodName} {bytes : ByteArray} {maxL n idx fr' lo' : Nat} {rt : Option FieldType} {C : String} {b : Nat} {As : List Value}
theorem x_callL (E : xE p s m args meth c cc nL ret own D tys A) (hw : xw D A s.heap (wf ++ wc) H locs) (hV : xV own idx C y bytes maxL rt n) (hM : xMet l D tys y bytes maxL rt fr' lo' (.ref b :: As) wc wc' r) (ci : Nat) {q : vw_C} {fs : List Value} (he : wc[0]? = some (b, .inr (ci, fs))) (hc : vwCl[ci]? = some q) (hq : q.1 = C) (hadr : wc'.map (·.1) = wc.map (·.1)) (hAs : As.length = n) (hrm : fr' + 1 ≤ R.frames ∧ 8 + (maxL + 11) + lo' ≤ R.locals) (hcl : cells ≤ R.cells ∧ slots ≤ R.slots) (hls : ls.size = nL) (hst : st0 = As.reverse ++ .ref b :: rest) (hst1 : r.toList ++ rest = st1) (hrest : (rest.map fun v => v.category).sum ≤ 8) (hdg : decode cc pc = .ok (.invokevirtual idx, 3))
    (kk : ∀ (H : Heap) (locs : List Loc), xw D A s.heap (wf ++ wc') H locs → W p l e R s m args below meth c H locs cells slots Q (F0 m (pc + 3) ls st1)) : W p l e R s m args below meth c H locs cells slots Q (F0 m pc ls st0) :=
  x_callVP (wf := wf) (wc := wc) E hw hV hM _ ci (x_suf rfl he) hc hq rfl rfl hadr hAs hrm hcl hls hst hst1 hrest hdg kk
end XL
theorem q_RW {D : va_G} {A : Nat → Prop} {H0 H : Heap} {locs : List Loc} {a0 a1 a2 a3 a4 a5 a6 a7 a8 a9 a10 : va_W} (h : xw D A H0 (a0 ++ (a1 ++ (a2 ++ (a3 ++ (a4 ++ (a5 ++ (a6 ++ (a7 ++ (a8 ++ (a9 ++ a10)))))))))) H locs) : xw D A H0 ((a3 ++ (a4 ++ (a5 ++ (a6 ++ (a7 ++ (a8 ++ (a9 ++ a10))))))) ++ (a0 ++ (a1 ++ a2))) H locs := by
  have h := x_mv (X := []) (s1 := a0) (Y := (a1 ++ (a2 ++ (a3 ++ (a4 ++ (a5 ++ (a6 ++ (a7 ++ (a8 ++ (a9 ++ a10)))))))))) (by simpa only [List.append_assoc, List.nil_append, List.append_nil] using h)
  have h := x_mv (X := []) (s1 := a1) (Y := (a2 ++ (a3 ++ (a4 ++ (a5 ++ (a6 ++ (a7 ++ (a8 ++ (a9 ++ (a10 ++ a0)))))))))) (by simpa only [List.append_assoc, List.nil_append, List.append_nil] using h)
  have h := x_mv (X := []) (s1 := a2) (Y := (a3 ++ (a4 ++ (a5 ++ (a6 ++ (a7 ++ (a8 ++ (a9 ++ (a10 ++ (a0 ++ a1)))))))))) (by simpa only [List.append_assoc, List.nil_append, List.append_nil] using h)
  simpa only [List.append_assoc, List.nil_append] using h
theorem qi_RW {D : va_G} {A : Nat → Prop} {H0 H : Heap} {locs : List Loc} {a0 a1 a2 a3 a4 a5 a6 a7 a8 a9 a10 : va_W} (h : xw D A H0 ((a3 ++ (a4 ++ (a5 ++ (a6 ++ (a7 ++ (a8 ++ (a9 ++ a10))))))) ++ (a0 ++ (a1 ++ a2))) H locs) : xw D A H0 (a0 ++ (a1 ++ (a2 ++ (a3 ++ (a4 ++ (a5 ++ (a6 ++ (a7 ++ (a8 ++ (a9 ++ a10)))))))))) H locs := by
  have h : xw D A H0 (a3 ++ (a4 ++ (a5 ++ (a6 ++ (a7 ++ (a8 ++ (a9 ++ (a10 ++ (a0 ++ (a1 ++ a2)))))))))) H locs := by simpa only [List.append_assoc] using h
  have h := x_mv (X := (a3 ++ (a4 ++ (a5 ++ (a6 ++ (a7 ++ (a8 ++ (a9 ++ a10)))))))) (s1 := a0) (Y := (a1 ++ a2)) (by simpa only [List.append_assoc, List.nil_append, List.append_nil] using h)
  have h := x_mv (X := (a3 ++ (a4 ++ (a5 ++ (a6 ++ (a7 ++ (a8 ++ (a9 ++ a10)))))))) (s1 := a1) (Y := (a2 ++ a0)) (by simpa only [List.append_assoc, List.nil_append, List.append_nil] using h)
  have h := x_mv (X := (a3 ++ (a4 ++ (a5 ++ (a6 ++ (a7 ++ (a8 ++ (a9 ++ a10)))))))) (s1 := a2) (Y := (a0 ++ a1)) (by simpa only [List.append_assoc, List.nil_append, List.append_nil] using h)
  have h := x_mv (X := []) (s1 := a3) (Y := (a4 ++ (a5 ++ (a6 ++ (a7 ++ (a8 ++ (a9 ++ (a10 ++ (a0 ++ (a1 ++ a2)))))))))) (by simpa only [List.append_assoc, List.nil_append, List.append_nil] using h)
  have h := x_mv (X := []) (s1 := a4) (Y := (a5 ++ (a6 ++ (a7 ++ (a8 ++ (a9 ++ (a10 ++ (a0 ++ (a1 ++ (a2 ++ a3)))))))))) (by simpa only [List.append_assoc, List.nil_append, List.append_nil] using h)
  have h := x_mv (X := []) (s1 := a5) (Y := (a6 ++ (a7 ++ (a8 ++ (a9 ++ (a10 ++ (a0 ++ (a1 ++ (a2 ++ (a3 ++ a4)))))))))) (by simpa only [List.append_assoc, List.nil_append, List.append_nil] using h)
  have h := x_mv (X := []) (s1 := a6) (Y := (a7 ++ (a8 ++ (a9 ++ (a10 ++ (a0 ++ (a1 ++ (a2 ++ (a3 ++ (a4 ++ a5)))))))))) (by simpa only [List.append_assoc, List.nil_append, List.append_nil] using h)
  have h := x_mv (X := []) (s1 := a7) (Y := (a8 ++ (a9 ++ (a10 ++ (a0 ++ (a1 ++ (a2 ++ (a3 ++ (a4 ++ (a5 ++ a6)))))))))) (by simpa only [List.append_assoc, List.nil_append, List.append_nil] using h)
  have h := x_mv (X := []) (s1 := a8) (Y := (a9 ++ (a10 ++ (a0 ++ (a1 ++ (a2 ++ (a3 ++ (a4 ++ (a5 ++ (a6 ++ a7)))))))))) (by simpa only [List.append_assoc, List.nil_append, List.append_nil] using h)
  have h := x_mv (X := []) (s1 := a9) (Y := (a10 ++ (a0 ++ (a1 ++ (a2 ++ (a3 ++ (a4 ++ (a5 ++ (a6 ++ (a7 ++ a8)))))))))) (by simpa only [List.append_assoc, List.nil_append, List.append_nil] using h)
  have h := x_mv (X := []) (s1 := a10) (Y := (a0 ++ (a1 ++ (a2 ++ (a3 ++ (a4 ++ (a5 ++ (a6 ++ (a7 ++ (a8 ++ a9)))))))))) (by simpa only [List.append_assoc, List.nil_append, List.append_nil] using h)
  simpa only [List.append_assoc, List.nil_append] using h
theorem q_RL {D : va_G} {A : Nat → Prop} {H0 H : Heap} {locs : List Loc} {a0 a1 a2 a3 a4 a5 a6 a7 a8 a9 a10 : va_W} (h : xw D A H0 (a0 ++ (a1 ++ (a2 ++ (a3 ++ (a4 ++ (a5 ++ (a6 ++ (a7 ++ (a8 ++ (a9 ++ a10)))))))))) H locs) : xw D A H0 ((a1 ++ (a2 ++ (a3 ++ (a5 ++ (a6 ++ (a7 ++ (a8 ++ (a9 ++ a10)))))))) ++ (a0 ++ a4)) H locs := by
  have h := x_mv (X := []) (s1 := a0) (Y := (a1 ++ (a2 ++ (a3 ++ (a4 ++ (a5 ++ (a6 ++ (a7 ++ (a8 ++ (a9 ++ a10)))))))))) (by simpa only [List.append_assoc, List.nil_append, List.append_nil] using h)
  have h := x_mv (X := (a1 ++ (a2 ++ a3))) (s1 := a4) (Y := (a5 ++ (a6 ++ (a7 ++ (a8 ++ (a9 ++ (a10 ++ a0))))))) (by simpa only [List.append_assoc, List.nil_append, List.append_nil] using h)
  simpa only [List.append_assoc, List.nil_append] using h
theorem qi_RL {D : va_G} {A : Nat → Prop} {H0 H : Heap} {locs : List Loc} {a0 a1 a2 a3 a4 a5 a6 a7 a8 a9 a10 : va_W} (h : xw D A H0 ((a1 ++ (a2 ++ (a3 ++ (a5 ++ (a6 ++ (a7 ++ (a8 ++ (a9 ++ a10)))))))) ++ (a0 ++ a4)) H locs) : xw D A H0 (a0 ++ (a1 ++ (a2 ++ (a3 ++ (a4 ++ (a5 ++ (a6 ++ (a7 ++ (a8 ++ (a9 ++ a10)))))))))) H locs := by
  have h : xw D A H0 (a1 ++ (a2 ++ (a3 ++ (a5 ++ (a6 ++ (a7 ++ (a8 ++ (a9 ++ (a10 ++ (a0 ++ a4)))))))))) H locs := by simpa only [List.append_assoc] using h
  have h := x_mv (X := (a1 ++ (a2 ++ (a3 ++ (a5 ++ (a6 ++ (a7 ++ (a8 ++ (a9 ++ a10))))))))) (s1 := a0) (Y := a4) (by simpa only [List.append_assoc, List.nil_append, List.append_nil] using h)
  have h := x_mv (X := []) (s1 := a1) (Y := (a2 ++ (a3 ++ (a5 ++ (a6 ++ (a7 ++ (a8 ++ (a9 ++ (a10 ++ (a4 ++ a0)))))))))) (by simpa only [List.append_assoc, List.nil_append, List.append_nil] using h)
  have h := x_mv (X := []) (s1 := a2) (Y := (a3 ++ (a5 ++ (a6 ++ (a7 ++ (a8 ++ (a9 ++ (a10 ++ (a4 ++ (a0 ++ a1)))))))))) (by simpa only [List.append_assoc, List.nil_append, List.append_nil] using h)
  have h := x_mv (X := []) (s1 := a3) (Y := (a5 ++ (a6 ++ (a7 ++ (a8 ++ (a9 ++ (a10 ++ (a4 ++ (a0 ++ (a1 ++ a2)))))))))) (by simpa only [List.append_assoc, List.nil_append, List.append_nil] using h)
  have h := x_mv (X := (a5 ++ (a6 ++ (a7 ++ (a8 ++ (a9 ++ a10)))))) (s1 := a4) (Y := (a0 ++ (a1 ++ (a2 ++ a3)))) (by simpa only [List.append_assoc, List.nil_append, List.append_nil] using h)
  have h := x_mv (X := []) (s1 := a5) (Y := (a6 ++ (a7 ++ (a8 ++ (a9 ++ (a10 ++ (a0 ++ (a1 ++ (a2 ++ (a3 ++ a4)))))))))) (by simpa only [List.append_assoc, List.nil_append, List.append_nil] using h)
  have h := x_mv (X := []) (s1 := a6) (Y := (a7 ++ (a8 ++ (a9 ++ (a10 ++ (a0 ++ (a1 ++ (a2 ++ (a3 ++ (a4 ++ a5)))))))))) (by simpa only [List.append_assoc, List.nil_append, List.append_nil] using h)
  have h := x_mv (X := []) (s1 := a7) (Y := (a8 ++ (a9 ++ (a10 ++ (a0 ++ (a1 ++ (a2 ++ (a3 ++ (a4 ++ (a5 ++ a6)))))))))) (by simpa only [List.append_assoc, List.nil_append, List.append_nil] using h)
  have h := x_mv (X := []) (s1 := a8) (Y := (a9 ++ (a10 ++ (a0 ++ (a1 ++ (a2 ++ (a3 ++ (a4 ++ (a5 ++ (a6 ++ a7)))))))))) (by simpa only [List.append_assoc, List.nil_append, List.append_nil] using h)
  have h := x_mv (X := []) (s1 := a9) (Y := (a10 ++ (a0 ++ (a1 ++ (a2 ++ (a3 ++ (a4 ++ (a5 ++ (a6 ++ (a7 ++ a8)))))))))) (by simpa only [List.append_assoc, List.nil_append, List.append_nil] using h)
  have h := x_mv (X := []) (s1 := a10) (Y := (a0 ++ (a1 ++ (a2 ++ (a3 ++ (a4 ++ (a5 ++ (a6 ++ (a7 ++ (a8 ++ a9)))))))))) (by simpa only [List.append_assoc, List.nil_append, List.append_nil] using h)
  simpa only [List.append_assoc, List.nil_append] using h
theorem q_RF {D : va_G} {A : Nat → Prop} {H0 H : Heap} {locs : List Loc} {a0 a1 a2 a3 a4 a5 a6 a7 a8 a9 a10 : va_W} (h : xw D A H0 (a0 ++ (a1 ++ (a2 ++ (a3 ++ (a4 ++ (a5 ++ (a6 ++ (a7 ++ (a8 ++ (a9 ++ a10)))))))))) H locs) : xw D A H0 ((a5 ++ (a6 ++ (a7 ++ (a8 ++ (a9 ++ a10))))) ++ (a0 ++ (a3 ++ (a1 ++ (a2 ++ a4))))) H locs := by
  have h := x_mv (X := []) (s1 := a0) (Y := (a1 ++ (a2 ++ (a3 ++ (a4 ++ (a5 ++ (a6 ++ (a7 ++ (a8 ++ (a9 ++ a10)))))))))) (by simpa only [List.append_assoc, List.nil_append, List.append_nil] using h)
  have h := x_mv (X := (a1 ++ a2)) (s1 := a3) (Y := (a4 ++ (a5 ++ (a6 ++ (a7 ++ (a8 ++ (a9 ++ (a10 ++ a0)))))))) (by simpa only [List.append_assoc, List.nil_append, List.append_nil] using h)
  have h := x_mv (X := []) (s1 := a1) (Y := (a2 ++ (a4 ++ (a5 ++ (a6 ++ (a7 ++ (a8 ++ (a9 ++ (a10 ++ (a0 ++ a3)))))))))) (by simpa only [List.append_assoc, List.nil_append, List.append_nil] using h)
  have h := x_mv (X := []) (s1 := a2) (Y := (a4 ++ (a5 ++ (a6 ++ (a7 ++ (a8 ++ (a9 ++ (a10 ++ (a0 ++ (a3 ++ a1)))))))))) (by simpa only [List.append_assoc, List.nil_append, List.append_nil] using h)
  have h := x_mv (X := []) (s1 := a4) (Y := (a5 ++ (a6 ++ (a7 ++ (a8 ++ (a9 ++ (a10 ++ (a0 ++ (a3 ++ (a1 ++ a2)))))))))) (by simpa only [List.append_assoc, List.nil_append, List.append_nil] using h)
  simpa only [List.append_assoc, List.nil_append] using h
theorem qi_RF {D : va_G} {A : Nat → Prop} {H0 H : Heap} {locs : List Loc} {a0 a1 a2 a3 a4 a5 a6 a7 a8 a9 a10 : va_W} (h : xw D A H0 ((a5 ++ (a6 ++ (a7 ++ (a8 ++ (a9 ++ a10))))) ++ (a0 ++ (a3 ++ (a1 ++ (a2 ++ a4))))) H locs) : xw D A H0 (a0 ++ (a1 ++ (a2 ++ (a3 ++ (a4 ++ (a5 ++ (a6 ++ (a7 ++ (a8 ++ (a9 ++ a10)))))))))) H locs := by
  have h : xw D A H0 (a5 ++ (a6 ++ (a7 ++ (a8 ++ (a9 ++ (a10 ++ (a0 ++ (a3 ++ (a1 ++ (a2 ++ a4)))))))))) H locs := by simpa only [List.append_assoc] using h
  have h := x_mv (X := (a5 ++ (a6 ++ (a7 ++ (a8 ++ (a9 ++ a10)))))) (s1 := a0) (Y := (a3 ++ (a1 ++ (a2 ++ a4)))) (by simpa only [List.append_assoc, List.nil_append, List.append_nil] using h)
  have h := x_mv (X := (a5 ++ (a6 ++ (a7 ++ (a8 ++ (a9 ++ (a10 ++ a3))))))) (s1 := a1) (Y := (a2 ++ (a4 ++ a0))) (by simpa only [List.append_assoc, List.nil_append, List.append_nil] using h)
  have h := x_mv (X := (a5 ++ (a6 ++ (a7 ++ (a8 ++ (a9 ++ (a10 ++ a3))))))) (s1 := a2) (Y := (a4 ++ (a0 ++ a1))) (by simpa only [List.append_assoc, List.nil_append, List.append_nil] using h)
  have h := x_mv (X := (a5 ++ (a6 ++ (a7 ++ (a8 ++ (a9 ++ a10)))))) (s1 := a3) (Y := (a4 ++ (a0 ++ (a1 ++ a2)))) (by simpa only [List.append_assoc, List.nil_append, List.append_nil] using h)
  have h := x_mv (X := (a5 ++ (a6 ++ (a7 ++ (a8 ++ (a9 ++ a10)))))) (s1 := a4) (Y := (a0 ++ (a1 ++ (a2 ++ a3)))) (by simpa only [List.append_assoc, List.nil_append, List.append_nil] using h)
  have h := x_mv (X := []) (s1 := a5) (Y := (a6 ++ (a7 ++ (a8 ++ (a9 ++ (a10 ++ (a0 ++ (a1 ++ (a2 ++ (a3 ++ a4)))))))))) (by simpa only [List.append_assoc, List.nil_append, List.append_nil] using h)
  have h := x_mv (X := []) (s1 := a6) (Y := (a7 ++ (a8 ++ (a9 ++ (a10 ++ (a0 ++ (a1 ++ (a2 ++ (a3 ++ (a4 ++ a5)))))))))) (by simpa only [List.append_assoc, List.nil_append, List.append_nil] using h)
  have h := x_mv (X := []) (s1 := a7) (Y := (a8 ++ (a9 ++ (a10 ++ (a0 ++ (a1 ++ (a2 ++ (a3 ++ (a4 ++ (a5 ++ a6)))))))))) (by simpa only [List.append_assoc, List.nil_append, List.append_nil] using h)
  have h := x_mv (X := []) (s1 := a8) (Y := (a9 ++ (a10 ++ (a0 ++ (a1 ++ (a2 ++ (a3 ++ (a4 ++ (a5 ++ (a6 ++ a7)))))))))) (by simpa only [List.append_assoc, List.nil_append, List.append_nil] using h)
  have h := x_mv (X := []) (s1 := a9) (Y := (a10 ++ (a0 ++ (a1 ++ (a2 ++ (a3 ++ (a4 ++ (a5 ++ (a6 ++ (a7 ++ a8)))))))))) (by simpa only [List.append_assoc, List.nil_append, List.append_nil] using h)
  have h := x_mv (X := []) (s1 := a10) (Y := (a0 ++ (a1 ++ (a2 ++ (a3 ++ (a4 ++ (a5 ++ (a6 ++ (a7 ++ (a8 ++ a9)))))))))) (by simpa only [List.append_assoc, List.nil_append, List.append_nil] using h)
  simpa only [List.append_assoc, List.nil_append] using h
theorem q_RN {D : va_G} {A : Nat → Prop} {H0 H : Heap} {locs : List Loc} {a0 a1 a2 a3 a4 a5 a6 a7 a8 a9 a10 : va_W} (h : xw D A H0 (a0 ++ (a1 ++ (a2 ++ (a3 ++ (a4 ++ (a5 ++ (a6 ++ (a7 ++ (a8 ++ (a9 ++ a10)))))))))) H locs) : xw D A H0 ((a6 ++ (a7 ++ (a8 ++ a10))) ++ (a0 ++ (a3 ++ (a1 ++ (a2 ++ (a4 ++ (a5 ++ a9))))))) H locs := by
  have h := x_mv (X := []) (s1 := a0) (Y := (a1 ++ (a2 ++ (a3 ++ (a4 ++ (a5 ++ (a6 ++ (a7 ++ (a8 ++ (a9 ++ a10)))))))))) (by simpa only [List.append_assoc, List.nil_append, List.append_nil] using h)
  have h := x_mv (X := (a1 ++ a2)) (s1 := a3) (Y := (a4 ++ (a5 ++ (a6 ++ (a7 ++ (a8 ++ (a9 ++ (a10 ++ a0)))))))) (by simpa only [List.append_assoc, List.nil_append, List.append_nil] using h)
  have h := x_mv (X := []) (s1 := a1) (Y := (a2 ++ (a4 ++ (a5 ++ (a6 ++ (a7 ++ (a8 ++ (a9 ++ (a10 ++ (a0 ++ a3)))))))))) (by simpa only [List.append_assoc, List.nil_append, List.append_nil] using h)
  have h := x_mv (X := []) (s1 := a2) (Y := (a4 ++ (a5 ++ (a6 ++ (a7 ++ (a8 ++ (a9 ++ (a10 ++ (a0 ++ (a3 ++ a1)))))))))) (by simpa only [List.append_assoc, List.nil_append, List.append_nil] using h)
  have h := x_mv (X := []) (s1 := a4) (Y := (a5 ++ (a6 ++ (a7 ++ (a8 ++ (a9 ++ (a10 ++ (a0 ++ (a3 ++ (a1 ++ a2)))))))))) (by simpa only [List.append_assoc, List.nil_append, List.append_nil] using h)
  have h := x_mv (X := []) (s1 := a5) (Y := (a6 ++ (a7 ++ (a8 ++ (a9 ++ (a10 ++ (a0 ++ (a3 ++ (a1 ++ (a2 ++ a4)))))))))) (by simpa only [List.append_assoc, List.nil_append, List.append_nil] using h)
  have h := x_mv (X := (a6 ++ (a7 ++ a8))) (s1 := a9) (Y := (a10 ++ (a0 ++ (a3 ++ (a1 ++ (a2 ++ (a4 ++ a5))))))) (by simpa only [List.append_assoc, List.nil_append, List.append_nil] using h)
  simpa only [List.append_assoc, List.nil_append] using h
theorem qi_RN {D : va_G} {A : Nat → Prop} {H0 H : Heap} {locs : List Loc} {a0 a1 a2 a3 a4 a5 a6 a7 a8 a9 a10 : va_W} (h : xw D A H0 ((a6 ++ (a7 ++ (a8 ++ a10))) ++ (a0 ++ (a3 ++ (a1 ++ (a2 ++ (a4 ++ (a5 ++ a9))))))) H locs) : xw D A H0 (a0 ++ (a1 ++ (a2 ++ (a3 ++ (a4 ++ (a5 ++ (a6 ++ (a7 ++ (a8 ++ (a9 ++ a10)))))))))) H locs := by
  have h : xw D A H0 (a6 ++ (a7 ++ (a8 ++ (a10 ++ (a0 ++ (a3 ++ (a1 ++ (a2 ++ (a4 ++ (a5 ++ a9)))))))))) H locs := by simpa only [List.append_assoc] using h
  have h := x_mv (X := (a6 ++ (a7 ++ (a8 ++ a10)))) (s1 := a0) (Y := (a3 ++ (a1 ++ (a2 ++ (a4 ++ (a5 ++ a9)))))) (by simpa only [List.append_assoc, List.nil_append, List.append_nil] using h)
  have h := x_mv (X := (a6 ++ (a7 ++ (a8 ++ (a10 ++ a3))))) (s1 := a1) (Y := (a2 ++ (a4 ++ (a5 ++ (a9 ++ a0))))) (by simpa only [List.append_assoc, List.nil_append, List.append_nil] using h)
  have h := x_mv (X := (a6 ++ (a7 ++ (a8 ++ (a10 ++ a3))))) (s1 := a2) (Y := (a4 ++ (a5 ++ (a9 ++ (a0 ++ a1))))) (by simpa only [List.append_assoc, List.nil_append, List.append_nil] using h)
  have h := x_mv (X := (a6 ++ (a7 ++ (a8 ++ a10)))) (s1 := a3) (Y := (a4 ++ (a5 ++ (a9 ++ (a0 ++ (a1 ++ a2)))))) (by simpa only [List.append_assoc, List.nil_append, List.append_nil] using h)
  have h := x_mv (X := (a6 ++ (a7 ++ (a8 ++ a10)))) (s1 := a4) (Y := (a5 ++ (a9 ++ (a0 ++ (a1 ++ (a2 ++ a3)))))) (by simpa only [List.append_assoc, List.nil_append, List.append_nil] using h)
  have h := x_mv (X := (a6 ++ (a7 ++ (a8 ++ a10)))) (s1 := a5) (Y := (a9 ++ (a0 ++ (a1 ++ (a2 ++ (a3 ++ a4)))))) (by simpa only [List.append_assoc, List.nil_append, List.append_nil] using h)
  have h := x_mv (X := []) (s1 := a6) (Y := (a7 ++ (a8 ++ (a10 ++ (a9 ++ (a0 ++ (a1 ++ (a2 ++ (a3 ++ (a4 ++ a5)))))))))) (by simpa only [List.append_assoc, List.nil_append, List.append_nil] using h)
  have h := x_mv (X := []) (s1 := a7) (Y := (a8 ++ (a10 ++ (a9 ++ (a0 ++ (a1 ++ (a2 ++ (a3 ++ (a4 ++ (a5 ++ a6)))))))))) (by simpa only [List.append_assoc, List.nil_append, List.append_nil] using h)
  have h := x_mv (X := []) (s1 := a8) (Y := (a10 ++ (a9 ++ (a0 ++ (a1 ++ (a2 ++ (a3 ++ (a4 ++ (a5 ++ (a6 ++ a7)))))))))) (by simpa only [List.append_assoc, List.nil_append, List.append_nil] using h)
  have h := x_mv (X := a10) (s1 := a9) (Y := (a0 ++ (a1 ++ (a2 ++ (a3 ++ (a4 ++ (a5 ++ (a6 ++ (a7 ++ a8))))))))) (by simpa only [List.append_assoc, List.nil_append, List.append_nil] using h)
  have h := x_mv (X := []) (s1 := a10) (Y := (a0 ++ (a1 ++ (a2 ++ (a3 ++ (a4 ++ (a5 ++ (a6 ++ (a7 ++ (a8 ++ a9)))))))))) (by simpa only [List.append_assoc, List.nil_append, List.append_nil] using h)
  simpa only [List.append_assoc, List.nil_append] using h
theorem q_RP {D : va_G} {A : Nat → Prop} {H0 H : Heap} {locs : List Loc} {a0 a1 a2 a3 a4 a5 a6 a7 a8 a9 a10 : va_W} (h : xw D A H0 (a0 ++ (a1 ++ (a2 ++ (a3 ++ (a4 ++ (a5 ++ (a6 ++ (a7 ++ (a8 ++ (a9 ++ a10)))))))))) H locs) : xw D A H0 ((a1 ++ (a2 ++ (a3 ++ (a7 ++ (a8 ++ (a9 ++ a10)))))) ++ (a0 ++ (a5 ++ (a6 ++ a4)))) H locs := by
  have h := x_mv (X := []) (s1 := a0) (Y := (a1 ++ (a2 ++ (a3 ++ (a4 ++ (a5 ++ (a6 ++ (a7 ++ (a8 ++ (a9 ++ a10)))))))))) (by simpa only [List.append_assoc, List.nil_append, List.append_nil] using h)
  have h := x_mv (X := (a1 ++ (a2 ++ (a3 ++ a4)))) (s1 := a5) (Y := (a6 ++ (a7 ++ (a8 ++ (a9 ++ (a10 ++ a0)))))) (by simpa only [List.append_assoc, List.nil_append, List.append_nil] using h)
  have h := x_mv (X := (a1 ++ (a2 ++ (a3 ++ a4)))) (s1 := a6) (Y := (a7 ++ (a8 ++ (a9 ++ (a10 ++ (a0 ++ a5)))))) (by simpa only [List.append_assoc, List.nil_append, List.append_nil] using h)
  have h := x_mv (X := (a1 ++ (a2 ++ a3))) (s1 := a4) (Y := (a7 ++ (a8 ++ (a9 ++ (a10 ++ (a0 ++ (a5 ++ a6))))))) (by simpa only [List.append_assoc, List.nil_append, List.append_nil] using h)
  simpa only [List.append_assoc, List.nil_append] using h
theorem qi_RP {D : va_G} {A : Nat → Prop} {H0 H : Heap} {locs : List Loc} {a0 a1 a2 a3 a4 a5 a6 a7 a8 a9 a10 : va_W} (h : xw D A H0 ((a1 ++ (a2 ++ (a3 ++ (a7 ++ (a8 ++ (a9 ++ a10)))))) ++ (a0 ++ (a5 ++ (a6 ++ a4)))) H locs) : xw D A H0 (a0 ++ (a1 ++ (a2 ++ (a3 ++ (a4 ++ (a5 ++ (a6 ++ (a7 ++ (a8 ++ (a9 ++ a10)))))))))) H locs := by
  have h : xw D A H0 (a1 ++ (a2 ++ (a3 ++ (a7 ++ (a8 ++ (a9 ++ (a10 ++ (a0 ++ (a5 ++ (a6 ++ a4)))))))))) H locs := by simpa only [List.append_assoc] using h
  have h := x_mv (X := (a1 ++ (a2 ++ (a3 ++ (a7 ++ (a8 ++ (a9 ++ a10))))))) (s1 := a0) (Y := (a5 ++ (a6 ++ a4))) (by simpa only [List.append_assoc, List.nil_append, List.append_nil] using h)
  have h := x_mv (X := []) (s1 := a1) (Y := (a2 ++ (a3 ++ (a7 ++ (a8 ++ (a9 ++ (a10 ++ (a5 ++ (a6 ++ (a4 ++ a0)))))))))) (by simpa only [List.append_assoc, List.nil_append, List.append_nil] using h)
  have h := x_mv (X := []) (s1 := a2) (Y := (a3 ++ (a7 ++ (a8 ++ (a9 ++ (a10 ++ (a5 ++ (a6 ++ (a4 ++ (a0 ++ a1)))))))))) (by simpa only [List.append_assoc, List.nil_append, List.append_nil] using h)
  have h := x_mv (X := []) (s1 := a3) (Y := (a7 ++ (a8 ++ (a9 ++ (a10 ++ (a5 ++ (a6 ++ (a4 ++ (a0 ++ (a1 ++ a2)))))))))) (by simpa only [List.append_assoc, List.nil_append, List.append_nil] using h)
  have h := x_mv (X := (a7 ++ (a8 ++ (a9 ++ (a10 ++ (a5 ++ a6)))))) (s1 := a4) (Y := (a0 ++ (a1 ++ (a2 ++ a3)))) (by simpa only [List.append_assoc, List.nil_append, List.append_nil] using h)
  have h := x_mv (X := (a7 ++ (a8 ++ (a9 ++ a10)))) (s1 := a5) (Y := (a6 ++ (a0 ++ (a1 ++ (a2 ++ (a3 ++ a4)))))) (by simpa only [List.append_assoc, List.nil_append, List.append_nil] using h)
  have h := x_mv (X := (a7 ++ (a8 ++ (a9 ++ a10)))) (s1 := a6) (Y := (a0 ++ (a1 ++ (a2 ++ (a3 ++ (a4 ++ a5)))))) (by simpa only [List.append_assoc, List.nil_append, List.append_nil] using h)
  have h := x_mv (X := []) (s1 := a7) (Y := (a8 ++ (a9 ++ (a10 ++ (a0 ++ (a1 ++ (a2 ++ (a3 ++ (a4 ++ (a5 ++ a6)))))))))) (by simpa only [List.append_assoc, List.nil_append, List.append_nil] using h)
  have h := x_mv (X := []) (s1 := a8) (Y := (a9 ++ (a10 ++ (a0 ++ (a1 ++ (a2 ++ (a3 ++ (a4 ++ (a5 ++ (a6 ++ a7)))))))))) (by simpa only [List.append_assoc, List.nil_append, List.append_nil] using h)
  have h := x_mv (X := []) (s1 := a9) (Y := (a10 ++ (a0 ++ (a1 ++ (a2 ++ (a3 ++ (a4 ++ (a5 ++ (a6 ++ (a7 ++ a8)))))))))) (by simpa only [List.append_assoc, List.nil_append, List.append_nil] using h)
  have h := x_mv (X := []) (s1 := a10) (Y := (a0 ++ (a1 ++ (a2 ++ (a3 ++ (a4 ++ (a5 ++ (a6 ++ (a7 ++ (a8 ++ a9)))))))))) (by simpa only [List.append_assoc, List.nil_append, List.append_nil] using h)
  simpa only [List.append_assoc, List.nil_append] using h
theorem q_RK {D : va_G} {A : Nat → Prop} {H0 H : Heap} {locs : List Loc} {a0 a1 a2 a3 a4 a5 a6 a7 a8 a9 a10 : va_W} (h : xw D A H0 (a0 ++ (a1 ++ (a2 ++ (a3 ++ (a4 ++ (a5 ++ (a6 ++ (a7 ++ (a8 ++ (a9 ++ a10)))))))))) H locs) : xw D A H0 ((a1 ++ (a2 ++ (a3 ++ (a6 ++ (a8 ++ (a9 ++ a10)))))) ++ (a0 ++ (a4 ++ (a7 ++ a5)))) H locs := by
  have h := x_mv (X := []) (s1 := a0) (Y := (a1 ++ (a2 ++ (a3 ++ (a4 ++ (a5 ++ (a6 ++ (a7 ++ (a8 ++ (a9 ++ a10)))))))))) (by simpa only [List.append_assoc, List.nil_append, List.append_nil] using h)
  have h := x_mv (X := (a1 ++ (a2 ++ a3))) (s1 := a4) (Y := (a5 ++ (a6 ++ (a7 ++ (a8 ++ (a9 ++ (a10 ++ a0))))))) (by simpa only [List.append_assoc, List.nil_append, List.append_nil] using h)
  have h := x_mv (X := (a1 ++ (a2 ++ (a3 ++ (a5 ++ a6))))) (s1 := a7) (Y := (a8 ++ (a9 ++ (a10 ++ (a0 ++ a4))))) (by simpa only [List.append_assoc, List.nil_append, List.append_nil] using h)
  have h := x_mv (X := (a1 ++ (a2 ++ a3))) (s1 := a5) (Y := (a6 ++ (a8 ++ (a9 ++ (a10 ++ (a0 ++ (a4 ++ a7))))))) (by simpa only [List.append_assoc, List.nil_append, List.append_nil] using h)
  simpa only [List.append_assoc, List.nil_append] using h
theorem qi_RK {D : va_G} {A : Nat → Prop} {H0 H : Heap} {locs : List Loc} {a0 a1 a2 a3 a4 a5 a6 a7 a8 a9 a10 : va_W} (h : xw D A H0 ((a1 ++ (a2 ++ (a3 ++ (a6 ++ (a8 ++ (a9 ++ a10)))))) ++ (a0 ++ (a4 ++ (a7 ++ a5)))) H locs) : xw D A H0 (a0 ++ (a1 ++ (a2 ++ (a3 ++ (a4 ++ (a5 ++ (a6 ++ (a7 ++ (a8 ++ (a9 ++ a10)))))))))) H locs := by
  have h : xw D A H0 (a1 ++ (a2 ++ (a3 ++ (a6 ++ (a8 ++ (a9 ++ (a10 ++ (a0 ++ (a4 ++ (a7 ++ a5)))))))))) H locs := by simpa only [List.append_assoc] using h
  have h := x_mv (X := (a1 ++ (a2 ++ (a3 ++ (a6 ++ (a8 ++ (a9 ++ a10))))))) (s1 := a0) (Y := (a4 ++ (a7 ++ a5))) (by simpa only [List.append_assoc, List.nil_append, List.append_nil] using h)
  have h := x_mv (X := []) (s1 := a1) (Y := (a2 ++ (a3 ++ (a6 ++ (a8 ++ (a9 ++ (a10 ++ (a4 ++ (a7 ++ (a5 ++ a0)))))))))) (by simpa only [List.append_assoc, List.nil_append, List.append_nil] using h)
  have h := x_mv (X := []) (s1 := a2) (Y := (a3 ++ (a6 ++ (a8 ++ (a9 ++ (a10 ++ (a4 ++ (a7 ++ (a5 ++ (a0 ++ a1)))))))))) (by simpa only [List.append_assoc, List.nil_append, List.append_nil] using h)
  have h := x_mv (X := []) (s1 := a3) (Y := (a6 ++ (a8 ++ (a9 ++ (a10 ++ (a4 ++ (a7 ++ (a5 ++ (a0 ++ (a1 ++ a2)))))))))) (by simpa only [List.append_assoc, List.nil_append, List.append_nil] using h)
  have h := x_mv (X := (a6 ++ (a8 ++ (a9 ++ a10)))) (s1 := a4) (Y := (a7 ++ (a5 ++ (a0 ++ (a1 ++ (a2 ++ a3)))))) (by simpa only [List.append_assoc, List.nil_append, List.append_nil] using h)
  have h := x_mv (X := (a6 ++ (a8 ++ (a9 ++ (a10 ++ a7))))) (s1 := a5) (Y := (a0 ++ (a1 ++ (a2 ++ (a3 ++ a4))))) (by simpa only [List.append_assoc, List.nil_append, List.append_nil] using h)
  have h := x_mv (X := []) (s1 := a6) (Y := (a8 ++ (a9 ++ (a10 ++ (a7 ++ (a0 ++ (a1 ++ (a2 ++ (a3 ++ (a4 ++ a5)))))))))) (by simpa only [List.append_assoc, List.nil_append, List.append_nil] using h)
  have h := x_mv (X := (a8 ++ (a9 ++ a10))) (s1 := a7) (Y := (a0 ++ (a1 ++ (a2 ++ (a3 ++ (a4 ++ (a5 ++ a6))))))) (by simpa only [List.append_assoc, List.nil_append, List.append_nil] using h)
  have h := x_mv (X := []) (s1 := a8) (Y := (a9 ++ (a10 ++ (a0 ++ (a1 ++ (a2 ++ (a3 ++ (a4 ++ (a5 ++ (a6 ++ a7)))))))))) (by simpa only [List.append_assoc, List.nil_append, List.append_nil] using h)
  have h := x_mv (X := []) (s1 := a9) (Y := (a10 ++ (a0 ++ (a1 ++ (a2 ++ (a3 ++ (a4 ++ (a5 ++ (a6 ++ (a7 ++ a8)))))))))) (by simpa only [List.append_assoc, List.nil_append, List.append_nil] using h)
  have h := x_mv (X := []) (s1 := a10) (Y := (a0 ++ (a1 ++ (a2 ++ (a3 ++ (a4 ++ (a5 ++ (a6 ++ (a7 ++ (a8 ++ a9)))))))))) (by simpa only [List.append_assoc, List.nil_append, List.append_nil] using h)
  simpa only [List.append_assoc, List.nil_append] using h
theorem q_RC {D : va_G} {A : Nat → Prop} {H0 H : Heap} {locs : List Loc} {a0 a1 a2 a3 a4 a5 a6 a7 a8 a9 a10 : va_W} (h : xw D A H0 (a0 ++ (a1 ++ (a2 ++ (a3 ++ (a4 ++ (a5 ++ (a6 ++ (a7 ++ (a8 ++ (a9 ++ a10)))))))))) H locs) : xw D A H0 ((a1 ++ (a2 ++ (a3 ++ (a5 ++ (a6 ++ (a7 ++ (a9 ++ a10))))))) ++ (a0 ++ (a4 ++ a8))) H locs := by
  have h := x_mv (X := []) (s1 := a0) (Y := (a1 ++ (a2 ++ (a3 ++ (a4 ++ (a5 ++ (a6 ++ (a7 ++ (a8 ++ (a9 ++ a10)))))))))) (by simpa only [List.append_assoc, List.nil_append, List.append_nil] using h)
  have h := x_mv (X := (a1 ++ (a2 ++ a3))) (s1 := a4) (Y := (a5 ++ (a6 ++ (a7 ++ (a8 ++ (a9 ++ (a10 ++ a0))))))) (by simpa only [List.append_assoc, List.nil_append, List.append_nil] using h)
  have h := x_mv (X := (a1 ++ (a2 ++ (a3 ++ (a5 ++ (a6 ++ a7)))))) (s1 := a8) (Y := (a9 ++ (a10 ++ (a0 ++ a4)))) (by simpa only [List.append_assoc, List.nil_append, List.append_nil] using h)
  simpa only [List.append_assoc, List.nil_append] using h
theorem qi_RC {D : va_G} {A : Nat → Prop} {H0 H : Heap} {locs : List Loc} {a0 a1 a2 a3 a4 a5 a6 a7 a8 a9 a10 : va_W} (h : xw D A H0 ((a1 ++ (a2 ++ (a3 ++ (a5 ++ (a6 ++ (a7 ++ (a9 ++ a10))))))) ++ (a0 ++ (a4 ++ a8))) H locs) : xw D A H0 (a0 ++ (a1 ++ (a2 ++ (a3 ++ (a4 ++ (a5 ++ (a6 ++ (a7 ++ (a8 ++ (a9 ++ a10)))))))))) H locs := by
  have h : xw D A H0 (a1 ++ (a2 ++ (a3 ++ (a5 ++ (a6 ++ (a7 ++ (a9 ++ (a10 ++ (a0 ++ (a4 ++ a8)))))))))) H locs := by simpa only [List.append_assoc] using h
  have h := x_mv (X := (a1 ++ (a2 ++ (a3 ++ (a5 ++ (a6 ++ (a7 ++ (a9 ++ a10)))))))) (s1 := a0) (Y := (a4 ++ a8)) (by simpa only [List.append_assoc, List.nil_append, List.append_nil] using h)
  have h := x_mv (X := []) (s1 := a1) (Y := (a2 ++ (a3 ++ (a5 ++ (a6 ++ (a7 ++ (a9 ++ (a10 ++ (a4 ++ (a8 ++ a0)))))))))) (by simpa only [List.append_assoc, List.nil_append, List.append_nil] using h)
  have h := x_mv (X := []) (s1 := a2) (Y := (a3 ++ (a5 ++ (a6 ++ (a7 ++ (a9 ++ (a10 ++ (a4 ++ (a8 ++ (a0 ++ a1)))))))))) (by simpa only [List.append_assoc, List.nil_append, List.append_nil] using h)
  have h := x_mv (X := []) (s1 := a3) (Y := (a5 ++ (a6 ++ (a7 ++ (a9 ++ (a10 ++ (a4 ++ (a8 ++ (a0 ++ (a1 ++ a2)))))))))) (by simpa only [List.append_assoc, List.nil_append, List.append_nil] using h)
  have h := x_mv (X := (a5 ++ (a6 ++ (a7 ++ (a9 ++ a10))))) (s1 := a4) (Y := (a8 ++ (a0 ++ (a1 ++ (a2 ++ a3))))) (by simpa only [List.append_assoc, List.nil_append, List.append_nil] using h)
  have h := x_mv (X := []) (s1 := a5) (Y := (a6 ++ (a7 ++ (a9 ++ (a10 ++ (a8 ++ (a0 ++ (a1 ++ (a2 ++ (a3 ++ a4)))))))))) (by simpa only [List.append_assoc, List.nil_append, List.append_nil] using h)
  have h := x_mv (X := []) (s1 := a6) (Y := (a7 ++ (a9 ++ (a10 ++ (a8 ++ (a0 ++ (a1 ++ (a2 ++ (a3 ++ (a4 ++ a5)))))))))) (by simpa only [List.append_assoc, List.nil_append, List.append_nil] using h)
  have h := x_mv (X := []) (s1 := a7) (Y := (a9 ++ (a10 ++ (a8 ++ (a0 ++ (a1 ++ (a2 ++ (a3 ++ (a4 ++ (a5 ++ a6)))))))))) (by simpa only [List.append_assoc, List.nil_append, List.append_nil] using h)
  have h := x_mv (X := (a9 ++ a10)) (s1 := a8) (Y := (a0 ++ (a1 ++ (a2 ++ (a3 ++ (a4 ++ (a5 ++ (a6 ++ a7)))))))) (by simpa only [List.append_assoc, List.nil_append, List.append_nil] using h)
  have h := x_mv (X := []) (s1 := a9) (Y := (a10 ++ (a0 ++ (a1 ++ (a2 ++ (a3 ++ (a4 ++ (a5 ++ (a6 ++ (a7 ++ a8)))))))))) (by simpa only [List.append_assoc, List.nil_append, List.append_nil] using h)
  have h := x_mv (X := []) (s1 := a10) (Y := (a0 ++ (a1 ++ (a2 ++ (a3 ++ (a4 ++ (a5 ++ (a6 ++ (a7 ++ (a8 ++ a9)))))))))) (by simpa only [List.append_assoc, List.nil_append, List.append_nil] using h)
  simpa only [List.append_assoc, List.nil_append] using h
theorem q_RH {D : va_G} {A : Nat → Prop} {H0 H : Heap} {locs : List Loc} {a0 a1 a2 a3 a4 a5 a6 a7 a8 a9 a10 : va_W} (h : xw D A H0 (a0 ++ (a1 ++ (a2 ++ (a3 ++ (a4 ++ (a5 ++ (a6 ++ (a7 ++ (a8 ++ (a9 ++ a10)))))))))) H locs) : xw D A H0 ((a1 ++ (a2 ++ (a3 ++ (a5 ++ (a6 ++ (a7 ++ (a8 ++ a10))))))) ++ (a0 ++ (a4 ++ a9))) H locs := by
  have h := x_mv (X := []) (s1 := a0) (Y := (a1 ++ (a2 ++ (a3 ++ (a4 ++ (a5 ++ (a6 ++ (a7 ++ (a8 ++ (a9 ++ a10)))))))))) (by simpa only [List.append_assoc, List.nil_append, List.append_nil] using h)
  have h := x_mv (X := (a1 ++ (a2 ++ a3))) (s1 := a4) (Y := (a5 ++ (a6 ++ (a7 ++ (a8 ++ (a9 ++ (a10 ++ a0))))))) (by simpa only [List.append_assoc, List.nil_append, List.append_nil] using h)
  have h := x_mv (X := (a1 ++ (a2 ++ (a3 ++ (a5 ++ (a6 ++ (a7 ++ a8))))))) (s1 := a9) (Y := (a10 ++ (a0 ++ a4))) (by simpa only [List.append_assoc, List.nil_append, List.append_nil] using h)
  simpa only [List.append_assoc, List.nil_append] using h
theorem qi_RH {D : va_G} {A : Nat → Prop} {H0 H : Heap} {locs : List Loc} {a0 a1 a2 a3 a4 a5 a6 a7 a8 a9 a10 : va_W} (h : xw D A H0 ((a1 ++ (a2 ++ (a3 ++ (a5 ++ (a6 ++ (a7 ++ (a8 ++ a10))))))) ++ (a0 ++ (a4 ++ a9))) H locs) : xw D A H0 (a0 ++ (a1 ++ (a2 ++ (a3 ++ (a4 ++ (a5 ++ (a6 ++ (a7 ++ (a8 ++ (a9 ++ a10)))))))))) H locs := by
  have h : xw D A H0 (a1 ++ (a2 ++ (a3 ++ (a5 ++ (a6 ++ (a7 ++ (a8 ++ (a10 ++ (a0 ++ (a4 ++ a9)))))))))) H locs := by simpa only [List.append_assoc] using h
  have h := x_mv (X := (a1 ++ (a2 ++ (a3 ++ (a5 ++ (a6 ++ (a7 ++ (a8 ++ a10)))))))) (s1 := a0) (Y := (a4 ++ a9)) (by simpa only [List.append_assoc, List.nil_append, List.append_nil] using h)
  have h := x_mv (X := []) (s1 := a1) (Y := (a2 ++ (a3 ++ (a5 ++ (a6 ++ (a7 ++ (a8 ++ (a10 ++ (a4 ++ (a9 ++ a0)))))))))) (by simpa only [List.append_assoc, List.nil_append, List.append_nil] using h)
  have h := x_mv (X := []) (s1 := a2) (Y := (a3 ++ (a5 ++ (a6 ++ (a7 ++ (a8 ++ (a10 ++ (a4 ++ (a9 ++ (a0 ++ a1)))))))))) (by simpa only [List.append_assoc, List.nil_append, List.append_nil] using h)
  have h := x_mv (X := []) (s1 := a3) (Y := (a5 ++ (a6 ++ (a7 ++ (a8 ++ (a10 ++ (a4 ++ (a9 ++ (a0 ++ (a1 ++ a2)))))))))) (by simpa only [List.append_assoc, List.nil_append, List.append_nil] using h)
  have h := x_mv (X := (a5 ++ (a6 ++ (a7 ++ (a8 ++ a10))))) (s1 := a4) (Y := (a9 ++ (a0 ++ (a1 ++ (a2 ++ a3))))) (by simpa only [List.append_assoc, List.nil_append, List.append_nil] using h)
  have h := x_mv (X := []) (s1 := a5) (Y := (a6 ++ (a7 ++ (a8 ++ (a10 ++ (a9 ++ (a0 ++ (a1 ++ (a2 ++ (a3 ++ a4)))))))))) (by simpa only [List.append_assoc, List.nil_append, List.append_nil] using h)
  have h := x_mv (X := []) (s1 := a6) (Y := (a7 ++ (a8 ++ (a10 ++ (a9 ++ (a0 ++ (a1 ++ (a2 ++ (a3 ++ (a4 ++ a5)))))))))) (by simpa only [List.append_assoc, List.nil_append, List.append_nil] using h)
  have h := x_mv (X := []) (s1 := a7) (Y := (a8 ++ (a10 ++ (a9 ++ (a0 ++ (a1 ++ (a2 ++ (a3 ++ (a4 ++ (a5 ++ a6)))))))))) (by simpa only [List.append_assoc, List.nil_append, List.append_nil] using h)
  have h := x_mv (X := []) (s1 := a8) (Y := (a10 ++ (a9 ++ (a0 ++ (a1 ++ (a2 ++ (a3 ++ (a4 ++ (a5 ++ (a6 ++ a7)))))))))) (by simpa only [List.append_assoc, List.nil_append, List.append_nil] using h)
  have h := x_mv (X := a10) (s1 := a9) (Y := (a0 ++ (a1 ++ (a2 ++ (a3 ++ (a4 ++ (a5 ++ (a6 ++ (a7 ++ a8))))))))) (by simpa only [List.append_assoc, List.nil_append, List.append_nil] using h)
  have h := x_mv (X := []) (s1 := a10) (Y := (a0 ++ (a1 ++ (a2 ++ (a3 ++ (a4 ++ (a5 ++ (a6 ++ (a7 ++ (a8 ++ a9)))))))))) (by simpa only [List.append_assoc, List.nil_append, List.append_nil] using h)
  simpa only [List.append_assoc, List.nil_append] using h
theorem q_RX {D : va_G} {A : Nat → Prop} {H0 H : Heap} {locs : List Loc} {a0 a1 a2 a3 a4 a5 a6 a7 a8 a9 a10 : va_W} (h : xw D A H0 (a0 ++ (a1 ++ (a2 ++ (a3 ++ (a4 ++ (a5 ++ (a6 ++ (a7 ++ (a8 ++ (a9 ++ a10)))))))))) H locs) : xw D A H0 ((a2 ++ (a3 ++ (a6 ++ (a7 ++ (a8 ++ a10))))) ++ (a0 ++ (a4 ++ (a9 ++ (a5 ++ a1))))) H locs := by
  have h := x_mv (X := []) (s1 := a0) (Y := (a1 ++ (a2 ++ (a3 ++ (a4 ++ (a5 ++ (a6 ++ (a7 ++ (a8 ++ (a9 ++ a10)))))))))) (by simpa only [List.append_assoc, List.nil_append, List.append_nil] using h)
  have h := x_mv (X := (a1 ++ (a2 ++ a3))) (s1 := a4) (Y := (a5 ++ (a6 ++ (a7 ++ (a8 ++ (a9 ++ (a10 ++ a0))))))) (by simpa only [List.append_assoc, List.nil_append, List.append_nil] using h)
  have h := x_mv (X := (a1 ++ (a2 ++ (a3 ++ (a5 ++ (a6 ++ (a7 ++ a8))))))) (s1 := a9) (Y := (a10 ++ (a0 ++ a4))) (by simpa only [List.append_assoc, List.nil_append, List.append_nil] using h)
  have h := x_mv (X := (a1 ++ (a2 ++ a3))) (s1 := a5) (Y := (a6 ++ (a7 ++ (a8 ++ (a10 ++ (a0 ++ (a4 ++ a9))))))) (by simpa only [List.append_assoc, List.nil_append, List.append_nil] using h)
  have h := x_mv (X := []) (s1 := a1) (Y := (a2 ++ (a3 ++ (a6 ++ (a7 ++ (a8 ++ (a10 ++ (a0 ++ (a4 ++ (a9 ++ a5)))))))))) (by simpa only [List.append_assoc, List.nil_append, List.append_nil] using h)
  simpa only [List.append_assoc, List.nil_append] using h
theorem qi_RX {D : va_G} {A : Nat → Prop} {H0 H : Heap} {locs : List Loc} {a0 a1 a2 a3 a4 a5 a6 a7 a8 a9 a10 : va_W} (h : xw D A H0 ((a2 ++ (a3 ++ (a6 ++ (a7 ++ (a8 ++ a10))))) ++ (a0 ++ (a4 ++ (a9 ++ (a5 ++ a1))))) H locs) : xw D A H0 (a0 ++ (a1 ++ (a2 ++ (a3 ++ (a4 ++ (a5 ++ (a6 ++ (a7 ++ (a8 ++ (a9 ++ a10)))))))))) H locs := by
  have h : xw D A H0 (a2 ++ (a3 ++ (a6 ++ (a7 ++ (a8 ++ (a10 ++ (a0 ++ (a4 ++ (a9 ++ (a5 ++ a1)))))))))) H locs := by simpa only [List.append_assoc] using h
  have h := x_mv (X := (a2 ++ (a3 ++ (a6 ++ (a7 ++ (a8 ++ a10)))))) (s1 := a0) (Y := (a4 ++ (a9 ++ (a5 ++ a1)))) (by simpa only [List.append_assoc, List.nil_append, List.append_nil] using h)
  have h := x_mv (X := (a2 ++ (a3 ++ (a6 ++ (a7 ++ (a8 ++ (a10 ++ (a4 ++ (a9 ++ a5))))))))) (s1 := a1) (Y := a0) (by simpa only [List.append_assoc, List.nil_append, List.append_nil] using h)
  have h := x_mv (X := []) (s1 := a2) (Y := (a3 ++ (a6 ++ (a7 ++ (a8 ++ (a10 ++ (a4 ++ (a9 ++ (a5 ++ (a0 ++ a1)))))))))) (by simpa only [List.append_assoc, List.nil_append, List.append_nil] using h)
  have h := x_mv (X := []) (s1 := a3) (Y := (a6 ++ (a7 ++ (a8 ++ (a10 ++ (a4 ++ (a9 ++ (a5 ++ (a0 ++ (a1 ++ a2)))))))))) (by simpa only [List.append_assoc, List.nil_append, List.append_nil] using h)
  have h := x_mv (X := (a6 ++ (a7 ++ (a8 ++ a10)))) (s1 := a4) (Y := (a9 ++ (a5 ++ (a0 ++ (a1 ++ (a2 ++ a3)))))) (by simpa only [List.append_assoc, List.nil_append, List.append_nil] using h)
  have h := x_mv (X := (a6 ++ (a7 ++ (a8 ++ (a10 ++ a9))))) (s1 := a5) (Y := (a0 ++ (a1 ++ (a2 ++ (a3 ++ a4))))) (by simpa only [List.append_assoc, List.nil_append, List.append_nil] using h)
  have h := x_mv (X := []) (s1 := a6) (Y := (a7 ++ (a8 ++ (a10 ++ (a9 ++ (a0 ++ (a1 ++ (a2 ++ (a3 ++ (a4 ++ a5)))))))))) (by simpa only [List.append_assoc, List.nil_append, List.append_nil] using h)
  have h := x_mv (X := []) (s1 := a7) (Y := (a8 ++ (a10 ++ (a9 ++ (a0 ++ (a1 ++ (a2 ++ (a3 ++ (a4 ++ (a5 ++ a6)))))))))) (by simpa only [List.append_assoc, List.nil_append, List.append_nil] using h)
  have h := x_mv (X := []) (s1 := a8) (Y := (a10 ++ (a9 ++ (a0 ++ (a1 ++ (a2 ++ (a3 ++ (a4 ++ (a5 ++ (a6 ++ a7)))))))))) (by simpa only [List.append_assoc, List.nil_append, List.append_nil] using h)
  have h := x_mv (X := a10) (s1 := a9) (Y := (a0 ++ (a1 ++ (a2 ++ (a3 ++ (a4 ++ (a5 ++ (a6 ++ (a7 ++ a8))))))))) (by simpa only [List.append_assoc, List.nil_append, List.append_nil] using h)
  have h := x_mv (X := []) (s1 := a10) (Y := (a0 ++ (a1 ++ (a2 ++ (a3 ++ (a4 ++ (a5 ++ (a6 ++ (a7 ++ (a8 ++ a9)))))))))) (by simpa only [List.append_assoc, List.nil_append, List.append_nil] using h)
  simpa only [List.append_assoc, List.nil_append] using h
theorem q_M {D : va_G} {A : Nat → Prop} {H0 H : Heap} {locs : List Loc} {a0 a1 a2 a3 a4 a5 a6 a7 a8 a9 a10 : va_W} (h : xw D A H0 (a0 ++ (a1 ++ (a2 ++ (a3 ++ (a4 ++ (a5 ++ (a6 ++ (a7 ++ (a8 ++ (a9 ++ a10)))))))))) H locs) : xw D A H0 ((a0 ++ (a1 ++ (a2 ++ (a3 ++ (a4 ++ (a5 ++ (a6 ++ (a7 ++ (a8 ++ a9))))))))) ++ a10) H locs := by

  simpa only [List.append_assoc, List.nil_append] using h
theorem qi_M {D : va_G} {A : Nat → Prop} {H0 H : Heap} {locs : List Loc} {a0 a1 a2 a3 a4 a5 a6 a7 a8 a9 a10 : va_W} (h : xw D A H0 ((a0 ++ (a1 ++ (a2 ++ (a3 ++ (a4 ++ (a5 ++ (a6 ++ (a7 ++ (a8 ++ a9))))))))) ++ a10) H locs) : xw D A H0 (a0 ++ (a1 ++ (a2 ++ (a3 ++ (a4 ++ (a5 ++ (a6 ++ (a7 ++ (a8 ++ (a9 ++ a10)))))))))) H locs := by
  have h : xw D A H0 (a0 ++ (a1 ++ (a2 ++ (a3 ++ (a4 ++ (a5 ++ (a6 ++ (a7 ++ (a8 ++ (a9 ++ a10)))))))))) H locs := by simpa only [List.append_assoc] using h
  have h := x_mv (X := []) (s1 := a0) (Y := (a1 ++ (a2 ++ (a3 ++ (a4 ++ (a5 ++ (a6 ++ (a7 ++ (a8 ++ (a9 ++ a10)))))))))) (by simpa only [List.append_assoc, List.nil_append, List.append_nil] using h)
  have h := x_mv (X := []) (s1 := a1) (Y := (a2 ++ (a3 ++ (a4 ++ (a5 ++ (a6 ++ (a7 ++ (a8 ++ (a9 ++ (a10 ++ a0)))))))))) (by simpa only [List.append_assoc, List.nil_append, List.append_nil] using h)
  have h := x_mv (X := []) (s1 := a2) (Y := (a3 ++ (a4 ++ (a5 ++ (a6 ++ (a7 ++ (a8 ++ (a9 ++ (a10 ++ (a0 ++ a1)))))))))) (by simpa only [List.append_assoc, List.nil_append, List.append_nil] using h)
  have h := x_mv (X := []) (s1 := a3) (Y := (a4 ++ (a5 ++ (a6 ++ (a7 ++ (a8 ++ (a9 ++ (a10 ++ (a0 ++ (a1 ++ a2)))))))))) (by simpa only [List.append_assoc, List.nil_append, List.append_nil] using h)
  have h := x_mv (X := []) (s1 := a4) (Y := (a5 ++ (a6 ++ (a7 ++ (a8 ++ (a9 ++ (a10 ++ (a0 ++ (a1 ++ (a2 ++ a3)))))))))) (by simpa only [List.append_assoc, List.nil_append, List.append_nil] using h)
  have h := x_mv (X := []) (s1 := a5) (Y := (a6 ++ (a7 ++ (a8 ++ (a9 ++ (a10 ++ (a0 ++ (a1 ++ (a2 ++ (a3 ++ a4)))))))))) (by simpa only [List.append_assoc, List.nil_append, List.append_nil] using h)
  have h := x_mv (X := []) (s1 := a6) (Y := (a7 ++ (a8 ++ (a9 ++ (a10 ++ (a0 ++ (a1 ++ (a2 ++ (a3 ++ (a4 ++ a5)))))))))) (by simpa only [List.append_assoc, List.nil_append, List.append_nil] using h)
  have h := x_mv (X := []) (s1 := a7) (Y := (a8 ++ (a9 ++ (a10 ++ (a0 ++ (a1 ++ (a2 ++ (a3 ++ (a4 ++ (a5 ++ a6)))))))))) (by simpa only [List.append_assoc, List.nil_append, List.append_nil] using h)
  have h := x_mv (X := []) (s1 := a8) (Y := (a9 ++ (a10 ++ (a0 ++ (a1 ++ (a2 ++ (a3 ++ (a4 ++ (a5 ++ (a6 ++ a7)))))))))) (by simpa only [List.append_assoc, List.nil_append, List.append_nil] using h)
  have h := x_mv (X := []) (s1 := a9) (Y := (a10 ++ (a0 ++ (a1 ++ (a2 ++ (a3 ++ (a4 ++ (a5 ++ (a6 ++ (a7 ++ a8)))))))))) (by simpa only [List.append_assoc, List.nil_append, List.append_nil] using h)
  have h := x_mv (X := []) (s1 := a10) (Y := (a0 ++ (a1 ++ (a2 ++ (a3 ++ (a4 ++ (a5 ++ (a6 ++ (a7 ++ (a8 ++ a9)))))))))) (by simpa only [List.append_assoc, List.nil_append, List.append_nil] using h)
  simpa only [List.append_assoc, List.nil_append] using h
abbrev wsRt (cI cZ cN cC : ClassId) (r0 l0 d0 h0 p0 e9 z0 y9 : Nat) (kps : Int32) : va_W := [(r0, .inr (6, [.ref l0, .ref d0, .ref h0, .ref p0, .ref e9, .int kps, .ref z0, .ref y9]))]
abbrev wsLo (cI cZ cN cC : ClassId) (l0 l1 : Nat) (len : Int32) : va_W := [(l0, .inr (2, [.ref l1, .int len]))]
abbrev wsLr (cI cZ cN cC : ClassId) (l1 : Nat) (txt : Nat → Int32) : va_W := [(l1, .inl (cI, 200, .inl txt))]
abbrev wsRd (cI cZ cN cC : ClassId) (d0 d1 d2 l0 : Nat) (ncl : Int32) (tso : Int32) (tst : Int32) (ten : Int32) (knd : Nat → Int32) (nbs : Nat → Int32) : va_W := [(d0, .inr (5, [.ref l0, .ref d1, .ref d2, .int ncl, .int tso, .int tst, .int ten])), (d1, .inl (cI, 24, .inl knd)), (d2, .inl (cI, 72, .inl nbs))]
abbrev wsLv (cI cZ cN cC : ClassId) (h0 h1 h2 h3 : Nat) (pts : Int32) (wrk : Int32) (out : Nat → Int32) (mem : Nat → Int32) (abv : Nat → Int32) : va_W := [(h0, .inr (3, [.int pts, .int wrk, .ref h1, .ref h2, .ref h3])), (h1, .inl (cI, 10, .inl out)), (h2, .inl (cI, 10, .inl mem)), (h3, .inl (cI, 100, .inl abv))]
abbrev wsPo (cI cZ cN cC : ClassId) (p0 p1 : Nat) (nxt : Int32) (psz : Int32) : va_W := [(p0, .inr (4, [.ref p1, .int nxt, .int psz]))]
abbrev wsNo (cI cZ cN cC : ClassId) (p1 n00 n01 n02 n03 n10 n11 n12 n13 n20 n21 n22 n23 n30 n31 n32 n33 n40 n41 n42 n43 n50 n51 n52 n53 n60 n61 n62 n63 n70 n71 n72 n73 : Nat) (nP : Nat → Int32) (nW : Nat → Int32) (nO : Nat → Nat → Int32) (nM : Nat → Nat → Int32) (nA : Nat → Nat → Int32) : va_W := [(p1, .inl (cN, 8, .inr (.inr (.inr (.inr (fun j => [n00, n10, n20, n30, n40, n50, n60, n70][j]?)))))), (n00, .inr (3, [.int (nP 0), .int (nW 0), .ref n01, .ref n02, .ref n03])), (n01, .inl (cI, 10, .inl (nO 0))), (n02, .inl (cI, 10, .inl (nM 0))), (n03, .inl (cI, 100, .inl (nA 0))), (n10, .inr (3, [.int (nP 1), .int (nW 1), .ref n11, .ref n12, .ref n13])), (n11, .inl (cI, 10, .inl (nO 1))), (n12, .inl (cI, 10, .inl (nM 1))), (n13, .inl (cI, 100, .inl (nA 1))), (n20, .inr (3, [.int (nP 2), .int (nW 2), .ref n21, .ref n22, .ref n23])), (n21, .inl (cI, 10, .inl (nO 2))), (n22, .inl (cI, 10, .inl (nM 2))), (n23, .inl (cI, 100, .inl (nA 2))), (n30, .inr (3, [.int (nP 3), .int (nW 3), .ref n31, .ref n32, .ref n33])), (n31, .inl (cI, 10, .inl (nO 3))), (n32, .inl (cI, 10, .inl (nM 3))), (n33, .inl (cI, 100, .inl (nA 3))), (n40, .inr (3, [.int (nP 4), .int (nW 4), .ref n41, .ref n42, .ref n43])), (n41, .inl (cI, 10, .inl (nO 4))), (n42, .inl (cI, 10, .inl (nM 4))), (n43, .inl (cI, 100, .inl (nA 4))), (n50, .inr (3, [.int (nP 5), .int (nW 5), .ref n51, .ref n52, .ref n53])), (n51, .inl (cI, 10, .inl (nO 5))), (n52, .inl (cI, 10, .inl (nM 5))), (n53, .inl (cI, 100, .inl (nA 5))), (n60, .inr (3, [.int (nP 6), .int (nW 6), .ref n61, .ref n62, .ref n63])), (n61, .inl (cI, 10, .inl (nO 6))), (n62, .inl (cI, 10, .inl (nM 6))), (n63, .inl (cI, 100, .inl (nA 6))), (n70, .inr (3, [.int (nP 7), .int (nW 7), .ref n71, .ref n72, .ref n73])), (n71, .inl (cI, 10, .inl (nO 7))), (n72, .inl (cI, 10, .inl (nM 7))), (n73, .inl (cI, 100, .inl (nA 7)))]
abbrev wsKe (cI cZ cN cC : ClassId) (e9 e00 e01 e02 e03 e10 e11 e12 e13 : Nat) (eP : Nat → Int32) (eW : Nat → Int32) (eO : Nat → Nat → Int32) (eM : Nat → Nat → Int32) (eA : Nat → Nat → Int32) : va_W := [(e9, .inl (cN, 2, .inr (.inr (.inr (.inr (fun j => [e00, e10][j]?)))))), (e00, .inr (3, [.int (eP 0), .int (eW 0), .ref e01, .ref e02, .ref e03])), (e01, .inl (cI, 10, .inl (eO 0))), (e02, .inl (cI, 10, .inl (eM 0))), (e03, .inl (cI, 100, .inl (eA 0))), (e10, .inr (3, [.int (eP 1), .int (eW 1), .ref e11, .ref e12, .ref e13])), (e11, .inl (cI, 10, .inl (eO 1))), (e12, .inl (cI, 10, .inl (eM 1))), (e13, .inl (cI, 100, .inl (eA 1)))]
abbrev wsCu (cI cZ cN cC : ClassId) (z0 z1 z2 z3 : Nat) (usd : Nat → Int32) (usi : Nat → Int32) (cam : Nat → Int32) : va_W := [(z0, .inr (1, [.ref z1, .ref z2, .ref z3])), (z1, .inl (cI, 10, .inl usd)), (z2, .inl (cI, 10, .inl usi)), (z3, .inl (cI, 10, .inl cam))]
abbrev wsCh (cI cZ cN cC : ClassId) (y9 y00 y01 y02 y10 y11 y12 y20 y21 y22 : Nat) (cM : Nat → Int32) (cS : Nat → Int32) (cV : Nat → Nat → Int32) (cB : Nat → Nat → Int32) : va_W := [(y9, .inl (cC, 3, .inr (.inr (.inr (.inr (fun j => [y00, y10, y20][j]?)))))), (y00, .inr (0, [.ref y01, .ref y02, .int (cM 0), .int (cS 0)])), (y01, .inl (cI, 8, .inl (cV 0))), (y02, .inl (cZ, 8, .inl (cB 0))), (y10, .inr (0, [.ref y11, .ref y12, .int (cM 1), .int (cS 1)])), (y11, .inl (cI, 8, .inl (cV 1))), (y12, .inl (cZ, 8, .inl (cB 1))), (y20, .inr (0, [.ref y21, .ref y22, .int (cM 2), .int (cS 2)])), (y21, .inl (cI, 8, .inl (cV 2))), (y22, .inl (cZ, 8, .inl (cB 2)))]
abbrev wLaw (cI cZ cN cC : ClassId) (r0 l0 l1 d0 d1 d2 h0 h1 h2 h3 p0 p1 n00 n01 n02 n03 n10 n11 n12 n13 n20 n21 n22 n23 n30 n31 n32 n33 n40 n41 n42 n43 n50 n51 n52 n53 n60 n61 n62 n63 n70 n71 n72 n73 e9 e00 e01 e02 e03 e10 e11 e12 e13 z0 z1 z2 z3 y9 y00 y01 y02 y10 y11 y12 y20 y21 y22 m0 m1 m2 m3 m4 m5 m6 m7 m8 m9 m10 m11 m12 m13 m14 m15 : Nat) (kps : Int32) (len : Int32) (txt : (Nat → Int32)) (ncl : Int32) (tso : Int32) (tst : Int32) (ten : Int32) (knd : (Nat → Int32)) (nbs : (Nat → Int32)) (pts : Int32) (wrk : Int32) (out : (Nat → Int32)) (mem : (Nat → Int32)) (abv : (Nat → Int32)) (nxt : Int32) (psz : Int32) (nP : (Nat → Int32)) (nW : (Nat → Int32)) (nO : (Nat → Nat → Int32)) (nM : (Nat → Nat → Int32)) (nA : (Nat → Nat → Int32)) (eP : (Nat → Int32)) (eW : (Nat → Int32)) (eO : (Nat → Nat → Int32)) (eM : (Nat → Nat → Int32)) (eA : (Nat → Nat → Int32)) (usd : (Nat → Int32)) (usi : (Nat → Int32)) (cam : (Nat → Int32)) (cM : (Nat → Int32)) (cS : (Nat → Int32)) (cV : (Nat → Nat → Int32)) (cB : (Nat → Nat → Int32)) (mn : Int32) (um : Int32) (len2 : Int32) (plc : Int32) (srt : Int32) (frm : Int32) (num : Int32) (wrg : Int32) (cm : Int32) (mpt : Int32) (st : (Nat → Int32)) (pst : (Nat → Int32)) (kep : (Nat → Int32)) (isk : (Nat → Int32)) (pil : (Nat → Int32)) (nxs : (Nat → Int32)) (txt2 : (Nat → Int32)) (cls : (Nat → Int32)) (asd : (Nat → Int32)) (opn : (Nat → Int32)) (byy : (Nat → Int32)) (twc : (Nat → Int32)) (szs : (Nat → Int32)) (sos : (Nat → Int32)) (ths : (Nat → Int32)) : va_W := ((wsRt cI cZ cN cC r0 l0 d0 h0 p0 e9 z0 y9 kps) ++ ((wsLo cI cZ cN cC l0 l1 len) ++ ((wsLr cI cZ cN cC l1 txt) ++ ((wsRd cI cZ cN cC d0 d1 d2 l0 ncl tso tst ten knd nbs) ++ ((wsLv cI cZ cN cC h0 h1 h2 h3 pts wrk out mem abv) ++ ((wsPo cI cZ cN cC p0 p1 nxt psz) ++ ((wsNo cI cZ cN cC p1 n00 n01 n02 n03 n10 n11 n12 n13 n20 n21 n22 n23 n30 n31 n32 n33 n40 n41 n42 n43 n50 n51 n52 n53 n60 n61 n62 n63 n70 n71 n72 n73 nP nW nO nM nA) ++ ((wsKe cI cZ cN cC e9 e00 e01 e02 e03 e10 e11 e12 e13 eP eW eO eM eA) ++ ((wsCu cI cZ cN cC z0 z1 z2 z3 usd usi cam) ++ ((wsCh cI cZ cN cC y9 y00 y01 y02 y10 y11 y12 y20 y21 y22 cM cS cV cB) ++ (wMod cI cZ cN cC m0 m1 m2 m3 m4 m5 m6 m7 m8 m9 m10 m11 m12 m13 m14 m15 mn um len2 plc srt frm num wrg cm mpt st pst kep isk pil nxs txt2 cls asd opn byy twc szs sos ths)))))))))))
