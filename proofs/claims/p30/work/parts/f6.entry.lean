/-! p30: what the tables say at the law's entry -/
theorem nest_in : ∀ q ∈ nestL, nestC q ∈ lw_tbl := by
  exact List.forall_mem_cons.mpr ⟨List.mem_of_getElem? (i := 172) (by decide +kernel), List.forall_mem_cons.mpr ⟨List.mem_of_getElem? (i := 255) (by decide +kernel), List.forall_mem_cons.mpr ⟨List.mem_of_getElem? (i := 297) (by decide +kernel), List.forall_mem_cons.mpr ⟨List.mem_of_getElem? (i := 322) (by decide +kernel), List.forall_mem_cons.mpr ⟨List.mem_of_getElem? (i := 343) (by decide +kernel), List.forall_mem_cons.mpr ⟨List.mem_of_getElem? (i := 372) (by decide +kernel), List.forall_mem_cons.mpr ⟨List.mem_of_getElem? (i := 375) (by decide +kernel), List.forall_mem_cons.mpr ⟨List.mem_of_getElem? (i := 478) (by decide +kernel), List.forall_mem_cons.mpr ⟨List.mem_of_getElem? (i := 437) (by decide +kernel), fun _ h => absurd h List.not_mem_nil⟩⟩⟩⟩⟩⟩⟩⟩⟩
theorem ao_in : ∀ C ∈ aoL, Cond.arrayOver (.object C) ∈ lw_tbl := by
  exact List.forall_mem_cons.mpr ⟨List.mem_of_getElem? (i := 43) (by decide +kernel), List.forall_mem_cons.mpr ⟨List.mem_of_getElem? (i := 41) (by decide +kernel), List.forall_mem_cons.mpr ⟨List.mem_of_getElem? (i := 243) (by decide +kernel), List.forall_mem_cons.mpr ⟨List.mem_of_getElem? (i := 45) (by decide +kernel), List.forall_mem_cons.mpr ⟨List.mem_of_getElem? (i := 39) (by decide +kernel), fun _ h => absurd h List.not_mem_nil⟩⟩⟩⟩⟩
theorem ar_prim {s : State} {args : Array Value} {ty : FieldType} (hp : ∀ cA, va_RA s cA ty = (s.vm.findClass ("[" ++ ty.toString) = some cA)) (h : (Cond.arrayClass ty).before args s = true) : ∃ cA, ArrOfT s cA ty ∧ va_RA s cA ty := by
  obtain ⟨cA, k, comp, h1, h2, h3⟩ := Cond.arrayClass_spec h
  exact ⟨cA, fun n z => ⟨fun k h => (by cases h), k, h2, comp, h3⟩, by rw [hp]; exact h1⟩
theorem ar_obj {s : State} {args : Array Value} {C : String} (h : (Cond.arrayOver (.object C)).before args s = true) : ∃ cA, ArrOfT s cA (.object C) ∧ va_RA s cA (.object C) := by
  obtain ⟨comp, c, k, h1, h2, h3, h4, h5⟩ := Cond.arrayOver_spec h
  exact ⟨c, fun n z => ⟨fun k h => (by cases h), k, h3, comp, h4⟩, k, comp, h3, h4, h1, h5⟩
theorem st_row {s : State} {b : Nat} {nm : String} {f : Nat → Value} {v0 v1 v2 v3 : Int32} (hgv : (Jvm.Cond.and given_1 narrow_1).before #[Value.ref b] s = true) (hl : (Cond.laysStatic "MainsWords" nm "[I").before #[Value.ref b] s = true) (hini : (Cond.initialized "MainsWords").before #[Value.ref b] s = true)
    (m0 : Cond.arrayOf (.static "MainsWords" nm "[I") .int ∈ flatC (Jvm.Cond.and given_1 narrow_1)) (m1 : Cond.eq (.length (.static "MainsWords" nm "[I")) (.int 4) ∈ flatC (Jvm.Cond.and given_1 narrow_1))
    (n0 : Cond.eq (.elem (.static "MainsWords" nm "[I") (.int 0)) (.int v0) ∈ flatC (Jvm.Cond.and given_1 narrow_1)) (n1 : Cond.eq (.elem (.static "MainsWords" nm "[I") (.int 1)) (.int v1) ∈ flatC (Jvm.Cond.and given_1 narrow_1)) (n2 : Cond.eq (.elem (.static "MainsWords" nm "[I") (.int 2)) (.int v2) ∈ flatC (Jvm.Cond.and given_1 narrow_1)) (n3 : Cond.eq (.elem (.static "MainsWords" nm "[I") (.int 3)) (.int v3) ∈ flatC (Jvm.Cond.and given_1 narrow_1))
    (f0 : f 0 = .int v0) (f1 : f 1 = .int v1) (f2 : f 2 = .int v2) (f3 : f 3 = .int v3) : ∃ t : Nat, va_Z "MainsWords" nm "[I" (.ref t) (fun q => s.heap.size ≤ q) s s.heap ∧ va_T .int t 4 f (fun q => s.heap.size ≤ q) s s.heap := by
  have hf := flat_of_before _ hgv
  have hA : ∀ a : Nat, a < s.heap.size → ¬ (fun q : Nat => s.heap.size ≤ q) a := fun a h => Nat.not_le.mpr h
  obtain ⟨t, ht, hT⟩ := va_Tof (args := #[Value.ref b]) (s := s) (tm := .static "MainsWords" nm "[I") (ty := .int) (N := 4) (f := f) (A := fun q => s.heap.size ≤ q) (by decide) (hf _ m0) (va_eqt (hf _ m1)) (fun j hj => by
    rcases (show j = 0 ∨ j = 1 ∨ j = 2 ∨ j = 3 by omega) with rfl | rfl | rfl | rfl
    · rw [f0]; exact va_eqt (hf _ n0)
    · rw [f1]; exact va_eqt (hf _ n1)
    · rw [f2]; exact va_eqt (hf _ n2)
    · rw [f3]; exact va_eqt (hf _ n3)) hA
  exact ⟨t, va_Zof hl hini ht hA, hT⟩
theorem EN_start {s : State} {args : Array Value} (hts : ∀ w ∈ lw_tbl, w.before args s = true) (b L : Nat) (xs : Nat → Int32) : ∃ D : DG, D.2.2 = (b, L, xs) ∧ EN D s := by
  obtain ⟨c0, i0, h0⟩ := u_known (C := RX0) (T := TX0) (N := 2) (n := 2) hts inX0 (hts (.instantiable RX0 2) (by decide +kernel))
  obtain ⟨c1, i1, h1⟩ := u_known (C := RX1) (T := TX1) (N := 7) (n := 7) hts inX1 (hts (.instantiable RX1 7) (by decide +kernel))
  obtain ⟨c2, i2, h2⟩ := u_known (C := RX2) (T := TX2) (N := 6) (n := 6) hts inX2 (hts (.instantiable RX2 6) (by decide +kernel))
  obtain ⟨c3, i3, h3⟩ := u_known (C := RX3) (T := TX3) (N := 8) (n := 8) hts inX3 (hts (.instantiable RX3 8) (by decide +kernel))
  obtain ⟨c4, i4, h4⟩ := u_known (C := RX4) (T := TX4) (N := 7) (n := 7) hts inX4 (hts (.instantiable RX4 7) (by decide +kernel))
  obtain ⟨c5, i5, h5⟩ := u_known (C := RX5) (T := TX5) (N := 2) (n := 2) hts inX5 (hts (.instantiable RX5 2) (by decide +kernel))
  obtain ⟨c6, i6, h6⟩ := u_known (C := RX6) (T := TX6) (N := 10) (n := 10) hts inX6 (hts (.instantiable RX6 10) (by decide +kernel))
  obtain ⟨c7, i7, h7⟩ := u_known (C := RX8) (T := TX8) (N := 6) (n := 6) hts inX8 (hts (.instantiable RX8 6) (by decide +kernel))
  obtain ⟨a0, g0, r0⟩ := ar_prim (ty := .int) (fun _ => rfl) (hts (.arrayClass .int) (List.mem_of_getElem? (i := 121) (by decide +kernel)))
  obtain ⟨a1, g1, r1⟩ := ar_prim (ty := .int) (fun _ => rfl) (hts (.arrayClass .int) (List.mem_of_getElem? (i := 121) (by decide +kernel)))
  obtain ⟨a2, g2, r2⟩ := ar_prim (ty := .boolean) (fun _ => rfl) (hts (.arrayClass .boolean) (List.mem_of_getElem? (i := 122) (by decide +kernel)))
  obtain ⟨a3, g3, r3⟩ := ar_obj (C := "MainsWords$Lamp") (hts (.arrayOver (.object "MainsWords$Lamp")) (List.mem_of_getElem? (i := 43) (by decide +kernel)))
  obtain ⟨a4, g4, r4⟩ := ar_obj (C := "MainsWords$Machine") (hts (.arrayOver (.object "MainsWords$Machine")) (List.mem_of_getElem? (i := 41) (by decide +kernel)))
  obtain ⟨a5, g5, r5⟩ := ar_obj (C := "MainsWords$Net") (hts (.arrayOver (.object "MainsWords$Net")) (List.mem_of_getElem? (i := 243) (by decide +kernel)))
  obtain ⟨a6, g6, r6⟩ := ar_obj (C := "MainsWords$Receiver") (hts (.arrayOver (.object "MainsWords$Receiver")) (List.mem_of_getElem? (i := 45) (by decide +kernel)))
  obtain ⟨a7, g7, r7⟩ := ar_obj (C := "MainsWords$Sender") (hts (.arrayOver (.object "MainsWords$Sender")) (List.mem_of_getElem? (i := 39) (by decide +kernel)))
  refine ⟨((fun k => match k with | 0 => c0 | 1 => c1 | 2 => c2 | 3 => c3 | 4 => c4 | 5 => c5 | 6 => c6 | _ => c7, fun k => match k with | 0 => i0 | 1 => i1 | 2 => i2 | 3 => i3 | 4 => i4 | 5 => i5 | 6 => i6 | _ => i7), (fun k => match k with | 0 => a0 | 1 => a1 | 2 => a2 | 3 => a3 | 4 => a4 | 5 => a5 | 6 => a6 | _ => a7), (b, L, xs)), rfl, ⟨fun k q hq => ?_, fun k q hq => ?_⟩, fun q hq => va_Nw.of (w := nestC q) rfl (hts _ (nest_in q hq)), fun C hC => va_AO.of (hts _ (ao_in C hC))⟩
  · match k, hq with
    | 0, hq => cases hq; exact h0
    | 1, hq => cases hq; exact h1
    | 2, hq => cases hq; exact h2
    | 3, hq => cases hq; exact h3
    | 4, hq => cases hq; exact h4
    | 5, hq => cases hq; exact h5
    | 6, hq => cases hq; exact h6
    | 7, hq => cases hq; exact h7
    | k + 8, hq => simp at hq
  · match k, hq with
    | 0, hq => cases hq; exact ⟨g0, r0⟩
    | 1, hq => cases hq; exact ⟨g1, r1⟩
    | 2, hq => cases hq; exact ⟨g2, r2⟩
    | 3, hq => cases hq; exact ⟨g3, r3⟩
    | 4, hq => cases hq; exact ⟨g4, r4⟩
    | 5, hq => cases hq; exact ⟨g5, r5⟩
    | 6, hq => cases hq; exact ⟨g6, r6⟩
    | 7, hq => cases hq; exact ⟨g7, r7⟩
    | k + 8, hq => simp [tysD] at hq

