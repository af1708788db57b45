/-! THE V LAYER, fourth text: casts, switches, calls, ends -/
section VCALL
variable {α β : Type} {D : DG} {z0 szE : Nat} {l : Launch} {own : String} {cc : ByteArray} {nL : Nat} {Ts : List Cond} {ret : Option FieldType} {rm : Room} {ct : Bool} {toV : α → Option Value} {pc : Nat} {ls : List (Option Value)} {st : List Value} {σ : SG} {cells slots : Nat}
theorem RP.cls {H : Heap} {a ci : Nat} {fs : List Value} {q : vw_C} {s : State} (hR : RP D z0 σ H) (hE : EN D s) (hc : vwCl[ci]? = some q) (ha : σ.1 a = some (.inl (ci, fs))) : ∃ cell : Cell, H[a]? = some cell ∧ cell.vm.isStatics = false ∧ s.vm.findClass q.1 = some cell.cls := by
  obtain ⟨-, q', h1, cell, g1, g2, g3, -⟩ := hR.2 a _ ha
  exact ⟨cell, g1, by rw [g3]; rfl, by rw [g2]; exact (hE.1.1 ci q hc).2.1⟩
theorem V_instof {ci idx : Nat} {x : Option Nat} {q : vw_C} {K : Int32 → Option (α × SG)} (hc : vwCl[ci]? = some q) (hl : Cond.classLink own idx q.1 ∈ Ts) (hd : decode cc pc = .ok (.instanceof idx, 3))
    (k : ∀ v : Int32, V D z0 l own cc nL Ts ret rm ct toV (pc + 3) ls (.int v :: st) σ cells slots (K v)) : V D z0 l own cc nL Ts ret rm ct toV pc ls (va_rf x :: st) σ cells slots ((sInst x ci σ).bind K) := by
  cases x with
  | none => exact V.step (fun hx hb _ w => lv_instN hx hb hd w) (k 0)
  | some a0 =>
    show V D z0 l own cc nL Ts ret rm ct toV pc ls (va_rf (some a0) :: st) σ cells slots (((sObj (some a0) ci σ).bind fun _ => some 1).bind K)
    rw [Option.bind_assoc]
    refine V.sobj (σ := σ) (x := some a0) (ci := ci) (P := fun K => V D z0 l own cc nL Ts ret rm ct toV pc ls (va_rf (some a0) :: st) σ cells slots K) V_none (fun a fs hv ha => ?_)
    cases hv
    intro p e s m args below meth cd H locs arr r σ' X hz hR hS hL hK
    obtain ⟨hx, hb, hml, hown, hts, hrt, hlk, hct, hE, hSF, hz0⟩ := id X
    exact va_instS hx hb hown (hts _ hl) (hE.1.1 ci q hc).2 (hR.cls hE hc ha) hd (k 1 p e s m args below meth cd H locs arr r σ' X hz hR hS hL hK)
theorem V_cast {ci idx : Nat} {x : Option Nat} {q : vw_C} {K : Unit → Option (α × SG)} (hc : vwCl[ci]? = some q) (hl : Cond.classLink own idx q.1 ∈ Ts) (hd : decode cc pc = .ok (.checkcast idx, 3))
    (k : V D z0 l own cc nL Ts ret rm ct toV (pc + 3) ls (va_rf x :: st) σ cells slots (K ())) : V D z0 l own cc nL Ts ret rm ct toV pc ls (va_rf x :: st) σ cells slots ((sCast x ci σ).bind K) := by
  cases x with
  | none => exact V.step (fun hx hb _ w => lv_castN hx hb hd w) k
  | some a0 =>
    show V D z0 l own cc nL Ts ret rm ct toV pc ls (va_rf (some a0) :: st) σ cells slots ((sObj (some a0) ci σ).bind K)
    refine V.sobj (σ := σ) (x := some a0) (ci := ci) (P := fun K => V D z0 l own cc nL Ts ret rm ct toV pc ls (va_rf (some a0) :: st) σ cells slots K) V_none (fun a fs hv ha => ?_)
    cases hv
    intro p e s m args below meth cd H locs arr r σ' X hz hR hS hL hK
    obtain ⟨hx, hb, hml, hown, hts, hrt, hlk, hct, hE, hSF, hz0⟩ := id X
    exact va_castS hx hb hown (hts _ hl) (hE.1.1 ci q hc).2 (hR.cls hE hc ha) hd (k p e s m args below meth cd H locs arr r σ' X hz hR hS hL hK)
/-! switches -/
def tbOk (pc : Nat) (lo hi : Int) (offs : Array Int) (tb : List (Int32 × Nat)) : Bool :=
  decide ((tb.length : Int) = hi - lo + 1) && (List.range tb.length).all (fun i => match tb[i]? with
    | some q => decide (q.1.toInt = lo + (i : Int)) && decide (offs[i]? = some ((q.2 : Int) - (pc : Int)))
    | none => false)
theorem tbOk_spec {pc : Nat} {lo hi : Int} {offs : Array Int} {tb : List (Int32 × Nat)} (h : tbOk pc lo hi offs tb = true) : (tb.length : Int) = hi - lo + 1 ∧ ∀ (i : Nat) (q : Int32 × Nat), tb[i]? = some q → q.1.toInt = lo + (i : Int) ∧ offs[i]? = some ((q.2 : Int) - (pc : Int)) := by
  simp only [tbOk, Bool.and_eq_true, decide_eq_true_eq] at h
  refine ⟨h.1, fun i q hq => ?_⟩
  have h2 := List.all_eq_true.mp h.2 i (List.mem_range.mpr (List.getElem?_eq_some_iff.mp hq).1)
  rw [hq] at h2
  simpa using h2
theorem swK_in {x : Int32} {ks : List (Int32 × Option β)} {d : Option β} {P : Option β → Prop} (h : ∀ q ∈ ks, x = q.1 → P q.2) (hd : (∀ q ∈ ks, ¬ x = q.1) → P d) : P (swK x ks d) := by
  induction ks with
  | nil => exact hd (fun q hq => by cases hq)
  | cons q r ih =>
    unfold swK
    split
    next hx => exact h q List.mem_cons_self hx
    next hx =>
      refine ih (fun q' hq' => h q' (List.mem_cons_of_mem _ hq')) (fun h2 => hd (fun q' hq' => ?_))
      rcases List.mem_cons.mp hq' with rfl | hq'
      · exact hx
      · exact h2 q' hq'
/-- tb: the values and where each goes; ks: what K is at each -/
theorem V_table {dflt lo hi : Int} {offs : Array Int} {len tgt : Nat} {x : Int32} {tb : List (Int32 × Nat)} {ks : List (Int32 × Option (α × SG))} {Kd : Option (α × SG)} (hd : decode cc pc = .ok (.tableswitch dflt lo hi offs, len)) (hok : tbOk pc lo hi offs tb = true) (hks : ks.map Prod.fst = tb.map Prod.fst) (ht : (pc : Int) + dflt = (tgt : Int))
    (k : ∀ q ∈ List.zip tb ks, V D z0 l own cc nL Ts ret rm ct toV q.1.2 ls st σ cells slots q.2.2) (kd : V D z0 l own cc nL Ts ret rm ct toV tgt ls st σ cells slots Kd) : V D z0 l own cc nL Ts ret rm ct toV pc ls (.int x :: st) σ cells slots (swK x ks Kd) := by
  obtain ⟨hlen, hat⟩ := tbOk_spec hok
  have hl2 : ks.length = tb.length := by rw [← List.length_map (f := Prod.fst), hks, List.length_map]
  refine swK_in (P := fun K => V D z0 l own cc nL Ts ret rm ct toV pc ls (.int x :: st) σ cells slots K) (fun q hq hx => ?_) (fun hno => ?_)
  · obtain ⟨i, hi⟩ := List.getElem?_of_mem hq
    have hil : i < tb.length := by rw [← hl2]; exact (List.getElem?_eq_some_iff.mp hi).1
    obtain ⟨t, ht1⟩ : ∃ t, tb[i]? = some t := ⟨tb[i], List.getElem?_eq_getElem hil⟩
    have hqt : q.1 = t.1 := by
      have e1 : (ks.map Prod.fst)[i]? = some q.1 := by rw [List.getElem?_map, hi]; rfl
      rw [hks, List.getElem?_map, ht1] at e1
      exact (Option.some.inj e1).symm
    obtain ⟨g1, g2⟩ := hat i t ht1
    have hmem : (t, q) ∈ List.zip tb ks := List.mem_of_getElem? (i := i) (by rw [List.getElem?_zip_eq_some]; exact ⟨ht1, hi⟩)
    have hxi : x.toInt = lo + (i : Int) := by rw [hx, hqt]; exact g1
    refine V.step (fun hx hb _ w => lv_tableIn (off := (t.2 : Int) - (pc : Int)) hx hb hd (by omega) (by omega) ?_ (by show (pc : Int) + ((t.2 : Int) - (pc : Int)) = (t.2 : Int); omega) w) (k _ hmem)
    rw [show (x.toInt - lo).toNat = i by omega]
    exact g2
  · refine V.step (fun hx hb _ w => lv_tableOut hx hb hd ?_ ht w) kd
    by_cases h1 : x.toInt < lo
    · exact Or.inl h1
    by_cases h2 : hi < x.toInt
    · exact Or.inr h2
    exfalso
    have hil : (x.toInt - lo).toNat < tb.length := by omega
    have ht1 : tb[(x.toInt - lo).toNat]? = some tb[(x.toInt - lo).toNat] := List.getElem?_eq_getElem hil
    obtain ⟨g1, -⟩ := hat _ _ ht1
    have hk1 : (x.toInt - lo).toNat < ks.length := by rw [hl2]; exact hil
    have hki : ks[(x.toInt - lo).toNat]? = some ks[(x.toInt - lo).toNat] := List.getElem?_eq_getElem hk1
    have hqt : ks[(x.toInt - lo).toNat].1 = tb[(x.toInt - lo).toNat].1 := by
      have e1 : (ks.map Prod.fst)[(x.toInt - lo).toNat]? = some ks[(x.toInt - lo).toNat].1 := by rw [List.getElem?_map, hki]; rfl
      rw [hks, List.getElem?_map, ht1] at e1
      exact (Option.some.inj e1).symm
    refine hno _ (List.mem_of_getElem? hki) ?_
    rw [hqt]
    exact Int32.toInt_inj.mp (by omega)
theorem V_lookup {dflt : Int} {ps : Array (Int × Int)} {len tgt : Nat} {x : Int32} {tb : List (Int32 × Nat)} {ks : List (Int32 × Option (α × SG))} {Kd : Option (α × SG)} (hd : decode cc pc = .ok (.lookupswitch dflt ps, len)) (hp : (ps.toList.zip (ps.toList.drop 1)).all (fun (a, next) => a.1 < next.1) = true) (hps : ps.toList = tb.map (fun q => (q.1.toInt, (q.2 : Int) - (pc : Int)))) (hks : ks.map Prod.fst = tb.map Prod.fst) (ht : (pc : Int) + dflt = (tgt : Int))
    (hin : ∀ q ∈ tb, Op.lookupswitch.offset ps.toList dflt q.1.toInt = (q.2 : Int) - (pc : Int)) (hout : (∀ q ∈ tb, ¬ x = q.1) → Op.lookupswitch.offset ps.toList dflt x.toInt = dflt)
    (k : ∀ q ∈ List.zip tb ks, V D z0 l own cc nL Ts ret rm ct toV q.1.2 ls st σ cells slots q.2.2) (kd : V D z0 l own cc nL Ts ret rm ct toV tgt ls st σ cells slots Kd) : V D z0 l own cc nL Ts ret rm ct toV pc ls (.int x :: st) σ cells slots (swK x ks Kd) := by
  have hl2 : ks.length = tb.length := by rw [← List.length_map (f := Prod.fst), hks, List.length_map]
  refine swK_in (P := fun K => V D z0 l own cc nL Ts ret rm ct toV pc ls (.int x :: st) σ cells slots K) (fun q hq hx => ?_) (fun hno => ?_)
  · obtain ⟨i, hi⟩ := List.getElem?_of_mem hq
    have hil : i < tb.length := by rw [← hl2]; exact (List.getElem?_eq_some_iff.mp hi).1
    obtain ⟨t, ht1⟩ : ∃ t, tb[i]? = some t := ⟨tb[i], List.getElem?_eq_getElem hil⟩
    have hqt : q.1 = t.1 := by
      have e1 : (ks.map Prod.fst)[i]? = some q.1 := by rw [List.getElem?_map, hi]; rfl
      rw [hks, List.getElem?_map, ht1] at e1
      exact (Option.some.inj e1).symm
    have hmem : (t, q) ∈ List.zip tb ks := List.mem_of_getElem? (i := i) (by rw [List.getElem?_zip_eq_some]; exact ⟨ht1, hi⟩)
    exact V.step (fun hx' hb _ w => lv_lookup (off := (t.2 : Int) - (pc : Int)) hx' hb hd hp (by rw [hx, hqt]; exact hin t (List.mem_of_getElem? ht1)) (by show (pc : Int) + ((t.2 : Int) - (pc : Int)) = (t.2 : Int); omega) w) (k _ hmem)
  · refine V.step (fun hx' hb _ w => lv_lookup (off := dflt) hx' hb hd hp (hout (fun q hq => ?_)) ht w) kd
    obtain ⟨i, hi⟩ := List.getElem?_of_mem hq
    have hil : i < ks.length := by rw [hl2]; exact (List.getElem?_eq_some_iff.mp hi).1
    have hki : ks[i]? = some ks[i] := List.getElem?_eq_getElem hil
    have hqt : ks[i].1 = q.1 := by
      have e1 : (ks.map Prod.fst)[i]? = some ks[i].1 := by rw [List.getElem?_map, hki]; rfl
      rw [hks, List.getElem?_map, hi] at e1
      exact (Option.some.inj e1).symm
    rw [← hqt]
    exact hno _ (List.mem_of_getElem? hki)
/-! calls -/
theorem V.call {toV' : β → Option Value} {F : Option (β × SG)} {K : β → SG → Option (α × SG)} {st0 stI : List Value} {c1 s1 : Nat}
    (hrun : ∀ {p : Program} {e : Env} {s : State} {m : MethodId} {args : Array Value} {below : List Frame} {meth : Method} {c : Code} {H : Heap} {locs : List Loc} {arr : Array Slot} (r' : β) (σ1 : SG), VC D z0 own cc nL Ts ret ct p s m args meth c → z0 ≤ σ.2 → RP D z0 σ H → va_S (fun q => z0 ≤ q) s.heap H locs → LV arr nL ls → F = some (r', σ1) → ∃ a, va_Run p l e rm s m args below meth c H locs cells slots c1 s1 (F0 m pc arr stI) st0 (QC D z0 (toV' r') σ1 a) (fun q => z0 ≤ q))
    (k : ∀ (r' : β) (σ1 : SG), F = some (r', σ1) → V D z0 l own cc nL Ts ret rm ct toV (pc + 3) ls ((toV' r').toList ++ st0) σ1 (cells + c1) (slots + s1) (K r' σ1)) : V D z0 l own cc nL Ts ret rm ct toV pc ls stI σ cells slots (bnd F K) := by
  intro p e s m args below meth c H locs arr r σ' X hz hR hS hL hK
  cases hF : F with
  | none => rw [hF] at hK; exact absurd hK (by simp [bnd])
  | some q =>
    obtain ⟨r', σ1⟩ := q
    rw [hF] at hK
    have hK : K r' σ1 = some (r, σ') := hK
    obtain ⟨a, hr⟩ := hrun r' σ1 X hz hR hS hL hF
    intro T hT XT
    obtain ⟨v, st₀, t, T', L, h0, X', hLo, e1, e2, ⟨hv, hz1, hR1, hF1⟩, stp⟩ := hr T hT XT
    cases hv
    rw [← e1] at hR1
    have hF2 : H.size ≤ T'.heap.size ∧ ∀ q : Nat, q < H.size → ¬ z0 ≤ q → T'.heap[q]? = H[q]? := by
      rw [← h0, e1]; exact hF1
    have hS1 : va_S (fun q => z0 ≤ q) s.heap T'.heap (locs ++ L) := ⟨Nat.le_trans hS.1 hF2.1, fun q h1 h2 => by rw [hF2.2 q (Nat.lt_of_lt_of_le h1 hS.1) h2]; exact hS.2.1 q h1 h2, fun q hq => by
      rcases List.mem_append.mp hq with h | h
      · exact hS.2.2 q h
      · exact hLo q h⟩
    obtain ⟨t2, a1, b1⟩ := k r' σ1 hF p e s m args below meth c T'.heap (locs ++ L) arr r σ' X hz1 hR1 hS1 hL hK T' rfl X'
    exact ⟨t2, stp t2 a1, b1⟩
theorem PC.at {s : State} {H : Heap} {locs : List Loc} {av : List Value} (hz : z0 ≤ σ.2) (hR : RP D z0 σ H) (hE : EN D s) (hSF : SF D z0 s s.heap) (hS : va_S (fun q => z0 ≤ q) s.heap H locs) : ∀ U : State, U.heap = H → s.WarmedH U.vm → PC D z0 av σ av.toArray U := by
  intro U hU hW
  refine ⟨rfl, hz, by rw [hU]; exact hR, hE.warm hW, ?_⟩
  rw [hU]
  exact (hSF.kept hS.2.1).moved hW.alike
theorem V_callV {toV' : β → Option Value} {y : MethodName} {ws : List Cond} {rm' : Room} {bytes : ByteArray} {maxL idx n ci : Nat} {ret' : Option FieldType} {q : vw_C} {C : String} {x : Option Nat} {As st0 stI : List Value} {F : Option (β × SG)} {K : β → SG → Option (α × SG)}
    (hM : ∀ a, x = some a → MT D z0 l y ws rm' toV' (.ref a :: As) σ F) (hc : vwCl[ci]? = some q) (hC : q.1 = C) (hst : stI = As.reverse ++ va_rf x :: st0) (hsum : (st0.map fun v => v.category).sum ≤ 8) (hn : As.length = n)
    (hcw : ∀ (s : State) (args : Array Value), (∀ w ∈ Ts, w.before args s = true) → CallW rm s args own C idx y bytes maxL ret' ws rm' rm'.cells rm'.slots n) (hf : cells + rm'.cells ≤ rm.cells ∧ slots + rm'.slots ≤ rm.slots)
    (hd : decode cc pc = .ok (.invokevirtual idx, 3))
    (k : ∀ (r' : β) (σ1 : SG), F = some (r', σ1) → V D z0 l own cc nL Ts ret rm ct toV (pc + 3) ls ((toV' r').toList ++ st0) σ1 (cells + rm'.cells) (slots + rm'.slots) (K r' σ1)) : V D z0 l own cc nL Ts ret rm ct toV pc ls stI σ cells slots ((sObj x ci σ).bind fun _ => bnd F K) := by
  refine V.sobj (σ := σ) (x := x) (ci := ci) (P := fun K => V D z0 l own cc nL Ts ret rm ct toV pc ls stI σ cells slots K) V_none (fun a fs hv ha => ?_)
  subst hv; subst hC; subst hst
  refine V.call (fun {p e s m args below meth c H locs arr} r' σ1 X hz hR hS hL hF => ?_) k
  obtain ⟨hx, hb, hml, hown, hts, hrt, hlk, hct, hE, hSF, hz0⟩ := id X
  exact ⟨_, va_runV (b := a) (As := As) (rest := st0) ⟨hx, hb, hml, hown, hts⟩ (hM a rfl r' σ1 hF) (hcw s args hts) ⟨PC.blind, hR.cls hE hc ha, PC.at hz hR hE hSF hS⟩ rfl hn hL.1.1 rfl (lv_room hsum) hd hf⟩
theorem V_callU {toV' : β → Option Value} {xm y : MethodName} {ws : List Cond} {rm' : Room} {bytes : ByteArray} {maxL idx n ci : Nat} {ret' : Option FieldType} {q : vw_C} {C owner : String} {x : Option Nat} {As st0 stI : List Value} {F : Option (β × SG)} {K : β → SG → Option (α × SG)}
    (hM : ∀ a, x = some a → MT D z0 l y ws rm' toV' (.ref a :: As) σ F) (hc : vwCl[ci]? = some q) (hC : q.1 = C) (hst : stI = As.reverse ++ va_rf x :: st0) (hsum : (st0.map fun v => v.category).sum ≤ 8) (hn : As.length = n)
    (hcw : ∀ (s : State) (args : Array Value), (∀ w ∈ Ts, w.before args s = true) → va_CU rm s args own C owner idx xm y bytes maxL ret' ws rm' rm'.cells rm'.slots n) (hf : cells + rm'.cells ≤ rm.cells ∧ slots + rm'.slots ≤ rm.slots)
    (hd : decode cc pc = .ok (.invokevirtual idx, 3))
    (k : ∀ (r' : β) (σ1 : SG), F = some (r', σ1) → V D z0 l own cc nL Ts ret rm ct toV (pc + 3) ls ((toV' r').toList ++ st0) σ1 (cells + rm'.cells) (slots + rm'.slots) (K r' σ1)) : V D z0 l own cc nL Ts ret rm ct toV pc ls stI σ cells slots ((sObj x ci σ).bind fun _ => bnd F K) := by
  refine V.sobj (σ := σ) (x := x) (ci := ci) (P := fun K => V D z0 l own cc nL Ts ret rm ct toV pc ls stI σ cells slots K) V_none (fun a fs hv ha => ?_)
  subst hv; subst hC; subst hst
  refine V.call (fun {p e s m args below meth c H locs arr} r' σ1 X hz hR hS hL hF => ?_) k
  obtain ⟨hx, hb, hml, hown, hts, hrt, hlk, hct, hE, hSF, hz0⟩ := id X
  exact ⟨_, va_runU (b := a) (As := As) (rest := st0) ⟨hx, hb, hml, hown, hts⟩ (hM a rfl r' σ1 hF) (hcw s args hts) ⟨PC.blind, hR.cls hE hc ha, PC.at hz hR hE hSF hS⟩ rfl hn hL.1.1 rfl (lv_room hsum) hd hf⟩
theorem V_callS {toV' : β → Option Value} {y : MethodName} {ws : List Cond} {rm' : Room} {bytes : ByteArray} {maxL idx n : Nat} {ret' : Option FieldType} {As st0 stI : List Value} {F : Option (β × SG)} {K : β → SG → Option (α × SG)}
    (hM : MT D z0 l y ws rm' toV' As σ F) (hst : stI = As.reverse ++ st0) (hsum : (st0.map fun v => v.category).sum ≤ 8) (hn : As.length = n)
    (hcw : ∀ (s : State) (args : Array Value), (∀ w ∈ Ts, w.before args s = true) → CallB rm s args own idx y bytes maxL ret' ws rm' rm'.cells rm'.slots n ∧ (Cond.static y).before args s = true) (hf : cells + rm'.cells ≤ rm.cells ∧ slots + rm'.slots ≤ rm.slots)
    (hd : decode cc pc = .ok (.invokestatic idx, 3))
    (k : ∀ (r' : β) (σ1 : SG), F = some (r', σ1) → V D z0 l own cc nL Ts ret rm ct toV (pc + 3) ls ((toV' r').toList ++ st0) σ1 (cells + rm'.cells) (slots + rm'.slots) (K r' σ1)) : V D z0 l own cc nL Ts ret rm ct toV pc ls stI σ cells slots (bnd F K) := by
  subst hst
  refine V.call (fun {p e s m args below meth c H locs arr} r' σ1 X hz hR hS hL hF => ?_) k
  obtain ⟨hx, hb, hml, hown, hts, hrt, hlk, hct, hE, hSF, hz0⟩ := id X
  exact ⟨_, va_runS (As := As) (rest := st0) ⟨hx, hb, hml, hown, hts⟩ (hM r' σ1 hF) (hcw s args hts) ⟨PC.blind, PC.at hz hR hE hSF hS⟩ rfl hn hL.1.1 rfl (lv_room hsum) hd hf⟩
theorem V_callSN {toV' : β → Option Value} {y : MethodName} {host : String} {ws : List Cond} {rm' : Room} {bytes : ByteArray} {maxL idx n : Nat} {ret' : Option FieldType} {As st0 stI : List Value} {F : Option (β × SG)} {K : β → SG → Option (α × SG)}
    (hM : MT D z0 l y ws rm' toV' As σ F) (hst : stI = As.reverse ++ st0) (hsum : (st0.map fun v => v.category).sum ≤ 8) (hn : As.length = n) (hnest : (own, idx, y, host) ∈ nestL)
    (hcw : ∀ (s : State) (args : Array Value), (∀ w ∈ Ts, w.before args s = true) → va_Nw (.methodLinkNest own idx y host) s → va_CN rm s args own idx y host bytes maxL ret' ws rm' rm'.cells rm'.slots n ∧ (Cond.static y).before args s = true ∧ True) (hf : cells + rm'.cells ≤ rm.cells ∧ slots + rm'.slots ≤ rm.slots)
    (hd : decode cc pc = .ok (.invokestatic idx, 3))
    (k : ∀ (r' : β) (σ1 : SG), F = some (r', σ1) → V D z0 l own cc nL Ts ret rm ct toV (pc + 3) ls ((toV' r').toList ++ st0) σ1 (cells + rm'.cells) (slots + rm'.slots) (K r' σ1)) : V D z0 l own cc nL Ts ret rm ct toV pc ls stI σ cells slots (bnd F K) := by
  subst hst
  refine V.call (fun {p e s m args below meth c H locs arr} r' σ1 X hz hR hS hL hF => ?_) k
  obtain ⟨hx, hb, hml, hown, hts, hrt, hlk, hct, hE, hSF, hz0⟩ := id X
  exact ⟨_, va_runSN (As := As) (rest := st0) ⟨hx, hb, hml, hown, hts⟩ (hM r' σ1 hF) (hcw s args hts (hE.2.1 _ hnest)) ⟨PC.blind, PC.at hz hR hE hSF hS⟩ rfl hn hL.1.1 rfl (lv_room hsum) hd hf⟩
theorem V_callI {toV' : β → Option Value} {y : MethodName} {ws : List Cond} {rm' : Room} {bytes : ByteArray} {maxL idx n ci : Nat} {x : Option Nat} {As st0 stI : List Value} {F : Option (β × SG)} {K : β → SG → Option (α × SG)}
    (hM : ∀ a, x = some a → MT D z0 l y ws rm' toV' (.ref a :: As) σ F) (hst : stI = As.reverse ++ va_rf x :: st0) (hsum : (st0.map fun v => v.category).sum ≤ 8) (hn : As.length = n)
    (hcw : ∀ (s : State) (args : Array Value), (∀ w ∈ Ts, w.before args s = true) → CallB rm s args own idx y bytes maxL none ws rm' rm'.cells rm'.slots n ∧ y.name = "<init>" ∧ (Cond.instanceMethod y).before args s = true) (hf : cells + rm'.cells ≤ rm.cells ∧ slots + rm'.slots ≤ rm.slots)
    (hd : decode cc pc = .ok (.invokespecial idx, 3))
    (k : ∀ (r' : β) (σ1 : SG), F = some (r', σ1) → V D z0 l own cc nL Ts ret rm ct toV (pc + 3) ls ((toV' r').toList ++ st0) σ1 (cells + rm'.cells) (slots + rm'.slots) (K r' σ1)) : V D z0 l own cc nL Ts ret rm ct toV pc ls stI σ cells slots ((sObj x ci σ).bind fun _ => bnd F K) := by
  refine V.sobj (σ := σ) (x := x) (ci := ci) (P := fun K => V D z0 l own cc nL Ts ret rm ct toV pc ls stI σ cells slots K) V_none (fun a fs hv ha => ?_)
  subst hv; subst hst
  refine V.call (fun {p e s m args below meth c H locs arr} r' σ1 X hz hR hS hL hF => ?_) k
  obtain ⟨hx, hb, hml, hown, hts, hrt, hlk, hct, hE, hSF, hz0⟩ := id X
  exact ⟨_, va_runI (b := a) (As := As) (rest := st0) ⟨hx, hb, hml, hown, hts⟩ (hM a rfl r' σ1 hF) (hcw s args hts) ⟨PC.blind, PC.at hz hR hE hSF hS⟩ rfl hn hL.1.1 rfl (lv_room hsum) hd hf⟩
theorem V_callIN {toV' : β → Option Value} {y : MethodName} {host : String} {ws : List Cond} {rm' : Room} {bytes : ByteArray} {maxL idx n ci : Nat} {x : Option Nat} {As st0 stI : List Value} {F : Option (β × SG)} {K : β → SG → Option (α × SG)}
    (hM : ∀ a, x = some a → MT D z0 l y ws rm' toV' (.ref a :: As) σ F) (hst : stI = As.reverse ++ va_rf x :: st0) (hsum : (st0.map fun v => v.category).sum ≤ 8) (hn : As.length = n) (hnest : (own, idx, y, host) ∈ nestL)
    (hcw : ∀ (s : State) (args : Array Value), (∀ w ∈ Ts, w.before args s = true) → va_Nw (.methodLinkNest own idx y host) s → va_CN rm s args own idx y host bytes maxL none ws rm' rm'.cells rm'.slots n ∧ y.name = "<init>" ∧ (Cond.instanceMethod y).before args s = true) (hf : cells + rm'.cells ≤ rm.cells ∧ slots + rm'.slots ≤ rm.slots)
    (hd : decode cc pc = .ok (.invokespecial idx, 3))
    (k : ∀ (r' : β) (σ1 : SG), F = some (r', σ1) → V D z0 l own cc nL Ts ret rm ct toV (pc + 3) ls ((toV' r').toList ++ st0) σ1 (cells + rm'.cells) (slots + rm'.slots) (K r' σ1)) : V D z0 l own cc nL Ts ret rm ct toV pc ls stI σ cells slots ((sObj x ci σ).bind fun _ => bnd F K) := by
  refine V.sobj (σ := σ) (x := x) (ci := ci) (P := fun K => V D z0 l own cc nL Ts ret rm ct toV pc ls stI σ cells slots K) V_none (fun a fs hv ha => ?_)
  subst hv; subst hst
  refine V.call (fun {p e s m args below meth c H locs arr} r' σ1 X hz hR hS hL hF => ?_) k
  obtain ⟨hx, hb, hml, hown, hts, hrt, hlk, hct, hE, hSF, hz0⟩ := id X
  exact ⟨_, va_runIN (b := a) (As := As) (rest := st0) ⟨hx, hb, hml, hown, hts⟩ (hM a rfl r' σ1 hF) (hcw s args hts (hE.2.1 _ hnest)) ⟨PC.blind, PC.at hz hR hE hSF hS⟩ rfl hn hL.1.1 rfl (lv_room hsum) hd hf⟩
theorem V_objinit {idx a : Nat} {st0 : List Value} {K : Option (α × SG)} (hlink : Cond.methodLink own idx Lib.objectInit ∈ Ts) (hinst : Cond.instanceMethod Lib.objectInit ∈ Ts) (hcode : Cond.code Lib.objectInit ⟨#[0xb1]⟩ 1 none ∈ Ts) (hfr : 1 ≤ rm.frames) (hlo : (st0.map fun v => v.category).sum + 12 ≤ rm.locals) (hd : decode cc pc = .ok (.invokespecial idx, 3))
    (k : V D z0 l own cc nL Ts ret rm ct toV (pc + 3) ls st0 σ cells slots K) : V D z0 l own cc nL Ts ret rm ct toV pc ls (va_rf (some a) :: st0) σ cells slots K := by
  intro p e s m args below meth cd H locs arr r σ' X hz hR hS hL hK
  obtain ⟨hx, hb, hml, hown, hts, hrt, hlk, hct, hE, hSF, hz0⟩ := id X
  refine W.objInit hx hb hown (hts _ hlink) (hts _ hinst) (hts _ hcode) rfl (by rw [hml]; exact hL.1.1) rfl hd hfr ?_ (k p e s m args below meth cd H locs arr r σ' X hz hR hS hL hK)
  have h0 : (F0 m pc arr (va_rf (some a) :: st0)).monitorRoom = 0 := rfl
  omega
/-! ends -/
theorem V_iret {v : Int32} {toV : Int32 → Option Value} (htv : ∀ x, toV x = some (.int x)) (hret : ret = some .int) (h1 : cells ≤ rm.cells) (h2 : slots ≤ rm.slots) (hd : decode cc pc = .ok (.ireturn, 1)) : V D z0 l own cc nL Ts ret rm ct toV pc ls [.int v] σ cells slots (some (v, σ)) := by
  intro p e s m args below meth cd H locs arr r σ' X hz hR hS hL hK
  cases hK
  obtain ⟨hx, hb, hml, hown, hts, hrt, hlk, hct, hE, hSF, hz0⟩ := id X
  refine W.widen h1 h2 ?_
  exact W.iret (v := v) hx hb (hrt.trans hret) (fun t ht hW => ⟨by rw [htv], hz, by rw [ht]; exact hR, hS.F ht⟩) hS.2.2 hd hlk
theorem V_zret {v : Int32} {toV : Int32 → Option Value} (htv : ∀ x, toV x = some (.int x)) (hret : ret = some .boolean) (h1 : cells ≤ rm.cells) (h2 : slots ≤ rm.slots) (hd : decode cc pc = .ok (.ireturn, 1)) : V D z0 l own cc nL Ts ret rm ct toV pc ls [.int v] σ cells slots (chkZ v σ) := by
  unfold chkZ
  split
  next h =>
    intro p e s m args below meth cd H locs arr r σ' X hz hR hS hL hK
    cases hK
    obtain ⟨hx, hb, hml, hown, hts, hrt, hlk, hct, hE, hSF, hz0⟩ := id X
    refine W.widen h1 h2 ?_
    refine W.zret (v := v) (ty := .boolean) hx hb (hrt.trans hret) ?_ (fun t ht hW => ⟨by rw [htv], hz, by rw [ht]; exact hR, hS.F ht⟩) hS.2.2 hd hlk
    rcases h with rfl | rfl <;> rfl
  · exact V_none
theorem V_aret {x : Option Nat} {rt : FieldType} {toV : Option Nat → Option Value} (htv : ∀ x, toV x = some (va_rf x)) (hret : ret = some rt) (hrt2 : (∃ n, rt = .object n) ∨ ∃ t, rt = .array t) (h1 : cells ≤ rm.cells) (h2 : slots ≤ rm.slots) (hd : decode cc pc = .ok (.areturn, 1)) : V D z0 l own cc nL Ts ret rm ct toV pc ls [va_rf x] σ cells slots (some (x, σ)) := by
  intro p e s m args below meth cd H locs arr r σ' X hz hR hS hL hK
  cases hK
  obtain ⟨hx, hb, hml, hown, hts, hrt, hlk, hct, hE, hSF, hz0⟩ := id X
  refine W.widen h1 h2 ?_
  exact W.aret (v := va_rf x) hx hb (hrt.trans hret) hrt2 (by cases x with | none => exact Or.inl rfl | some a => exact Or.inr ⟨a, rfl⟩) (fun t ht hW => ⟨by rw [htv], hz, by rw [ht]; exact hR, hS.F ht⟩) hS.2.2 hd hlk
theorem V_fret {v : UInt32} {toV : UInt32 → Option Value} (htv : ∀ x, toV x = some (.float x)) (hret : ret = some .float) (h1 : cells ≤ rm.cells) (h2 : slots ≤ rm.slots) (hd : decode cc pc = .ok (.freturn, 1)) : V D z0 l own cc nL Ts ret rm ct toV pc ls [.float v] σ cells slots (some (v, σ)) := by
  intro p e s m args below meth cd H locs arr r σ' X hz hR hS hL hK
  cases hK
  obtain ⟨hx, hb, hml, hown, hts, hrt, hlk, hct, hE, hSF, hz0⟩ := id X
  refine W.widen h1 h2 ?_
  exact W.fret (v := v) hx hb (hrt.trans hret) (fun t ht hW => ⟨by rw [htv], hz, by rw [ht]; exact hR, hS.F ht⟩) hS.2.2 hd hlk
theorem V_vret {toV : Unit → Option Value} (htv : ∀ x, toV x = none) (hret : ret = none) (h1 : cells ≤ rm.cells) (h2 : slots ≤ rm.slots) (hd : decode cc pc = .ok (.return_, 1)) : V D z0 l own cc nL Ts ret rm ct toV pc ls [] σ cells slots (some ((), σ)) := by
  intro p e s m args below meth cd H locs arr r σ' X hz hR hS hL hK
  cases hK
  obtain ⟨hx, hb, hml, hown, hts, hrt, hlk, hct, hE, hSF, hz0⟩ := id X
  refine W.widen h1 h2 ?_
  exact W.vret hx hb (hrt.trans hret) (fun t ht hW => ⟨by rw [htv], hz, by rw [ht]; exact hR, hS.F ht⟩) hS.2.2 hd hlk
/-- the end of a method that makes cells -/
theorem V_vretA {lim : Nat} {toV : Unit → Option Value} (hB : CB rm szE σ cells slots) (hlim : lim = szE + rm.cells) (htv : ∀ x, toV x = none) (hret : ret = none) (hd : decode cc pc = .ok (.return_, 1)) : V D z0 l own cc nL Ts ret rm ct toV pc ls [] σ cells slots (sEnd lim σ) := by
  unfold sEnd
  obtain ⟨b1, b2, b3⟩ := hB
  split
  next h => exact V_vret htv hret (by omega) (by rw [b3]; omega) hd
  · exact V_none
end VCALL
