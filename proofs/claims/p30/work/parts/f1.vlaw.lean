/-! p30: rows of the judgement where one answer is known; the law's cell -/
section VLAW
variable {α β : Type} {D : DG} {z0 : Nat} {l : Launch} {own : String} {cc : ByteArray} {nL : Nat} {Ts : List Cond} {ret : Option FieldType} {rm : Room} {ct : Bool} {toV : α → Option Value} {pc : Nat} {ls : List (Option Value)} {st : List Value} {σ : SG} {cells slots : Nat} {K : Option (α × SG)}
theorem V_newL {ci idx : Nat} {C : String} {T : u_T} {N : Nat} {ty0 : Nat → FieldType} {fs : List Value} (hc : vwCl[ci]? = some (C, T, N)) (hin : ∀ w ∈ u_ws C T N, w ∈ Ts) (hty : ∀ k, k < N → parseFieldDescriptor (T k).2.2.1 = some (ty0 k)) (hcl : Cond.classLink own idx C ∈ Ts) (hinst : Cond.instantiable C N ∈ Ts) (hini : Cond.initialized C ∈ Ts) (hfs : ∀ j, j < N → defaultValue (ty0 j) = vp_V fs j) (h1 : cells + 1 ≤ rm.cells) (h2 : slots + N ≤ rm.slots) (hd : decode cc pc = .ok (.new idx, 3))
    (k : V D z0 l own cc nL Ts ret rm ct toV (pc + 3) ls (.ref σ.2 :: st) (hup σ.1 σ.2 (.inl (ci, fs)), σ.2 + 1) (cells + 1) (slots + N) K) : V D z0 l own cc nL Ts ret rm ct toV pc ls st σ cells slots K := by
  intro p e s m args below meth cd H locs arr r σ' X hz hR hS hL hK
  obtain ⟨hx, hb, hml, hown, hts, hrt, hlk, hct, hE, hSF, hz0⟩ := id X
  have hKn := hE.1.1 ci _ hc
  refine W.newcK hx hb hown (hts _ hcl) (hts _ hinst) (hts _ hini) rfl hd h1 h2 hKn.2.1 hR.1 fun H1 kC hkC e1 z1 o1 => ?_
  exact k p e s m args below meth cd H1 locs arr r σ' X (Nat.le_succ_of_le hz) (RP.new hR hz ⟨_, hc, (u_born ty0 hts hin hKn hkC e1 hty).to hfs⟩ z1 o1) ⟨Nat.le_trans hS.1 (by rw [hR.1, z1]; omega), fun x h1 h2 => (o1 x (by rw [← hR.1]; exact Nat.lt_of_lt_of_le h1 hS.1)).trans (hS.2.1 x h1 h2), hS.2.2⟩ hL hK
theorem V_scrP {i : Nat} (hi : i < D.2.2.2.1) (hL : D.2.2.2.1 ≤ 2048) (hd : decode cc pc = .ok (.iaload, 1))
    (k : V D z0 l own cc nL Ts ret rm ct toV (pc + 1) ls (.int (D.2.2.2.2 i) :: st) σ cells slots K) : V D z0 l own cc nL Ts ret rm ct toV pc ls (.int (nI i) :: .ref D.2.2.1 :: st) σ cells slots K := by
  intro p e s m args below meth cd H locs arr r σ' X hz hR hS hL2 hK
  obtain ⟨hx, hb, hml, hown, hts, hrt, hlk, hct, hE, hSF, hz0⟩ := id X
  have hX := hSF.2.1
  have hbl : D.2.2.1 < s.heap.size := Nat.lt_of_lt_of_le hSF.2.2 hz0
  refine va_sld hx hb hX hbl (by have := hSF.2.2; omega) hS (nI_in hi (by omega)) hd ?_
  rw [nI_clamp (by omega)]
  exact k p e s m args below meth cd H locs arr r σ' X hz hR hS hL2 hK
theorem V_callP {toV' : β → Option Value} {y : MethodName} {ws : List Cond} {rm' : Room} {bytes : ByteArray} {maxL idx n ci a : Nat} {ret' : Option FieldType} {q : vw_C} {C : String} {As st0 stI : List Value} {F : Option (β × SG)} {v : β} {σ1 : SG}
    (hM : MT D z0 l y ws rm' toV' (.ref a :: As) σ F) (hF : F = some (v, σ1)) (ho : sObj (some a) ci σ = some ()) (hc : vwCl[ci]? = some q) (hC : q.1 = C) (hst : stI = As.reverse ++ .ref a :: st0) (hsum : (st0.map fun v => v.category).sum ≤ 8) (hn : As.length = n)
    (hcw : ∀ (s : State) (args : Array Value), (∀ w ∈ Ts, w.before args s = true) → CallW rm s args own C idx y bytes maxL ret' ws rm' rm'.cells rm'.slots n) (h0 : rm'.cells = 0) (h1 : rm'.slots = 0) (hcl : cells ≤ rm.cells) (hsl : slots ≤ rm.slots)
    (hd : decode cc pc = .ok (.invokevirtual idx, 3))
    (k : V D z0 l own cc nL Ts ret rm ct toV (pc + 3) ls ((toV' v).toList ++ st0) σ1 cells slots K) : V D z0 l own cc nL Ts ret rm ct toV pc ls stI σ cells slots K := by
  have e : ((sObj (some a) ci σ).bind fun _ => bnd F fun (_ : β) (_ : SG) => K) = K := by rw [ho, hF]; rfl
  rw [← e]
  refine V_callV (x := some a) (fun b hb => by cases hb; exact hM) hc hC hst hsum hn hcw ⟨by rw [h0]; exact hcl, by rw [h1]; exact hsl⟩ hd (fun r' σ2 h => ?_)
  rw [hF] at h
  cases h
  rw [h0, h1]
  exact k
theorem V_callIP {toV' : β → Option Value} {y : MethodName} {ws : List Cond} {rm' : Room} {bytes : ByteArray} {maxL idx n ci a : Nat} {As st0 stI : List Value} {F : Option (β × SG)} {v : β} {σ1 : SG}
    (hM : MT D z0 l y ws rm' toV' (.ref a :: As) σ F) (hF : F = some (v, σ1)) (ho : sObj (some a) ci σ = some ()) (hst : stI = As.reverse ++ .ref a :: st0) (hsum : (st0.map fun v => v.category).sum ≤ 8) (hn : As.length = n)
    (hcw : ∀ (s : State) (args : Array Value), (∀ w ∈ Ts, w.before args s = true) → CallB rm s args own idx y bytes maxL none ws rm' rm'.cells rm'.slots n ∧ y.name = "<init>" ∧ (Cond.instanceMethod y).before args s = true) (hf : cells + rm'.cells ≤ rm.cells ∧ slots + rm'.slots ≤ rm.slots)
    (hd : decode cc pc = .ok (.invokespecial idx, 3))
    (k : V D z0 l own cc nL Ts ret rm ct toV (pc + 3) ls ((toV' v).toList ++ st0) σ1 (cells + rm'.cells) (slots + rm'.slots) K) : V D z0 l own cc nL Ts ret rm ct toV pc ls stI σ cells slots K := by
  have e : ((sObj (some a) ci σ).bind fun _ => bnd F fun (_ : β) (_ : SG) => K) = K := by rw [ho, hF]; rfl
  rw [← e]
  refine V_callI (x := some a) (fun b hb => by cases hb; exact hM) hst hsum hn hcw hf hd (fun r' σ2 h => ?_)
  rw [hF] at h
  cases h
  exact k
theorem V_callSP {toV' : β → Option Value} {y : MethodName} {ws : List Cond} {rm' : Room} {bytes : ByteArray} {maxL idx n : Nat} {ret' : Option FieldType} {As st0 stI : List Value} {F : Option (β × SG)} {v : β} {σ1 : SG}
    (hM : MT D z0 l y ws rm' toV' As σ F) (hF : F = some (v, σ1)) (hst : stI = As.reverse ++ st0) (hsum : (st0.map fun v => v.category).sum ≤ 8) (hn : As.length = n)
    (hcw : ∀ (s : State) (args : Array Value), (∀ w ∈ Ts, w.before args s = true) → CallB rm s args own idx y bytes maxL ret' ws rm' rm'.cells rm'.slots n ∧ (Cond.static y).before args s = true) (h0 : rm'.cells = 0) (h1 : rm'.slots = 0) (hcl : cells ≤ rm.cells) (hsl : slots ≤ rm.slots)
    (hd : decode cc pc = .ok (.invokestatic idx, 3))
    (k : V D z0 l own cc nL Ts ret rm ct toV (pc + 3) ls ((toV' v).toList ++ st0) σ1 cells slots K) : V D z0 l own cc nL Ts ret rm ct toV pc ls stI σ cells slots K := by
  have e : (bnd F fun (_ : β) (_ : SG) => K) = K := by rw [hF]; rfl
  rw [← e]
  refine V_callS hM hst hsum hn hcw ⟨by rw [h0]; exact hcl, by rw [h1]; exact hsl⟩ hd (fun r' σ2 h => ?_)
  rw [hF] at h
  cases h
  rw [h0, h1]
  exact k
theorem V_ite {c : Prop} {dc : Decidable c} (w : V D z0 l own cc nL Ts ret rm ct toV pc ls st σ cells slots (@ite _ c dc K K)) : V D z0 l own cc nL Ts ret rm ct toV pc ls st σ cells slots K := by
  rwa [ite_self] at w
theorem V_rem0 {x y : Int32} (hy : ¬ y = 0) (hd : decode cc pc = .ok (.irem, 1)) (k : V D z0 l own cc nL Ts ret rm ct toV (pc + 1) ls (.int (x - x / y * y) :: st) σ cells slots K) : V D z0 l own cc nL Ts ret rm ct toV pc ls (.int y :: .int x :: st) σ cells slots K := by
  have := V_irem (x := x) (y := y) (K := K) hd k
  rwa [if_neg hy] at this
end VLAW
/-! the law's cell: an int of the script, or one made of its place -/
def cellF (D : DG) (k : Nat) : Int32 := (if k < D.2.2.2.1 then D.2.2.2.2 k else 15485959 * nI k + 8447) &&& 2147483647
def rmL_cell : Room := { frames := 0, cells := 0, slots := 0, locals := 0 }
theorem cellF_nn (D : DG) (k : Nat) : ∃ C, C < 2 ^ 31 ∧ cellF D k = nI C := pk_andE _ 31 (by decide)
theorem v_cell {D : DG} {z0 : Nat} {l : Launch} (hL : D.2.2.2.1 ≤ 260) {k : Nat} (hk : k < 100) (σ : SG) : V D z0 l RL cL_cell 2 wsL_cell (some .int) rmL_cell false tvI 0 [some (.ref D.2.2.1), some (.int (nI k))] [] σ 0 0 (some (cellF D k, σ)) := by
  refine V_iload_n (x := nI k) dL_cell_0 rfl ?_
  refine V_aload_n (x := some D.2.2.1) dL_cell_1 rfl ?_
  refine V_scrlen (K := fun _ => some (cellF D k, σ)) dL_cell_2 ?_
  by_cases h : k < D.2.2.2.1
  · refine V_ite (V_icmp_ge (tgt := 12) (x := nI k) (y := nI D.2.2.2.1) dL_cell_3 (by decide) (fun hq => absurd hq (nI_ge h (by omega))) (fun hq => ?_))
    refine V_aload_n (x := some D.2.2.1) dL_cell_6 rfl ?_
    refine V_iload_n (x := nI k) dL_cell_7 rfl ?_
    refine V_scrP (i := k) h (by omega) dL_cell_8 ?_
    refine V_goto (tgt := 20) dL_cell_9 (by decide) ?_
    refine V_ldc (v := 2147483647) (by decide +kernel) dL_cell_20 ?_
    refine V_iand (x := D.2.2.2.2 k) (y := 2147483647) dL_cell_22 ?_
    have e : cellF D k = D.2.2.2.2 k &&& 2147483647 := by unfold cellF; rw [if_pos h]
    rw [e]
    exact V_iret (fun _ => rfl) rfl (Nat.zero_le _) (Nat.zero_le _) dL_cell_23
  · refine V_ite (V_icmp_ge (tgt := 12) (x := nI k) (y := nI D.2.2.2.1) dL_cell_3 (by decide) (fun hq => ?_) (fun hq => absurd (nI_le (by omega) (by omega)) hq))
    refine V_ldc (v := 15485959) (by decide +kernel) dL_cell_12 ?_
    refine V_iload_n (x := nI k) dL_cell_14 rfl ?_
    refine V_imul (x := 15485959) (y := nI k) dL_cell_15 ?_
    refine V_sipush (v := 8447) dL_cell_16 (by decide) ?_
    refine V_iadd (x := 15485959 * nI k) (y := 8447) dL_cell_19 ?_
    refine V_ldc (v := 2147483647) (by decide +kernel) dL_cell_20 ?_
    refine V_iand (x := 15485959 * nI k + 8447) (y := 2147483647) dL_cell_22 ?_
    have e : cellF D k = (15485959 * nI k + 8447) &&& 2147483647 := by unfold cellF; rw [if_neg h]
    rw [e]
    exact V_iret (fun _ => rfl) rfl (Nat.zero_le _) (Nat.zero_le _) dL_cell_23
theorem t_cell {D : DG} {z0 : Nat} {l : Launch} (hL : D.2.2.2.1 ≤ 260) {k : Nat} (hk : k < 100) {σ : SG} : MT D z0 l yL_cell wsL_cell rmL_cell tvI [.ref D.2.2.1, .int (nI k)] σ (some (cellF D k, σ)) :=
  MT.of (own := RL) (cc := cL_cell) (nL := 2) (ret := (some .int)) (ct := false) (by decide) rfl rfl (fun h => by cases h) (Nat.le_of_ble_eq_true rfl) (fun v hv => by
    simp only [List.mem_cons, List.not_mem_nil, or_false] at hv
    rcases hv with rfl | rfl <;> rfl) (v_cell hL hk σ)
