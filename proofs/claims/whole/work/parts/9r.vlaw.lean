/-! LEVEL 3: rows of the judgement for the law's body, where one answer is known -/
section VLAW
variable {α β : Type} {D : DG} {z0 : Nat} {l : Launch} {own : String} {cc : ByteArray} {nL : Nat} {Ts : List Cond} {ret : Option FieldType} {rm : Room} {ct : Bool} {toV : α → Option Value} {pc : Nat} {ls : List (Option Value)} {st : List Value} {σ : SG} {cells slots : Nat} {K : Option (α × SG)}
theorem V_newL {ci idx : Nat} {C : String} {T : u_T} {N : Nat} {ty0 : Nat → FieldType} {fs : List Value} (hc : vwCl[ci]? = some (C, T, N)) (hin : ∀ w ∈ u_ws C T N, w ∈ Ts) (hty : ∀ k, k < N → parseFieldDescriptor (T k).2.2.1 = some (ty0 k)) (hcl : Cond.classLink own idx C ∈ Ts) (hinst : Cond.instantiable C N ∈ Ts) (hini : Cond.initialized C ∈ Ts) (hfs : ∀ j, j < N → defaultValue (ty0 j) = vp_V fs j) (h1 : cells + 1 ≤ rm.cells) (h2 : slots + N ≤ rm.slots) (hd : decode cc pc = .ok (.new idx, 3))
    (k : V D z0 l own cc nL Ts ret rm ct toV (pc + 3) ls (.ref σ.2 :: st) (hup σ.1 σ.2 (.inl (ci, fs)), σ.2 + 1) (cells + 1) (slots + N) K) : V D z0 l own cc nL Ts ret rm ct toV pc ls st σ cells slots K := by
  intro p e s m args below meth cd H locs arr r σ' X hz hR hS hL hK
  obtain ⟨hx, hb, hml, hown, hts, hrt, hlk, hct, hE, hSF, hz0⟩ := id X
  have hKn := hE.1.1 ci _ hc
  refine W.newcK hx hb hown (hts _ hcl) (hts _ hinst) (hts _ hini) rfl hd h1 h2 hKn.2.1 hR.1 fun H1 kC hkC e1 z1 o1 => ?_
  exact k p e s m args below meth cd H1 locs arr r σ' X (Nat.le_succ_of_le hz) (RP.new hR hz ⟨_, hc, (u_born ty0 hts hin hKn hkC e1 hty).to hfs⟩ z1 o1) ⟨Nat.le_trans hS.1 (by rw [hR.1, z1]; omega), fun x h1 h2 => (o1 x (by rw [← hR.1]; exact Nat.lt_of_lt_of_le h1 hS.1)).trans (hS.2.1 x h1 h2), hS.2.2⟩ hL hK
theorem V_tabAt {dflt lo hi : Int} {offs : Array Int} {len : Nat} {tb : List (Int32 × Nat)} {i : Nat} {t : Int32 × Nat} (hd : decode cc pc = .ok (.tableswitch dflt lo hi offs, len)) (hok : tbOk pc lo hi offs tb = true) (ht1 : tb[i]? = some t)
    (k : V D z0 l own cc nL Ts ret rm ct toV t.2 ls st σ cells slots K) : V D z0 l own cc nL Ts ret rm ct toV pc ls (.int t.1 :: st) σ cells slots K := by
  obtain ⟨hlen, hat⟩ := tbOk_spec hok
  obtain ⟨g1, g2⟩ := hat i t ht1
  have hil : i < tb.length := (List.getElem?_eq_some_iff.mp ht1).1
  refine V.step (fun hx hb _ w => lv_tableIn (off := (t.2 : Int) - (pc : Int)) hx hb hd (by omega) (by omega) ?_ (by show (pc : Int) + ((t.2 : Int) - (pc : Int)) = (t.2 : Int); omega) w) k
  rw [show (t.1.toInt - lo).toNat = i by omega]
  exact g2
theorem V_tabOut {dflt lo hi : Int} {offs : Array Int} {len tgt : Nat} {x : Int32} (hd : decode cc pc = .ok (.tableswitch dflt lo hi offs, len)) (h : x.toInt < lo ∨ hi < x.toInt) (ht : (pc : Int) + dflt = (tgt : Int))
    (k : V D z0 l own cc nL Ts ret rm ct toV tgt ls st σ cells slots K) : V D z0 l own cc nL Ts ret rm ct toV pc ls (.int x :: st) σ cells slots K :=
  V.step (fun hx hb _ w => lv_tableOut hx hb hd h ht w) k
theorem V_scrP {i : Nat} (hi : i < D.2.2.2.1) (hL : D.2.2.2.1 ≤ 2048) (hd : decode cc pc = .ok (.iaload, 1))
    (k : V D z0 l own cc nL Ts ret rm ct toV (pc + 1) ls (.int (D.2.2.2.2 i) :: st) σ cells slots K) : V D z0 l own cc nL Ts ret rm ct toV pc ls (.int (nI i) :: .ref D.2.2.1 :: st) σ cells slots K := by
  intro p e s m args below meth cd H locs arr r σ' X hz hR hS hL2 hK
  obtain ⟨hx, hb, hml, hown, hts, hrt, hlk, hct, hE, hSF, hz0⟩ := id X
  have hX := hSF.2.1
  have hbl : D.2.2.1 < s.heap.size := Nat.lt_of_lt_of_le hSF.2.2 hz0
  refine va_sld hx hb hX hbl (by have := hSF.2.2; omega) hS (nI_in hi (by omega)) hd ?_
  rw [nI_clamp (by omega)]
  exact k p e s m args below meth cd H locs arr r σ' X hz hR hS hL2 hK
theorem V_callP {toV' : β → Option Value} {y : MethodName} {ws : List Cond} {rm' : Room} {bytes : ByteArray} {maxL idx n ci a : Nat} {ret' : Option FieldType} {q : vw_C} {C : String} {As st0 stI : List Value} {F : Option (β × SG)} {v : β} {σ1 : SG}
    (hM : MT D z0 l y ws rm' toV' (.ref a :: As) σ F) (hF : F = some (v, σ1)) (ho : sObj (some a) ci σ = some ()) (hc : vwCl[ci]? = some q) (hC : q.1 = C) (hst : stI = As.reverse ++ .ref a :: st0) (hsum : (st0.map fun v => v.category).sum ≤ 8) (hn : As.length = n)
    (hcw : ∀ (s : State) (args : Array Value), (∀ w ∈ Ts, w.before args s = true) → CallW rm s args own C idx y bytes maxL ret' ws rm' rm'.cells rm'.slots n) (h0 : rm'.cells = 0) (h1 : rm'.slots = 0) (hcl : cells ≤ rm.cells) (hsl : slots ≤ rm.slots)
    (hd : decode cc pc = .ok (.invokevirtual idx, 3))
    (k : V D z0 l own cc nL Ts ret rm ct toV (pc + 3) ls ((toV' v).toList ++ st0) σ1 cells slots K) : V D z0 l own cc nL Ts ret rm ct toV pc ls stI σ cells slots K := by
  have e : ((sObj (some a) ci σ).bind fun _ => bnd F fun (_ : β) (_ : SG) => K) = K := by rw [ho, hF]; rfl
  rw [← e]
  refine V_callV (x := some a) (fun b hb => by cases hb; exact hM) hc hC hst hsum hn hcw ⟨by rw [h0]; exact hcl, by rw [h1]; exact hsl⟩ hd (fun r' σ2 h => ?_)
  rw [hF] at h
  cases h
  rw [h0, h1]
  exact k
theorem V_callIP {toV' : β → Option Value} {y : MethodName} {ws : List Cond} {rm' : Room} {bytes : ByteArray} {maxL idx n ci a : Nat} {As st0 stI : List Value} {F : Option (β × SG)} {v : β} {σ1 : SG}
    (hM : MT D z0 l y ws rm' toV' (.ref a :: As) σ F) (hF : F = some (v, σ1)) (ho : sObj (some a) ci σ = some ()) (hst : stI = As.reverse ++ .ref a :: st0) (hsum : (st0.map fun v => v.category).sum ≤ 8) (hn : As.length = n)
    (hcw : ∀ (s : State) (args : Array Value), (∀ w ∈ Ts, w.before args s = true) → CallB rm s args own idx y bytes maxL none ws rm' rm'.cells rm'.slots n ∧ y.name = "<init>" ∧ (Cond.instanceMethod y).before args s = true) (hf : cells + rm'.cells ≤ rm.cells ∧ slots + rm'.slots ≤ rm.slots)
    (hd : decode cc pc = .ok (.invokespecial idx, 3))
    (k : V D z0 l own cc nL Ts ret rm ct toV (pc + 3) ls ((toV' v).toList ++ st0) σ1 (cells + rm'.cells) (slots + rm'.slots) K) : V D z0 l own cc nL Ts ret rm ct toV pc ls stI σ cells slots K := by
  have e : ((sObj (some a) ci σ).bind fun _ => bnd F fun (_ : β) (_ : SG) => K) = K := by rw [ho, hF]; rfl
  rw [← e]
  refine V_callI (x := some a) (fun b hb => by cases hb; exact hM) hst hsum hn hcw hf hd (fun r' σ2 h => ?_)
  rw [hF] at h
  cases h
  exact k
theorem V_icmp_gtT {x y : Int32} {off : Int} {tgt : Nat} (hd : decode cc pc = .ok (.if_icmp .gt off, 3)) (ht : (pc : Int) + off = (tgt : Int)) (h : y < x) (k : V D z0 l own cc nL Ts ret rm ct toV tgt ls st σ cells slots K) : V D z0 l own cc nL Ts ret rm ct toV pc ls (.int y :: .int x :: st) σ cells slots K := by
  have := V_icmp_gt (K1 := K) (K2 := K) hd ht (fun _ => k) (fun hn => absurd h hn)
  rwa [if_pos h] at this
theorem V_icmp_gtF {x y : Int32} {off : Int} {tgt : Nat} (hd : decode cc pc = .ok (.if_icmp .gt off, 3)) (ht : (pc : Int) + off = (tgt : Int)) (h : ¬ y < x) (k : V D z0 l own cc nL Ts ret rm ct toV (pc + 3) ls st σ cells slots K) : V D z0 l own cc nL Ts ret rm ct toV pc ls (.int y :: .int x :: st) σ cells slots K := by
  have := V_icmp_gt (K1 := K) (K2 := K) hd ht (fun hn => absurd hn h) (fun _ => k)
  rwa [if_neg h] at this
theorem V_icmp_eqT {x : Int32} {off : Int} {tgt : Nat} (hd : decode cc pc = .ok (.if_icmp .eq off, 3)) (ht : (pc : Int) + off = (tgt : Int)) (k : V D z0 l own cc nL Ts ret rm ct toV tgt ls st σ cells slots K) : V D z0 l own cc nL Ts ret rm ct toV pc ls (.int x :: .int x :: st) σ cells slots K := by
  have := V_icmp_eq (x := x) (y := x) (K1 := K) (K2 := K) hd ht (fun _ => k) (fun hn => absurd rfl hn)
  rwa [if_pos rfl] at this
def bz (x : Int32) : Int32 := if x = 0 then 0 else 1
theorem bz01 (x : Int32) : b01 (bz x) := by
  unfold bz
  split
  · exact Or.inl rfl
  · exact Or.inr rfl
theorem V_bool {x : Int32} (hd : decode cc pc = .ok (.ifCond .eq 7, 3)) (h1 : decode cc (pc + 3) = .ok (.iconst 1, 1)) (h2 : decode cc (pc + 4) = .ok (.goto 4, 3)) (h3 : decode cc (pc + 7) = .ok (.iconst 0, 1)) (k : V D z0 l own cc nL Ts ret rm ct toV (pc + 8) ls (.int (bz x) :: st) σ cells slots K) : V D z0 l own cc nL Ts ret rm ct toV pc ls (.int x :: st) σ cells slots K := by
  by_cases h : x = 0
  · have e : bz x = 0 := if_pos h
    rw [e] at k
    have := V_if_eq (x := x) (K1 := K) (K2 := K) hd (tgt := pc + 7) (by omega) (fun _ => V_iconst h3 (by decide) k) (fun hn => absurd h hn)
    rwa [if_pos h] at this
  · have e : bz x = 1 := if_neg h
    rw [e] at k
    have := V_if_eq (x := x) (K1 := K) (K2 := K) hd (tgt := pc + 7) (by omega) (fun hn => absurd hn h) (fun _ => V_iconst h1 (by decide) (V_goto h2 (tgt := pc + 8) (by omega) k))
    rwa [if_neg h] at this
/-- a call whose callee makes nothing, the walk going on where categories are two -/
theorem W_call {p : Program} {e : Env} {s : State} {m : MethodId} {args : Array Value} {below : List Frame} {meth : Method} {c : Code} {H : Heap} {locs : List Loc} {c1 s1 : Nat} {Q : State → Prop} {arr : Array Slot} {stI st0 : List Value} {toV' : β → Option Value} {v : β} {σ1 : SG} {a : Array Value}
    (hr : va_Run p l e rm s m args below meth c H locs cells slots c1 s1 (F0 m pc arr stI) st0 (QC D z0 (toV' v) σ1 a) (fun q => z0 ≤ q)) (hS : va_S (fun q => z0 ≤ q) s.heap H locs) (h0 : c1 = 0) (h1 : s1 = 0)
    (k : ∀ (H1 : Heap) (L : List Loc), z0 ≤ σ1.2 → RP D z0 σ1 H1 → va_S (fun q => z0 ≤ q) s.heap H1 (locs ++ L) → W p l e rm s m args below meth c H1 (locs ++ L) cells slots Q (F0 m (pc + 3) arr ((toV' v).toList ++ st0))) : W p l e rm s m args below meth c H locs cells slots Q (F0 m pc arr stI) := by
  subst h0
  subst h1
  intro T hT XT
  obtain ⟨v', st₀, t, T', L, g0, X', hLo, e1, e2, ⟨hv, hz1, hR1, hF1⟩, stp⟩ := hr T hT XT
  cases hv
  rw [← e1] at hR1
  have hF2 : H.size ≤ T'.heap.size ∧ ∀ q : Nat, q < H.size → ¬ z0 ≤ q → T'.heap[q]? = H[q]? := by
    rw [← g0, e1]; exact hF1
  have hS1 : va_S (fun q => z0 ≤ q) s.heap T'.heap (locs ++ L) := ⟨Nat.le_trans hS.1 hF2.1, fun q h1 h2 => by rw [hF2.2 q (Nat.lt_of_lt_of_le h1 hS.1) h2]; exact hS.2.1 q h1 h2, fun q hq => by
    rcases List.mem_append.mp hq with h | h
    · exact hS.2.2 q h
    · exact hLo q h⟩
  obtain ⟨t2, a1, b1⟩ := k T'.heap L hz1 hR1 hS1 T' rfl X'
  exact ⟨t2, stp t2 a1, b1⟩
end VLAW
