/-! THE V LAYER, third text: arrays, what is made, switches, calls, ends -/
section VARR
variable {α : Type} {D : DG} {z0 : Nat} {l : Launch} {own : String} {cc : ByteArray} {nL : Nat} {Ts : List Cond} {ret : Option FieldType} {rm : Room} {ct : Bool} {toV : α → Option Value} {pc : Nat} {ls : List (Option Value)} {st : List Value} {σ : SG} {cells slots : Nat}
theorem tysD_at (D : DG) {k : Nat} (hk : k < 8) : ∃ ty, (tysD D)[k]? = some (D.2.1 k, ty) := by
  match k, hk with
  | 0, _ => exact ⟨_, rfl⟩
  | 1, _ => exact ⟨_, rfl⟩
  | 2, _ => exact ⟨_, rfl⟩
  | 3, _ => exact ⟨_, rfl⟩
  | 4, _ => exact ⟨_, rfl⟩
  | 5, _ => exact ⟨_, rfl⟩
  | 6, _ => exact ⟨_, rfl⟩
  | 7, _ => exact ⟨_, rfl⟩
theorem tysD_ref (D : DG) {k : Nat} (h3 : 3 ≤ k) (hk : k < 8) : ∃ r : vw_C, vwCl[kci k]? = some r ∧ (tysD D)[k]? = some (D.2.1 k, .object r.1) := by
  match k, h3, hk with
  | 3, _, _ => exact ⟨_, rfl, rfl⟩
  | 4, _, _ => exact ⟨_, rfl, rfl⟩
  | 5, _, _ => exact ⟨_, rfl, rfl⟩
  | 6, _, _ => exact ⟨_, rfl, rfl⟩
  | 7, _, _ => exact ⟨_, rfl, rfl⟩
theorem RP.one {H : Heap} {a : Nat} {e : CE} (hR : RP D z0 σ H) (ha : σ.1 a = some e) : va_P D.1 vwCl [(a, toE D e)] H := by
  intro k q hk
  cases k with
  | zero => cases hk; exact (hR.2 a _ ha).2
  | succ k => simp at hk
theorem V_alen {x : Option Nat} {K : Int32 → Option (α × SG)} (hd : decode cc pc = .ok (.arraylength, 1))
    (k : ∀ v : Int32, V D z0 l own cc nL Ts ret rm ct toV (pc + 1) ls (.int v :: st) σ cells slots (K v)) : V D z0 l own cc nL Ts ret rm ct toV pc ls (va_rf x :: st) σ cells slots ((sLen x σ).bind K) := by
  unfold sLen
  split
  · exact V_none
  next a =>
    split
    next kk n c ha =>
      split
      next hk =>
        obtain ⟨ty, hty⟩ := tysD_at D hk
        intro p e s m args below meth cd H locs arr r σ' X hz hR hS hL hK
        obtain ⟨hx, hb, hml, hown, hts, hrt, hlk, hct, hE, hSF, hz0⟩ := id X
        have hP := hR.one ha
        have g := k (Int32.ofNat n) p e s m args below meth cd H locs arr r σ' X hz hR hS hL hK
        cases c with
        | inl f => exact va_alen (x := (n, .inl f)) hx hb hE.1 hP 0 kk rfl hty rfl hd g
        | inr f => exact va_alen (x := (n, .inr (.inr (.inr (.inr f))))) hx hb hE.1 hP 0 kk rfl hty rfl hd g
      · exact V_none
    · exact V_none
theorem V.ald {k0 : Nat} {x : Option Nat} {i : Int32} {K : Int32 → Option (α × SG)}
    (hrow : ∀ {p : Program} {e : Env} {s : State} {m : MethodId} {args : Array Value} {below : List Frame} {meth : Method} {c : Code} {H : Heap} {locs : List Loc} {arr : Array Slot} {Q : State → Prop} {a n : Nat} {f : Nat → Int32}, p.tables.exec = Jvm.exec → c.code = cc → va_K D.1 vwCl (tysD D) s → va_P D.1 vwCl [(a, .inl (D.2.1 k0, n, .inl f))] H → vp_in i n → W p l e rm s m args below meth c H locs cells slots Q (F0 m (pc + 1) arr (.int (f i.toNatClampNeg) :: st)) → W p l e rm s m args below meth c H locs cells slots Q (F0 m pc arr (.int i :: .ref a :: st)))
    (k : ∀ v : Int32, V D z0 l own cc nL Ts ret rm ct toV (pc + 1) ls (.int v :: st) σ cells slots (K v)) : V D z0 l own cc nL Ts ret rm ct toV pc ls (.int i :: va_rf x :: st) σ cells slots ((sAld x k0 i σ).bind K) := by
  unfold sAld
  split
  · exact V_none
  next a =>
    split
    next kk n f ha =>
      split
      next hk =>
        subst hk
        split
        · exact V_none
        next hin =>
          intro p e s m args below meth cd H locs arr r σ' X hz hR hS hL hK
          obtain ⟨hx, hb, hml, hown, hts, hrt, hlk, hct, hE, hSF, hz0⟩ := id X
          exact hrow hx hb hE.1 (hR.one ha) hin (k _ p e s m args below meth cd H locs arr r σ' X hz hR hS hL hK)
      · exact V_none
    · exact V_none
theorem V_iaload {x : Option Nat} {i : Int32} {K : Int32 → Option (α × SG)} (hd : decode cc pc = .ok (.iaload, 1))
    (k : ∀ v : Int32, V D z0 l own cc nL Ts ret rm ct toV (pc + 1) ls (.int v :: st) σ cells slots (K v)) : V D z0 l own cc nL Ts ret rm ct toV pc ls (.int i :: va_rf x :: st) σ cells slots ((sAld x 1 i σ).bind K) :=
  V.ald (fun hx hb hK hP hin w => va_iald hx hb hK hP 0 1 rfl rfl hin hd w) k
theorem V_zaload {x : Option Nat} {i : Int32} {K : Int32 → Option (α × SG)} (hd : decode cc pc = .ok (.baload, 1))
    (k : ∀ v : Int32, V D z0 l own cc nL Ts ret rm ct toV (pc + 1) ls (.int v :: st) σ cells slots (K v)) : V D z0 l own cc nL Ts ret rm ct toV pc ls (.int i :: va_rf x :: st) σ cells slots ((sAld x 2 i σ).bind K) :=
  V.ald (fun hx hb hK hP hin w => va_zald hx hb hK hP 0 2 rfl rfl hin hd w) k
theorem V.ast {k0 : Nat} {x : Option Nat} {i v w : Int32} {ty : FieldType} {K : SG → Option (α × SG)} (hnar : narrow ty (.int v) = .int w)
    (hrow : ∀ {p : Program} {e : Env} {s : State} {m : MethodId} {args : Array Value} {below : List Frame} {meth : Method} {c : Code} {H : Heap} {locs : List Loc} {arr : Array Slot} {Q : State → Prop} {a n : Nat} {f : Nat → Int32}, p.tables.exec = Jvm.exec → c.code = cc → va_K D.1 vwCl (tysD D) s → H[a]? = some (arrV (D.2.1 k0) n (fun j => .int (f j))) → vp_in i n → (∀ H' : Heap, H'[a]? = some ((arrV (D.2.1 k0) n (fun j => .int (f j))).setSlot i.toNatClampNeg (.int w)) → H'.size = H.size → (∀ q, q ≠ a → H'[q]? = H[q]?) → W p l e rm s m args below meth c H' (locs ++ [⟨a, i.toNatClampNeg⟩]) cells slots Q (F0 m (pc + 1) arr st)) → W p l e rm s m args below meth c H locs cells slots Q (F0 m pc arr (.int v :: .int i :: .ref a :: st)))
    (k : ∀ σ1 : SG, σ1.2 = σ.2 → V D z0 l own cc nL Ts ret rm ct toV (pc + 1) ls st σ1 cells slots (K σ1)) : V D z0 l own cc nL Ts ret rm ct toV pc ls (.int v :: .int i :: va_rf x :: st) σ cells slots ((sAst x k0 i w σ).bind K) := by
  unfold sAst
  split
  · exact V_none
  next a =>
    split
    next kk n f ha =>
      split
      next hk =>
        subst hk
        split
        · exact V_none
        next hin =>
          intro p e s m args below meth cd H locs arr r σ' X hz hR hS hL hK
          obtain ⟨hx, hb, hml, hown, hts, hrt, hlk, hct, hE, hSF, hz0⟩ := id X
          obtain ⟨haz, hat⟩ := hR.2 a _ ha
          refine hrow hx hb hE.1 hat hin (fun H' e1 z oq => ?_)
          refine k (hup σ.1 a (.inr (kk, n, .inl (upd f i.toNatClampNeg w))), σ.2) rfl p e s m args below meth cd H' _ arr r σ' X hz (RP.set (σ := σ) hR ha ?_ z oq) (hS.put z oq haz) hL hK
          show H'[a]? = some (vp_cell _ _)
          rw [e1, vp_cell_i, arrV_store]
          congr 2
          funext q
          by_cases hq : q = i.toNatClampNeg
          · subst hq
            simp [updV, upd]
          · simp [updV, upd, hq]
      · exact V_none
    · exact V_none
theorem V_iastore {x : Option Nat} {i v : Int32} {K : SG → Option (α × SG)} (hd : decode cc pc = .ok (.iastore, 1))
    (k : ∀ σ1 : SG, σ1.2 = σ.2 → V D z0 l own cc nL Ts ret rm ct toV (pc + 1) ls st σ1 cells slots (K σ1)) : V D z0 l own cc nL Ts ret rm ct toV pc ls (.int v :: .int i :: va_rf x :: st) σ cells slots ((sAst x 1 i v σ).bind K) :=
  V.ast (ty := .int) rfl (fun {p e s m args below meth c H locs arr Q a n f} hx hb hK hcell hin w => W.iast hx hb hcell ((hK.2 1 _ rfl).1 n (fun j => .int (f j))) (fun q => by cases q) (by rw [arrV_size]; exact hin) rfl rfl hd w) k
/-- a boolean row takes 0 and 1 alone -/
theorem V_zastore {x : Option Nat} {i v : Int32} {K : SG → Option (α × SG)} (hd : decode cc pc = .ok (.bastore, 1))
    (k : ∀ σ1 : SG, σ1.2 = σ.2 → V D z0 l own cc nL Ts ret rm ct toV (pc + 1) ls st σ1 cells slots (K σ1)) : V D z0 l own cc nL Ts ret rm ct toV pc ls (.int v :: .int i :: va_rf x :: st) σ cells slots ((sAst x 2 i (vp_nar .boolean v) σ).bind K) :=
  V.ast (ty := .boolean) (by rfl) (fun {p e s m args below meth c H locs arr Q a n f} hx hb hK hcell hin w => W.zast hx hb hcell ((hK.2 2 _ rfl).1 n (fun j => .int (f j))) (fun q => by cases q) (by rw [arrV_size]; exact hin) rfl rfl hd w) k
theorem V_aaload {x : Option Nat} {i : Int32} {K : Option Nat → Option (α × SG)} (hd : decode cc pc = .ok (.aaload, 1))
    (k : ∀ v : Option Nat, V D z0 l own cc nL Ts ret rm ct toV (pc + 1) ls (va_rf v :: st) σ cells slots (K v)) : V D z0 l own cc nL Ts ret rm ct toV pc ls (.int i :: va_rf x :: st) σ cells slots ((sAldR x i σ).bind K) := by
  unfold sAldR
  split
  · exact V_none
  next a =>
    split
    next kk n f ha =>
      split
      next hk =>
        split
        · exact V_none
        next hin =>
          obtain ⟨q, -, hq⟩ := tysD_ref D hk.1 hk.2
          intro p e s m args below meth cd H locs arr r σ' X hz hR hS hL hK
          obtain ⟨hx, hb, hml, hown, hts, hrt, hlk, hct, hE, hSF, hz0⟩ := id X
          exact va_aldq hx hb hE.1 (hR.one ha) 0 kk rfl hq hin hd (k _ p e s m args below meth cd H locs arr r σ' X hz hR hS hL hK)
      · exact V_none
    · exact V_none
theorem V.sobj {β : Type} {x : Option Nat} {ci : Nat} {K : Unit → Option β} {P : Option β → Prop} (h0 : P none) (h : ∀ a fs, x = some a → σ.1 a = some (.inl (ci, fs)) → P (K ())) : P ((sObj x ci σ).bind K) := by
  unfold sObj
  split
  · exact h0
  next a =>
    split
    next c fs ha =>
      split
      next hc =>
        subst hc
        exact h a fs rfl ha
      · exact h0
    · exact h0
theorem V_aastore {x v : Option Nat} {i : Int32} {K : SG → Option (α × SG)} (hd : decode cc pc = .ok (.aastore, 1))
    (k : ∀ σ1 : SG, σ1.2 = σ.2 → V D z0 l own cc nL Ts ret rm ct toV (pc + 1) ls st σ1 cells slots (K σ1)) : V D z0 l own cc nL Ts ret rm ct toV pc ls (va_rf v :: .int i :: va_rf x :: st) σ cells slots ((sAstR x i v σ).bind K) := by
  unfold sAstR
  split
  · exact V_none
  next a =>
    split
    next kk n f ha =>
      split
      next hk =>
        split
        · exact V_none
        next hin =>
          rw [Option.bind_assoc]
          refine V.sobj (σ := σ) (x := v) (ci := kci kk) (P := fun K => V D z0 l own cc nL Ts ret rm ct toV pc ls (va_rf v :: .int i :: va_rf (some a) :: st) σ cells slots K) V_none (fun va fs hv hva => ?_)
          subst hv
          obtain ⟨rr, hc, hq⟩ := tysD_ref D hk.1 hk.2
          intro p e s m args below meth cd H locs arr r σ' X hz hR hS hL hK
          obtain ⟨hx, hb, hml, hown, hts, hrt, hlk, hct, hE, hSF, hz0⟩ := id X
          have hlt : i.toNatClampNeg < n := Nat.not_le.mp fun q => hin (Or.inr q)
          have h0 : ¬ i < 0 := fun q => hin (Or.inl q)
          obtain ⟨-, r', hr', cellV, g1, g2, g3, -⟩ := hR.2 va _ hva
          have hcls := (hE.1.1 (kci kk) rr hc).2
          obtain ⟨kA, comp, k1, k2, k3, -⟩ := (hE.1.2 kk _ hq).2
          have hcomp : comp = D.1.1 (kci kk) := Option.some.inj (k3.symm.trans hcls.1)
          subst hcomp
          obtain ⟨kC, hkC, -⟩ := hcls.2
          obtain ⟨haz, hat⟩ := hR.2 a _ ha
          refine W.aast hx hb hat (fun q h => by cases h) (fun h => by cases h) k1 k2 rfl hkC ⟨h0, by show _ < (arrV _ _ _).slots.size; rw [arrV_size]; exact hlt⟩ g1 (fun q h => by rw [g3] at h; cases h) (by rw [g2]; exact hkC) (by rw [g2]; exact va_assign hcls) rfl rfl hd fun H1 e1 z oq => ?_
          refine k (hup σ.1 a (.inr (kk, n, .inr (va_up f i.toNatClampNeg (some va)))), σ.2) rfl p e s m args below meth cd H1 _ arr r σ' X hz (RP.set (σ := σ) hR ha ?_ z oq) (hS.put z oq haz) hL hK
          show H1[a]? = some (vp_cell _ _)
          rw [e1]
          show some ((vp_cell (D.2.1 kk) (n, .inr (.inr (.inr (.inr f))))).setSlot _ _) = _
          rw [vp_cell_q, vp_cell_q, arrV_store]
          congr 2
          funext q
          by_cases hq : q = i.toNatClampNeg
          · subst hq
            simp [updV, va_up, va_rf]
          · simp [updV, va_up, hq]
      · exact V_none
    · exact V_none
end VARR
section VNEW
variable {α : Type} {D : DG} {z0 szE : Nat} {l : Launch} {own : String} {cc : ByteArray} {nL : Nat} {Ts : List Cond} {ret : Option FieldType} {rm : Room} {ct : Bool} {toV : α → Option Value} {pc : Nat} {ls : List (Option Value)} {st : List Value} {σ : SG} {cells slots : Nat}
/-- what is counted: cells by the heap's size, slots by 800 a cell at most -/
def CB (rm : Room) (szE : Nat) (σ : SG) (cells slots : Nat) : Prop := cells + szE = σ.2 ∧ slots ≤ 800 * cells ∧ rm.slots = 800 * rm.cells
theorem CB.go {σ1 : SG} (h : CB rm szE σ cells slots) (e : σ1.2 = σ.2) : CB rm szE σ1 cells slots := ⟨by rw [e]; exact h.1, h.2⟩
theorem V_new {ci idx : Nat} {C : String} {T : u_T} {N lim : Nat} {ty0 : Nat → FieldType} {fs : List Value} {K : Option Nat → SG → Option (α × SG)} (hB : CB rm szE σ cells slots) (hlim : lim = szE + rm.cells) (hc : vwCl[ci]? = some (C, T, N)) (hin : ∀ w ∈ u_ws C T N, w ∈ Ts) (hty : ∀ k, k < N → parseFieldDescriptor (T k).2.2.1 = some (ty0 k)) (hcl : Cond.classLink own idx C ∈ Ts) (hinst : Cond.instantiable C N ∈ Ts) (hini : Cond.initialized C ∈ Ts) (hfs : ∀ j, j < N → defaultValue (ty0 j) = vp_V fs j) (hN : N ≤ 800) (hd : decode cc pc = .ok (.new idx, 3))
    (k : ∀ (q : Option Nat) (σ1 : SG) (c1 s1 : Nat), CB rm szE σ1 c1 s1 → V D z0 l own cc nL Ts ret rm ct toV (pc + 3) ls (va_rf q :: st) σ1 c1 s1 (K q σ1)) : V D z0 l own cc nL Ts ret rm ct toV pc ls st σ cells slots (bnd (sNew lim (.inl (ci, fs)) σ) K) := by
  unfold sNew
  split
  next hl =>
    intro p e s m args below meth cd H locs arr r σ' X hz hR hS hL hK
    obtain ⟨hx, hb, hml, hown, hts, hrt, hlk, hct, hE, hSF, hz0⟩ := id X
    have hKn := hE.1.1 ci _ hc
    obtain ⟨b1, b2, b3⟩ := hB
    refine W.newcK hx hb hown (hts _ hcl) (hts _ hinst) (hts _ hini) rfl hd (by omega) (by rw [b3]; omega) hKn.2.1 hR.1 fun H1 kC hkC e1 z1 o1 => ?_
    refine k (some σ.2) (hup σ.1 σ.2 (.inl (ci, fs)), σ.2 + 1) _ _ ⟨by show _ = σ.2 + 1; omega, by omega, b3⟩ p e s m args below meth cd H1 locs arr r σ' X (Nat.le_succ_of_le hz) (RP.new hR hz ⟨_, hc, (u_born ty0 hts hin hKn hkC e1 hty).to hfs⟩ z1 o1) ⟨Nat.le_trans hS.1 (by rw [hR.1, z1]; omega), fun x h1 h2 => (o1 x (by rw [← hR.1]; exact Nat.lt_of_lt_of_le h1 hS.1)).trans (hS.2.1 x h1 h2), hS.2.2⟩ hL hK
  · exact V_none
theorem V_newA {k0 : Nat} {at0 : ArrayType} {ty : FieldType} {n : Int32} {lim : Nat} {K : Option Nat → SG → Option (α × SG)} (hB : CB rm szE σ cells slots) (hlim : lim = szE + rm.cells) (hat : newarray.typeOf at0 = ty) (hdv : defaultValue ty = .int 0) (hcb : componentBytes ty ≤ 8) (hk0 : (tysD D)[k0]? = some (D.2.1 k0, ty)) (hra : ∀ s cA, va_RA s cA ty = (s.vm.findClass ("[" ++ ty.toString) = some cA)) (har : Cond.arrayClass (newarray.typeOf at0) ∈ Ts) (hd : decode cc pc = .ok (.newarray at0, 2))
    (k : ∀ (q : Option Nat) (σ1 : SG) (c1 s1 : Nat), CB rm szE σ1 c1 s1 → V D z0 l own cc nL Ts ret rm ct toV (pc + 2) ls (va_rf q :: st) σ1 c1 s1 (K q σ1)) : V D z0 l own cc nL Ts ret rm ct toV pc ls (.int n :: st) σ cells slots (bnd (sNewA lim k0 n σ) K) := by
  unfold sNewA
  split
  · exact V_none
  next hn =>
    unfold sNew
    split
    next hl =>
      subst hat
      intro p e s m args below meth cd H locs arr r σ' X hz hR hS hL hK
      obtain ⟨hx, hb, hml, hown, hts, hrt, hlk, hct, hE, hSF, hz0⟩ := id X
      obtain ⟨b1, b2, b3⟩ := hB
      have n0 : ¬ n < 0 := fun q => hn (Or.inl q)
      have n8 : n.toNatClampNeg ≤ 800 := Nat.not_lt.mp fun q => hn (Or.inr q)
      refine va_newaK hx hb (hts _ har) rfl hd rfl n0 rfl (Nat.le_trans (Nat.mul_le_mul n8 hcb) (by decide)) (by omega) (by rw [b3]; omega) hR.1 fun H1 cA e1 z1 o1 hAr hNm => ?_
      have hcA : cA = D.2.1 k0 := by
        have h2 := (hE.1.2 k0 _ hk0).2
        rw [hra] at h2
        exact Option.some.inj (hNm.symm.trans h2)
      subst hcA
      refine k (some σ.2) (hup σ.1 σ.2 (.inr (k0, n.toNatClampNeg, .inl (fun _ => 0))), σ.2 + 1) _ _ ⟨by show _ = σ.2 + 1; omega, by omega, b3⟩ p e s m args below meth cd H1 locs arr r σ' X (Nat.le_succ_of_le hz) (RP.new hR hz ?_ z1 o1) ⟨Nat.le_trans hS.1 (by rw [hR.1, z1]; omega), fun x h1 h2 => (o1 x (by rw [← hR.1]; exact Nat.lt_of_lt_of_le h1 hS.1)).trans (hS.2.1 x h1 h2), hS.2.2⟩ hL hK
      show H1[σ.2]? = some (vp_cell _ _)
      rw [e1, vp_cell_i, hdv]
    · exact V_none
theorem V_newQ {k0 idx : Nat} {C : String} {n : Int32} {lim : Nat} {K : Option Nat → SG → Option (α × SG)} (hB : CB rm szE σ cells slots) (hlim : lim = szE + rm.cells) (hk0 : (tysD D)[k0]? = some (D.2.1 k0, .object C)) (hao : C ∈ aoL) (hcl : Cond.classLink own idx C ∈ Ts) (hd : decode cc pc = .ok (.anewarray idx, 3))
    (k : ∀ (q : Option Nat) (σ1 : SG) (c1 s1 : Nat), CB rm szE σ1 c1 s1 → V D z0 l own cc nL Ts ret rm ct toV (pc + 3) ls (va_rf q :: st) σ1 c1 s1 (K q σ1)) : V D z0 l own cc nL Ts ret rm ct toV pc ls (.int n :: st) σ cells slots (bnd (sNewQ lim k0 n σ) K) := by
  unfold sNewQ
  split
  · exact V_none
  next hn =>
    unfold sNew
    split
    next hl =>
      intro p e s m args below meth cd H locs arr r σ' X hz hR hS hL hK
      obtain ⟨hx, hb, hml, hown, hts, hrt, hlk, hct, hE, hSF, hz0⟩ := id X
      obtain ⟨b1, b2, b3⟩ := hB
      have n0 : ¬ n < 0 := fun q => hn (Or.inl q)
      have n8 : n.toNatClampNeg ≤ 800 := Nat.not_lt.mp fun q => hn (Or.inr q)
      refine W.anew hx hb hown (hts _ hcl) (va_AO.use (hE.2.2 C hao)) rfl hd rfl n0 (by omega) (by omega) (by rw [b3]; omega) fun cA kA comp f1 f2 f3 f4 => ?_
      generalize hH1 : H.push ({ cls := cA, slots := Array.replicate n.toNatClampNeg .null, vm := .none } : Cell) = H1
      have z1 : H1.size = H.size + 1 := by rw [← hH1, Array.size_push]
      have e1 : H1[H.size]? = some (arrV cA n.toNatClampNeg (fun _ => .null)) := by rw [← hH1, Array.getElem?_push_size, ← arrV_new]
      have o1 : ∀ q : Nat, q < H.size → H1[q]? = H[q]? := fun q hq => by rw [← hH1, Array.getElem?_push, if_neg (Nat.ne_of_lt hq)]
      have hcA : cA = D.2.1 k0 := by
        obtain ⟨_, _, _, _, _, h4⟩ := (hE.1.2 k0 _ hk0).2
        exact Option.some.inj (f1.symm.trans h4)
      subst hcA
      rw [hR.1] at z1 e1 o1
      have hg := k (some σ.2) (hup σ.1 σ.2 (.inr (k0, n.toNatClampNeg, .inr (fun _ => none))), σ.2 + 1) (cells + 1) (slots + n.toNatClampNeg) ⟨by show _ = σ.2 + 1; omega, by omega, b3⟩ p e s m args below meth cd H1 locs arr r σ' X (Nat.le_succ_of_le hz) (RP.new hR hz ?_ z1 o1) ⟨Nat.le_trans hS.1 (by rw [hR.1, z1]; omega), fun x h1 h2 => (o1 x (by rw [← hR.1]; exact Nat.lt_of_lt_of_le h1 hS.1)).trans (hS.2.1 x h1 h2), hS.2.2⟩ hL hK
      · rw [hR.1]
        exact hg
      · show H1[σ.2]? = some (vp_cell _ _)
        rw [e1, vp_cell_q]
        rfl
    · exact V_none
theorem V_sld {i : Fin 4} {x : Int32} {idx : Nat} {n : String} {f : Int32 → Option Int32} {K : Int32 → Option (α × SG)} (hx4 : (n = "LEAST_SETTING" ∧ f = lstI) ∨ (n = "MOST_SETTING" ∧ f = mstI)) (hl : Cond.fieldLink own idx "MainsWords" n "[I" ∈ Ts) (hd0 : decode cc pc = .ok (.getstatic idx, 3)) (hd1 : decode cc (pc + 3) = .ok (.iload_n i, 1)) (hd2 : decode cc (pc + 4) = .ok (.iaload, 1)) (hlo : ls[(i : Nat)]? = some (some (.int x)))
    (k : ∀ v : Int32, V D z0 l own cc nL Ts ret rm ct toV (pc + 5) ls (.int v :: st) σ cells slots (K v)) : V D z0 l own cc nL Ts ret rm ct toV pc ls st σ cells slots ((f x).bind K) := by
  intro p e s m args below meth cd H locs arr r σ' X hz hR hS hL hK
  obtain ⟨hx, hb, hml, hown, hts, hrt, hlk, hct, hE, hSF, hz0⟩ := id X
  obtain ⟨⟨t1, t2, z1, z2, T1, T2⟩, -, -⟩ := hSF
  have key : ∀ v, f x = some v → vp_in x 4 ∧ ∃ t, va_Z "MainsWords" n "[I" (.ref t) (fun q => z0 ≤ q) s s.heap ∧ ∃ g, va_T .int t 4 g (fun q => z0 ≤ q) s s.heap ∧ g x.toNatClampNeg = .int v := by
    intro v hv
    rcases hx4 with ⟨rfl, rfl⟩ | ⟨rfl, rfl⟩
    · unfold lstI at hv
      split at hv
      next h => subst h; cases hv; exact ⟨by unfold vp_in; decide, t1, z1, _, T1, rfl⟩
      split at hv
      next h => subst h; cases hv; exact ⟨by unfold vp_in; decide, t1, z1, _, T1, rfl⟩
      split at hv
      next h => subst h; cases hv; exact ⟨by unfold vp_in; decide, t1, z1, _, T1, rfl⟩
      split at hv
      next h => subst h; cases hv; exact ⟨by unfold vp_in; decide, t1, z1, _, T1, rfl⟩
      cases hv
    · unfold mstI at hv
      split at hv
      next h => subst h; cases hv; exact ⟨by unfold vp_in; decide, t2, z2, _, T2, rfl⟩
      split at hv
      next h => subst h; cases hv; exact ⟨by unfold vp_in; decide, t2, z2, _, T2, rfl⟩
      split at hv
      next h => subst h; cases hv; exact ⟨by unfold vp_in; decide, t2, z2, _, T2, rfl⟩
      split at hv
      next h => subst h; cases hv; exact ⟨by unfold vp_in; decide, t2, z2, _, T2, rfl⟩
      cases hv
  cases hf : f x with
  | none => rw [hf] at hK; cases hK
  | some v =>
    rw [hf] at hK
    obtain ⟨hin, t, hZ, g, hT, hgv⟩ := key v hf
    refine va_gets hx hb hZ hS hown (hts _ hl) (fun _ h => h) hd0 ?_
    refine lv_iload_n hx hb hd1 rfl (hL.at hlo) ?_
    exact va_ti hx hb hT hS hin hgv hd2 (k v p e s m args below meth cd H locs arr r σ' X hz hR hS hL hK)
/-- the script, read -/
def scrLd (D : DG) (i : Int32) : Option Int32 := if i < 0 ∨ D.2.2.2.1 ≤ i.toNatClampNeg then none else some (D.2.2.2.2 i.toNatClampNeg)
theorem V_scr {i : Int32} {K : Int32 → Option (α × SG)} (hd : decode cc pc = .ok (.iaload, 1))
    (k : ∀ v : Int32, V D z0 l own cc nL Ts ret rm ct toV (pc + 1) ls (.int v :: st) σ cells slots (K v)) : V D z0 l own cc nL Ts ret rm ct toV pc ls (.int i :: .ref D.2.2.1 :: st) σ cells slots ((scrLd D i).bind K) := by
  unfold scrLd
  split
  · exact V_none
  next hin =>
    intro p e s m args below meth cd H locs arr r σ' X hz hR hS hL hK
    obtain ⟨hx, hb, hml, hown, hts, hrt, hlk, hct, hE, hSF, hz0⟩ := id X
    have hX := hSF.2.1
    have hbl : D.2.2.1 < s.heap.size := Nat.lt_of_lt_of_le hSF.2.2 hz0
    exact va_sld hx hb hX hbl (by have := hSF.2.2; omega) hS hin hd (k _ p e s m args below meth cd H locs arr r σ' X hz hR hS hL hK)
theorem V_scrlen {K : Int32 → Option (α × SG)} (hd : decode cc pc = .ok (.arraylength, 1))
    (k : V D z0 l own cc nL Ts ret rm ct toV (pc + 1) ls (.int (Int32.ofNat D.2.2.2.1) :: st) σ cells slots (K (Int32.ofNat D.2.2.2.1))) : V D z0 l own cc nL Ts ret rm ct toV pc ls (.ref D.2.2.1 :: st) σ cells slots ((some (Int32.ofNat D.2.2.2.1)).bind K) := by
  intro p e s m args below meth cd H locs arr r σ' X hz hR hS hL hK
  obtain ⟨hx, hb, hml, hown, hts, hrt, hlk, hct, hE, hSF, hz0⟩ := id X
  have hX := hSF.2.1
  have hbl : D.2.2.1 < s.heap.size := Nat.lt_of_lt_of_le hSF.2.2 hz0
  exact va_slen hx hb hX hbl (by have := hSF.2.2; omega) hS hd (k p e s m args below meth cd H locs arr r σ' X hz hR hS hL hK)
end VNEW
