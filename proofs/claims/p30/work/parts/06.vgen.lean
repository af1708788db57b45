/-! THE V LAYER, fifth text: what the printed parts use -/
def sNN (x : Option Nat) : Option Unit := match x with
  | none => none
  | some _ => some ()
def sRoom (lim mc : Nat) (σ : SG) : Option Unit := if σ.2 + mc ≤ lim then some () else none
def sSame (n m : Nat) : Option Unit := if n = m then some () else none
def sFdiv (x y : UInt32) : Option UInt32 := if (FP.fdiv x y) &&& 0x7fffffff ≤ 0x7f800000 then some (FP.fdiv x y) else none
def itF {F : Type} (bot : F) (step : F → F) : Nat → F
  | 0 => bot
  | n + 1 => step (itF bot step n)
theorem itF_succ {F : Type} (bot : F) (step : F → F) (n : Nat) : itF bot step (n + 1) = step (itF bot step n) := rfl
abbrev tvI : Int32 → Option Value := fun r => some (.int r)
abbrev tvR : Option Nat → Option Value := fun r => some (va_rf r)
abbrev tvF : UInt32 → Option Value := fun r => some (.float r)
abbrev tvU : Unit → Option Value := fun _ => none
def LE : List (Option Value) → List (Option Value) → Prop
  | [], [] => True
  | a :: as, b :: bs => (b = none ∨ b = a) ∧ LE as bs
  | _, _ => False
theorem LE.len : ∀ {ls ls' : List (Option Value)}, LE ls ls' → ls'.length = ls.length
  | [], [], _ => rfl
  | _ :: _, _ :: _, h => by simp [LE.len h.2]
  | [], _ :: _, h => h.elim
  | _ :: _, [], h => h.elim
theorem LE.at : ∀ {ls ls' : List (Option Value)}, LE ls ls' → ∀ (i : Nat) (v : Value), ls'[i]? = some (some v) → ls[i]? = some (some v)
  | [], [], _ => fun i v h => by simp at h
  | a :: as, b :: bs, h => fun i v hi => by
    cases i with
    | zero =>
      rcases h.1 with h1 | h1
      · subst h1; simp at hi
      · subst h1; simpa using hi
    | succ i => simpa using LE.at h.2 i v (by simpa using hi)
  | [], _ :: _, h => h.elim
  | _ :: _, [], h => h.elim
theorem LE.e : LE [] [] := trivial
theorem LE.n {a : Option Value} {as bs : List (Option Value)} (h : LE as bs) : LE (a :: as) (none :: bs) := ⟨Or.inl rfl, h⟩
theorem LE.s {a : Option Value} {as bs : List (Option Value)} (h : LE as bs) : LE (a :: as) (a :: bs) := ⟨Or.inr rfl, h⟩
section VGEN
variable {α β : Type} {D : DG} {z0 szE : Nat} {l : Launch} {own : String} {cc : ByteArray} {nL : Nat} {Ts : List Cond} {ret : Option FieldType} {rm : Room} {ct : Bool} {toV : α → Option Value} {pc : Nat} {ls : List (Option Value)} {st : List Value} {σ : SG} {cells slots : Nat}
theorem V_sub {ls' : List (Option Value)} {K : Option (α × SG)} (h : LE ls ls') (k : V D z0 l own cc nL Ts ret rm ct toV pc ls' st σ cells slots K) : V D z0 l own cc nL Ts ret rm ct toV pc ls st σ cells slots K := by
  intro p e s m args below meth c H locs arr r σ' X hz hR hS hL hK
  refine k p e s m args below meth c H locs arr r σ' X hz hR hS ⟨⟨hL.1.1, hL.1.2.1, fun q hq => ?_⟩, h.len.trans hL.2.1, fun i v hi => hL.2.2 i v (h.at i v hi)⟩ hK
  obtain ⟨i, v⟩ := q
  exact hL.at (h.at i v (LVl_in.mp hq))
theorem V_fdiv {x y : UInt32} {K : UInt32 → Option (α × SG)} (hd : decode cc pc = .ok (.fdiv, 1)) (k : ∀ v : UInt32, V D z0 l own cc nL Ts ret rm ct toV (pc + 1) ls (.float v :: st) σ cells slots (K v)) : V D z0 l own cc nL Ts ret rm ct toV pc ls (.float y :: .float x :: st) σ cells slots ((sFdiv x y).bind K) := by
  unfold sFdiv
  split
  next h => exact V.step (fun hx hb _ w => lv_fdiv hx hb hd h w) (k _)
  · exact V_none
theorem V_objinitN {idx : Nat} {x : Option Nat} {st0 : List Value} {K : Unit → Option (α × SG)} (hlink : Cond.methodLink own idx Lib.objectInit ∈ Ts) (hinst : Cond.instanceMethod Lib.objectInit ∈ Ts) (hcode : Cond.code Lib.objectInit ⟨#[0xb1]⟩ 1 none ∈ Ts) (hfr : 1 ≤ rm.frames) (hlo : (st0.map fun v => v.category).sum + 12 ≤ rm.locals) (hd : decode cc pc = .ok (.invokespecial idx, 3))
    (k : V D z0 l own cc nL Ts ret rm ct toV (pc + 3) ls st0 σ cells slots (K ())) : V D z0 l own cc nL Ts ret rm ct toV pc ls (va_rf x :: st0) σ cells slots ((sNN x).bind K) := by
  cases x with
  | none => exact V_none
  | some a => exact V_objinit hlink hinst hcode hfr hlo hd k
theorem V_putIT2 {cs : List Nat} {j idx : Nat} {x : Option Nat} {v : Int32} {fin : Bool} {K : SG → Option (α × SG)} (hF : ∀ ci ∈ cs, FD own idx Ts ci j ∧ FW own Ts ci j .int fin) (hct : fin = true → ct = true) (hd : decode cc pc = .ok (.putfield idx, 3))
    (k : ∀ σ1 : SG, σ1.2 = σ.2 → V D z0 l own cc nL Ts ret rm ct toV (pc + 3) ls st σ1 cells slots (K σ1)) : V D z0 l own cc nL Ts ret rm ct toV pc ls (.int v :: va_rf x :: st) σ cells slots ((sPutIT x cs j v σ).bind K) := by
  unfold sPutIT
  split
  · exact V_none
  next a =>
    split
    next c fs ha =>
      split
      next hc =>
        split
        next hl =>
          cases fin with
          | true => exact V.putvF (hF c hc).1 (hF c hc).2 (hct rfl) hd ha hl rfl rfl (k _ rfl)
          | false => exact V.putv (hF c hc).1 (hF c hc).2 hd ha hl rfl rfl (k _ rfl)
        · exact V_none
      · exact V_none
    · exact V_none
theorem LE3 {P : Nat → Prop} (h1 : P 1) (h2 : P 2) (h6 : P 6) : ∀ ci ∈ [1, 2, 6], P ci := List.forall_mem_cons.mpr ⟨h1, List.forall_mem_cons.mpr ⟨h2, List.forall_mem_cons.mpr ⟨h6, fun _ h => absurd h List.not_mem_nil⟩⟩⟩
/-- in a method that makes cells: a call, with its budget looked at ahead and behind -/
theorem V.room {lim mc : Nat} {K : Unit → Option (α × SG)} (hB : CB rm szE σ cells slots) (hlim : lim = szE + rm.cells) (k : cells + mc ≤ rm.cells → slots + 800 * mc ≤ rm.slots → V D z0 l own cc nL Ts ret rm ct toV pc ls st σ cells slots (K ())) : V D z0 l own cc nL Ts ret rm ct toV pc ls st σ cells slots ((sRoom lim mc σ).bind K) := by
  unfold sRoom
  obtain ⟨b1, b2, b3⟩ := hB
  split
  next h => exact k (by omega) (by rw [b3]; omega)
  · exact V_none
theorem V.same {n m : Nat} {K : Unit → Option (α × SG)} (k : n = m → V D z0 l own cc nL Ts ret rm ct toV pc ls st σ cells slots (K ())) : V D z0 l own cc nL Ts ret rm ct toV pc ls st σ cells slots ((sSame n m).bind K) := by
  unfold sSame
  split
  next h => exact k h
  · exact V_none
theorem CB.call {σ1 : SG} {rm' : Room} {mc : Nat} (h : CB rm szE σ cells slots) (hc : rm'.cells = mc) (hs : rm'.slots = 800 * mc) (e : σ1.2 = σ.2 + mc) : CB rm szE σ1 (cells + rm'.cells) (slots + rm'.slots) := by
  obtain ⟨b1, b2, b3⟩ := h
  exact ⟨by rw [hc, e]; omega, by rw [hc, hs]; omega, b3⟩
theorem CB.start (h : rm.slots = 800 * rm.cells) : CB rm σ.2 σ 0 0 := ⟨Nat.zero_add _, Nat.zero_le _, h⟩
theorem V_callV0 {toV' : β → Option Value} {y : MethodName} {ws : List Cond} {rm' : Room} {bytes : ByteArray} {maxL idx n ci : Nat} {ret' : Option FieldType} {q : vw_C} {C : String} {x : Option Nat} {As st0 stI : List Value} {F : Option (β × SG)} {K : β → SG → Option (α × SG)}
    (hM : ∀ a, x = some a → MT D z0 l y ws rm' toV' (.ref a :: As) σ F) (hc : vwCl[ci]? = some q) (hC : q.1 = C) (hst : stI = As.reverse ++ va_rf x :: st0) (hsum : (st0.map fun v => v.category).sum ≤ 8) (hn : As.length = n)
    (hcw : ∀ (s : State) (args : Array Value), (∀ w ∈ Ts, w.before args s = true) → CallW rm s args own C idx y bytes maxL ret' ws rm' rm'.cells rm'.slots n) (h0 : rm'.cells = 0) (h1 : rm'.slots = 0)
    (hd : decode cc pc = .ok (.invokevirtual idx, 3))
    (k : ∀ (r' : β) (σ1 : SG), F = some (r', σ1) → V D z0 l own cc nL Ts ret rm ct toV (pc + 3) ls ((toV' r').toList ++ st0) σ1 0 0 (K r' σ1)) : V D z0 l own cc nL Ts ret rm ct toV pc ls stI σ 0 0 ((sObj x ci σ).bind fun _ => bnd F K) :=
  V_callV hM hc hC hst hsum hn hcw ⟨by rw [h0]; exact Nat.zero_le _, by rw [h1]; exact Nat.zero_le _⟩ hd (fun r' σ1 hF => by rw [h0, h1]; exact k r' σ1 hF)
theorem V_callU0 {toV' : β → Option Value} {xm y : MethodName} {ws : List Cond} {rm' : Room} {bytes : ByteArray} {maxL idx n ci : Nat} {ret' : Option FieldType} {q : vw_C} {C owner : String} {x : Option Nat} {As st0 stI : List Value} {F : Option (β × SG)} {K : β → SG → Option (α × SG)}
    (hM : ∀ a, x = some a → MT D z0 l y ws rm' toV' (.ref a :: As) σ F) (hc : vwCl[ci]? = some q) (hC : q.1 = C) (hst : stI = As.reverse ++ va_rf x :: st0) (hsum : (st0.map fun v => v.category).sum ≤ 8) (hn : As.length = n)
    (hcw : ∀ (s : State) (args : Array Value), (∀ w ∈ Ts, w.before args s = true) → va_CU rm s args own C owner idx xm y bytes maxL ret' ws rm' rm'.cells rm'.slots n) (h0 : rm'.cells = 0) (h1 : rm'.slots = 0)
    (hd : decode cc pc = .ok (.invokevirtual idx, 3))
    (k : ∀ (r' : β) (σ1 : SG), F = some (r', σ1) → V D z0 l own cc nL Ts ret rm ct toV (pc + 3) ls ((toV' r').toList ++ st0) σ1 0 0 (K r' σ1)) : V D z0 l own cc nL Ts ret rm ct toV pc ls stI σ 0 0 ((sObj x ci σ).bind fun _ => bnd F K) :=
  V_callU hM hc hC hst hsum hn hcw ⟨by rw [h0]; exact Nat.zero_le _, by rw [h1]; exact Nat.zero_le _⟩ hd (fun r' σ1 hF => by rw [h0, h1]; exact k r' σ1 hF)
theorem V_callS0 {toV' : β → Option Value} {y : MethodName} {ws : List Cond} {rm' : Room} {bytes : ByteArray} {maxL idx n : Nat} {ret' : Option FieldType} {As st0 stI : List Value} {F : Option (β × SG)} {K : β → SG → Option (α × SG)}
    (hM : MT D z0 l y ws rm' toV' As σ F) (hst : stI = As.reverse ++ st0) (hsum : (st0.map fun v => v.category).sum ≤ 8) (hn : As.length = n)
    (hcw : ∀ (s : State) (args : Array Value), (∀ w ∈ Ts, w.before args s = true) → CallB rm s args own idx y bytes maxL ret' ws rm' rm'.cells rm'.slots n ∧ (Cond.static y).before args s = true) (h0 : rm'.cells = 0) (h1 : rm'.slots = 0)
    (hd : decode cc pc = .ok (.invokestatic idx, 3))
    (k : ∀ (r' : β) (σ1 : SG), F = some (r', σ1) → V D z0 l own cc nL Ts ret rm ct toV (pc + 3) ls ((toV' r').toList ++ st0) σ1 0 0 (K r' σ1)) : V D z0 l own cc nL Ts ret rm ct toV pc ls stI σ 0 0 (bnd F K) :=
  V_callS hM hst hsum hn hcw ⟨by rw [h0]; exact Nat.zero_le _, by rw [h1]; exact Nat.zero_le _⟩ hd (fun r' σ1 hF => by rw [h0, h1]; exact k r' σ1 hF)
theorem V_callSN0 {toV' : β → Option Value} {y : MethodName} {host : String} {ws : List Cond} {rm' : Room} {bytes : ByteArray} {maxL idx n : Nat} {ret' : Option FieldType} {As st0 stI : List Value} {F : Option (β × SG)} {K : β → SG → Option (α × SG)}
    (hM : MT D z0 l y ws rm' toV' As σ F) (hst : stI = As.reverse ++ st0) (hsum : (st0.map fun v => v.category).sum ≤ 8) (hn : As.length = n) (hnest : (own, idx, y, host) ∈ nestL)
    (hcw : ∀ (s : State) (args : Array Value), (∀ w ∈ Ts, w.before args s = true) → va_Nw (.methodLinkNest own idx y host) s → va_CN rm s args own idx y host bytes maxL ret' ws rm' rm'.cells rm'.slots n ∧ (Cond.static y).before args s = true ∧ True) (h0 : rm'.cells = 0) (h1 : rm'.slots = 0)
    (hd : decode cc pc = .ok (.invokestatic idx, 3))
    (k : ∀ (r' : β) (σ1 : SG), F = some (r', σ1) → V D z0 l own cc nL Ts ret rm ct toV (pc + 3) ls ((toV' r').toList ++ st0) σ1 0 0 (K r' σ1)) : V D z0 l own cc nL Ts ret rm ct toV pc ls stI σ 0 0 (bnd F K) :=
  V_callSN hM hst hsum hn hnest hcw ⟨by rw [h0]; exact Nat.zero_le _, by rw [h1]; exact Nat.zero_le _⟩ hd (fun r' σ1 hF => by rw [h0, h1]; exact k r' σ1 hF)
theorem V_callI0 {toV' : β → Option Value} {y : MethodName} {ws : List Cond} {rm' : Room} {bytes : ByteArray} {maxL idx n ci : Nat} {x : Option Nat} {As st0 stI : List Value} {F : Option (β × SG)} {K : β → SG → Option (α × SG)}
    (hM : ∀ a, x = some a → MT D z0 l y ws rm' toV' (.ref a :: As) σ F) (hst : stI = As.reverse ++ va_rf x :: st0) (hsum : (st0.map fun v => v.category).sum ≤ 8) (hn : As.length = n)
    (hcw : ∀ (s : State) (args : Array Value), (∀ w ∈ Ts, w.before args s = true) → CallB rm s args own idx y bytes maxL none ws rm' rm'.cells rm'.slots n ∧ y.name = "<init>" ∧ (Cond.instanceMethod y).before args s = true) (h0 : rm'.cells = 0) (h1 : rm'.slots = 0)
    (hd : decode cc pc = .ok (.invokespecial idx, 3))
    (k : ∀ (r' : β) (σ1 : SG), F = some (r', σ1) → V D z0 l own cc nL Ts ret rm ct toV (pc + 3) ls ((toV' r').toList ++ st0) σ1 0 0 (K r' σ1)) : V D z0 l own cc nL Ts ret rm ct toV pc ls stI σ 0 0 ((sObj x ci σ).bind fun _ => bnd F K) :=
  V_callI hM hst hsum hn hcw ⟨by rw [h0]; exact Nat.zero_le _, by rw [h1]; exact Nat.zero_le _⟩ hd (fun r' σ1 hF => by rw [h0, h1]; exact k r' σ1 hF)
theorem V_callIN0 {toV' : β → Option Value} {y : MethodName} {host : String} {ws : List Cond} {rm' : Room} {bytes : ByteArray} {maxL idx n ci : Nat} {x : Option Nat} {As st0 stI : List Value} {F : Option (β × SG)} {K : β → SG → Option (α × SG)}
    (hM : ∀ a, x = some a → MT D z0 l y ws rm' toV' (.ref a :: As) σ F) (hst : stI = As.reverse ++ va_rf x :: st0) (hsum : (st0.map fun v => v.category).sum ≤ 8) (hn : As.length = n) (hnest : (own, idx, y, host) ∈ nestL)
    (hcw : ∀ (s : State) (args : Array Value), (∀ w ∈ Ts, w.before args s = true) → va_Nw (.methodLinkNest own idx y host) s → va_CN rm s args own idx y host bytes maxL none ws rm' rm'.cells rm'.slots n ∧ y.name = "<init>" ∧ (Cond.instanceMethod y).before args s = true) (h0 : rm'.cells = 0) (h1 : rm'.slots = 0)
    (hd : decode cc pc = .ok (.invokespecial idx, 3))
    (k : ∀ (r' : β) (σ1 : SG), F = some (r', σ1) → V D z0 l own cc nL Ts ret rm ct toV (pc + 3) ls ((toV' r').toList ++ st0) σ1 0 0 (K r' σ1)) : V D z0 l own cc nL Ts ret rm ct toV pc ls stI σ 0 0 ((sObj x ci σ).bind fun _ => bnd F K) :=
  V_callIN hM hst hsum hn hnest hcw ⟨by rw [h0]; exact Nat.zero_le _, by rw [h1]; exact Nat.zero_le _⟩ hd (fun r' σ1 hF => by rw [h0, h1]; exact k r' σ1 hF)
end VGEN
