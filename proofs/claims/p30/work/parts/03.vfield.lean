section VBR
variable {α : Type} {D : DG} {z0 : Nat} {l : Launch} {own : String} {cc : ByteArray} {nL : Nat} {Ts : List Cond} {ret : Option FieldType} {rm : Room} {ct : Bool} {toV : α → Option Value} {pc : Nat} {ls : List (Option Value)} {st : List Value} {σ : SG} {cells slots : Nat} {K K1 K2 : Option (α × SG)}
theorem V_if_eq {x : Int32} {off : Int} {tgt : Nat} (hd : decode cc pc = .ok (.ifCond .eq off, 3)) (ht : (pc : Int) + off = (tgt : Int)) (k1 : x = 0 → V D z0 l own cc nL Ts ret rm ct toV tgt ls st σ cells slots K1) (k2 : ¬ (x = 0) → V D z0 l own cc nL Ts ret rm ct toV (pc + 3) ls st σ cells slots K2) : V D z0 l own cc nL Ts ret rm ct toV pc ls (.int x :: st) σ cells slots (if x = 0 then K1 else K2) :=
  V.br (fun hx hb a b => lv_if_eq hx hb hd ht a b) k1 k2
theorem V_icmp_eq {x y : Int32} {off : Int} {tgt : Nat} (hd : decode cc pc = .ok (.if_icmp .eq off, 3)) (ht : (pc : Int) + off = (tgt : Int)) (k1 : x = y → V D z0 l own cc nL Ts ret rm ct toV tgt ls st σ cells slots K1) (k2 : ¬ (x = y) → V D z0 l own cc nL Ts ret rm ct toV (pc + 3) ls st σ cells slots K2) : V D z0 l own cc nL Ts ret rm ct toV pc ls (.int y :: .int x :: st) σ cells slots (if x = y then K1 else K2) :=
  V.br (fun hx hb a b => lv_icmp_eq hx hb hd ht a b) k1 k2
theorem V_if_ne {x : Int32} {off : Int} {tgt : Nat} (hd : decode cc pc = .ok (.ifCond .ne off, 3)) (ht : (pc : Int) + off = (tgt : Int)) (k1 : x = 0 → V D z0 l own cc nL Ts ret rm ct toV (pc + 3) ls st σ cells slots K1) (k2 : ¬ (x = 0) → V D z0 l own cc nL Ts ret rm ct toV tgt ls st σ cells slots K2) : V D z0 l own cc nL Ts ret rm ct toV pc ls (.int x :: st) σ cells slots (if x = 0 then K1 else K2) :=
  V.br (fun hx hb a b => lv_if_ne hx hb hd ht b a) k1 k2
theorem V_icmp_ne {x y : Int32} {off : Int} {tgt : Nat} (hd : decode cc pc = .ok (.if_icmp .ne off, 3)) (ht : (pc : Int) + off = (tgt : Int)) (k1 : x = y → V D z0 l own cc nL Ts ret rm ct toV (pc + 3) ls st σ cells slots K1) (k2 : ¬ (x = y) → V D z0 l own cc nL Ts ret rm ct toV tgt ls st σ cells slots K2) : V D z0 l own cc nL Ts ret rm ct toV pc ls (.int y :: .int x :: st) σ cells slots (if x = y then K1 else K2) :=
  V.br (fun hx hb a b => lv_icmp_ne hx hb hd ht b a) k1 k2
theorem V_if_lt {x : Int32} {off : Int} {tgt : Nat} (hd : decode cc pc = .ok (.ifCond .lt off, 3)) (ht : (pc : Int) + off = (tgt : Int)) (k1 : x < 0 → V D z0 l own cc nL Ts ret rm ct toV tgt ls st σ cells slots K1) (k2 : ¬ (x < 0) → V D z0 l own cc nL Ts ret rm ct toV (pc + 3) ls st σ cells slots K2) : V D z0 l own cc nL Ts ret rm ct toV pc ls (.int x :: st) σ cells slots (if x < 0 then K1 else K2) :=
  V.br (fun hx hb a b => lv_if_lt hx hb hd ht a b) k1 k2
theorem V_icmp_lt {x y : Int32} {off : Int} {tgt : Nat} (hd : decode cc pc = .ok (.if_icmp .lt off, 3)) (ht : (pc : Int) + off = (tgt : Int)) (k1 : x < y → V D z0 l own cc nL Ts ret rm ct toV tgt ls st σ cells slots K1) (k2 : ¬ (x < y) → V D z0 l own cc nL Ts ret rm ct toV (pc + 3) ls st σ cells slots K2) : V D z0 l own cc nL Ts ret rm ct toV pc ls (.int y :: .int x :: st) σ cells slots (if x < y then K1 else K2) :=
  V.br (fun hx hb a b => lv_icmp_lt hx hb hd ht a b) k1 k2
theorem V_if_ge {x : Int32} {off : Int} {tgt : Nat} (hd : decode cc pc = .ok (.ifCond .ge off, 3)) (ht : (pc : Int) + off = (tgt : Int)) (k1 : 0 ≤ x → V D z0 l own cc nL Ts ret rm ct toV tgt ls st σ cells slots K1) (k2 : ¬ (0 ≤ x) → V D z0 l own cc nL Ts ret rm ct toV (pc + 3) ls st σ cells slots K2) : V D z0 l own cc nL Ts ret rm ct toV pc ls (.int x :: st) σ cells slots (if 0 ≤ x then K1 else K2) :=
  V.br (fun hx hb a b => lv_if_ge hx hb hd ht a b) k1 k2
theorem V_icmp_ge {x y : Int32} {off : Int} {tgt : Nat} (hd : decode cc pc = .ok (.if_icmp .ge off, 3)) (ht : (pc : Int) + off = (tgt : Int)) (k1 : y ≤ x → V D z0 l own cc nL Ts ret rm ct toV tgt ls st σ cells slots K1) (k2 : ¬ (y ≤ x) → V D z0 l own cc nL Ts ret rm ct toV (pc + 3) ls st σ cells slots K2) : V D z0 l own cc nL Ts ret rm ct toV pc ls (.int y :: .int x :: st) σ cells slots (if y ≤ x then K1 else K2) :=
  V.br (fun hx hb a b => lv_icmp_ge hx hb hd ht a b) k1 k2
theorem V_if_gt {x : Int32} {off : Int} {tgt : Nat} (hd : decode cc pc = .ok (.ifCond .gt off, 3)) (ht : (pc : Int) + off = (tgt : Int)) (k1 : 0 < x → V D z0 l own cc nL Ts ret rm ct toV tgt ls st σ cells slots K1) (k2 : ¬ (0 < x) → V D z0 l own cc nL Ts ret rm ct toV (pc + 3) ls st σ cells slots K2) : V D z0 l own cc nL Ts ret rm ct toV pc ls (.int x :: st) σ cells slots (if 0 < x then K1 else K2) :=
  V.br (fun hx hb a b => lv_if_gt hx hb hd ht a b) k1 k2
theorem V_icmp_gt {x y : Int32} {off : Int} {tgt : Nat} (hd : decode cc pc = .ok (.if_icmp .gt off, 3)) (ht : (pc : Int) + off = (tgt : Int)) (k1 : y < x → V D z0 l own cc nL Ts ret rm ct toV tgt ls st σ cells slots K1) (k2 : ¬ (y < x) → V D z0 l own cc nL Ts ret rm ct toV (pc + 3) ls st σ cells slots K2) : V D z0 l own cc nL Ts ret rm ct toV pc ls (.int y :: .int x :: st) σ cells slots (if y < x then K1 else K2) :=
  V.br (fun hx hb a b => lv_icmp_gt hx hb hd ht a b) k1 k2
theorem V_if_le {x : Int32} {off : Int} {tgt : Nat} (hd : decode cc pc = .ok (.ifCond .le off, 3)) (ht : (pc : Int) + off = (tgt : Int)) (k1 : x ≤ 0 → V D z0 l own cc nL Ts ret rm ct toV tgt ls st σ cells slots K1) (k2 : ¬ (x ≤ 0) → V D z0 l own cc nL Ts ret rm ct toV (pc + 3) ls st σ cells slots K2) : V D z0 l own cc nL Ts ret rm ct toV pc ls (.int x :: st) σ cells slots (if x ≤ 0 then K1 else K2) :=
  V.br (fun hx hb a b => lv_if_le hx hb hd ht a b) k1 k2
theorem V_icmp_le {x y : Int32} {off : Int} {tgt : Nat} (hd : decode cc pc = .ok (.if_icmp .le off, 3)) (ht : (pc : Int) + off = (tgt : Int)) (k1 : x ≤ y → V D z0 l own cc nL Ts ret rm ct toV tgt ls st σ cells slots K1) (k2 : ¬ (x ≤ y) → V D z0 l own cc nL Ts ret rm ct toV (pc + 3) ls st σ cells slots K2) : V D z0 l own cc nL Ts ret rm ct toV pc ls (.int y :: .int x :: st) σ cells slots (if x ≤ y then K1 else K2) :=
  V.br (fun hx hb a b => lv_icmp_le hx hb hd ht a b) k1 k2
theorem V_ifnull {x : Option Nat} {off : Int} {tgt : Nat} (hd : decode cc pc = .ok (.ifnull off, 3)) (ht : (pc : Int) + off = (tgt : Int)) (k1 : x = none → V D z0 l own cc nL Ts ret rm ct toV tgt ls st σ cells slots K1) (k2 : ¬ (x = none) → V D z0 l own cc nL Ts ret rm ct toV (pc + 3) ls st σ cells slots K2) : V D z0 l own cc nL Ts ret rm ct toV pc ls (va_rf x :: st) σ cells slots (if x = none then K1 else K2) := by
  cases x with
  | none =>
    rw [if_pos rfl]
    exact V.step (fun hx hb _ w => lv_ifnullN hx hb hd ht w) (k1 rfl)
  | some a =>
    rw [if_neg (by simp)]
    exact V.step (fun hx hb _ w => lv_ifnull hx hb hd w) (k2 (by simp))
theorem V_ifnonnull {x : Option Nat} {off : Int} {tgt : Nat} (hd : decode cc pc = .ok (.ifnonnull off, 3)) (ht : (pc : Int) + off = (tgt : Int)) (k1 : x = none → V D z0 l own cc nL Ts ret rm ct toV (pc + 3) ls st σ cells slots K1) (k2 : ¬ (x = none) → V D z0 l own cc nL Ts ret rm ct toV tgt ls st σ cells slots K2) : V D z0 l own cc nL Ts ret rm ct toV pc ls (va_rf x :: st) σ cells slots (if x = none then K1 else K2) := by
  cases x with
  | none =>
    rw [if_pos rfl]
    exact V.step (fun hx hb _ w => lv_ifnonnullN hx hb hd w) (k1 rfl)
  | some a =>
    rw [if_neg (by simp)]
    exact V.step (fun hx hb _ w => lv_ifnonnull hx hb hd ht w) (k2 (by simp))
end VBR
/-! THE V LAYER, second text: what reads and writes the map -/
def sGetI (x : Option Nat) (ci j : Nat) (σ : SG) : Option Int32 := match x with
  | none => none
  | some a => match σ.1 a with
    | some (.inl (c, fs)) => if c = ci then (match fs[j]? with | some (.int v) => some v | _ => none) else none
    | _ => none
def sGetR (x : Option Nat) (ci j : Nat) (σ : SG) : Option (Option Nat) := match x with
  | none => none
  | some a => match σ.1 a with
    | some (.inl (c, fs)) => if c = ci then (match fs[j]? with | some (.ref b) => some (some b) | some .null => some none | _ => none) else none
    | _ => none
def sPutV (x : Option Nat) (ci j : Nat) (v : Value) (σ : SG) : Option SG := match x with
  | none => none
  | some a => match σ.1 a with
    | some (.inl (c, fs)) => if c = ci then (if j < fs.length then some (hup σ.1 a (.inl (c, fs.set j v)), σ.2) else none) else none
    | _ => none
def sPutI (x : Option Nat) (ci j : Nat) (v : Int32) (σ : SG) : Option SG := sPutV x ci j (.int v) σ
def sPutZ (x : Option Nat) (ci j : Nat) (v : Int32) (σ : SG) : Option SG := if v = 0 ∨ v = 1 then sPutV x ci j (.int v) σ else none
def sPutR (x : Option Nat) (ci j : Nat) (v : Option Nat) (σ : SG) : Option SG := sPutV x ci j (va_rf v) σ
/-- a field that the first class of the system's own declares, read of any of its subclasses (their places in vwCl) -/
def sGetIT (x : Option Nat) (cs : List Nat) (j : Nat) (σ : SG) : Option Int32 := match x with
  | none => none
  | some a => match σ.1 a with
    | some (.inl (c, fs)) => if c ∈ cs then (match fs[j]? with | some (.int v) => some v | _ => none) else none
    | _ => none
def sPutZT (x : Option Nat) (cs : List Nat) (j : Nat) (v : Int32) (σ : SG) : Option SG := match x with
  | none => none
  | some a => match σ.1 a with
    | some (.inl (c, fs)) => if c ∈ cs then (if v = 0 ∨ v = 1 then (if j < fs.length then some (hup σ.1 a (.inl (c, fs.set j (.int v))), σ.2) else none) else none) else none
    | _ => none
def sPutIT (x : Option Nat) (cs : List Nat) (j : Nat) (v : Int32) (σ : SG) : Option SG := match x with
  | none => none
  | some a => match σ.1 a with
    | some (.inl (c, fs)) => if c ∈ cs then (if j < fs.length then some (hup σ.1 a (.inl (c, fs.set j (.int v))), σ.2) else none) else none
    | _ => none
def sObj (x : Option Nat) (ci : Nat) (σ : SG) : Option Unit := match x with
  | none => none
  | some a => match σ.1 a with
    | some (.inl (c, _)) => if c = ci then some () else none
    | _ => none
def sInst (x : Option Nat) (ci : Nat) (σ : SG) : Option Int32 := match x with
  | none => some 0
  | some _ => (sObj x ci σ).bind fun _ => some 1
def sCast (x : Option Nat) (ci : Nat) (σ : SG) : Option Unit := match x with
  | none => some ()
  | some _ => sObj x ci σ
def sLen (x : Option Nat) (σ : SG) : Option Int32 := match x with
  | none => none
  | some a => match σ.1 a with
    | some (.inr (k, n, _)) => if k < 8 then some (Int32.ofNat n) else none
    | _ => none
def sAld (x : Option Nat) (k : Nat) (i : Int32) (σ : SG) : Option Int32 := match x with
  | none => none
  | some a => match σ.1 a with
    | some (.inr (k', n, .inl f)) => if k' = k then (if i < 0 ∨ n ≤ i.toNatClampNeg then none else some (f i.toNatClampNeg)) else none
    | _ => none
def sAst (x : Option Nat) (k : Nat) (i v : Int32) (σ : SG) : Option SG := match x with
  | none => none
  | some a => match σ.1 a with
    | some (.inr (k', n, .inl f)) => if k' = k then (if i < 0 ∨ n ≤ i.toNatClampNeg then none else some (hup σ.1 a (.inr (k', n, .inl (upd f i.toNatClampNeg v))), σ.2)) else none
    | _ => none
def sAldR (x : Option Nat) (i : Int32) (σ : SG) : Option (Option Nat) := match x with
  | none => none
  | some a => match σ.1 a with
    | some (.inr (k', n, .inr f)) => if 3 ≤ k' ∧ k' < 8 then (if i < 0 ∨ n ≤ i.toNatClampNeg then none else some (f i.toNatClampNeg)) else none
    | _ => none
/-- the class of which an array of references is -/
def kci : Nat → Nat
  | 3 => 1
  | 4 => 2
  | 5 => 3
  | 6 => 4
  | _ => 6
def sAstR (x : Option Nat) (i : Int32) (v : Option Nat) (σ : SG) : Option SG := match x with
  | none => none
  | some a => match σ.1 a with
    | some (.inr (k', n, .inr f)) => if 3 ≤ k' ∧ k' < 8 then (if i < 0 ∨ n ≤ i.toNatClampNeg then none else (sObj v (kci k') σ).bind fun _ => some (hup σ.1 a (.inr (k', n, .inr (va_up f i.toNatClampNeg v))), σ.2)) else none
    | _ => none
/-- what is made: the budget lim is the heap's size behind it at most -/
def sNew (lim : Nat) (e : CE) (σ : SG) : Option (Option Nat × SG) := if σ.2 + 1 ≤ lim then some (some σ.2, (hup σ.1 σ.2 e, σ.2 + 1)) else none
def sNewA (lim : Nat) (k : Nat) (n : Int32) (σ : SG) : Option (Option Nat × SG) := if n < 0 ∨ 800 < n.toNatClampNeg then none else sNew lim (.inr (k, n.toNatClampNeg, .inl (fun _ => 0))) σ
def sNewQ (lim : Nat) (k : Nat) (n : Int32) (σ : SG) : Option (Option Nat × SG) := if n < 0 ∨ 800 < n.toNatClampNeg then none else sNew lim (.inr (k, n.toNatClampNeg, .inr (fun _ => none))) σ
def sEnd (lim : Nat) (σ : SG) : Option (Unit × SG) := if σ.2 ≤ lim then some ((), σ) else none
def chkZ (v : Int32) (σ : SG) : Option (Int32 × SG) := if v = 0 ∨ v = 1 then some (v, σ) else none
def lstI (i : Int32) : Option Int32 := if i = 0 then some 0 else if i = 1 then some 0 else if i = 2 then some 1 else if i = 3 then some 1 else none
def mstI (i : Int32) : Option Int32 := if i = 0 then some 9 else if i = 1 then some 9 else if i = 2 then some 9 else if i = 3 then some 3 else none
def swK {β : Type} (x : Int32) : List (Int32 × Option β) → Option β → Option β
  | [], d => d
  | q :: r, d => if x = q.1 then q.2 else swK x r d
/-- a call's answer and what comes behind it -/
def bnd {β γ : Type} (F : Option (β × SG)) (K : β → SG → Option γ) : Option γ := match F with
  | none => none
  | some q => K q.1 q.2
theorem bnd_some {β γ : Type} (r : β) (σ : SG) (K : β → SG → Option γ) : bnd (some (r, σ)) K = K r σ := rfl
theorem bnd_none {β γ : Type} (K : β → SG → Option γ) : bnd none K = none := rfl
/-! the words behind a field's instruction, once for each -/
def FD (own : String) (idx : Nat) (Ts : List Cond) (ci j : Nat) : Prop := ∃ (C ref : String) (T : u_T) (N : Nat), vwCl[ci]? = some (C, T, N) ∧ (∀ w ∈ u_ws C T N, w ∈ Ts) ∧ j < N ∧ Cond.fieldLink own idx ref (T j).2.1 (T j).2.2.1 ∈ Ts ∧ (ref = (T j).1 ∨ Cond.sameField ref (T j).1 (T j).2.1 (T j).2.2.1 ∈ Ts)
def FW (own : String) (Ts : List Cond) (ci j : Nat) (ty : FieldType) (fin : Bool) : Prop := ∃ (C : String) (T : u_T) (N : Nat) (ty0 : Nat → FieldType), vwCl[ci]? = some (C, T, N) ∧ (∀ w ∈ u_ws C T N, w ∈ Ts) ∧ (∀ k, k < N → parseFieldDescriptor (T k).2.2.1 = some (ty0 k)) ∧ (∀ a, a < N → ∀ b, b < N → a ≠ b → (T a).2.1 ≠ (T b).2.1) ∧ (T j).2.2.2 = fin ∧ (fin = true → (T j).1 = own) ∧ parseFieldDescriptor (T j).2.2.1 = some ty
section VFIELD
variable {α : Type} {D : DG} {z0 : Nat} {l : Launch} {own : String} {cc : ByteArray} {nL : Nat} {Ts : List Cond} {ret : Option FieldType} {rm : Room} {ct : Bool} {toV : α → Option Value} {pc : Nat} {ls : List (Option Value)} {st : List Value} {σ : SG} {cells slots : Nat}
theorem V.getv {ci j idx : Nat} {a : Nat} {fs : List Value} {v : Value} {K : Option (α × SG)} (hF : FD own idx Ts ci j) (hd : decode cc pc = .ok (.getfield idx, 3)) (ha : σ.1 a = some (.inl (ci, fs))) (hv : fs[j]? = some v)
    (k : V D z0 l own cc nL Ts ret rm ct toV (pc + 3) ls (v :: st) σ cells slots K) : V D z0 l own cc nL Ts ret rm ct toV pc ls (.ref a :: st) σ cells slots K := by
  obtain ⟨C, ref, T, N, hc, hin, hj, hl, hsm⟩ := hF
  intro p e s m args below meth c H locs arr r σ' X hz hR hS hL hK
  obtain ⟨hx, hb, hml, hown, hts, hrt, hlk, hct, hE, hSF, hz0⟩ := id X
  have hP : va_P D.1 vwCl [(a, .inr (ci, fs))] H := by
    intro k q hk
    cases k with
    | zero => cases hk; exact (hR.2 a _ ha).2
    | succ k => simp at hk
  refine va_get hx hb hts hin hown hE.1 hP 0 rfl hc j hj (hts _ hl) (fun x hx => ?_) hv hd (k p e s m args below meth c H locs arr r σ' X hz hR hS hL hK)
  rcases hsm with h | h
  · rw [h]; exact hx
  · exact u_same (hts _ h) x hx
theorem V_getI {ci j idx : Nat} {x : Option Nat} {K : Int32 → Option (α × SG)} (hF : FD own idx Ts ci j) (hd : decode cc pc = .ok (.getfield idx, 3))
    (k : ∀ v : Int32, V D z0 l own cc nL Ts ret rm ct toV (pc + 3) ls (.int v :: st) σ cells slots (K v)) : V D z0 l own cc nL Ts ret rm ct toV pc ls (va_rf x :: st) σ cells slots ((sGetI x ci j σ).bind K) := by
  unfold sGetI
  split
  · exact V_none
  next a =>
    split
    next c fs ha =>
      split
      next hc =>
        subst hc
        split
        next v hv => exact V.getv hF hd ha hv (k v)
        · exact V_none
      · exact V_none
    · exact V_none
theorem V_getR {ci j idx : Nat} {x : Option Nat} {K : Option Nat → Option (α × SG)} (hF : FD own idx Ts ci j) (hd : decode cc pc = .ok (.getfield idx, 3))
    (k : ∀ v : Option Nat, V D z0 l own cc nL Ts ret rm ct toV (pc + 3) ls (va_rf v :: st) σ cells slots (K v)) : V D z0 l own cc nL Ts ret rm ct toV pc ls (va_rf x :: st) σ cells slots ((sGetR x ci j σ).bind K) := by
  unfold sGetR
  split
  · exact V_none
  next a =>
    split
    next c fs ha =>
      split
      next hc =>
        subst hc
        split
        next v hv => exact V.getv hF hd ha hv (k (some v))
        next hv => exact V.getv hF hd ha hv (k Option.none)
        · exact V_none
      · exact V_none
    · exact V_none
theorem V_getIT {cs : List Nat} {j idx : Nat} {x : Option Nat} {K : Int32 → Option (α × SG)} (hF : ∀ ci ∈ cs, FD own idx Ts ci j) (hd : decode cc pc = .ok (.getfield idx, 3))
    (k : ∀ v : Int32, V D z0 l own cc nL Ts ret rm ct toV (pc + 3) ls (.int v :: st) σ cells slots (K v)) : V D z0 l own cc nL Ts ret rm ct toV pc ls (va_rf x :: st) σ cells slots ((sGetIT x cs j σ).bind K) := by
  unfold sGetIT
  split
  · exact V_none
  next a =>
    split
    next c fs ha =>
      split
      next hc =>
        split
        next v hv => exact V.getv (hF c hc) hd ha hv (k v)
        · exact V_none
      · exact V_none
    · exact V_none
theorem V.putv {ci j idx : Nat} {a : Nat} {fs : List Value} {v : Value} {ty : FieldType} {K : Option (α × SG)} (hF : FD own idx Ts ci j) (hG : FW own Ts ci j ty false) (hd : decode cc pc = .ok (.putfield idx, 3)) (ha : σ.1 a = some (.inl (ci, fs))) (hl : j < fs.length) (hn : narrow ty v = v) (hfit : fits ty v = true)
    (k : V D z0 l own cc nL Ts ret rm ct toV (pc + 3) ls st (hup σ.1 a (.inl (ci, fs.set j v)), σ.2) cells slots K) : V D z0 l own cc nL Ts ret rm ct toV pc ls (v :: .ref a :: st) σ cells slots K := by
  obtain ⟨C, ref, T, N, hc, hin, hj, hlk, hsm⟩ := hF
  obtain ⟨C', T', N', ty0, hc', -, hty, hnm, hfin, -, hpd⟩ := hG
  cases hc.symm.trans hc'
  intro p e s m args below meth c H locs arr r σ' X hz hR hS hL hK
  obtain ⟨hx, hb, hml, hown, hts, hrt, hlk2, hct, hE, hSF, hz0⟩ := id X
  have hap := va_apart (own := own) hts hin ty0 hty hnm hE.1 hc
  obtain ⟨haz, rr, h1, cell, q1, q2, q3, q4⟩ := hR.2 a _ ha
  have hr : rr = (C, T, N) := Option.some.inj (h1.symm.trans hc)
  subst hr
  obtain ⟨hSl, hfc, kC, hkC, hkind⟩ := hE.1.1 ci _ hc
  obtain ⟨cf, kf, fi, f, hi, hsl⟩ := hSl j hj
  have hlay := hts _ (hin _ (u_in_lay hj))
  unfold u_lay at hlay
  rw [if_neg (by rw [hfin]; decide)] at hlay
  have hst := (u_facts hfc hkC (u_lays hts hin hj) hi).1
  have h6 := u_store hfc hkC hkind hlay hi hpd hn hfit
  have hi2 : s.fieldFound? ref (T j).2.1 (T j).2.2.1 = some (cf, kf, fi, f) := by
    rcases hsm with h | h
    · rw [h]; exact hi
    · exact u_same (hts _ h) _ hi
  refine W.putK hx hb (f := f) ⟨hown, hts _ hlk, ⟨_, _, _, hi2⟩, hst⟩ (by rw [q2]; exact h6) q1 q3 (by rw [hsl]; exact k2_hasslot (q4 j hj)) rfl rfl hd fun H' e1 e2 e3 => ?_
  rw [hsl] at e1 ⊢
  exact k p e s m args below meth c H' _ arr r σ' X hz (RP.set (σ := σ) hR ha ⟨_, hc, t_OB.to (V := updV (vp_V fs) j v) ⟨_, e1, q2, q3, t_set q4 hap hj v⟩ (fun i _ => vp_updV_set hl v i)⟩ e2 e3) (hS.put e2 e3 haz) hL hK
theorem V.putvF {ci j idx : Nat} {a : Nat} {fs : List Value} {v : Value} {ty : FieldType} {K : Option (α × SG)} (hF : FD own idx Ts ci j) (hG : FW own Ts ci j ty true) (hct : ct = true) (hd : decode cc pc = .ok (.putfield idx, 3)) (ha : σ.1 a = some (.inl (ci, fs))) (hl : j < fs.length) (hn : narrow ty v = v) (hfit : fits ty v = true)
    (k : V D z0 l own cc nL Ts ret rm ct toV (pc + 3) ls st (hup σ.1 a (.inl (ci, fs.set j v)), σ.2) cells slots K) : V D z0 l own cc nL Ts ret rm ct toV pc ls (v :: .ref a :: st) σ cells slots K := by
  obtain ⟨C, ref, T, N, hc, hin, hj, hlk, hsm⟩ := hF
  obtain ⟨C', T', N', ty0, hc', -, hty, hnm, hfin, hdecl, hpd⟩ := hG
  cases hc.symm.trans hc'
  intro p e s m args below meth c H locs arr r σ' X hz hR hS hL hK
  obtain ⟨hx, hb, hml, hown, hts, hrt, hlk2, hct2, hE, hSF, hz0⟩ := id X
  have hap := va_apart (own := own) hts hin ty0 hty hnm hE.1 hc
  obtain ⟨haz, rr, h1, cell, q1, q2, q3, q4⟩ := hR.2 a _ ha
  have hr : rr = (C, T, N) := Option.some.inj (h1.symm.trans hc)
  subst hr
  obtain ⟨hSl, hfc, kC, hkC, hkind⟩ := hE.1.1 ci _ hc
  obtain ⟨cf, kf, fi, f, hi, hsl⟩ := hSl j hj
  have hlay := hts _ (hin _ (u_in_lay hj))
  unfold u_lay at hlay
  rw [if_pos hfin] at hlay
  have hst := (u_facts hfc hkC (u_lays hts hin hj) hi).1
  have hcf : m.cls = cf := by
    obtain ⟨_, _, c', _, _, _, -, -, hf', -, -, -, hown2, -⟩ := Cond.laysFinal_spec hlay
    have e1 : c' = cf := by have := hi.symm.trans hf'; simp at this; exact this.1.symm
    rw [hdecl rfl] at hown2
    rw [← e1]; exact Option.some.inj (hown.symm.trans hown2)
  have h6 := u_fits hfc hkC hkind (Or.inr hlay) hi hpd hn hfit
  have hi2 : s.fieldFound? ref (T j).2.1 (T j).2.2.1 = some (cf, kf, fi, f) := by
    rcases hsm with h | h
    · rw [h]; exact hi
    · exact u_same (hts _ h) _ hi
  refine W.putFinK hx hb hown (hts _ hlk) hi2 hst hcf (hct2 hct) (by rw [q2]; exact h6) q1 q3 (by rw [hsl]; exact k2_hasslot (q4 j hj)) rfl rfl hd fun H' e1 e2 e3 => ?_
  rw [hsl] at e1 ⊢
  exact k p e s m args below meth c H' _ arr r σ' X hz (RP.set (σ := σ) hR ha ⟨_, hc, t_OB.to (V := updV (vp_V fs) j v) ⟨_, e1, q2, q3, t_set q4 hap hj v⟩ (fun i _ => vp_updV_set hl v i)⟩ e2 e3) (hS.put e2 e3 haz) hL hK
theorem V.put1 {ci j idx : Nat} {x : Option Nat} {v : Value} {ty : FieldType} {fin : Bool} {K : SG → Option (α × SG)} (hF : FD own idx Ts ci j) (hG : FW own Ts ci j ty fin) (hct : fin = true → ct = true) (hd : decode cc pc = .ok (.putfield idx, 3)) (hn : narrow ty v = v) (hfit : fits ty v = true)
    (k : ∀ σ1 : SG, σ1.2 = σ.2 → V D z0 l own cc nL Ts ret rm ct toV (pc + 3) ls st σ1 cells slots (K σ1)) : V D z0 l own cc nL Ts ret rm ct toV pc ls (v :: va_rf x :: st) σ cells slots ((sPutV x ci j v σ).bind K) := by
  unfold sPutV
  split
  · exact V_none
  next a =>
    split
    next c fs ha =>
      split
      next hc =>
        subst hc
        split
        next hl =>
          cases fin with
          | true => exact V.putvF hF hG (hct rfl) hd ha hl hn hfit (k _ rfl)
          | false => exact V.putv hF hG hd ha hl hn hfit (k _ rfl)
        · exact V_none
      · exact V_none
    · exact V_none
theorem V_putI {ci j idx : Nat} {x : Option Nat} {v : Int32} {fin : Bool} {K : SG → Option (α × SG)} (hF : FD own idx Ts ci j) (hG : FW own Ts ci j .int fin) (hct : fin = true → ct = true) (hd : decode cc pc = .ok (.putfield idx, 3))
    (k : ∀ σ1 : SG, σ1.2 = σ.2 → V D z0 l own cc nL Ts ret rm ct toV (pc + 3) ls st σ1 cells slots (K σ1)) : V D z0 l own cc nL Ts ret rm ct toV pc ls (.int v :: va_rf x :: st) σ cells slots ((sPutI x ci j v σ).bind K) :=
  V.put1 hF hG hct hd rfl rfl k
theorem V_putZ {ci j idx : Nat} {x : Option Nat} {v : Int32} {fin : Bool} {K : SG → Option (α × SG)} (hF : FD own idx Ts ci j) (hG : FW own Ts ci j .boolean fin) (hct : fin = true → ct = true) (hd : decode cc pc = .ok (.putfield idx, 3))
    (k : ∀ σ1 : SG, σ1.2 = σ.2 → V D z0 l own cc nL Ts ret rm ct toV (pc + 3) ls st σ1 cells slots (K σ1)) : V D z0 l own cc nL Ts ret rm ct toV pc ls (.int v :: va_rf x :: st) σ cells slots ((sPutZ x ci j v σ).bind K) := by
  unfold sPutZ
  split
  next h =>
    refine V.put1 hF hG hct hd ?_ ?_ k
    · rcases h with rfl | rfl <;> rfl
    · rcases h with rfl | rfl <;> rfl
  · exact V_none
theorem V_putO {ci j idx : Nat} {x v : Option Nat} {nm : String} {fin : Bool} {K : SG → Option (α × SG)} (hF : FD own idx Ts ci j) (hG : FW own Ts ci j (.object nm) fin) (hct : fin = true → ct = true) (hd : decode cc pc = .ok (.putfield idx, 3))
    (k : ∀ σ1 : SG, σ1.2 = σ.2 → V D z0 l own cc nL Ts ret rm ct toV (pc + 3) ls st σ1 cells slots (K σ1)) : V D z0 l own cc nL Ts ret rm ct toV pc ls (va_rf v :: va_rf x :: st) σ cells slots ((sPutR x ci j v σ).bind K) :=
  V.put1 hF hG hct hd (by cases v <;> rfl) (by cases v <;> rfl) k
theorem V_putA {ci j idx : Nat} {x v : Option Nat} {ty : FieldType} {fin : Bool} {K : SG → Option (α × SG)} (hF : FD own idx Ts ci j) (hG : FW own Ts ci j (.array ty) fin) (hct : fin = true → ct = true) (hd : decode cc pc = .ok (.putfield idx, 3))
    (k : ∀ σ1 : SG, σ1.2 = σ.2 → V D z0 l own cc nL Ts ret rm ct toV (pc + 3) ls st σ1 cells slots (K σ1)) : V D z0 l own cc nL Ts ret rm ct toV pc ls (va_rf v :: va_rf x :: st) σ cells slots ((sPutR x ci j v σ).bind K) :=
  V.put1 hF hG hct hd (by cases v <;> rfl) (by cases v <;> rfl) k
theorem V_putIT {cs : List Nat} {j idx : Nat} {x : Option Nat} {v : Int32} {K : SG → Option (α × SG)} (hF : ∀ ci ∈ cs, FD own idx Ts ci j ∧ FW own Ts ci j .int false) (hd : decode cc pc = .ok (.putfield idx, 3))
    (k : ∀ σ1 : SG, σ1.2 = σ.2 → V D z0 l own cc nL Ts ret rm ct toV (pc + 3) ls st σ1 cells slots (K σ1)) : V D z0 l own cc nL Ts ret rm ct toV pc ls (.int v :: va_rf x :: st) σ cells slots ((sPutIT x cs j v σ).bind K) := by
  unfold sPutIT
  split
  · exact V_none
  next a =>
    split
    next c fs ha =>
      split
      next hc =>
        split
        next hl => exact V.putv (hF c hc).1 (hF c hc).2 hd ha hl rfl rfl (k _ rfl)
        · exact V_none
      · exact V_none
    · exact V_none
theorem V_putZT {cs : List Nat} {j idx : Nat} {x : Option Nat} {v : Int32} {K : SG → Option (α × SG)} (hF : ∀ ci ∈ cs, FD own idx Ts ci j ∧ FW own Ts ci j .boolean false) (hd : decode cc pc = .ok (.putfield idx, 3))
    (k : ∀ σ1 : SG, σ1.2 = σ.2 → V D z0 l own cc nL Ts ret rm ct toV (pc + 3) ls st σ1 cells slots (K σ1)) : V D z0 l own cc nL Ts ret rm ct toV pc ls (.int v :: va_rf x :: st) σ cells slots ((sPutZT x cs j v σ).bind K) := by
  unfold sPutZT
  split
  · exact V_none
  next a =>
    split
    next c fs ha =>
      split
      next hc =>
        split
        next hv =>
          split
          next hl =>
            refine V.putv (hF c hc).1 (hF c hc).2 hd ha hl ?_ ?_ (k _ rfl)
            · rcases hv with rfl | rfl <;> rfl
            · rcases hv with rfl | rfl <;> rfl
          · exact V_none
        · exact V_none
      · exact V_none
    · exact V_none
end VFIELD
