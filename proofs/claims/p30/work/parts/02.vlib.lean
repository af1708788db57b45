/-! THE V LAYER: the heap as a map, a method as a function on it (see NOTES.md). A cell of the map: an object (place in vwCl, fields), an array (place in tysL, length, contents). -/
abbrev CE : Type := (Nat × List Value) ⊕ (Nat × Nat × ((Nat → Int32) ⊕ (Nat → Option Nat)))
abbrev HP : Type := Nat → Option CE
/-- the map, and the heap's size -/
abbrev SG : Type := HP × Nat
/-- the numbers of classes and their slots; of array classes; the script: its address, its length, its ints -/
abbrev DG : Type := va_G × ((Nat → ClassId) × (Nat × Nat × (Nat → Int32)))
abbrev tysL : List FieldType := [.int, .int, .boolean, .object "MainsWords$Lamp", .object "MainsWords$Machine", .object "MainsWords$Net", .object "MainsWords$Receiver", .object "MainsWords$Sender"]
abbrev tysD (D : DG) : List (ClassId × FieldType) := [(D.2.1 0, .int), (D.2.1 1, .int), (D.2.1 2, .boolean), (D.2.1 3, .object "MainsWords$Lamp"), (D.2.1 4, .object "MainsWords$Machine"), (D.2.1 5, .object "MainsWords$Net"), (D.2.1 6, .object "MainsWords$Receiver"), (D.2.1 7, .object "MainsWords$Sender")]
def toE (D : DG) : CE → va_E
  | .inl o => .inr o
  | .inr (k, n, .inl f) => .inl (D.2.1 k, n, .inl f)
  | .inr (k, n, .inr g) => .inl (D.2.1 k, n, .inr (.inr (.inr (.inr g))))
def RP (D : DG) (z0 : Nat) (σ : SG) (H : Heap) : Prop := H.size = σ.2 ∧ ∀ (a : Nat) (e : CE), σ.1 a = some e → z0 ≤ a ∧ va_at D.1 vwCl (a, toE D e) H
def hup (hp : HP) (a : Nat) (e : CE) : HP := fun b => if b = a then some e else hp b
theorem RP.set {D : DG} {z0 : Nat} {σ : SG} {H H1 : Heap} {a : Nat} {e0 e : CE} (h : RP D z0 σ H) (h0 : σ.1 a = some e0) (he : va_at D.1 vwCl (a, toE D e) H1) (z : H1.size = H.size) (oq : ∀ q : Nat, q ≠ a → H1[q]? = H[q]?) : RP D z0 (hup σ.1 a e, σ.2) H1 := by
  refine ⟨z.trans h.1, fun b x hb => ?_⟩
  simp only [hup] at hb
  by_cases hba : b = a
  · rw [if_pos hba] at hb
    cases hb
    subst hba
    exact ⟨(h.2 b e0 h0).1, he⟩
  · rw [if_neg hba] at hb
    exact ⟨(h.2 b x hb).1, (h.2 b x hb).2.kept (oq b hba)⟩
theorem RP.new {D : DG} {z0 : Nat} {σ : SG} {H H1 : Heap} {e : CE} (h : RP D z0 σ H) (hz : z0 ≤ σ.2) (he : va_at D.1 vwCl (σ.2, toE D e) H1) (z : H1.size = σ.2 + 1) (oq : ∀ q : Nat, q < σ.2 → H1[q]? = H[q]?) : RP D z0 (hup σ.1 σ.2 e, σ.2 + 1) H1 := by
  refine ⟨z, fun b x hb => ?_⟩
  simp only [hup] at hb
  by_cases hba : b = σ.2
  · rw [if_pos hba] at hb
    cases hb
    subst hba
    exact ⟨hz, he⟩
  · rw [if_neg hba] at hb
    have h2 := h.2 b x hb
    exact ⟨h2.1, h2.2.kept (oq b (by rw [← h.1]; exact h2.2.lt))⟩
/-! what a run knows of the tables -/
abbrev nestL : List (String × Nat × MethodName × String) := [("MainsWords$Net", 55, ⟨"MainsWords$Receiver", "<init>", "()V"⟩, "MainsWords"), ("MainsWords", 35, ⟨"MainsWords$Script", "<init>", "()V"⟩, "MainsWords"), ("MainsWords$Net", 73, ⟨"MainsWords", "firstFree", "([LMainsWords$Thing;)LMainsWords$Thing;"⟩, "MainsWords"), ("MainsWords$Sender", 45, ⟨"MainsWords", "copyRow", "([I[I)V"⟩, "MainsWords"), ("MainsWords$Net", 69, ⟨"MainsWords", "copyRow", "([I[I)V"⟩, "MainsWords"), ("MainsWords$Net", 77, ⟨"MainsWords", "presentAt", "([LMainsWords$Thing;I)LMainsWords$Thing;"⟩, "MainsWords"), ("MainsWords$Net", 104, ⟨"MainsWords", "isWord", "(I)Z"⟩, "MainsWords"), ("MainsWords$Sender", 49, ⟨"MainsWords", "frameBit", "(II)I"⟩, "MainsWords"), ("MainsWords$Net", 85, ⟨"MainsWords", "asNumber", "(Z)I"⟩, "MainsWords")]
def nestC (q : String × Nat × MethodName × String) : Cond := .methodLinkNest q.1 q.2.1 q.2.2.1 q.2.2.2
abbrev aoL : List String := ["MainsWords$Lamp", "MainsWords$Machine", "MainsWords$Net", "MainsWords$Receiver", "MainsWords$Sender"]
/-- the tables: classes, array classes, nest mates' private members -/
def EN (D : DG) (U : State) : Prop := va_K D.1 vwCl (tysD D) U ∧ (∀ q ∈ nestL, va_Nw (nestC q) U) ∧ ∀ C ∈ aoL, va_AO C U
/-- the two static rows of the class, at the heap H -/
def lstV : Nat → Value := fun k => match k with | 0 => .int 0 | 1 => .int 0 | 2 => .int 1 | _ => .int 1
def mstV : Nat → Value := fun k => match k with | 0 => .int 9 | 1 => .int 9 | 2 => .int 9 | _ => .int 3
def SF (D : DG) (z0 : Nat) (U : State) (H : Heap) : Prop := (∃ t1 t2 : Nat, va_Z "MainsWords" "LEAST_SETTING" "[I" (.ref t1) (fun q => z0 ≤ q) U H ∧ va_Z "MainsWords" "MOST_SETTING" "[I" (.ref t2) (fun q => z0 ≤ q) U H ∧ va_T .int t1 4 lstV (fun q => z0 ≤ q) U H ∧ va_T .int t2 4 mstV (fun q => z0 ≤ q) U H) ∧ va_X D.2.2.1 D.2.2.2.1 D.2.2.2.2 U H ∧ D.2.2.1 < z0
theorem EN.same {D : DG} {u U : State} (h : u.vm = U.vm) (hE : EN D u) : EN D U :=
  ⟨va_K.moved (by rw [h]; exact Vm.Alike.refl U.vm) hE.1, fun q hq => va_Nw.same (w := nestC q) rfl h (hE.2.1 q hq), fun C hC => va_AO.moved (by rw [h]; exact Vm.Alike.refl U.vm) (hE.2.2 C hC)⟩
theorem EN.warm {D : DG} {s U : State} (hW : s.WarmedH U.vm) (hE : EN D s) : EN D U :=
  ⟨va_K.moved hW.alike hE.1, fun q hq => va_Nw.warmM hW (hE.2.1 q hq), fun C hC => va_AO.moved hW.alike (hE.2.2 C hC)⟩
theorem SF.moved {D : DG} {z0 : Nat} {u U : State} {H : Heap} (hvm : u.vm.Alike U.vm) (h : SF D z0 u H) : SF D z0 U H := by
  obtain ⟨⟨t1, t2, h1, h2, h3, h4⟩, h5, h6⟩ := h
  exact ⟨⟨t1, t2, h1.moved hvm, h2.moved hvm, h3.moved hvm, h4.moved hvm⟩, h5.moved hvm, h6⟩
theorem SF.kept {D : DG} {z0 : Nat} {U : State} {H H1 : Heap} (h : SF D z0 U H) (hq : ∀ a : Nat, a < H.size → ¬ z0 ≤ a → H1[a]? = H[a]?) : SF D z0 U H1 := by
  obtain ⟨⟨t1, t2, h1, h2, h3, h4⟩, h5, h6⟩ := h
  refine ⟨⟨t1, t2, h1.kept hq, h2.kept hq, h3.kept hq, h4.kept hq⟩, h5.kept ?_, h6⟩
  obtain ⟨scr, hs, -⟩ := h5
  exact hq _ (Array.getElem?_eq_some_iff.mp hs).1 (by omega)
/-- a method's start and end -/
def PC (D : DG) (z0 : Nat) (av : List Value) (σ : SG) : Array Value → State → Prop := fun v U => v = av.toArray ∧ z0 ≤ σ.2 ∧ RP D z0 σ U.heap ∧ EN D U ∧ SF D z0 U U.heap
def QC (D : DG) (z0 : Nat) (v : Option Value) (σ : SG) : Array Value → State → Outcome → State → Prop := fun _ st oc t => oc = .returned v ∧ z0 ≤ σ.2 ∧ RP D z0 σ t.heap ∧ va_F (fun q => z0 ≤ q) st t
theorem PC.blind {D : DG} {z0 : Nat} {av : List Value} {σ : SG} : FrameBlind (PC D z0 av σ) := fun a U g mk h =>
  ⟨h.1, h.2.1, h.2.2.1, EN.same (u := U) (U := U.calling g mk a) rfl h.2.2.2.1, SF.moved (u := U) (U := U.calling g mk a) (Vm.Alike.refl U.vm) h.2.2.2.2⟩
/-! locals as a list -/
def LVl (l : List (Option Value)) : List (Nat × Value) := (List.range l.length).filterMap (fun i => match l[i]? with | some (some v) => some (i, v) | _ => none)
theorem LVl_in {l : List (Option Value)} {i : Nat} {v : Value} : (i, v) ∈ LVl l ↔ l[i]? = some (some v) := by
  unfold LVl
  rw [List.mem_filterMap]
  constructor
  · rintro ⟨j, -, h⟩
    split at h
    next w hw => cases h; exact hw
    next => cases h
  · intro h
    refine ⟨i, List.mem_range.mpr (List.getElem?_eq_some_iff.mp h).1, ?_⟩
    rw [h]
def LV (arr : Array Slot) (nL : Nat) (l : List (Option Value)) : Prop := lv_has arr nL (LVl l) ∧ l.length = nL ∧ ∀ (i : Nat) (v : Value), l[i]? = some (some v) → v.category = 1
theorem LV.at {arr : Array Slot} {nL : Nat} {l : List (Option Value)} (h : LV arr nL l) {i : Nat} {v : Value} (hi : l[i]? = some (some v)) : arr[i]? = some (.val v) := h.1.2.2 (i, v) (LVl_in.mpr hi)
theorem LV.set {arr arr' : Array Slot} {nL : Nat} {l l' : List (Option Value)} {i : Nat} {v : Value} {lv' : List (Nat × Value)} (h : LV arr nL l) (hv : v.category = 1) (hs : l.set i (some v) = l') (hi : i < nL) (hl : (i, v) :: (LVl l).filter (fun q => !(q.1 == i) && !(q.1 + 1 == i && q.2.category == 2)) = lv') (h' : lv_has arr' nL lv') : LV arr' nL l' := by
  subst hs
  have key : ∀ (j : Nat) (w : Value), (l.set i (some v))[j]? = some (some w) → (j = i ∧ w = v) ∨ (j ≠ i ∧ l[j]? = some (some w)) := by
    intro j w hj
    by_cases hji : j = i
    · subst hji
      rw [List.getElem?_set_self (by rw [h.2.1]; exact hi)] at hj
      cases hj
      exact Or.inl ⟨rfl, rfl⟩
    · rw [List.getElem?_set_ne (Ne.symm hji)] at hj
      exact Or.inr ⟨hji, hj⟩
  refine ⟨⟨h'.1, h'.2.1, fun q hq => ?_⟩, by rw [List.length_set]; exact h.2.1, fun j w hj => ?_⟩
  · obtain ⟨j, w⟩ := q
    refine h'.2.2 (j, w) ?_
    rw [← hl]
    rcases key j w (LVl_in.mp hq) with ⟨rfl, rfl⟩ | ⟨h1, h2⟩
    · exact List.mem_cons_self
    · refine List.mem_cons_of_mem _ (List.mem_filter.mpr ⟨LVl_in.mpr h2, ?_⟩)
      have hc := h.2.2 j w h2
      simp [h1, hc]
  · rcases key j w hj with ⟨-, rfl⟩ | ⟨-, h2⟩
    · exact hv
    · exact h.2.2 j w h2
theorem va_rf_cat (r : Option Nat) : (va_rf r).category = 1 := by cases r <;> rfl
/-! THE JUDGEMENT. V .. pc l st σ K: whenever K = some (r, σ'), the method, at pc with the locals l and the stack st over the map σ, returns toV r over the map σ' -/
def VC (D : DG) (z0 : Nat) (own : String) (cc : ByteArray) (nL : Nat) (Ts : List Cond) (ret : Option FieldType) (ct : Bool) (p : Program) (s : State) (m : MethodId) (args : Array Value) (meth : Method) (c : Code) : Prop :=
  p.tables.exec = Jvm.exec ∧ c.code = cc ∧ c.maxLocals = nL ∧ s.vm.findClass own = some m.cls ∧ (∀ w ∈ Ts, w.before args s = true) ∧ meth.sig.returnType = ret ∧ meth.locks = false ∧ (ct = true → meth.name = "<init>") ∧ EN D s ∧ SF D z0 s s.heap ∧ z0 ≤ s.heap.size
def V {α : Type} (D : DG) (z0 : Nat) (l : Launch) (own : String) (cc : ByteArray) (nL : Nat) (Ts : List Cond) (ret : Option FieldType) (rm : Room) (ct : Bool) (toV : α → Option Value) (pc : Nat) (ls : List (Option Value)) (st : List Value) (σ : SG) (cells slots : Nat) (K : Option (α × SG)) : Prop :=
  ∀ (p : Program) (e : Env) (s : State) (m : MethodId) (args : Array Value) (below : List Frame) (meth : Method) (c : Code) (H : Heap) (locs : List Loc) (arr : Array Slot) (r : α) (σ' : SG),
    VC D z0 own cc nL Ts ret ct p s m args meth c → z0 ≤ σ.2 → RP D z0 σ H → va_S (fun q => z0 ≤ q) s.heap H locs → LV arr nL ls → K = some (r, σ') →
    W p l e rm s m args below meth c H locs cells slots (MQ below (QC D z0 (toV r) σ') args s rm.cells rm.slots (fun q => z0 ≤ q)) (F0 m pc arr st)
/-- a method is what the function K says -/
def MT {α : Type} (D : DG) (z0 : Nat) (l : Launch) (y : MethodName) (ws : List Cond) (rm : Room) (toV : α → Option Value) (av : List Value) (σ : SG) (K : Option (α × SG)) : Prop :=
  ∀ (r : α) (σ' : SG), K = some (r, σ') → Met l y ws rm (PC D z0 av σ) (QC D z0 (toV r) σ') rm.cells rm.slots (fun q => z0 ≤ q)
theorem LV.entry {av : List Value} {n : Nat} (hn : av.length ≤ n) (hc : ∀ v ∈ av, v.category = 1) : LV ((lg_sl av ++ List.replicate (n - (lg_sl av).length) Slot.unset).toArray) n (av.map some ++ List.replicate (n - av.length) none) := by
  have e1 : ∀ av : List Value, (∀ v ∈ av, v.category = 1) → lg_sl av = av.map Slot.val := by
    intro av
    induction av with
    | nil => intro _; rfl
    | cons v vs ih =>
      intro h
      have h1 := h v List.mem_cons_self
      have h2 := ih (fun w hw => h w (List.mem_cons_of_mem _ hw))
      simp only [lg_sl, List.flatMap_cons] at h2 ⊢
      rw [h2, if_neg (by rw [h1]; decide)]
      rfl
  have hlen : (lg_sl av).length = av.length := by rw [e1 av hc, List.length_map]
  have h := lv_entry av (n := n) (by rw [hlen]; exact hn)
  refine ⟨⟨h.1, h.2.1, fun q hq => ?_⟩, by simp; omega, fun i v hi => ?_⟩
  · obtain ⟨i, v⟩ := q
    have hi := LVl_in.mp hq
    rw [e1 av hc]
    by_cases hl : i < av.length
    · rw [List.getElem?_append_left (by simpa using hl)] at hi
      simp only [List.getElem?_map, Option.map_eq_some_iff] at hi
      obtain ⟨w, hw, hw2⟩ := hi
      cases hw2
      show (List.map Slot.val av ++ _).toArray[i]? = _
      rw [List.getElem?_toArray, List.getElem?_append_left (by simpa using hl)]
      simp [hw]
    · rw [List.getElem?_append_right (by simpa using hl)] at hi
      simp [List.getElem?_replicate] at hi
  · by_cases hl : i < av.length
    · rw [List.getElem?_append_left (by simpa using hl)] at hi
      simp only [List.getElem?_map, Option.map_eq_some_iff] at hi
      obtain ⟨w, hw, hw2⟩ := hi
      cases hw2
      exact hc v (List.mem_of_getElem? hw)
    · rw [List.getElem?_append_right (by simpa using hl)] at hi
      simp [List.getElem?_replicate] at hi
theorem MT.of {α : Type} {D : DG} {z0 : Nat} {l : Launch} {y : MethodName} {own : String} {cc : ByteArray} {nL : Nat} {ws ws' : List Cond} {ret : Option FieldType} {rm : Room} {ct : Bool} {toV : α → Option Value} {av : List Value} {σ : SG} {K : Option (α × SG)}
    (hy : plainName y.cls = true) (hown : y.cls = own) (hw : ws = Cond.code y cc nL ret :: ws') (hct : ct = true → y.name = "<init>") (hn : av.length ≤ nL) (hc : ∀ v ∈ av, v.category = 1)
    (body : V D z0 l own cc nL ws ret rm ct toV 0 (av.map some ++ List.replicate (nL - av.length) none) [] σ 0 0 K) : MT D z0 l y ws rm toV av σ K := by
  intro r σ' hK
  refine Met.ofW (cc := cc) (maxL := nL) (ret := ret) hy hw ?_
  intro p e s m args below meth c s₁ B hml hv
  obtain ⟨rfl, hz, hR, hE, hS⟩ := hv
  rw [lg_entry_eq]
  refine body p e s m _ below meth c s.heap [] _ r σ' ⟨B.exec, B.bytes, hml, ?_, atoms_spec B.pre, B.returns, B.notSynchronized, fun h => ?_, hE, hS, by rw [hR.1]; exact hz⟩ hz hR va_S.rf (LV.entry hn hc) hK
  · rw [← hown]; exact findClass_of_methodNamed B.named
  · rw [(name_of_methodNamed B.named B.method).1]; exact hct h
section VROWS
variable {α : Type} {D : DG} {z0 : Nat} {l : Launch} {own : String} {cc : ByteArray} {nL : Nat} {Ts : List Cond} {ret : Option FieldType} {rm : Room} {ct : Bool} {toV : α → Option Value} {pc : Nat} {ls : List (Option Value)} {st : List Value} {σ : SG} {cells slots : Nat} {K : Option (α × SG)}
theorem V_none : V D z0 l own cc nL Ts ret rm ct toV pc ls st σ cells slots (none : Option (α × SG)) := by
  intro p e s m args below meth c H locs arr r σ' _ _ _ _ _ h
  cases h
theorem V.step {pc' : Nat} {st' : List Value} (h : ∀ {p : Program} {e : Env} {s : State} {m : MethodId} {args : Array Value} {below : List Frame} {meth : Method} {c : Code} {H : Heap} {locs : List Loc} {arr : Array Slot} {Q : State → Prop}, p.tables.exec = Jvm.exec → c.code = cc → LV arr nL ls → W p l e rm s m args below meth c H locs cells slots Q (F0 m pc' arr st') → W p l e rm s m args below meth c H locs cells slots Q (F0 m pc arr st))
    (k : V D z0 l own cc nL Ts ret rm ct toV pc' ls st' σ cells slots K) : V D z0 l own cc nL Ts ret rm ct toV pc ls st σ cells slots K := by
  intro p e s m args below meth c H locs arr r σ' C hz hR hS hL hK
  exact h C.1 C.2.1 hL (k p e s m args below meth c H locs arr r σ' C hz hR hS hL hK)
theorem V_iconst {n : Int} {v : Int32} (hd : decode cc pc = .ok (.iconst n, 1)) (hv : Int32.ofInt n = v) (k : V D z0 l own cc nL Ts ret rm ct toV (pc + 1) ls (.int v :: st) σ cells slots K) : V D z0 l own cc nL Ts ret rm ct toV pc ls st σ cells slots K :=
  V.step (fun hx hb _ w => lv_iconst hx hb hd hv w) k
theorem V_bipush {n : Int} {v : Int32} (hd : decode cc pc = .ok (.bipush n, 2)) (hv : (Int8.ofInt n).toInt32 = v) (k : V D z0 l own cc nL Ts ret rm ct toV (pc + 2) ls (.int v :: st) σ cells slots K) : V D z0 l own cc nL Ts ret rm ct toV pc ls st σ cells slots K :=
  V.step (fun hx hb _ w => lv_bipush hx hb hd hv w) k
theorem V_sipush {n : Int} {v : Int32} (hd : decode cc pc = .ok (.sipush n, 3)) (hv : (Int16.ofInt n).toInt32 = v) (k : V D z0 l own cc nL Ts ret rm ct toV (pc + 3) ls (.int v :: st) σ cells slots K) : V D z0 l own cc nL Ts ret rm ct toV pc ls st σ cells slots K :=
  V.step (fun hx hb _ w => lv_sipush hx hb hd hv w) k
theorem V_iload_n {i : Fin 4} {x : Int32} (hd : decode cc pc = .ok (.iload_n i, 1)) (hl : ls[(i : Nat)]? = some (some (.int x))) (k : V D z0 l own cc nL Ts ret rm ct toV (pc + 1) ls (.int x :: st) σ cells slots K) : V D z0 l own cc nL Ts ret rm ct toV pc ls st σ cells slots K :=
  V.step (fun hx hb hL w => lv_iload_n hx hb hd rfl (hL.at hl) w) k
theorem V_iload {i : Nat} {x : Int32} (hd : decode cc pc = .ok (.iload i, 2)) (hl : ls[i]? = some (some (.int x))) (k : V D z0 l own cc nL Ts ret rm ct toV (pc + 2) ls (.int x :: st) σ cells slots K) : V D z0 l own cc nL Ts ret rm ct toV pc ls st σ cells slots K :=
  V.step (fun hx hb hL w => lv_iload hx hb hd (hL.at hl) w) k
theorem V_aload_n {i : Fin 4} {x : Option Nat} (hd : decode cc pc = .ok (.aload_n i, 1)) (hl : ls[(i : Nat)]? = some (some (va_rf x))) (k : V D z0 l own cc nL Ts ret rm ct toV (pc + 1) ls (va_rf x :: st) σ cells slots K) : V D z0 l own cc nL Ts ret rm ct toV pc ls st σ cells slots K := by
  cases x with
  | none => exact V.step (fun hx hb hL w => lv_aload_nN hx hb hd rfl (hL.at hl) w) k
  | some a => exact V.step (fun hx hb hL w => lv_aload_n hx hb hd rfl (hL.at hl) w) k
theorem V_aload {i : Nat} {x : Option Nat} (hd : decode cc pc = .ok (.aload i, 2)) (hl : ls[i]? = some (some (va_rf x))) (k : V D z0 l own cc nL Ts ret rm ct toV (pc + 2) ls (va_rf x :: st) σ cells slots K) : V D z0 l own cc nL Ts ret rm ct toV pc ls st σ cells slots K := by
  cases x with
  | none => exact V.step (fun hx hb hL w => lv_aloadN hx hb hd (hL.at hl) w) k
  | some a => exact V.step (fun hx hb hL w => lv_aload hx hb hd (hL.at hl) w) k
theorem V.store {pc' i : Nat} {v : Value} {ls' : List (Option Value)} {st0 : List Value} (hv : v.category = 1) (hs : ls.set i (some v) = ls') (hi : i < nL)
    (h : ∀ {p : Program} {e : Env} {s : State} {m : MethodId} {args : Array Value} {below : List Frame} {meth : Method} {c : Code} {H : Heap} {locs : List Loc} {arr : Array Slot} {Q : State → Prop} (lv lv' : List (Nat × Value)), p.tables.exec = Jvm.exec → c.code = cc → lv_has arr nL lv → (i, v) :: lv.filter (fun q => !(q.1 == i) && !(q.1 + 1 == i && q.2.category == 2)) = lv' → (∀ arr' : Array Slot, lv_has arr' nL lv' → W p l e rm s m args below meth c H locs cells slots Q (F0 m pc' arr' st)) → W p l e rm s m args below meth c H locs cells slots Q (F0 m pc arr st0))
    (k : V D z0 l own cc nL Ts ret rm ct toV pc' ls' st σ cells slots K) : V D z0 l own cc nL Ts ret rm ct toV pc ls st0 σ cells slots K := by
  intro p e s m args below meth c H locs arr r σ' C hz hR hS hL hK
  exact h (LVl ls) _ C.1 C.2.1 hL.1 rfl (fun arr' h' => k p e s m args below meth c H locs arr' r σ' C hz hR hS (hL.set hv hs hi rfl h') hK)
theorem V_istore_n {i : Fin 4} {x : Int32} {ls' : List (Option Value)} (hd : decode cc pc = .ok (.istore_n i, 1)) (hi : (i : Nat) < nL) (hs : ls.set (i : Nat) (some (.int x)) = ls') (k : V D z0 l own cc nL Ts ret rm ct toV (pc + 1) ls' st σ cells slots K) : V D z0 l own cc nL Ts ret rm ct toV pc ls (.int x :: st) σ cells slots K :=
  V.store rfl hs hi (fun lv lv' hx hb h hl w => lv_istore_n hx hb hd rfl h hi hl w) k
theorem V_istore {i : Nat} {x : Int32} {ls' : List (Option Value)} (hd : decode cc pc = .ok (.istore i, 2)) (hi : i < nL) (hs : ls.set i (some (.int x)) = ls') (k : V D z0 l own cc nL Ts ret rm ct toV (pc + 2) ls' st σ cells slots K) : V D z0 l own cc nL Ts ret rm ct toV pc ls (.int x :: st) σ cells slots K :=
  V.store rfl hs hi (fun lv lv' hx hb h hl w => lv_istore hx hb hd h hi hl w) k
theorem V_astore_n {i : Fin 4} {x : Option Nat} {ls' : List (Option Value)} (hd : decode cc pc = .ok (.astore_n i, 1)) (hi : (i : Nat) < nL) (hs : ls.set (i : Nat) (some (va_rf x)) = ls') (k : V D z0 l own cc nL Ts ret rm ct toV (pc + 1) ls' st σ cells slots K) : V D z0 l own cc nL Ts ret rm ct toV pc ls (va_rf x :: st) σ cells slots K := by
  cases x with
  | none => exact V.store rfl hs hi (fun lv lv' hx hb h hl w => lv_astore_nN hx hb hd rfl h hi hl w) k
  | some a => exact V.store rfl hs hi (fun lv lv' hx hb h hl w => lv_astore_n hx hb hd rfl h hi hl w) k
theorem V_astore {i : Nat} {x : Option Nat} {ls' : List (Option Value)} (hd : decode cc pc = .ok (.astore i, 2)) (hi : i < nL) (hs : ls.set i (some (va_rf x)) = ls') (k : V D z0 l own cc nL Ts ret rm ct toV (pc + 2) ls' st σ cells slots K) : V D z0 l own cc nL Ts ret rm ct toV pc ls (va_rf x :: st) σ cells slots K := by
  cases x with
  | none => exact V.store rfl hs hi (fun lv lv' hx hb h hl w => lv_astoreN hx hb hd h hi hl w) k
  | some a => exact V.store rfl hs hi (fun lv lv' hx hb h hl w => lv_astore hx hb hd h hi hl w) k
theorem V_iinc {i : Nat} {n : Int} {x v : Int32} {ls' : List (Option Value)} (hd : decode cc pc = .ok (.iinc i n, 3)) (hl : ls[i]? = some (some (.int x))) (hv : x + Int32.ofInt n = v) (hi : i < nL) (hs : ls.set i (some (.int v)) = ls') (k : V D z0 l own cc nL Ts ret rm ct toV (pc + 3) ls' st σ cells slots K) : V D z0 l own cc nL Ts ret rm ct toV pc ls st σ cells slots K := by
  obtain ⟨j, hj⟩ := List.getElem?_of_mem (LVl_in.mpr hl)
  intro p e s m args below meth c H locs arr r σ' C hz hR hS hL hK
  exact lv_iinc C.1 C.2.1 hd hL.1 hj hv hi rfl (fun arr' h' => k p e s m args below meth c H locs arr' r σ' C hz hR hS (hL.set rfl hs hi rfl h') hK)
theorem V_iadd {x y : Int32} (hd : decode cc pc = .ok (.iadd, 1)) (k : V D z0 l own cc nL Ts ret rm ct toV (pc + 1) ls (.int (x + y) :: st) σ cells slots K) : V D z0 l own cc nL Ts ret rm ct toV pc ls (.int y :: .int x :: st) σ cells slots K :=
  V.step (fun hx hb _ w => lv_iadd hx hb hd w) k
theorem V_isub {x y : Int32} (hd : decode cc pc = .ok (.isub, 1)) (k : V D z0 l own cc nL Ts ret rm ct toV (pc + 1) ls (.int (x - y) :: st) σ cells slots K) : V D z0 l own cc nL Ts ret rm ct toV pc ls (.int y :: .int x :: st) σ cells slots K :=
  V.step (fun hx hb _ w => lv_isub hx hb hd w) k
theorem V_imul {x y : Int32} (hd : decode cc pc = .ok (.imul, 1)) (k : V D z0 l own cc nL Ts ret rm ct toV (pc + 1) ls (.int (x * y) :: st) σ cells slots K) : V D z0 l own cc nL Ts ret rm ct toV pc ls (.int y :: .int x :: st) σ cells slots K :=
  V.step (fun hx hb _ w => lv_imul hx hb hd w) k
theorem V_iand {x y : Int32} (hd : decode cc pc = .ok (.iand, 1)) (k : V D z0 l own cc nL Ts ret rm ct toV (pc + 1) ls (.int (x &&& y) :: st) σ cells slots K) : V D z0 l own cc nL Ts ret rm ct toV pc ls (.int y :: .int x :: st) σ cells slots K :=
  V.step (fun hx hb _ w => lv_iand hx hb hd w) k
theorem V_ior {x y : Int32} (hd : decode cc pc = .ok (.ior, 1)) (k : V D z0 l own cc nL Ts ret rm ct toV (pc + 1) ls (.int (x ||| y) :: st) σ cells slots K) : V D z0 l own cc nL Ts ret rm ct toV pc ls (.int y :: .int x :: st) σ cells slots K :=
  V.step (fun hx hb _ w => lv_ior hx hb hd w) k
theorem V_ixor {x y : Int32} (hd : decode cc pc = .ok (.ixor, 1)) (k : V D z0 l own cc nL Ts ret rm ct toV (pc + 1) ls (.int (x ^^^ y) :: st) σ cells slots K) : V D z0 l own cc nL Ts ret rm ct toV pc ls (.int y :: .int x :: st) σ cells slots K :=
  V.step (fun hx hb _ w => lv_ixor hx hb hd w) k
theorem V_ishl {x y : Int32} (hd : decode cc pc = .ok (.ishl, 1)) (k : V D z0 l own cc nL Ts ret rm ct toV (pc + 1) ls (.int (x <<< (y &&& 31)) :: st) σ cells slots K) : V D z0 l own cc nL Ts ret rm ct toV pc ls (.int y :: .int x :: st) σ cells slots K :=
  V.step (fun hx hb _ w => lv_ishl hx hb hd w) k
theorem V_ishr {x y : Int32} (hd : decode cc pc = .ok (.ishr, 1)) (k : V D z0 l own cc nL Ts ret rm ct toV (pc + 1) ls (.int (x >>> (y &&& 31)) :: st) σ cells slots K) : V D z0 l own cc nL Ts ret rm ct toV pc ls (.int y :: .int x :: st) σ cells slots K :=
  V.step (fun hx hb _ w => lv_ishr hx hb hd w) k
theorem V_i2c {x : Int32} (hd : decode cc pc = .ok (.i2c, 1)) (k : V D z0 l own cc nL Ts ret rm ct toV (pc + 1) ls (.int (x.toUInt32 % 65536).toInt32 :: st) σ cells slots K) : V D z0 l own cc nL Ts ret rm ct toV pc ls (.int x :: st) σ cells slots K :=
  V.step (fun hx hb _ w => lv_i2c hx hb hd rfl w) k
theorem V_i2f {x : Int32} (hd : decode cc pc = .ok (.i2f, 1)) (k : V D z0 l own cc nL Ts ret rm ct toV (pc + 1) ls (.float (FP.i2f x) :: st) σ cells slots K) : V D z0 l own cc nL Ts ret rm ct toV pc ls (.int x :: st) σ cells slots K :=
  V.step (fun hx hb _ w => lv_i2f hx hb hd w) k
theorem V_fconst0 (hd : decode cc pc = .ok (.fconst 0, 1)) (k : V D z0 l own cc nL Ts ret rm ct toV (pc + 1) ls (.float FP.fconst0 :: st) σ cells slots K) : V D z0 l own cc nL Ts ret rm ct toV pc ls st σ cells slots K :=
  V.step (fun hx hb _ w => lv_fconst0 hx hb hd w) k
/-- what divides: K is none where the divisor is 0 -/
theorem V_idiv {x y : Int32} (hd : decode cc pc = .ok (.idiv, 1)) (k : V D z0 l own cc nL Ts ret rm ct toV (pc + 1) ls (.int (x / y) :: st) σ cells slots K) : V D z0 l own cc nL Ts ret rm ct toV pc ls (.int y :: .int x :: st) σ cells slots (if y = 0 then none else K) := by
  split
  · exact V_none
  next h => exact V.step (fun hx hb _ w => lv_idiv hx hb hd h w) k
theorem V_irem {x y : Int32} (hd : decode cc pc = .ok (.irem, 1)) (k : V D z0 l own cc nL Ts ret rm ct toV (pc + 1) ls (.int (x - x / y * y) :: st) σ cells slots K) : V D z0 l own cc nL Ts ret rm ct toV pc ls (.int y :: .int x :: st) σ cells slots (if y = 0 then none else K) := by
  split
  · exact V_none
  next h => exact V.step (fun hx hb _ w => lv_irem hx hb hd h w) k
theorem V_dup {v : Value} (hd : decode cc pc = .ok (.dup, 1)) (hv : v.category = 1) (k : V D z0 l own cc nL Ts ret rm ct toV (pc + 1) ls (v :: v :: st) σ cells slots K) : V D z0 l own cc nL Ts ret rm ct toV pc ls (v :: st) σ cells slots K :=
  V.step (fun hx hb _ w => lv_dup hx hb hd hv w) k
theorem V_dup2 {v u : Value} (hd : decode cc pc = .ok (.dup2, 1)) (hv : v.category = 1) (hu : u.category = 1) (k : V D z0 l own cc nL Ts ret rm ct toV (pc + 1) ls (v :: u :: v :: u :: st) σ cells slots K) : V D z0 l own cc nL Ts ret rm ct toV pc ls (v :: u :: st) σ cells slots K :=
  V.step (fun hx hb _ w => lv_dup2_11 hx hb hd hv hu w) k
theorem V_pop {v : Value} (hd : decode cc pc = .ok (.pop, 1)) (hv : v.category = 1) (k : V D z0 l own cc nL Ts ret rm ct toV (pc + 1) ls st σ cells slots K) : V D z0 l own cc nL Ts ret rm ct toV pc ls (v :: st) σ cells slots K :=
  V.step (fun hx hb _ w => lv_pop hx hb hd hv w) k
theorem V_null (hd : decode cc pc = .ok (.aconst_null, 1)) (k : V D z0 l own cc nL Ts ret rm ct toV (pc + 1) ls (va_rf none :: st) σ cells slots K) : V D z0 l own cc nL Ts ret rm ct toV pc ls st σ cells slots K :=
  V.step (fun hx hb _ w => lv_null hx hb hd w) k
theorem V_goto {off : Int} {tgt : Nat} (hd : decode cc pc = .ok (.goto off, 3)) (ht : (pc : Int) + off = (tgt : Int)) (k : V D z0 l own cc nL Ts ret rm ct toV tgt ls st σ cells slots K) : V D z0 l own cc nL Ts ret rm ct toV pc ls st σ cells slots K :=
  V.step (fun hx hb _ w => lv_goto hx hb hd ht w) k
theorem V.br {P : Prop} [Decidable P] {st0 : List Value} {tgt nxt : Nat} {K1 K2 : Option (α × SG)}
    (h : ∀ {p : Program} {e : Env} {s : State} {m : MethodId} {args : Array Value} {below : List Frame} {meth : Method} {c : Code} {H : Heap} {locs : List Loc} {arr : Array Slot} {Q : State → Prop}, p.tables.exec = Jvm.exec → c.code = cc → (P → W p l e rm s m args below meth c H locs cells slots Q (F0 m tgt arr st)) → (¬ P → W p l e rm s m args below meth c H locs cells slots Q (F0 m nxt arr st)) → W p l e rm s m args below meth c H locs cells slots Q (F0 m pc arr st0))
    (k1 : P → V D z0 l own cc nL Ts ret rm ct toV tgt ls st σ cells slots K1) (k2 : ¬ P → V D z0 l own cc nL Ts ret rm ct toV nxt ls st σ cells slots K2) : V D z0 l own cc nL Ts ret rm ct toV pc ls st0 σ cells slots (if P then K1 else K2) := by
  intro p e s m args below meth c H locs arr r σ' C hz hR hS hL hK
  exact h C.1 C.2.1 (fun hP => k1 hP p e s m args below meth c H locs arr r σ' C hz hR hS hL (by rw [← hK, if_pos hP])) (fun hP => k2 hP p e s m args below meth c H locs arr r σ' C hz hR hS hL (by rw [← hK, if_neg hP]))
end VROWS
