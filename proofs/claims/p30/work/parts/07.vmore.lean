/-! rows of the judgement for floats among the locals, constants of the pool, the law's script -/
section VMORE
variable {α : Type} {D : DG} {z0 : Nat} {l : Launch} {own : String} {cc : ByteArray} {nL : Nat} {Ts : List Cond} {ret : Option FieldType} {rm : Room} {ct : Bool} {toV : α → Option Value} {pc : Nat} {ls : List (Option Value)} {st : List Value} {σ : SG} {cells slots : Nat} {K : Option (α × SG)}
theorem V_fload_n {i : Fin 4} {x : UInt32} (hd : decode cc pc = .ok (.fload_n i, 1)) (hl : ls[(i : Nat)]? = some (some (.float x))) (k : V D z0 l own cc nL Ts ret rm ct toV (pc + 1) ls (.float x :: st) σ cells slots K) : V D z0 l own cc nL Ts ret rm ct toV pc ls st σ cells slots K :=
  V.step (fun hx hb hL w => lv_fload_n hx hb hd rfl (hL.at hl) w) k
theorem V_fstore_n {i : Fin 4} {x : UInt32} {ls' : List (Option Value)} (hd : decode cc pc = .ok (.fstore_n i, 1)) (hi : (i : Nat) < nL) (hs : ls.set (i : Nat) (some (.float x)) = ls') (k : V D z0 l own cc nL Ts ret rm ct toV (pc + 1) ls' st σ cells slots K) : V D z0 l own cc nL Ts ret rm ct toV pc ls (.float x :: st) σ cells slots K :=
  V.store rfl hs hi (fun lv lv' hx hb h hl w => lv_fstore_n hx hb hd rfl h hi hl w) k
theorem V_fcmp {x y : UInt32} {op : CmpOp} (hd : decode cc pc = .ok (.fcmp op, 1)) (k : V D z0 l own cc nL Ts ret rm ct toV (pc + 1) ls (.int (Op.cmpValue (FP.fcmp x y) op) :: st) σ cells slots K) : V D z0 l own cc nL Ts ret rm ct toV pc ls (.float y :: .float x :: st) σ cells slots K :=
  V.step (fun hx hb _ w => lv_fcmp hx hb hd w) k
theorem V_ldc {idx : Nat} {v : Int32} (hc : Cond.constant own idx v ∈ Ts) (hd : decode cc pc = .ok (.ldc idx, 2)) (k : V D z0 l own cc nL Ts ret rm ct toV (pc + 2) ls (.int v :: st) σ cells slots K) : V D z0 l own cc nL Ts ret rm ct toV pc ls st σ cells slots K := by
  intro p e s m args below meth c H locs arr r σ' X hz hR hS hL hK
  obtain ⟨hx, hb, hml, hown, hts, hrt, hlk, hct, hE, hSF, hz0⟩ := id X
  exact lv_ldc hx hb hown (hts _ hc) hd (k p e s m args below meth c H locs arr r σ' X hz hR hS hL hK)
end VMORE
