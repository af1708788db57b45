/-! LEVEL 2: run, set: both sides -/
section ACT4
variable {z0 : Nat} {σ σ1 : SG} {g : NW}
theorem rel_run {w : NW} (hR : Rel g w) (i : Nat) (v : Int32) : Rel (up3 g 2 i 4 v) (up3 w 2 i 4 v) := by
  refine hR.slot (c0 := 2) (i0 := i) (Or.inr (Or.inl rfl)) (fun c' i' j hn => up3_slot _ _ hn) (fun c' i' j hn => up3_slot _ _ hn) (fun j _ h2 => ?_) (fun e => absurd e (by decide))
  by_cases hj : j = 4
  · subst hj; rw [up3_eq, up3_eq]
  · have e : ∀ (G : NW) (q : Nat), q ≠ 4 → up3 G 2 i 4 v 2 i q = G 2 i q := fun G q hq => if_neg (fun e => hq e.2.2)
    have := h2 rfl
    rw [e _ _ (by decide)] at this
    rw [e _ _ hj, e _ _ hj]
    exact hR.1.c2 i this
theorem inv_run (hI : Inv g) (i : Nat) {v : Int32} (hv : b01 v) : Inv (up3 g 2 i 4 v) := by
  refine hI.slot (c0 := 2) (i0 := i) (fun c' i' j hn => up3_slot _ _ hn) (fun e => absurd e (by decide)) (fun _ hi => ?_) (fun e => absurd e (by decide)) (by decide)
  have e : ∀ (q : Nat), q ≠ 4 → up3 g 2 i 4 v 2 i q = g 2 i q := fun q hq => if_neg (fun e => hq e.2.2)
  have := hI.2.1 i hi
  unfold InvM at this ⊢
  rw [e 0 (by decide), e 1 (by decide), e 3 (by decide), up3_eq]
  exact ⟨this.1, hv, this.2.2⟩
end ACT4


