/-! LEVEL 2: a quotient of whole numbers is no NaN, if the divisor isn't 0 -/
section FPT
theorem fp_asm (s : Bool) (e t : Nat) (he : e ≤ 255) (ht : t < 2 ^ 23) (h : e = 255 → t = 0) : FP.Core.assemble FP.Core.b32 s e t < 2 ^ 32 ∧ FP.Core.assemble FP.Core.b32 s e t % 2 ^ 31 ≤ 2139095040 := by
  have e1 : FP.Core.assemble FP.Core.b32 s e t = (s.toNat * 256 + e) * 8388608 + t := rfl
  rw [e1]
  have hs : s.toNat = 0 ∨ s.toNat = 1 := by cases s <;> simp
  have : e < 255 ∨ (e = 255 ∧ t = 0) := by omega
  rcases hs with hs | hs <;> rw [hs] <;> omega
theorem fp_enc_fin (s : Bool) {c : Nat} {q : Int} (hc : c < 2 ^ 24) (hq : q ≤ 104) : FP.Core.encode FP.Core.b32 (.fin s c q) < 2 ^ 32 ∧ FP.Core.encode FP.Core.b32 (.fin s c q) % 2 ^ 31 ≤ 2139095040 := by
  have e1 : FP.Core.encode FP.Core.b32 (.fin s c q) = if c < 8388608 then FP.Core.assemble FP.Core.b32 s 0 c else FP.Core.assemble FP.Core.b32 s ((q - (-149)).toNat + 1) (c - 8388608) := rfl
  rw [e1]
  split
  · exact fp_asm s 0 c (by omega) (by omega) (by omega)
  · exact fp_asm s _ _ (by omega) (by omega) (by omega)
theorem fp_enc_inf (s : Bool) : FP.Core.encode FP.Core.b32 (.inf s) < 2 ^ 32 ∧ FP.Core.encode FP.Core.b32 (.inf s) % 2 ^ 31 ≤ 2139095040 := fp_asm s 255 0 (by omega) (by omega) (fun _ => rfl)
theorem fp_bound (s : Bool) {c : Nat} {q : Int} (hc : c < 2 ^ 24) : FP.Core.encode FP.Core.b32 (FP.Core.bound FP.Core.b32 s c q) < 2 ^ 32 ∧ FP.Core.encode FP.Core.b32 (FP.Core.bound FP.Core.b32 s c q) % 2 ^ 31 ≤ 2139095040 := by
  have e1 : FP.Core.bound FP.Core.b32 s c q = if q ≤ 104 then .fin s c q else .inf s := rfl
  rw [e1]
  split
  · rename_i h
    exact fp_enc_fin s hc h
  · exact fp_enc_inf s
theorem fp_rr (s : Bool) (A B : Nat) (e : Int) : FP.Core.encode FP.Core.b32 (FP.Core.roundRatio FP.Core.b32 s A B e) < 2 ^ 32 ∧ FP.Core.encode FP.Core.b32 (FP.Core.roundRatio FP.Core.b32 s A B e) % 2 ^ 31 ≤ 2139095040 := by
  unfold FP.Core.roundRatio
  split
  · exact fp_enc_fin s (by decide) (by decide)
  · unfold FP.Core.roundAt FP.Core.settle
    split
    · rename_i h
      exact fp_bound s h
    · exact fp_bound s (by decide)
theorem fp_n32 {n : Nat} (h : n < 2 ^ 32) (h2 : n % 2 ^ 31 ≤ 2139095040) : (UInt32.ofNat n) &&& 0x7fffffff ≤ 0x7f800000 := by
  have hN : (UInt32.ofNat n).toNat = n := UInt32.toNat_ofNat_of_lt (show n < UInt32.size from h)
  rw [UInt32.le_iff_toNat_le, UInt32.toNat_and, hN]
  have e : n &&& 2147483647 = n % 2 ^ 31 := Nat.and_two_pow_sub_one_eq_mod n 31
  show n &&& 2147483647 ≤ 2139095040
  rw [e]
  exact h2
/-- a whole number's bits stand for a number; not for zero if it isn't zero -/
theorem fp_dec (s : Bool) {c : Nat} {q : Int} (hc : c < 2 ^ 24) (hq : q ≤ 104) (h0 : c ≠ 0) : ∃ c' q', FP.Core.decode FP.Core.b32 (FP.Core.encode FP.Core.b32 (.fin s c q)) = .fin s c' q' ∧ c' ≠ 0 := by
  have hs : s.toNat = 0 ∨ s.toNat = 1 := by cases s <;> simp
  have key : ∀ e t : Nat, e < 255 → t < 8388608 → (e = 0 → t ≠ 0) → ∃ c' q', FP.Core.decode FP.Core.b32 (FP.Core.assemble FP.Core.b32 s e t) = .fin s c' q' ∧ c' ≠ 0 := by
    intro e t he ht h
    have e1 : FP.Core.assemble FP.Core.b32 s e t = (s.toNat * 256 + e) * 8388608 + t := rfl
    have eT : FP.Core.fieldT FP.Core.b32 (FP.Core.assemble FP.Core.b32 s e t) = t := by
      rw [e1]
      show ((s.toNat * 256 + e) * 8388608 + t) % 8388608 = t
      omega
    have eE : FP.Core.fieldE FP.Core.b32 (FP.Core.assemble FP.Core.b32 s e t) = e := by
      rw [e1]
      show ((s.toNat * 256 + e) * 8388608 + t) / 8388608 % 256 = e
      omega
    have eS : FP.Core.fieldS FP.Core.b32 (FP.Core.assemble FP.Core.b32 s e t) = s := by
      rw [e1]
      show (((s.toNat * 256 + e) * 8388608 + t) / 8388608 / 256 % 2 == 1) = s
      have : ((s.toNat * 256 + e) * 8388608 + t) / 8388608 / 256 % 2 = s.toNat := by omega
      rw [this]
      cases s <;> rfl
    unfold FP.Core.decode
    rw [eT, eE, eS, if_neg (show ¬ e = FP.Core.b32.exps - 1 from fun h9 => by have h8 : e = 255 := h9; omega)]
    by_cases e0 : e = 0
    · rw [if_pos e0]; exact ⟨_, _, rfl, h e0⟩
    · rw [if_neg e0]
      exact ⟨_, _, rfl, by show 8388608 + t ≠ 0; omega⟩
  have e1 : FP.Core.encode FP.Core.b32 (.fin s c q) = if c < 8388608 then FP.Core.assemble FP.Core.b32 s 0 c else FP.Core.assemble FP.Core.b32 s ((q - (-149)).toNat + 1) (c - 8388608) := rfl
  rw [e1]
  split
  · exact key 0 c (by omega) (by omega) (fun _ => h0)
  · exact key _ _ (by omega) (by omega) (by omega)
theorem fp_int {x : Int} (hx : x.natAbs ≤ 2 ^ 31) (h0 : x ≠ 0) : ∃ s c q, FP.Core.decode FP.Core.b32 (FP.Core.fromInt FP.Core.b32 x) = .fin s c q ∧ c ≠ 0 := by
  have hn : x.natAbs ≠ 0 := by omega
  have hl : x.natAbs.log2 ≤ 31 := by
    have := Nat.log2_self_le hn
    rcases Nat.lt_or_ge 31 x.natAbs.log2 with h | h
    · have h2 := Nat.pow_le_pow_right (n := 2) (by decide) (show 32 ≤ x.natAbs.log2 from h)
      omega
    · exact h
  have e1 : FP.Core.fromInt FP.Core.b32 x = FP.Core.encode FP.Core.b32 (FP.Core.roundRatio FP.Core.b32 (decide (x < 0)) x.natAbs 1 0) := rfl
  rw [e1]
  unfold FP.Core.roundRatio
  rw [if_neg hn]
  unfold FP.Core.roundAt
  have hlead : FP.Core.leading x.natAbs 1 ≤ x.natAbs.log2 := by
    unfold FP.Core.leading
    have h1 : Nat.log2 1 = 0 := by decide
    rw [h1]
    show (if _ ≤ _ then ((x.natAbs.log2 : Int) - ((0 : Nat) : Int)) else ((x.natAbs.log2 : Int) - ((0 : Nat) : Int)) - 1) ≤ _
    split <;> omega
  have hq : FP.Core.quantum FP.Core.b32 x.natAbs 1 0 = max (-149) (FP.Core.leading x.natAbs 1 + 0 - 23) := rfl
  generalize hQ : FP.Core.quantum FP.Core.b32 x.natAbs 1 0 = Q at *
  have hQ8 : Q ≤ 8 := by omega
  have hnear : FP.Core.nearest (FP.Core.unitsNum x.natAbs 0 Q) (FP.Core.unitsDen 1 0 Q) ≠ 0 := by
    have hge : FP.Core.unitsNum x.natAbs 0 Q / FP.Core.unitsDen 1 0 Q ≠ 0 := by
      unfold FP.Core.unitsNum FP.Core.unitsDen
      have hp : 0 < 2 ^ (Q - 0).toNat := Nat.pos_of_ne_zero (by simp)
      have : 1 * 2 ^ (Q - 0).toNat ≤ x.natAbs * 2 ^ (0 - Q).toNat := by
        by_cases hQ0 : Q ≤ 0
        · have : (Q - 0).toNat = 0 := by omega
          rw [this]
          have h3 : 0 < 2 ^ (0 - Q).toNat := Nat.pos_of_ne_zero (by simp)
          have := Nat.mul_le_mul (show 1 ≤ x.natAbs by omega) (show 1 ≤ 2 ^ (0 - Q).toNat by omega)
          simpa using this
        · have h3 : (0 - Q).toNat = 0 := by omega
          rw [h3]
          have h4 : (Q - 0).toNat ≤ x.natAbs.log2 := by omega
          have h5 := Nat.pow_le_pow_right (n := 2) (by decide) h4
          have h6 := Nat.log2_self_le hn
          simp only [Nat.pow_zero, Nat.mul_one, Nat.one_mul]
          omega
      have h7 := Nat.div_le_div_right (c := 1 * 2 ^ (Q - 0).toNat) this
      rw [Nat.div_self (by omega)] at h7
      omega
    unfold FP.Core.nearest
    generalize FP.Core.unitsNum x.natAbs 0 Q / FP.Core.unitsDen 1 0 Q = z at hge ⊢
    split
    · exact hge
    · split
      · omega
      · omega
  unfold FP.Core.settle
  split
  · rename_i hc
    have e2 : ∀ c, FP.Core.bound FP.Core.b32 (decide (x < 0)) c Q = .fin (decide (x < 0)) c Q := fun c => if_pos (show Q ≤ 104 by omega)
    rw [e2]
    obtain ⟨c', q', h1, h2⟩ := fp_dec (decide (x < 0)) (q := Q) hc (by omega) hnear
    exact ⟨_, c', q', h1, h2⟩
  · have e2 : FP.Core.bound FP.Core.b32 (decide (x < 0)) FP.Core.b32.tails (Q + 1) = .fin (decide (x < 0)) 8388608 (Q + 1) := if_pos (show Q + 1 ≤ 104 by omega)
    rw [e2]
    obtain ⟨c', q', h1, h2⟩ := fp_dec (decide (x < 0)) (c := 8388608) (q := Q + 1) (by decide) (by omega) (by decide)
    exact ⟨_, c', q', h1, h2⟩
theorem fp_int0 : ∃ s c q, FP.Core.decode FP.Core.b32 (FP.Core.fromInt FP.Core.b32 0) = .fin s c q := ⟨false, 0, -149, by decide⟩
theorem fp_i2f (a : Int32) : (FP.i2f a).toNat = FP.Core.fromInt FP.Core.b32 a.toInt := by
  show (UInt32.ofNat (FP.Core.fromInt FP.Core.b32 a.toInt)).toNat = _
  have h1 : FP.Core.fromInt FP.Core.b32 a.toInt < UInt32.size := (fp_rr (decide (a.toInt < 0)) a.toInt.natAbs 1 0).1
  exact UInt32.toNat_ofNat_of_lt h1
theorem i32_abs (a : Int32) : a.toInt.natAbs ≤ 2 ^ 31 := by
  have h1 := a.toInt_lt
  have h2 := a.le_toInt
  omega
theorem fp_decI (a : Int32) : ∃ s c q, FP.Core.decode FP.Core.b32 (FP.i2f a).toNat = .fin s c q ∧ (a ≠ 0 → c ≠ 0) := by
  rw [fp_i2f]
  by_cases h : a = 0
  · obtain ⟨s, c, q, e⟩ := fp_int0
    subst h
    exact ⟨s, c, q, e, fun h => absurd rfl h⟩
  · have h0 : a.toInt ≠ 0 := fun e => h (Int32.toInt_inj.mp (by rw [e]; rfl))
    obtain ⟨s, c, q, e, hc⟩ := fp_int (i32_abs a) h0
    exact ⟨s, c, q, e, fun _ => hc⟩
/-- a quotient of ints -/
theorem fp_div (a : Int32) {b : Int32} (hb : b ≠ 0) : (FP.fdiv (FP.i2f a) (FP.i2f b)) &&& 0x7fffffff ≤ 0x7f800000 := by
  obtain ⟨s, c, q, ea, -⟩ := fp_decI a
  obtain ⟨t, d, u, eb, hd⟩ := fp_decI b
  have e : FP.fdiv (FP.i2f a) (FP.i2f b) = UInt32.ofNat (FP.Core.encode FP.Core.b32 (FP.Core.roundRatio FP.Core.b32 (s != t) c d (q - u))) := by
    show UInt32.ofNat (FP.Core.div FP.Core.b32 (FP.i2f a).toNat (FP.i2f b).toNat) = _
    unfold FP.Core.div
    rw [ea, eb]
    have e2 : FP.Core.quotient FP.Core.b32 (.fin s c q) (.fin t d u) = if d = 0 then (if c = 0 then .nan else .inf (s != t)) else FP.Core.roundRatio FP.Core.b32 (s != t) c d (q - u) := rfl
    rw [e2, if_neg (hd hb)]
  rw [e]
  have := fp_rr (s != t) c d (q - u)
  exact fp_n32 this.1 this.2
theorem s_fdiv (a : Int32) {b : Int32} (hb : b ≠ 0) : sFdiv (FP.i2f a) (FP.i2f b) = some (FP.fdiv (FP.i2f a) (FP.i2f b)) := if_pos (fp_div a hb)
end FPT

