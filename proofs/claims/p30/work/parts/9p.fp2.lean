/-! LEVEL 3: a float that is no NaN, as a double, is none; a double that is none is equal to itself -/
section FPD
theorem fd_asm (s : Bool) (e t : Nat) (he : e ≤ 2047) (ht : t < 2 ^ 52) (h : e = 2047 → t = 0) : FP.Core.assemble FP.Core.b64 s e t < 2 ^ 64 ∧ FP.Core.assemble FP.Core.b64 s e t % 2 ^ 63 ≤ 9218868437227405312 := by
  have e1 : FP.Core.assemble FP.Core.b64 s e t = (s.toNat * 2048 + e) * 4503599627370496 + t := rfl
  rw [e1]
  have hs : s.toNat = 0 ∨ s.toNat = 1 := by cases s <;> simp
  have : e < 2047 ∨ (e = 2047 ∧ t = 0) := by omega
  rcases hs with hs | hs <;> rw [hs] <;> omega
theorem fd_enc_fin (s : Bool) {c : Nat} {q : Int} (hc : c < 2 ^ 53) (hq : q ≤ 971) : FP.Core.encode FP.Core.b64 (.fin s c q) < 2 ^ 64 ∧ FP.Core.encode FP.Core.b64 (.fin s c q) % 2 ^ 63 ≤ 9218868437227405312 := by
  have e1 : FP.Core.encode FP.Core.b64 (.fin s c q) = if c < 4503599627370496 then FP.Core.assemble FP.Core.b64 s 0 c else FP.Core.assemble FP.Core.b64 s ((q - (-1074)).toNat + 1) (c - 4503599627370496) := rfl
  rw [e1]
  split
  · exact fd_asm s 0 c (by omega) (by omega) (by omega)
  · exact fd_asm s _ _ (by omega) (by omega) (by omega)
theorem fd_enc_inf (s : Bool) : FP.Core.encode FP.Core.b64 (.inf s) < 2 ^ 64 ∧ FP.Core.encode FP.Core.b64 (.inf s) % 2 ^ 63 ≤ 9218868437227405312 := fd_asm s 2047 0 (by omega) (by omega) (fun _ => rfl)
theorem fd_bound (s : Bool) {c : Nat} {q : Int} (hc : c < 2 ^ 53) : FP.Core.encode FP.Core.b64 (FP.Core.bound FP.Core.b64 s c q) < 2 ^ 64 ∧ FP.Core.encode FP.Core.b64 (FP.Core.bound FP.Core.b64 s c q) % 2 ^ 63 ≤ 9218868437227405312 := by
  have e1 : FP.Core.bound FP.Core.b64 s c q = if q ≤ 971 then .fin s c q else .inf s := rfl
  rw [e1]
  split
  · rename_i h
    exact fd_enc_fin s hc h
  · exact fd_enc_inf s
theorem fd_rr (s : Bool) (A B : Nat) (e : Int) : FP.Core.encode FP.Core.b64 (FP.Core.roundRatio FP.Core.b64 s A B e) < 2 ^ 64 ∧ FP.Core.encode FP.Core.b64 (FP.Core.roundRatio FP.Core.b64 s A B e) % 2 ^ 63 ≤ 9218868437227405312 := by
  unfold FP.Core.roundRatio
  split
  · exact fd_enc_fin s (by decide) (by decide)
  · unfold FP.Core.roundAt FP.Core.settle
    split
    · rename_i h
      exact fd_bound s h
    · exact fd_bound s (by decide)
theorem fd_n64 {n : Nat} (h : n < 2 ^ 64) (h2 : n % 2 ^ 63 ≤ 9218868437227405312) : (UInt64.ofNat n) &&& 0x7fffffffffffffff ≤ 0x7ff0000000000000 := by
  have hN : (UInt64.ofNat n).toNat = n := UInt64.toNat_ofNat_of_lt (show n < UInt64.size from h)
  rw [UInt64.le_iff_toNat_le, UInt64.toNat_and, hN]
  have e : n &&& 9223372036854775807 = n % 2 ^ 63 := Nat.and_two_pow_sub_one_eq_mod n 63
  show n &&& 9223372036854775807 ≤ 9218868437227405312
  rw [e]
  exact h2
/-- the other way round -/
theorem fd_m32 {f : UInt32} (h : f &&& 0x7fffffff ≤ 0x7f800000) : f.toNat % 2 ^ 31 ≤ 2139095040 := by
  rw [UInt32.le_iff_toNat_le, UInt32.toNat_and] at h
  have e : f.toNat &&& 2147483647 = f.toNat % 2 ^ 31 := Nat.and_two_pow_sub_one_eq_mod f.toNat 31
  have h : f.toNat &&& 2147483647 ≤ 2139095040 := h
  rw [e] at h
  exact h
theorem fd_m64 {f : UInt64} (h : f &&& 0x7fffffffffffffff ≤ 0x7ff0000000000000) : f.toNat % 2 ^ 63 ≤ 9218868437227405312 := by
  rw [UInt64.le_iff_toNat_le, UInt64.toNat_and] at h
  have e : f.toNat &&& 9223372036854775807 = f.toNat % 2 ^ 63 := Nat.and_two_pow_sub_one_eq_mod f.toNat 63
  have h : f.toNat &&& 9223372036854775807 ≤ 9218868437227405312 := h
  rw [e] at h
  exact h
theorem fd_dec32 {n : Nat} (h : n % 2 ^ 31 ≤ 2139095040) : (∃ s, FP.Core.decode FP.Core.b32 n = .inf s) ∨ ∃ s c q, FP.Core.decode FP.Core.b32 n = .fin s c q := by
  unfold FP.Core.decode
  by_cases h1 : FP.Core.fieldE FP.Core.b32 n = FP.Core.b32.exps - 1
  · rw [if_pos h1]
    have h1 : n / 8388608 % 256 = 255 := h1
    have h2 : FP.Core.fieldT FP.Core.b32 n = 0 := by
      show n % 8388608 = 0
      omega
    rw [if_pos h2]
    exact Or.inl ⟨_, rfl⟩
  · rw [if_neg h1]
    split
    · exact Or.inr ⟨_, _, _, rfl⟩
    · exact Or.inr ⟨_, _, _, rfl⟩
theorem fd_dec64 {n : Nat} (h : n % 2 ^ 63 ≤ 9218868437227405312) : (∃ s, FP.Core.decode FP.Core.b64 n = .inf s) ∨ ∃ s c q, FP.Core.decode FP.Core.b64 n = .fin s c q := by
  unfold FP.Core.decode
  by_cases h1 : FP.Core.fieldE FP.Core.b64 n = FP.Core.b64.exps - 1
  · rw [if_pos h1]
    have h1 : n / 4503599627370496 % 2048 = 2047 := h1
    have h2 : FP.Core.fieldT FP.Core.b64 n = 0 := by
      show n % 4503599627370496 = 0
      omega
    rw [if_pos h2]
    exact Or.inl ⟨_, rfl⟩
  · rw [if_neg h1]
    split
    · exact Or.inr ⟨_, _, _, rfl⟩
    · exact Or.inr ⟨_, _, _, rfl⟩
theorem fd_f2d {f : UInt32} (h : f &&& 0x7fffffff ≤ 0x7f800000) : vf_n64 (FP.f2d f) := by
  have hd := fd_dec32 (fd_m32 h)
  have hn : FP.Core.fIsNaN f = false := by
    show decide (FP.Core.decode FP.Core.b32 f.toNat = .nan) = false
    rcases hd with ⟨s, e⟩ | ⟨s, c, q, e⟩ <;> rw [e] <;> simp
  have e1 : FP.f2d f = FP.Core.f2d f := by
    unfold FP.f2d
    rw [hn]
    rfl
  have e2 : FP.Core.f2d f = UInt64.ofNat (FP.Core.encode FP.Core.b64 (FP.Core.round FP.Core.b64 (FP.Core.decode FP.Core.b32 f.toNat))) := rfl
  unfold vf_n64
  rw [e1, e2]
  rcases hd with ⟨s, e⟩ | ⟨s, c, q, e⟩ <;> rw [e]
  · have := fd_enc_inf s
    exact fd_n64 this.1 this.2
  · have := fd_rr s c 1 q
    exact fd_n64 this.1 this.2
theorem fd_cmp {x : UInt64} (h : vf_n64 x) : Op.cmpValue (FP.dcmp x x) .l = 0 := by
  have hc : ∀ a : Int, compare a a = Ordering.eq := fun a => by simp [compare, compareOfLessAndEq]
  have e : FP.dcmp x x = some .eq := by
    show FP.Core.order (FP.Core.decode FP.Core.b64 x.toNat) (FP.Core.decode FP.Core.b64 x.toNat) = some .eq
    rcases fd_dec64 (fd_m64 h) with ⟨s, e⟩ | ⟨s, c, q, e⟩ <;> rw [e]
    · exact congrArg some (hc _)
    · exact congrArg some (hc _)
  rw [e]
  rfl
end FPD

