/-! LEVEL 2: a receiver takes a bit, on both sides -/
theorem enc_lt : ∀ (k u : Nat), enc k u < 4 ^ k := by
  intro k
  induction k with
  | zero => intro u; simp [enc]
  | succ k ih =>
    intro u
    have := ih (u / 2)
    show 4 * enc k (u / 2) + (if u % 2 = 1 then 2 else 1) < 4 ^ (k + 1)
    rw [Nat.pow_succ]
    split <;> omega
theorem lst_ok : ∀ (f : Fin 16) (b : Fin 2), ((nI f.val <<< ((1 : Int32) &&& 31)) ||| nI b.val) &&& 15 = nI f.val * 2 - nI f.val * 2 / 16 * 16 + nI b.val ∧ ∃ q : Fin 16, nI f.val * 2 - nI f.val * 2 / 16 * 16 + nI b.val = nI q.val := by decide +kernel
theorem sh_ok : ∀ (u : Fin 32) (b : Fin 2), ((nI u.val <<< ((1 : Int32) &&& 31)) ||| nI b.val) = nI (2 * u.val + b.val) := by decide +kernel
theorem an_ok : ∀ u : Fin 32, (nI u.val &&& 1) = nI (u.val % 2) := by decide +kernel
theorem wrd_ok : ∀ u : Fin 32, wrd (nI (enc 5 u.val)) 5 = nI u.val := by decide +kernel
theorem nI_m12 {u : Nat} (hu : u < 32) : ¬ nI u = -2 ∧ ¬ nI u = -1 := by
  have key : ∀ q : Fin 32, ¬ nI q.val = -2 ∧ ¬ nI q.val = -1 := by decide
  exact key ⟨u, hu⟩
def lisW (w : NW) (a : Nat) : NW := up3 (up3 w 4 a 0 0) 4 a 1 0
section CLS6
variable {σ : SG} {n : Nat} {w : NW}
theorem c_listen {a : Nat} (ha : a < 6) (x : Int32) : m_X4_listen (some (rcvA n a)) x (ovr σ n w) = some (-1, ovr σ n (if ((w 4 a 1 <<< ((1 : Int32) &&& 31)) ||| x) &&& 15 = 14 then up3 (up3 (up3 (up3 w 4 a 1 (((w 4 a 1 <<< ((1 : Int32) &&& 31)) ||| x) &&& 15)) 4 a 0 1) 4 a 2 0) 4 a 3 0 else up3 w 4 a 1 (((w 4 a 1 <<< ((1 : Int32) &&& 31)) ||| x) &&& 15))) := by
  unfold m_X4_listen
  simp only [gI_rcv_1 ha, Option.bind_some, pI_rcv_1 ha, up3_eq, pZ_rcv_0 ha _ (Or.inr rfl), pI_rcv_2 ha, pI_rcv_3 ha]
  split <;> rfl
theorem c_anew {a : Nat} (ha : a < 6) : m_X4_listenAnew (some (rcvA n a)) (ovr σ n w) = some ((), ovr σ n (lisW w a)) := by
  unfold m_X4_listenAnew lisW
  simp only [pZ_rcv_0 ha _ (Or.inl rfl), Option.bind_some, pI_rcv_1 ha]
/-- what a reading receiver does: which answer, and what it holds then -/
theorem c_read {a : Nat} (ha : a < 6) (x : Int32) : m_X4_read (some (rcvA n a)) x (ovr σ n w) = some (if (w 4 a 2 + 1) - (w 4 a 2 + 1) / 2 * 2 = 0 then (if (w 4 a 3 &&& 1) = x then (-2, ovr σ n (lisW (up3 w 4 a 2 (w 4 a 2 + 1)) a)) else if 10 ≤ w 4 a 2 + 1 then (w 4 a 3, ovr σ n (lisW (up3 w 4 a 2 (w 4 a 2 + 1)) a)) else (-1, ovr σ n (up3 w 4 a 2 (w 4 a 2 + 1)))) else (-1, ovr σ n (up3 (up3 w 4 a 2 (w 4 a 2 + 1)) 4 a 3 ((w 4 a 3 <<< ((1 : Int32) &&& 31)) ||| x)))) := by
  unfold m_X4_read
  have e3 : lisW (up3 w 4 a 2 (w 4 a 2 + 1)) a 4 a 3 = w 4 a 3 := by
    unfold lisW
    rw [up3_f (by decide), up3_f (by decide), up3_f (by decide)]
  simp only [gI_rcv_2 ha, Option.bind_some, pI_rcv_2 ha, up3_eq, two_ne, if_false, gI_rcv_3 ha, up3_f (by decide : (3 : Nat) ≠ 2), ob_rcv ha, c_anew ha, bnd_some, e3, pI_rcv_3 ha]
  split
  · split
    · rfl
    · split <;> rfl
  · rfl
theorem bnd_id {β : Type} (F : Option (β × SG)) : bnd F (fun r σ => some (r, σ)) = F := by
  cases F <;> rfl
theorem c_asN {x : Int32} (h : b01 x) (σ : SG) : m_X8_asNumber x σ = some (x, σ) := by
  unfold m_X8_asNumber
  rcases h with h | h
  · rw [if_pos h, h]
  · rw [if_neg (by rw [h]; exact one_ne), h]
end CLS6
theorem RelR_o {g w g' w' : NW} {a : Nat} (h : ∀ i, i < 6 → RelR g w i) (hg : ∀ i j, i ≠ a → g' 4 i j = g 4 i j) (hw : ∀ i j, i ≠ a → w' 4 i j = w 4 i j) (ha : RelR g' w' a) : ∀ i, i < 6 → RelR g' w' i := by
  intro i hi
  by_cases e : i = a
  · rw [e]; exact ha
  · exact (h i hi).of4 (fun j => hg i j e) (fun j => hw i j e)
theorem up3_4o (w : NW) {a i j j' : Nat} {v : Int32} (h : i ≠ a) : up3 w 4 a j v 4 i j' = w 4 i j' := up3_i h
theorem lisG_o (g : NW) {a c i j : Nat} (h : ¬ (c = 4 ∧ i = a)) : lisG g a c i j = g c i j := by
  unfold lisG
  rw [up3_o h, up3_o h, up3_o h, up3_o h]
theorem lisW_o (g : NW) {a c i j : Nat} (h : ¬ (c = 4 ∧ i = a)) : lisW g a c i j = g c i j := by
  unfold lisW
  rw [up3_o h, up3_o h]
theorem lisG_4 (g : NW) (a : Nat) : lisG g a 4 a 0 = 0 ∧ lisG g a 4 a 1 = 0 ∧ lisG g a 4 a 2 = 0 ∧ lisG g a 4 a 3 = 0 ∧ ∀ j, 4 ≤ j → lisG g a 4 a j = g 4 a j := by
  unfold lisG
  refine ⟨?_, ?_, ?_, ?_, fun j hj => ?_⟩
  · rw [up3_f (by decide), up3_f (by decide), up3_f (by decide), up3_eq]
  · rw [up3_f (by decide), up3_f (by decide), up3_eq]
  · rw [up3_f (by decide), up3_eq]
  · rw [up3_eq]
  · rw [up3_f (by omega), up3_f (by omega), up3_f (by omega), up3_f (by omega)]
theorem lisW_4 (g : NW) (a : Nat) : lisW g a 4 a 0 = 0 ∧ lisW g a 4 a 1 = 0 ∧ ∀ j, 2 ≤ j → lisW g a 4 a j = g 4 a j := by
  unfold lisW
  refine ⟨?_, ?_, fun j hj => ?_⟩
  · rw [up3_f (by decide), up3_eq]
  · rw [up3_eq]
  · rw [up3_f (by omega), up3_f (by omega)]
theorem Base_lis {g w : NW} (hb : Base g w) (a : Nat) : Base (lisG g a) (lisW w a) := by
  unfold lisG lisW
  exact (((((hb.up4 _).up4 _).up4g _).up4g _).up4g _).up4g _
/-- a receiver that listens again: what the relation asks of it -/
theorem RelR_lis {g w : NW} {a : Nat} (hl : LastOK (g 4 a 4) (w 4 a 4)) (h5 : w 4 a 5 = g 4 a 5) (h6 : w 4 a 6 = g 4 a 6) : RelR (lisG g a) (lisW w a) a := by
  obtain ⟨g0, g1, g2, g3, gj⟩ := lisG_4 g a
  obtain ⟨w0, w1, wj⟩ := lisW_4 w a
  refine ⟨by rw [g0, w0], by rw [g1, w1], fun h => ?_, ?_, ?_, ?_, fun _ => ⟨g2, g3⟩⟩
  · rw [g0] at h; exact absurd h (by decide)
  · rw [gj 4 (by decide), wj 4 (by decide)]; exact hl
  · rw [gj 5 (by decide), wj 5 (by decide)]; exact h5
  · rw [gj 6 (by decide), wj 6 (by decide)]; exact h6
section CLS7
variable {σ : SG} {n : Nat} {g w : NW}
theorem c_take1 {h : Nat → Int32} {a : Nat} (ha : a < 6) (hR : Rel g w) (hI : Inv g) (hb : ∀ j, b01 (h j)) (hh : w 8 0 a = h a) (rec : Option Nat → Int32 → Int32 → SG → Option (Int32 × SG)) (v : Int32) :
    ∃ (w' : NW) (e : Int32), m_X3_takeBits_B4 rec (some n) v (nI a) (ovr σ n w) = rec (some n) (v + e) (nI (a + 1)) (ovr σ n w') ∧ Rel (tak1 h g a) w' ∧ (∀ i j, w' 8 i j = w 8 i j) ∧ tak1 h g a 7 0 2 = g 7 0 2 + e := by
  have hB := hR.1
  obtain ⟨r0, r1, r2, r4, r5, r6, r7⟩ := hR.2 a ha
  obtain ⟨i0, ⟨f, hf, hf1⟩, ⟨o, ho, ho1⟩⟩ := hI.2.2.2 a ha
  have z0 : v + 0 = v := by simp
  have zg : g 7 0 2 + 0 = g 7 0 2 := by simp
  unfold m_X3_takeBits_B4 m_X3_takeBits_b70
  simp only [gR_net_3, Option.bind_some, len_4, ald_4 ha, ob_net, ob_rcv ha]
  rw [if_neg (show ¬ (6 : Int32) ≤ nI a from nI_ge (b := 6) (by omega) (by decide)), c_heard ha (by rw [hh]; exact hb a)]
  simp only [bnd_some, hh, c_asN (hb a), ob_rcv ha, Option.bind_some]
  obtain ⟨b, hb2, hhb⟩ : ∃ b : Nat, b < 2 ∧ h a = nI b := by
    rcases hb a with e | e
    · exact ⟨0, by decide, e⟩
    · exact ⟨1, by decide, e⟩
  have t4 : ∀ W : NW, sAld (some (n + 6)) 1 4 (ovr σ n W) = some (W 7 0 4) := fun W => ald_6 (i := 4) (by decide)
  have u4 : ∀ (W : NW) (x : Int32), sAst (some (n + 6)) 1 4 x (ovr σ n W) = some (ovr σ n (up3 W 7 0 4 x)) := fun W x => ast_6 (i := 4) (by decide) x
  rcases i0 with i0 | i0
  · -- it listens
    have w0 : w 4 a 0 = 0 := r0.trans i0
    have et : m_X4_take (some (rcvA n a)) (h a) (ovr σ n w) = m_X4_listen (some (rcvA n a)) (h a) (ovr σ n w) := by
      unfold m_X4_take
      simp only [gI_rcv_0 ha, Option.bind_some, w0, if_true, ob_rcv ha]
      exact bnd_id _
    rw [et, c_listen ha]
    obtain ⟨l1, q, l2⟩ := lst_ok ⟨f, hf⟩ ⟨b, hb2⟩
    have ev : ((w 4 a 1 <<< ((1 : Int32) &&& 31)) ||| h a) &&& 15 = g 4 a 1 * 2 - g 4 a 1 * 2 / 16 * 16 + h a := by rw [r1, hf1, hhb]; exact l1
    rw [ev]
    simp only [bnd_some]
    rw [if_neg (show ¬ (-1 : Int32) = -2 by decide), if_pos trivial, ← nI_succ]
    have etk : tak1 h g a = up3 (up3 g 4 a 1 (g 4 a 1 * 2 - g 4 a 1 * 2 / 16 * 16 + h a)) 4 a 0 (if g 4 a 1 * 2 - g 4 a 1 * 2 / 16 * 16 + h a = 14 then 1 else 0) := by
      unfold tak1
      rw [if_pos i0]
    rw [etk]
    generalize g 4 a 1 * 2 - g 4 a 1 * 2 / 16 * 16 + h a = V
    refine ⟨_, 0, by rw [z0], ⟨?_, RelR_o (a := a) hR.2 (fun i j hi => by rw [up3_i hi, up3_i hi]) (fun i j hi => by split <;> simp only [up3_4o _ hi]) ?_⟩, fun i j => by split <;> simp only [up3_c (by decide : (8 : Nat) ≠ 4)], by rw [up3_c (by decide), up3_c (by decide), zg]⟩
    · split
      · exact (((((hB.up4 _).up4 _).up4 _).up4 _).up4g _).up4g _
      · exact ((hB.up4 _).up4g _).up4g _
    · obtain ⟨q2, q3⟩ := r7 i0
      by_cases h14 : V = 14
      · rw [if_pos h14, if_pos h14]
        refine ⟨by rw [up3_f (by decide), up3_f (by decide), up3_eq, up3_eq], by rw [up3_f (by decide), up3_f (by decide), up3_f (by decide), up3_eq, up3_f (by decide), up3_eq], fun _ => ⟨by rw [up3_f (by decide), up3_eq, up3_f (by decide), up3_f (by decide), q2], ?_⟩, by rw [up3_f (by decide), up3_f (by decide), up3_f (by decide), up3_f (by decide), up3_f (by decide), up3_f (by decide)]; exact r4, by rw [up3_f (by decide), up3_f (by decide), up3_f (by decide), up3_f (by decide), up3_f (by decide), up3_f (by decide)]; exact r5, by rw [up3_f (by decide), up3_f (by decide), up3_f (by decide), up3_f (by decide), up3_f (by decide), up3_f (by decide)]; exact r6, fun e => ?_⟩
        · rw [up3_f (by decide), up3_f (by decide), q2, up3_f (by decide), up3_f (by decide), q3, up3_eq]
          exact ⟨0, 0, by decide, rfl, rfl, by decide, rfl⟩
        · rw [up3_eq] at e; exact absurd e one_ne
      · rw [if_neg h14, if_neg h14]
        refine ⟨by rw [up3_f (by decide), up3_eq]; exact w0, by rw [up3_eq, up3_f (by decide), up3_eq], fun e => ?_, by rw [up3_f (by decide), up3_f (by decide), up3_f (by decide)]; exact r4, by rw [up3_f (by decide), up3_f (by decide), up3_f (by decide)]; exact r5, by rw [up3_f (by decide), up3_f (by decide), up3_f (by decide)]; exact r6, fun _ => by rw [up3_f (by decide), up3_f (by decide), up3_f (by decide), up3_f (by decide)]; exact ⟨q2, q3⟩⟩
        rw [up3_eq] at e; exact absurd e (Ne.symm one_ne)
  · -- it reads
    have w0 : w 4 a 0 = 1 := r0.trans i0
    obtain ⟨e2, mm, uu, hm9, hm, hu, hul, hbt⟩ := r2 i0
    have et : m_X4_take (some (rcvA n a)) (h a) (ovr σ n w) = m_X4_read (some (rcvA n a)) (h a) (ovr σ n w) := by
      unfold m_X4_take
      simp only [gI_rcv_0 ha, Option.bind_some, w0, one_ne, if_false, ob_rcv ha]
      exact bnd_id _
    have hpow : 2 ^ ((mm + 1) / 2) ≤ 32 := by
      have : (mm + 1) / 2 ≤ 5 := by omega
      exact Nat.le_trans (Nat.pow_le_pow_right (by decide) this) (by decide)
    have hu32 : uu < 32 := by omega
    have em : w 4 a 2 + 1 = nI (mm + 1) := by rw [e2, hm, nI_succ]
    have em' : g 4 a 2 + 1 = nI (mm + 1) := by rw [hm, nI_succ]
    have par : nI (mm + 1) - nI (mm + 1) / 2 * 2 = nI ((mm + 1) % 2) := pk_rem (d := 2) (by omega) (by decide) (by decide)
    have hE := enc_lt (mm / 2)
    have h4 : 4 ^ (mm / 2) ≤ 256 := by
      have : mm / 2 ≤ 4 := by omega
      exact Nat.le_trans (Nat.pow_le_pow_right (by decide) this) (by decide)
    have eb : 2 * g 4 a 3 + h a = nI (2 * encB mm uu + b) := by
      rw [hbt, hhb]
      show nI 2 * nI _ + nI b = _
      rw [nI_mul, nI_add]
    have etk : tak1 h g a = if nI ((mm + 1) % 2) = 0 ∧ (nI (2 * encB mm uu + b) - nI (2 * encB mm uu + b) / 4 * 4 = 0 ∨ nI (2 * encB mm uu + b) - nI (2 * encB mm uu + b) / 4 * 4 = 3) then lisG (up3 (up3 (up3 g 4 a 2 (nI (mm + 1))) 4 a 3 (nI (2 * encB mm uu + b))) 7 0 4 (g 7 0 4 + 1)) a else if nI (mm + 1) = 10 then lisG (telG (up3 (up3 g 4 a 2 (nI (mm + 1))) 4 a 3 (nI (2 * encB mm uu + b))) a (wrd (nI (2 * encB mm uu + b)) 5)) a else up3 (up3 g 4 a 2 (nI (mm + 1))) 4 a 3 (nI (2 * encB mm uu + b)) := by
      unfold tak1
      rw [if_neg (by rw [i0]; exact one_ne), em', eb, par]
    rw [et, c_read ha, em, par, hu]
    by_cases hev : mm % 2 = 0
    · -- the first bit of a pair
      have p1 : (mm + 1) % 2 = 1 := by omega
      rw [p1, if_neg (show ¬ nI 1 = 0 from one_ne)]
      rw [p1, if_neg (fun e => absurd e.1 (show ¬ nI 1 = 0 from one_ne)), if_neg (show ¬ nI (mm + 1) = 10 from fun e => by have := (nI_eq (a := mm + 1) (b := 10) (by omega) (by decide)).mp e; omega)] at etk
      simp only [bnd_some]
      rw [if_neg (show ¬ (-1 : Int32) = -2 by decide), if_pos trivial, ← nI_succ, etk, hhb, sh_ok ⟨uu, hu32⟩ ⟨b, hb2⟩]
      refine ⟨_, 0, by rw [z0], ⟨(((hB.up4 _).up4 _).up4g _).up4g _, RelR_o (a := a) hR.2 (fun i j hi => by rw [up3_i hi, up3_i hi]) (fun i j hi => by rw [up3_i hi, up3_i hi]) ?_⟩, fun i j => by rw [up3_c (by decide), up3_c (by decide)], by rw [up3_c (by decide), up3_c (by decide), zg]⟩
      refine ⟨by rw [up3_f (by decide), up3_f (by decide), up3_f (by decide), up3_f (by decide)]; exact r0, by rw [up3_f (by decide), up3_f (by decide), up3_f (by decide), up3_f (by decide)]; exact r1, fun _ => ⟨by rw [up3_f (by decide), up3_eq, up3_f (by decide), up3_eq], ?_⟩, by rw [up3_f (by decide), up3_f (by decide), up3_f (by decide), up3_f (by decide)]; exact r4, by rw [up3_f (by decide), up3_f (by decide), up3_f (by decide), up3_f (by decide)]; exact r5, by rw [up3_f (by decide), up3_f (by decide), up3_f (by decide), up3_f (by decide)]; exact r6, fun e => ?_⟩
      · rw [up3_f (by decide), up3_eq, up3_eq, up3_eq]
        refine ⟨mm + 1, 2 * uu + b, by omega, rfl, rfl, ?_, ?_⟩
        · rw [show (mm + 1 + 1) / 2 = (mm + 1) / 2 + 1 by omega, Nat.pow_succ]; omega
        · unfold encB
          rw [if_pos hev, if_neg (by omega), show (mm + 1) / 2 = mm / 2 by omega, show (2 * uu + b) / 2 = uu by omega, show (2 * uu + b) % 2 = b by omega]
      · rw [up3_f (by decide), up3_f (by decide), i0] at e; exact absurd e one_ne
    · -- the second
      have p0 : (mm + 1) % 2 = 0 := by omega
      have hB2 : encB mm uu = 2 * enc (mm / 2) (uu / 2) + uu % 2 := by unfold encB; rw [if_neg hev]
      have hlt : 2 * encB mm uu + b < 2 ^ 31 := by have := hE (uu / 2); omega
      have q4 : nI (2 * encB mm uu + b) - nI (2 * encB mm uu + b) / 4 * 4 = nI ((2 * encB mm uu + b) % 4) := pk_rem (d := 4) hlt (by decide) (by decide)
      have q4' : (2 * encB mm uu + b) % 4 = 2 * (uu % 2) + b := by rw [hB2]; omega
      rw [p0, if_pos (show nI 0 = 0 from rfl), an_ok ⟨uu, hu32⟩, hhb]
      rw [p0, q4, q4'] at etk
      by_cases hbad : uu % 2 = b
      · -- a bad word
        rw [if_pos (show nI (uu % 2) = nI b by rw [hbad])]
        rw [if_pos ⟨rfl, by
          rcases (show b = 0 ∨ b = 1 by omega) with z | z
          · left; rw [hbad, z]; rfl
          · right; rw [hbad, z]; rfl⟩] at etk
        simp only [bnd_some]
        rw [if_pos trivial]
        simp only [gR_net_5, Option.bind_some, t4, u4, ← nI_succ]
        have e7 : lisW (up3 w 4 a 2 (nI (mm + 1))) a 7 0 4 = w 7 0 4 := by rw [lisW_o _ (by omega), up3_c (by decide)]
        have el : ∀ G : NW, lisG (up3 G 7 0 4 (g 7 0 4 + 1)) a = up3 (lisG G a) 7 0 4 (g 7 0 4 + 1) := by
          intro G
          funext c i j
          by_cases hc : c = 4 ∧ i = a
          · obtain ⟨rfl, rfl⟩ := hc
            rw [up3_c (by decide)]
            unfold lisG
            simp only [up3]
            simp
          · rw [lisG_o _ hc]
            simp only [up3]
            rw [lisG_o _ hc]
        rw [etk, e7, hB.c7, el]
        refine ⟨_, 0, by rw [z0], ⟨(Base_lis (((hB.up4 _).up4g _).up4g _) a).up _ (Or.inl (by decide)) (Or.inl (by decide)), RelR_o (a := a) hR.2 (fun i j hi => by rw [up3_c (by decide), lisG_o _ (by omega), up3_i hi, up3_i hi]) (fun i j hi => by rw [up3_c (by decide), lisW_o _ (by omega), up3_i hi]) ?_⟩, fun i j => by rw [up3_c (by decide), lisW_o _ (by omega), up3_c (by decide)], by rw [up3_f (by decide), lisG_o _ (by omega), up3_c (by decide), up3_c (by decide), zg]⟩
        refine RelR.of4 (RelR_lis (g := up3 (up3 g 4 a 2 (nI (mm + 1))) 4 a 3 (nI (2 * encB mm uu + b))) (w := up3 w 4 a 2 (nI (mm + 1))) ?_ ?_ ?_) (fun j => up3_c (by decide)) (fun j => up3_c (by decide))
        · rw [up3_f (by decide), up3_f (by decide), up3_f (by decide)]; exact r4
        · rw [up3_f (by decide), up3_f (by decide), up3_f (by decide)]; exact r5
        · rw [up3_f (by decide), up3_f (by decide), up3_f (by decide)]; exact r6
      · rw [if_neg (show ¬ nI (uu % 2) = nI b from fun e => hbad ((nI_eq (by omega) (by omega)).mp e))]
        have pr : 2 * (uu % 2) + b = 1 ∨ 2 * (uu % 2) + b = 2 := by omega
        have ebit : 2 * encB mm uu + b = enc (mm / 2 + 1) uu := by
          rw [hB2]
          show _ = 4 * enc (mm / 2) (uu / 2) + (if uu % 2 = 1 then 2 else 1)
          split <;> omega
        rw [if_neg (fun e => e.2.elim (fun z => by rcases pr with y | y <;> rw [y] at z <;> exact absurd z (by decide)) (fun z => by rcases pr with y | y <;> rw [y] at z <;> exact absurd z (by decide)))] at etk
        by_cases h10 : mm = 9
        · -- a word is told
          subst h10
          rw [if_pos (show (10 : Int32) ≤ nI (9 + 1) by decide)]
          rw [if_pos (show nI (9 + 1) = 10 by rfl)] at etk
          simp only [bnd_some]
          rw [if_neg (nI_m12 hu32).1, if_neg (nI_m12 hu32).2]
          simp only [gR_net_3, Option.bind_some, ald_4 ha, ob_net]
          have hw6 : lisW (up3 w 4 a 2 (nI (9 + 1))) a 4 a 6 = nI o := by rw [(lisW_4 _ a).2.2 6 (by decide), up3_f (by decide), r6]; exact ho1
          have hLw : ∀ i, i < 8 → InvL (lisW (up3 w 4 a 2 (nI (9 + 1))) a) i := by
            intro i hi
            have := hI.2.2.1 i hi
            unfold InvL at this ⊢
            rw [lisW_o _ (by omega), lisW_o _ (by omega), up3_c (by decide), up3_c (by decide), hB.c3, hB.c3]
            exact this
          rw [c_hearWord ha hu32 hw6 ho hLw]
          simp only [bnd_some, ← nI_succ]
          have ew : wrd (nI (2 * encB 9 uu + b)) 5 = nI uu := by rw [ebit]; exact wrd_ok ⟨uu, hu32⟩
          rw [ew] at etk
          generalize hG : up3 (up3 g 4 a 2 (nI (9 + 1))) 4 a 3 (nI (2 * encB 9 uu + b)) = G at etk
          generalize hW : lisW (up3 w 4 a 2 (nI (9 + 1))) a = W at hw6 hLw ⊢
          have bGW : Base G W := by
            rw [← hG, ← hW]
            unfold lisW
            exact ((((hB.up4 _).up4 _).up4 _).up4g _).up4g _
          have G4 : ∀ j, 4 ≤ j → G 4 a j = g 4 a j := fun j hj => by rw [← hG, up3_f (by omega), up3_f (by omega)]
          have W4 : ∀ j, 4 ≤ j → W 4 a j = w 4 a j := fun j hj => by rw [← hW, (lisW_4 _ a).2.2 j (by omega), up3_f (by omega)]
          have Go : ∀ i j, i ≠ a → G 4 i j = g 4 i j := fun i j hi => by rw [← hG, up3_i hi, up3_i hi]
          have Wo : ∀ i j, i ≠ a → W 4 i j = w 4 i j := fun i j hi => by rw [← hW, lisW_o _ (by omega), up3_i hi]
          obtain ⟨tb, tl, t5, t6, t7⟩ := tel_rel bGW (a := a) hu32 (by rw [G4 4 (by decide), W4 4 (by decide)]; exact r4) (by rw [G4 5 (by decide), W4 5 (by decide)]; exact r5) (by rw [G4 6 (by decide), W4 6 (by decide)]; exact r6)
          rw [etk]
          obtain ⟨s0, s1, s2, s3, sj⟩ := lisG_4 (telG G a (nI uu)) a
          refine ⟨_, _, rfl, ⟨?_, RelR_o (a := a) hR.2 (fun i j hi => by rw [lisG_o _ (by omega), telG_4o _ _ _ (fun e => hi e.1)]; exact Go i j hi) (fun i j hi => by rw [ctelW_4o _ _ _ (fun e => hi e.1)]; exact Wo i j hi) ?_⟩, fun i j => by rw [ctelW_8, ← hW, lisW_o _ (by omega), up3_c (by decide)], by rw [lisG_o _ (by omega), t7, ← hG, up3_c (by decide), up3_c (by decide)]⟩
          · unfold lisG
            exact (((tb.up4g _).up4g _).up4g _).up4g _
          · have W0 : W 4 a 0 = 0 ∧ W 4 a 1 = 0 := by rw [← hW]; exact ⟨(lisW_4 _ a).1, (lisW_4 _ a).2.1⟩
            refine ⟨by rw [s0, ctelW_4o _ _ _ (by omega)]; exact W0.1, by rw [s1, ctelW_4o _ _ _ (by omega)]; exact W0.2, fun e => ?_, by rw [sj 4 (by decide)]; exact tl, by rw [sj 5 (by decide)]; exact t5, by rw [sj 6 (by decide)]; exact t6, fun _ => ⟨s2, s3⟩⟩
            rw [s0] at e; exact absurd e (Ne.symm one_ne)
        · -- it reads on
          rw [if_neg (show ¬ (10 : Int32) ≤ nI (mm + 1) from nI_ge (b := 10) (by omega) (by decide))]
          rw [if_neg (show ¬ nI (mm + 1) = 10 from fun e => by have := (nI_eq (a := mm + 1) (b := 10) (by omega) (by decide)).mp e; omega)] at etk
          simp only [bnd_some]
          rw [if_neg (show ¬ (-1 : Int32) = -2 by decide), if_pos trivial, ← nI_succ, etk]
          refine ⟨_, 0, by rw [z0], ⟨((hB.up4 _).up4g _).up4g _, RelR_o (a := a) hR.2 (fun i j hi => by rw [up3_i hi, up3_i hi]) (fun i j hi => by rw [up3_i hi]) ?_⟩, fun i j => by rw [up3_c (by decide)], by rw [up3_c (by decide), up3_c (by decide), zg]⟩
          refine ⟨by rw [up3_f (by decide), up3_f (by decide), up3_f (by decide)]; exact r0, by rw [up3_f (by decide), up3_f (by decide), up3_f (by decide)]; exact r1, fun _ => ⟨by rw [up3_eq, up3_f (by decide), up3_eq], ?_⟩, by rw [up3_f (by decide), up3_f (by decide), up3_f (by decide)]; exact r4, by rw [up3_f (by decide), up3_f (by decide), up3_f (by decide)]; exact r5, by rw [up3_f (by decide), up3_f (by decide), up3_f (by decide)]; exact r6, fun e => ?_⟩
          · rw [up3_f (by decide), up3_eq, up3_eq, up3_f (by decide), hu, ebit]
            refine ⟨mm + 1, uu, by omega, rfl, rfl, ?_, ?_⟩
            · rw [show (mm + 1 + 1) / 2 = (mm + 1) / 2 by omega]; exact hul
            · unfold encB
              rw [if_pos p0, show (mm + 1) / 2 = mm / 2 + 1 by omega]
          · rw [up3_f (by decide), up3_f (by decide), i0] at e; exact absurd e one_ne
end CLS7

