/-! LEVEL 2, third text: what the reference's methods do to its numbers g. Here: the small ones -/
theorem chk0 (σ : SG) : chkZ 0 σ = some (0, σ) := rfl
theorem chk1 (σ : SG) : chkZ 1 σ = some (1, σ) := rfl
theorem nI0 : (0 : Int32) = nI 0 := rfl
theorem three_ne : ¬ (3 : Int32) = 0 := by decide
theorem two_ne : ¬ (2 : Int32) = 0 := by decide
theorem one_ne : ¬ (1 : Int32) = 0 := by decide
section REF1
variable {σ : SG} {M : Nat} {r : Nat → Nat → Int32} {g : NW}
theorem sl0 : sAld (some (M + 1)) 1 0 (ovs σ M r g) = some (g 6 0 0) := sld_set (j := 0) (by decide)
theorem sl1 : sAld (some (M + 1)) 1 1 (ovs σ M r g) = some (g 6 0 1) := sld_set (j := 1) (by decide)
theorem sl2 : sAld (some (M + 1)) 1 2 (ovs σ M r g) = some (g 6 0 2) := sld_set (j := 2) (by decide)
theorem sl3 : sAld (some (M + 1)) 1 3 (ovs σ M r g) = some (g 6 0 3) := sld_set (j := 3) (by decide)
theorem sl4 : sAld (some (M + 1)) 1 4 (ovs σ M r g) = some (g 0 0 0) := sld_time
theorem sl5 : sAld (some (M + 1)) 1 5 (ovs σ M r g) = some (g 7 0 0) := sld_tot (j := 0) (by decide)
theorem sl6 : sAld (some (M + 1)) 1 6 (ovs σ M r g) = some (g 7 0 1) := sld_tot (j := 1) (by decide)
theorem sl7 : sAld (some (M + 1)) 1 7 (ovs σ M r g) = some (g 7 0 2) := sld_tot (j := 2) (by decide)
theorem sl8 : sAld (some (M + 1)) 1 8 (ovs σ M r g) = some (g 7 0 3) := sld_tot (j := 3) (by decide)
theorem sl9 : sAld (some (M + 1)) 1 9 (ovs σ M r g) = some (g 7 0 4) := sld_tot (j := 4) (by decide)
theorem st4 (v : Int32) : sAst (some (M + 1)) 1 4 v (ovs σ M r g) = some (ovs σ M r (up3 g 0 0 0 v)) := sst_time v
theorem st5 (v : Int32) : sAst (some (M + 1)) 1 5 v (ovs σ M r g) = some (ovs σ M r (up3 g 7 0 0 v)) := sst_tot (j := 0) (by decide) v
theorem st6 (v : Int32) : sAst (some (M + 1)) 1 6 v (ovs σ M r g) = some (ovs σ M r (up3 g 7 0 1 v)) := sst_tot (j := 1) (by decide) v
theorem st7 (v : Int32) : sAst (some (M + 1)) 1 7 v (ovs σ M r g) = some (ovs σ M r (up3 g 7 0 2 v)) := sst_tot (j := 2) (by decide) v
theorem st8 (v : Int32) : sAst (some (M + 1)) 1 8 v (ovs σ M r g) = some (ovs σ M r (up3 g 7 0 3 v)) := sst_tot (j := 3) (by decide) v
theorem st9 (v : Int32) : sAst (some (M + 1)) 1 9 v (ovs σ M r g) = some (ovs σ M r (up3 g 7 0 4 v)) := sst_tot (j := 4) (by decide) v
theorem q_in (a b c : Int32) (σ : SG) : m_X9_in a b c σ = some (if a < b then 0 else if c < a then 0 else 1, σ) := by
  unfold m_X9_in
  split
  · rfl
  · split <;> rfl
theorem q_n (i : Nat) (σ : SG) : m_X9_n (nI i) σ = some (nI (xS i 0), σ) := by
  unfold m_X9_n; rw [xS_0]
theorem q_m (i : Nat) (σ : SG) : m_X9_m (nI i) σ = some (nI (xM i 0), σ) := by
  unfold m_X9_m; rw [xM_0]
theorem q_l (i : Nat) (σ : SG) : m_X9_l (nI i) σ = some (nI (xL i 0), σ) := by
  unfold m_X9_l; rw [xL_0]
theorem q_r (i : Nat) (σ : SG) : m_X9_r (nI i) σ = some (nI (xR i 0), σ) := by
  unfold m_X9_r; rw [xR_0]
theorem in_nI {i n : Nat} {c : Int32} (hc : c = nI n) (hn : n < 2 ^ 31) (h : i ≤ n) (σ : SG) : m_X9_in (nI i) 0 c σ = some (1, σ) := by
  rw [q_in, if_neg (nI_pos (by omega)), if_neg]
  rw [hc]
  exact nI_nlt h hn
/-- is a thing there: 1 or 0 -/
def thr (v : Int32) : Int32 := if v = 1 then 1 else 0
theorem q_isSender {i : Nat} (h : i < 5) : m_X9_isSender (some M) (nI i) (ovs σ M r g) = some (thr (g 1 i 0), ovs σ M r g) := by
  unfold m_X9_isSender
  rw [in_nI (c := 4) (n := 4) rfl (by decide) (by omega)]
  simp only [bnd_some, one_ne, if_false, gR_s_0, Option.bind_some, q_n, sld_S h (by decide : 0 < 14), thr]
  split <;> rfl
theorem q_isMachine {i : Nat} (h : i < 4) : m_X9_isMachine (some M) (nI i) (ovs σ M r g) = some (thr (g 2 i 0), ovs σ M r g) := by
  unfold m_X9_isMachine
  rw [in_nI (c := 3) (n := 3) rfl (by decide) (by omega)]
  simp only [bnd_some, one_ne, if_false, gR_s_0, Option.bind_some, q_m, sld_M h (by decide : 0 < 5), thr]
  split <;> rfl
theorem q_isLamp {i : Nat} (h : i < 8) : m_X9_isLamp (some M) (nI i) (ovs σ M r g) = some (thr (g 3 i 0), ovs σ M r g) := by
  unfold m_X9_isLamp
  rw [in_nI (c := 7) (n := 7) rfl (by decide) (by omega)]
  simp only [bnd_some, one_ne, if_false, gR_s_0, Option.bind_some, q_l, sld_L h (by decide : 0 < 6), thr]
  split <;> rfl
/-- the loss between wires -/
def lossG (g : NW) (a b : Int32) : Int32 := (if a - a / 3 * 3 = b - b / 3 * 3 then 0 else g 6 0 0) + (if a / 3 = b / 3 then 0 else g 6 0 1)
theorem q_lossOf (a b : Int32) : m_X9_lossOf (some M) a b (ovs σ M r g) = some (lossG g a b, ovs σ M r g) := by
  unfold m_X9_lossOf m_X9_lossOf_b19 m_X9_lossOf_b40 lossG
  simp only [three_ne, if_false, gR_s_0, Option.bind_some, sl0, sl1]
  split <;> split <;> rfl
/-- a bit of a word's frame -/
def frm (w x : Int32) : Int32 := if 4 ≤ x then (if x - x / 2 * 2 = 0 then (w >>> ((4 - (x - 4) / 2) &&& 31)) &&& 1 else 1 - ((w >>> ((4 - (x - 4) / 2) &&& 31)) &&& 1)) else if 3 ≤ x then 0 else 1
theorem q_frameBit (w x : Int32) (σ : SG) : m_X9_frameBit w x σ = some (frm w x, σ) := by
  unfold m_X9_frameBit frm
  simp only [two_ne, if_false]
  split
  · split <;> rfl
  · split <;> rfl
def bitG (g : NW) (i : Nat) : Int32 := if 14 ≤ g 1 i 6 then 0 else frm (g 1 i 8) (g 1 i 6)
theorem q_bitOf {i : Nat} (h : i < 5) : m_X9_bitOf (some M) (nI i) (ovs σ M r g) = some (bitG g i, ovs σ M r g) := by
  unfold m_X9_bitOf bitG
  simp only [gR_s_0, Option.bind_some, q_n, bnd_some, xS_p6, xS_p8, sld_S h (by decide : 6 < 14), sld_S h (by decide : 8 < 14), q_frameBit]
  split <;> rfl
/-- what a 1 of this strength on the wire a makes of what is heard -/
def snd1 (g : NW) (h : Nat → Int32) (a s : Int32) : Nat → Int32 := fun k => if s - lossG g a (nI k) < g 6 0 2 then h k else 1
/-- the row 6 of the reference's, what is heard -/
def rw6 (r : Nat → Nat → Int32) (h : Nat → Int32) : Nat → Nat → Int32 := fun k j => if k = 6 ∧ j < 6 then h j else r k j
theorem q_soundL (a s : Int32) : ∀ (d k : Nat), k + d = 6 → ∀ (n : Nat), d < n → ∀ (r : Nat → Nat → Int32), m_X9_sound_L2 n (some M) a s (nI k) (ovs σ M r g) = some ((), ovs σ M (fun q j => if q = 6 ∧ k ≤ j ∧ j < 6 then snd1 g (r 6) a s j else r q j) g) := by
  intro d
  induction d with
  | zero =>
    intro k hk n hn r
    obtain ⟨n, rfl⟩ : ∃ m, n = m + 1 := ⟨n - 1, by omega⟩
    rw [show m_X9_sound_L2 (n + 1) = m_X9_sound_B2 (m_X9_sound_L2 n) from rfl]
    unfold m_X9_sound_B2
    rw [if_pos (show (6 : Int32) ≤ nI k from nI_le (a := 6) (by omega) (by omega))]
    congr 3
    funext q j
    rw [if_neg (by omega)]
  | succ d ih =>
    intro k hk n hn r
    obtain ⟨n, rfl⟩ : ∃ m, n = m + 1 := ⟨n - 1, by omega⟩
    rw [show m_X9_sound_L2 (n + 1) = m_X9_sound_B2 (m_X9_sound_L2 n) from rfl]
    unfold m_X9_sound_B2 m_X9_sound_b40
    rw [if_neg (show ¬ (6 : Int32) ≤ nI k from nI_ge (b := 6) (by omega) (by decide))]
    have hk6 : k < 6 := by omega
    simp only [gR_s_5, gR_s_0, ob_s, Option.bind_some, q_lossOf, bnd_some, sl2, sld_6 hk6, sst_6 hk6, ← nI_succ]
    have key : ∀ v, v = snd1 g (r 6) a s k → m_X9_sound_L2 n (some M) a s (nI (k + 1)) (ovs σ M (up2 r 6 k v) g) = some ((), ovs σ M (fun q j => if q = 6 ∧ k ≤ j ∧ j < 6 then snd1 g (r 6) a s j else r q j) g) := by
      intro v hv
      rw [ih (k + 1) (by omega) n (by omega)]
      congr 3
      funext q j
      by_cases hq : q = 6
      · subst hq
        by_cases hj : j = k
        · subst hj
          rw [if_neg (by omega), if_pos ⟨rfl, by omega, by omega⟩]
          simp [up2, hv]
        · by_cases h1 : k ≤ j ∧ j < 6
          · rw [if_pos ⟨rfl, by omega, by omega⟩, if_pos ⟨rfl, h1.1, h1.2⟩]
            simp [snd1, up2, hj]
          · rw [if_neg (by omega), if_neg (by omega)]
            simp [up2, hj]
      · rw [if_neg (fun h => hq h.1), if_neg (fun h => hq h.1)]
        simp [up2, hq]
    split
    next hc => exact key _ (by simp [snd1, hc])
    next hc => exact key _ (by simp [snd1, hc])
theorem q_sound (a s : Int32) : m_X9_sound (some M) a s (ovs σ M r g) = some ((), ovs σ M (rw6 r (snd1 g (r 6) a s)) g) := by
  unfold m_X9_sound
  rw [nI0, q_soundL a s 6 0 rfl 1000 (by decide)]
  congr 3
  funext q j
  simp only [rw6]
  congr 1
  simp
end REF1
