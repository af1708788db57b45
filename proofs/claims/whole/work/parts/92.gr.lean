/-! LEVEL 2: THE RELATION of the whole; what an action that is recorded keeps; beats in a row -/
def HistOK (W : Nat → NW) (P : Nat → Nat) (kp : Nat) (r : RW) : Prop := PermP P ∧ kp ≤ 4 ∧ r 0 12 = nI kp ∧ ∀ k, k < kp → ∃ gk, Rel gk (W (P k)) ∧ Inv gk ∧ ∀ j, j < 190 → r 4 (190 * k + j) = flat gk j
def SnapOK (W : Nat → NW) (h : Int32) (r : RW) : Prop := r 0 10 = h ∧ b01 h ∧ (h = 1 → ∃ gs, Rel gs (W 2) ∧ Inv gs ∧ ∀ j, j < 190 → r 5 j = flat gs j)
def TxtOK (tl : Nat) (tx : Nat → Int32) (r : RW) : Prop := tl ≤ 80 ∧ r 0 11 = nI tl ∧ ∀ j, j < tl → tx j = r 10 j ∧ ∃ c, 32 ≤ c ∧ c ≤ 126 ∧ tx j = nI c
def GOK (W : Nat → NW) (P : Nat → Nat) (kp : Nat) (h : Int32) (tl : Nat) (tx : Nat → Int32) (r : RW) (g : NW) : Prop := Rel g (W 0) ∧ Inv g ∧ HistOK W P kp r ∧ SnapOK W h r ∧ TxtOK tl tx r
def GR (z0 : Nat) (σ : SG) : Prop := ∃ W P kp h tl tx r g, HS z0 σ W P kp h tl tx r g ∧ GOK W P kp h tl tx r g
/-- a call on the object, then the same on the reference: the same answer, and the relation holds behind them -/
def Pair (z0 : Nat) (σ : SG) (F G : SG → Option (Int32 × SG)) : Prop := ∃ v σ1 σ2, F σ = some (v, σ1) ∧ G σ1 = some (v, σ2) ∧ sObj (some (z0 + 257)) 8 σ1 = some () ∧ GR z0 σ2
/-- the rows that are no scratch -/
def RK (r' r : RW) : Prop := ∀ q j, q ≠ 6 → q ≠ 7 → q ≠ 8 → r' q j = r q j
theorem RK.refl (r : RW) : RK r r := fun _ _ _ _ _ => rfl
theorem RK.trans {a b c : RW} (h1 : RK a b) (h2 : RK b c) : RK a c := fun q j x y z => (h1 q j x y z).trans (h2 q j x y z)
theorem HistOK.of {W W' : Nat → NW} {P : Nat → Nat} {kp : Nat} {r r' : RW} (H : HistOK W P kp r) (hW : ∀ i, 3 ≤ i → W' i = W i) (h12 : r' 0 12 = r 0 12) (h4 : ∀ j, j < 760 → r' 4 j = r 4 j) : HistOK W' P kp r' := by
  obtain ⟨h1, h2, h3, hk⟩ := H
  refine ⟨h1, h2, h12.trans h3, fun k hkk => ?_⟩
  obtain ⟨gk, a, b, c⟩ := hk k hkk
  refine ⟨gk, ?_, b, fun j hj => (h4 _ (by omega)).trans (c j hj)⟩
  rw [hW _ (h1.1 k (by omega)).1]
  exact a
theorem SnapOK.of {W W' : Nat → NW} {h : Int32} {r r' : RW} (H : SnapOK W h r) (hW : W' 2 = W 2) (h10 : r' 0 10 = r 0 10) (h5 : ∀ j, j < 190 → r' 5 j = r 5 j) : SnapOK W' h r' := by
  obtain ⟨h1, h2, h3⟩ := H
  refine ⟨h10.trans h1, h2, fun hh => ?_⟩
  obtain ⟨gs, a, b, c⟩ := h3 hh
  exact ⟨gs, by rw [hW]; exact a, b, fun j hj => (h5 j hj).trans (c j hj)⟩
theorem TxtOK.of {tl : Nat} {tx : Nat → Int32} {r r' : RW} (H : TxtOK tl tx r) (h11 : r' 0 11 = r 0 11) (h10 : ∀ j, j < 80 → r' 10 j = r 10 j) : TxtOK tl tx r' := by
  obtain ⟨h1, h2, h3⟩ := H
  exact ⟨h1, h11.trans h2, fun j hj => ⟨(h3 j hj).1.trans (h10 j (by omega)).symm, (h3 j hj).2⟩⟩
theorem Rel.same {g w : NW} (h : Rel g w) : Same g g := Same.refl g
/-- what was there before the class kept its state and what is there behind it -/
def Kept (W : Nat → NW) (P : Nat → Nat) (kp : Nat) (W1 : Nat → NW) (P1 : Nat → Nat) (g : NW) : Prop := PermP P1 ∧ (∀ i, i < 3 → W1 i = W i) ∧ (∀ k, k + 1 < kp1 kp → W1 (P1 k) = W (P (sh1 kp k))) ∧ ∃ g1, Same g1 g ∧ Rel g1 (W1 (P1 (kp1 kp - 1)))
section GRS
variable {z0 : Nat} {σ : SG} {W W1 : Nat → NW} {P P1 : Nat → Nat} {kp : Nat} {h : Int32} {tl : Nat} {tx : Nat → Int32} {r : RW} {g : NW}
theorem g_keep (H : HS z0 σ W P kp h tl tx r g) (O : GOK W P kp h tl tx r g) : ∃ σ1 W1 P1, m_X0_keep (some (z0 + 109)) (some (NA z0 0)) σ = some ((), σ1) ∧ HS z0 σ1 W1 P1 (kp1 kp) h tl tx r g ∧ Kept W P kp W1 P1 g ∧ Rel g (W1 0) := by
  obtain ⟨hR, hI, hH, -, -⟩ := O
  obtain ⟨σ1, W1, P1, e, H1, a, b, c, d⟩ := c_keep H hH.1 hH.2.1 hR hI
  exact ⟨σ1, W1, P1, e, H1, ⟨a, b, c, d⟩, by rw [b 0 (by decide)]; exact hR⟩
/-- an action is recorded -/
theorem g_rec (O : GOK W P kp h tl tx r g) (K : Kept W P kp W1 P1 g) {w' g' : NW} (hR : Rel g' w') (hI : Inv g') {r1 : RW} (hr : RK r1 (rcp r 2 0 (flat g))) : GOK (upW W1 0 w') P1 (kp1 kp) h tl tx (recR r1 kp) g' := by
  obtain ⟨-, hI0, ⟨hP, hk4, h12, hk⟩, hS, hT⟩ := O
  obtain ⟨k1, k2, k3, g1, k4, k5⟩ := K
  have e0 : ∀ q j, q ≠ 2 → q ≠ 6 → q ≠ 7 → q ≠ 8 → r1 q j = r q j := fun q j a b c d => by
    rw [hr q j b c d]
    exact if_neg (fun e => a e.1)
  have e2 : ∀ j, j < 190 → r1 2 j = flat g j := fun j hj => by
    rw [hr 2 j (by decide) (by decide) (by decide)]
    exact if_pos ⟨rfl, Nat.zero_le _, hj⟩
  refine ⟨by rw [upW_eq]; exact hR, hI, ⟨k1, by unfold kp1; split <;> omega, recR_12 _, fun k hkk => ?_⟩, ?_, ?_⟩
  · have hkk4 : k < 4 := by unfold kp1 at hkk; split at hkk <;> omega
    have h3 := (k1.1 k hkk4).1
    rw [upW_ne _ _ (by omega)]
    by_cases hl : k + 1 < kp1 kp
    · obtain ⟨gk, a, b, c⟩ := hk (sh1 kp k) (by unfold sh1; unfold kp1 at hl; split at hl <;> split <;> omega)
      refine ⟨gk, by rw [k3 k hl]; exact a, b, fun j hj => ?_⟩
      rw [recR_old _ hl hj, e0 4 _ (by decide) (by decide) (by decide) (by decide)]
      exact c j hj
    · obtain rfl : k = kp1 kp - 1 := by omega
      refine ⟨g1, k5, Inv_ok k4 hI0, fun j hj => ?_⟩
      rw [recR_new _ hj, e2 j hj, flat_congr k4]
  · refine hS.of ?_ ?_ fun j hj => ?_
    · rw [upW_ne _ _ (by decide)]; exact k2 2 (by decide)
    · rw [recR_o _ _ (by decide) (Or.inr (by decide))]; exact e0 _ _ (by decide) (by decide) (by decide) (by decide)
    · rw [recR_o _ _ (by decide) (Or.inl (by decide))]; exact e0 _ _ (by decide) (by decide) (by decide) (by decide)
  · refine hT.of ?_ fun j hj => ?_
    · rw [recR_o _ _ (by decide) (Or.inr (by decide))]; exact e0 _ _ (by decide) (by decide) (by decide) (by decide)
    · rw [recR_o _ _ (by decide) (Or.inl (by decide))]; exact e0 _ _ (by decide) (by decide) (by decide) (by decide)
/-- rows that are scratch changed -/
theorem GOK.rk (O : GOK W P kp h tl tx r g) {r1 : RW} (hr : ∀ q j, q ≠ 2 → q ≠ 3 → q ≠ 6 → q ≠ 7 → q ≠ 8 → q ≠ 9 → (q ≠ 0 ∨ j < 13) → r1 q j = r q j) : GOK W P kp h tl tx r1 g := by
  obtain ⟨a, b, c, d, e⟩ := O
  exact ⟨a, b, c.of (fun _ _ => rfl) (hr _ _ (by decide) (by decide) (by decide) (by decide) (by decide) (by decide) (Or.inr (by decide))) (fun j _ => hr _ _ (by decide) (by decide) (by decide) (by decide) (by decide) (by decide) (Or.inl (by decide))), d.of rfl (hr _ _ (by decide) (by decide) (by decide) (by decide) (by decide) (by decide) (Or.inr (by decide))) (fun j _ => hr _ _ (by decide) (by decide) (by decide) (by decide) (by decide) (by decide) (Or.inl (by decide))), e.of (hr _ _ (by decide) (by decide) (by decide) (by decide) (by decide) (by decide) (Or.inr (by decide))) (fun j _ => hr _ _ (by decide) (by decide) (by decide) (by decide) (by decide) (by decide) (Or.inl (by decide)))⟩
theorem Pair.same {F G : SG → Option (Int32 × SG)} {v : Int32} (H : GR z0 σ) (h1 : F σ = some (v, σ)) (h2 : G σ = some (v, σ)) : Pair z0 σ F G := by
  obtain ⟨W, P, kp, h, tl, tx, r, g, H, O⟩ := H
  exact ⟨v, σ, σ, h1, h2, H.oM, W, P, kp, h, tl, tx, r, g, H, O⟩
/-! beats in a row -/
def itb : Nat → NW → NW
  | 0, g => g
  | d + 1, g => itb d (beatG g)
theorem Inv_itb : ∀ (d : Nat) (g : NW), Inv g → Inv (itb d g)
  | 0, _, h => h
  | d + 1, _, h => Inv_itb d _ (Inv_beat h)
theorem q_beats {M : Nat} (hI : Inv g) : ∃ r', m_X9_beat (some M) (ovs σ M r g) = some ((), ovs σ M r' (beatG g)) ∧ RK r' r := by
  refine ⟨_, q_beat (Inv_wire hI) (Inv_per hI), fun q j h6 h7 h8 => ?_⟩
  rw [rws_o _ _ _ h6 h7]
  exact if_neg (fun e => h8 e.1)
theorem c_letPassL {n N : Nat} (hN : N < 1000) : ∀ (d k : Nat), k + d = N → ∀ (F : Nat), d < F → ∀ (g w : NW) (acc : Int32), Rel g w → Inv g → ∃ w' t, m_X3_letPass_L4 F (some n) (nI N) acc (nI k) (ovr σ n w) = some (acc + t, ovr σ n w') ∧ Rel (itb d g) w' ∧ itb d g 7 0 2 = g 7 0 2 + t := by
  intro d
  induction d with
  | zero =>
    intro k hk F hF g w acc hR hI
    obtain ⟨F, rfl⟩ : ∃ m, F = m + 1 := ⟨F - 1, by omega⟩
    rw [show m_X3_letPass_L4 (F + 1) = m_X3_letPass_B4 (m_X3_letPass_L4 F) from rfl]
    unfold m_X3_letPass_B4
    rw [if_pos (nI_le (by omega) (by omega))]
    exact ⟨w, 0, by rw [Int32.add_zero], hR, (Int32.add_zero _).symm⟩
  | succ d ih =>
    intro k hk F hF g w acc hR hI
    obtain ⟨F, rfl⟩ : ∃ m, F = m + 1 := ⟨F - 1, by omega⟩
    rw [show m_X3_letPass_L4 (F + 1) = m_X3_letPass_B4 (m_X3_letPass_L4 F) from rfl]
    unfold m_X3_letPass_B4
    obtain ⟨w1, e, h1, h2, h3⟩ := c_beat (σ := σ) (n := n) hR hI
    obtain ⟨w', t, e1, h4, h5⟩ := ih (k + 1) (by omega) F (by omega) (beatG g) w1 (acc + e) h2 (Inv_beat hI)
    rw [if_neg (nI_ge (by omega) (by omega))]
    simp only [ob_net, h1, bnd_some, Option.bind_some, ← nI_succ, e1]
    exact ⟨w', e + t, by rw [Int32.add_assoc], h4, by rw [show itb (d + 1) g = itb d (beatG g) from rfl, h5, h3, Int32.add_assoc]⟩
theorem c_letPass {n N : Nat} (hN : N < 1000) {w : NW} (hR : Rel g w) (hI : Inv g) : ∃ w' t, m_X3_letPass (some n) (nI N) (ovr σ n w) = some (t, ovr σ n w') ∧ Rel (itb N g) w' ∧ itb N g 7 0 2 = g 7 0 2 + t := by
  obtain ⟨w', t, h1, h2⟩ := c_letPassL (σ := σ) (n := n) hN N 0 (by omega) 1000 hN g w 0 hR hI
  rw [← nI0, Int32.zero_add] at h1
  exact ⟨w', t, h1, h2⟩
theorem q_passL {M N : Nat} {told : Int32} (hN : N < 1000) : ∀ (d k : Nat), k + d = N → ∀ (F : Nat), d < F → ∀ (g : NW) (r : RW), Inv g → ∃ r', m_X9_passes_L23 F (some M) (nI N) told (nI k) (ovs σ M r g) = some (itb d g 7 0 2 - told, ovs σ M r' (itb d g)) ∧ RK r' r := by
  intro d
  induction d with
  | zero =>
    intro k hk F hF g r hI
    obtain ⟨F, rfl⟩ : ∃ m, F = m + 1 := ⟨F - 1, by omega⟩
    rw [show m_X9_passes_L23 (F + 1) = m_X9_passes_B23 (m_X9_passes_L23 F) from rfl]
    unfold m_X9_passes_B23
    rw [if_pos (nI_le (by omega) (by omega))]
    simp only [gR_s_0, sl7, Option.bind_some]
    exact ⟨r, rfl, RK.refl r⟩
  | succ d ih =>
    intro k hk F hF g r hI
    obtain ⟨F, rfl⟩ : ∃ m, F = m + 1 := ⟨F - 1, by omega⟩
    rw [show m_X9_passes_L23 (F + 1) = m_X9_passes_B23 (m_X9_passes_L23 F) from rfl]
    unfold m_X9_passes_B23
    obtain ⟨r1, e1, k1⟩ := q_beats (σ := σ) (r := r) (M := M) hI
    obtain ⟨r2, e2, k2⟩ := ih (k + 1) (by omega) F (by omega) (beatG g) r1 (Inv_beat hI)
    rw [if_neg (nI_ge (by omega) (by omega))]
    simp only [ob_s, e1, bnd_some, Option.bind_some, ← nI_succ, e2]
    exact ⟨r2, rfl, k2.trans k1⟩
theorem in_out {a lo hi : Int32} (hh : a < lo ∨ hi < a) (σ : SG) : m_X9_in a lo hi σ = some (0, σ) := by
  rw [q_in]
  rcases hh with hh | hh
  · rw [if_pos hh]
  · by_cases h1 : a < lo
    · rw [if_pos h1]
    · rw [if_neg h1, if_pos hh]
theorem in_in {a lo hi : Int32} (h1 : ¬ a < lo) (h2 : ¬ hi < a) (σ : SG) : m_X9_in a lo hi σ = some (1, σ) := by
  rw [q_in, if_neg h1, if_neg h2]
/-- so many beats of the reference: 1 to 99 -/
theorem q_passes {M N : Nat} (h1 : 1 ≤ N) (h99 : N ≤ 99) (hI : Inv g) {t : Int32} (ht : itb N g 7 0 2 = g 7 0 2 + t) : ∃ r', m_X9_passes (some M) (nI N) (ovs σ M r g) = some (t, ovs σ M r' (itb N g)) ∧ RK r' r := by
  obtain ⟨r', e, k⟩ := q_passL (σ := σ) (M := M) (told := g 7 0 2) (N := N) (by omega) N 0 (by omega) 1000 (by omega) g r hI
  refine ⟨r', ?_, k⟩
  unfold m_X9_passes
  rw [in_in (show ¬ nI N < 1 from nI_nlt (b := 1) h1 (by omega)) (show ¬ 99 < nI N from nI_nlt (a := 99) h99 (by decide))]
  simp only [bnd_some, one_ne, if_false, gR_s_0, sl7, Option.bind_some]
  rw [← nI0] at e
  rw [e, ht, Int32.add_comm, Int32.add_sub_cancel]
end GRS
