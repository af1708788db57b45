/-! p30: an act of the law answers true -/
theorem sm_b01 {p : Nat → Int32} {N : Nat} (hb : ∀ i, i < N → b01 (p i)) : ∀ d k x, k + d ≤ N → ∃ m, m ≤ d ∧ sm p d k x = x + nI m
  | 0, _, x, _ => ⟨0, Nat.le_refl _, (Int32.add_zero x).symm⟩
  | d + 1, k, x, h => by
    obtain ⟨m, hm, e⟩ := sm_b01 hb d (k + 1) (x + p k) (by omega)
    rcases hb k (by omega) with h0 | h1
    · exact ⟨m, by omega, by show sm p d (k + 1) (x + p k) = _; rw [e, h0, Int32.add_zero]⟩
    · exact ⟨m + 1, by omega, by show sm p d (k + 1) (x + p k) = _; rw [e, h1, Int32.add_assoc, nI_succ, Int32.add_comm 1]⟩
theorem sm_full {p : Nat → Int32} {N : Nat} (hb : ∀ i, i < N → b01 (p i)) : ∀ d k x, k + d ≤ N → (frN p d k = k + d → sm p d k x = x + nI d) ∧ (¬ frN p d k = k + d → ∃ m, m < d ∧ sm p d k x = x + nI m)
  | 0, k, x, _ => ⟨fun _ => (Int32.add_zero x).symm, fun h => absurd rfl h⟩
  | d + 1, k, x, h => by
    have ih := sm_full hb d (k + 1) (x + p k) (by omega)
    have e0 : sm p (d + 1) k x = sm p d (k + 1) (x + p k) := rfl
    rw [e0]
    unfold frN
    rcases hb k (by omega) with h0 | h1
    · rw [if_neg (by rw [h0]; decide)]
      refine ⟨fun e => absurd e (by omega), fun _ => ?_⟩
      obtain ⟨m, hm, e⟩ := sm_b01 hb d (k + 1) (x + p k) (by omega)
      exact ⟨m, by omega, by rw [e, h0, Int32.add_zero]⟩
    · rw [if_pos h1]
      refine ⟨fun e => ?_, fun hn => ?_⟩
      · rw [ih.1 (by omega), h1, Int32.add_assoc, nI_succ, Int32.add_comm 1]
      · obtain ⟨m, hm, e⟩ := ih.2 (by omega)
        exact ⟨m + 1, by omega, by rw [e, h1, Int32.add_assoc, nI_succ, Int32.add_comm 1]⟩
theorem mr {C k d : Nat} (hC : C < 2 ^ 31) (sh : Int32) (hs : ((sh &&& 31).toBitVec.smod 32).toNat = k) (h0 : 0 < d) (hd : d < 2 ^ 31) : (nI C >>> (sh &&& 31)) - (nI C >>> (sh &&& 31)) / nI d * nI d = nI (C / 2 ^ k % d) := by
  rw [pk_shrN hC (sh &&& 31) k hs]
  exact pk_rem (Nat.lt_of_le_of_lt (Nat.div_le_self _ _) hC) h0 hd
theorem add_sub_self (a t : Int32) : a + t - a = t := by rw [Int32.add_comm, Int32.add_sub_cancel]
/-- how many things there are -/
def cnt (g : NW) : Int32 := (sm (fun k => g 1 k 0) 5 0 0 + sm (fun k => g 2 k 0) 4 0 0) + sm (fun k => g 3 k 0) 8 0 0
section LACT
variable {z0 T : Nat} {σ : SG} {g : NW} {s u : Option (Nat × NW)}
theorem gone_sm {c i d : Nat} (hi : i < d) (hp : g c i 0 = 1) : sm (fun k => up3 g c i 0 0 c k 0) d 0 0 = sm (fun k => g c k 0) d 0 0 + -1 := by
  refine sm_at (i := i) (-1) (fun j hj => up3_i hj) ?_ d 0 0 (Nat.zero_le _) (by omega)
  show up3 g c i 0 0 c i 0 = g c i 0 + -1
  rw [up3_eq, hp]
  rfl
theorem gone_ot {c c' i d : Nat} (h : c' ≠ c) : sm (fun k => up3 g c i 0 0 c' k 0) d 0 0 = sm (fun k => g c' k 0) d 0 0 := by
  congr 1
  funext k
  exact up3_c h
theorem arr1 (a b c : Int32) : ((a + -1) + b) + c = ((a + b) + c) - 1 := by
  rw [Int32.sub_eq_add_neg, Int32.add_assoc a, Int32.add_comm (-1) b, ← Int32.add_assoc a, Int32.add_assoc (a + b), Int32.add_comm (-1) c, ← Int32.add_assoc]
theorem arr2 (a b c : Int32) : (a + (b + -1)) + c = ((a + b) + c) - 1 := by
  rw [Int32.sub_eq_add_neg, ← Int32.add_assoc a, Int32.add_assoc (a + b), Int32.add_comm (-1) c, ← Int32.add_assoc]
theorem arr3 (a b c : Int32) : (a + b) + (c + -1) = ((a + b) + c) - 1 := by
  rw [Int32.sub_eq_add_neg, ← Int32.add_assoc]
theorem cnt_1 {i : Nat} (hi : i < 5) (hp : g 1 i 0 = 1) : cnt (up3 g 1 i 0 0) = cnt g - 1 := by
  unfold cnt
  rw [gone_sm hi hp, gone_ot (by decide), gone_ot (by decide)]
  exact arr1 _ _ _
theorem cnt_2 {i : Nat} (hi : i < 4) (hp : g 2 i 0 = 1) : cnt (up3 g 2 i 0 0) = cnt g - 1 := by
  unfold cnt
  rw [gone_sm hi hp, gone_ot (by decide), gone_ot (by decide)]
  exact arr2 _ _ _
theorem cnt_3 {i : Nat} (hi : i < 8) (hp : g 3 i 0 = 1) : cnt (up3 g 3 i 0 0) = cnt g - 1 := by
  unfold cnt
  rw [gone_sm hi hp, gone_ot (by decide), gone_ot (by decide)]
  exact arr3 _ _ _
/-- a thing's removal -/
def Rmv (z0 T : Nat) (σ : SG) (g : NW) (s u : Option (Nat × NW)) (k n r : Int32) : Prop := ∃ σ' g' u', m_X8_remove (some z0) k n σ = some (r, σ') ∧ ST z0 σ' T g' s u' ∧ ((r = -1 ∧ cnt g' = cnt g) ∨ ∃ w, w < 6 ∧ r = nI w ∧ cnt g' = cnt g - 1)
theorem R_0 (S : ST z0 σ T g s u) {i : Nat} (hi : i < 5) : ∃ r, m_X8_senderOf (some z0) (nI i) 0 σ = some (r, σ) ∧ Rmv z0 T σ g s u 0 (nI i) r := by
  have C := S.cg
  rcases (C.inv.1 i hi).1 with hp | hp
  · exact ⟨-1, C_sender_no C hi hp 0, σ, g, u, A_remove0_no S hi hp, S, Or.inl ⟨rfl, rfl⟩⟩
  · obtain ⟨⟨w, hw, ew⟩, -⟩ := (C.inv.1 i hi).2.2 hp
    obtain ⟨σ', e, S'⟩ := A_remove0 S hi hp
    exact ⟨g 1 i 1, C_sender_0 C hi hp, σ', _, _, e, S', Or.inr ⟨w, hw, ew, cnt_1 hi hp⟩⟩
theorem R_1 (S : ST z0 σ T g s u) {i : Nat} (hi : i < 5) : ∃ r, m_X8_machineOf (some z0) (nI i) 0 σ = some (r, σ) ∧ Rmv z0 T σ g s u 1 (nI i) r := by
  have C := S.cg
  by_cases h4 : i = 4
  · subst h4
    exact ⟨-1, C_machine_out C 0, σ, g, u, A_remove1_out S, S, Or.inl ⟨rfl, rfl⟩⟩
  have hi : i < 4 := by omega
  rcases (C.inv.2.1 i hi).1 with hp | hp
  · exact ⟨-1, C_machine_no C hi hp 0, σ, g, u, A_remove1_no S hi hp, S, Or.inl ⟨rfl, rfl⟩⟩
  · obtain ⟨⟨w, hw, ew⟩, -⟩ := (C.inv.2.1 i hi).2.2 hp
    obtain ⟨σ', e, S'⟩ := A_remove1 S hi hp
    exact ⟨g 2 i 1, C_machine_0 C hi hp, σ', _, _, e, S', Or.inr ⟨w, hw, ew, cnt_2 hi hp⟩⟩
theorem R_2 (S : ST z0 σ T g s u) {i : Nat} (hi : i < 5) : ∃ r, m_X8_lampOf (some z0) (nI i) 0 σ = some (r, σ) ∧ Rmv z0 T σ g s u 2 (nI i) r := by
  have C := S.cg
  have hi : i < 8 := by omega
  rcases (C.inv.2.2.1 i hi).1 with hp | hp
  · exact ⟨-1, C_lamp_no C hi hp 0, σ, g, u, A_remove2_no S hi hp, S, Or.inl ⟨rfl, rfl⟩⟩
  · obtain ⟨-, w, hw, ew⟩ := S.jt.2.2.2.1 i hi hp
    obtain ⟨σ', e, S'⟩ := A_remove2 S hi hp
    exact ⟨g 3 i 1, C_lamp_0 C hi hp, σ', _, _, e, S', Or.inr ⟨w, hw, ew, cnt_3 hi hp⟩⟩
theorem K_remove (S : ST z0 σ T g s u) {C : Nat} (hC : C < 2 ^ 31) {k n r : Int32} (R : Rmv z0 T σ g s u k n r) : ∃ σ' g' u', m_L_acts_b443 (some z0) (nI C) n k r σ = some (1, σ') ∧ ST z0 σ' T g' s u' := by
  have G := S.cg
  have ecn : ((sm (fun k => g 1 k 0) 5 0 0 + sm (fun k => g 2 k 0) 4 0 0) + sm (fun k => g 3 k 0) 8 0 0) = cnt g := rfl
  unfold m_L_acts_b443
  simp only [G.oX, C_count_1 G, C_count_2 G, C_count_3 G, Option.bind_some, bnd_some, three_ne, if_false, ecn]
  split
  · obtain ⟨σ', g', u', e, S', hr⟩ := R
    have G' := S'.cg
    have ecn' : ((sm (fun k => g' 1 k 0) 5 0 0 + sm (fun k => g' 2 k 0) 4 0 0) + sm (fun k => g' 3 k 0) 8 0 0) = cnt g' := rfl
    refine ⟨σ', g', u', ?_, S'⟩
    simp only [e, bnd_some]
    unfold m_L_acts_b485
    simp only [G'.oX, C_count_1 G', C_count_2 G', C_count_3 G', Option.bind_some, bnd_some, if_true, ecn']
    rcases hr with ⟨rfl, hc⟩ | ⟨w, hw, rfl, hc⟩
    · rw [if_neg (by decide), if_neg (by decide), hc]
      unfold m_L_acts_b530 m_L_acts_b534
      rw [if_pos (by rw [Int32.sub_zero])]
      rfl
    · rw [if_neg (show ¬ nI w = -9 by
        have h6 : w = 0 ∨ w = 1 ∨ w = 2 ∨ w = 3 ∨ w = 4 ∨ w = 5 := by omega
        rcases h6 with rfl | rfl | rfl | rfl | rfl | rfl <;> decide), if_pos (nI_pos' (by omega)), hc]
      unfold m_L_acts_b530 m_L_acts_b534
      rw [if_pos rfl]
      rfl
  · refine ⟨σ, g, u, ?_, S⟩
    unfold m_L_acts_b485 m_L_acts_b534
    rw [if_pos rfl]
    rfl
theorem K_set (S : ST z0 σ T g s u) {i v l m : Nat} (hi : i < 4) (e1 : lstI (nI i) = some (nI l)) (e2 : mstI (nI i) = some (nI m)) (h1 : l ≤ v) (h2 : v ≤ m) (hm : m < 100) (h3 : i = 3 → 1 ≤ v ∧ v ≤ 3) : ∃ σ' g' u', m_L_acts_b589 (some z0) (nI i) (nI v) σ = some (1, σ') ∧ ST z0 σ' T g' s u' := by
  obtain ⟨σ', e, S'⟩ := A_set S hi e1 e2 h1 h2 hm h3
  have G := S.cg
  have G' := S'.cg
  refine ⟨σ', _, _, ?_, S'⟩
  have ec : ∀ (τ : SG) (h : NW), CG z0 τ h → m_X8_count (some z0) (7 + nI i) τ = some (h 6 0 i, τ) := fun τ h G => by
    have h4 : i = 0 ∨ i = 1 ∨ i = 2 ∨ i = 3 := by omega
    rcases h4 with rfl | rfl | rfl | rfl
    · exact C_count_7 G
    · exact C_count_8 G
    · exact C_count_9 G
    · exact C_count_10 G
  unfold m_L_acts_b589
  simp only [G.oX, ec σ g G, e, Option.bind_some, bnd_some, if_true, G'.oX, ec σ' _ G', up3_eq]
  rfl
theorem K_say (S : ST z0 σ T g s u) {C i : Nat} (hC : C < 2 ^ 31) (hi : i < 5) : ∃ σ' g' u', m_L_acts_b635 (some z0) (nI C) (nI i) σ = some (1, σ') ∧ ST z0 σ' T g' s u' := by
  have G := S.cg
  have ew : (nI C >>> ((8 : Int32) &&& 31)) - (nI C >>> ((8 : Int32) &&& 31)) / 32 * 32 = nI (C / 2 ^ 8 % 32) := mr hC 8 (by decide) (d := 32) (by decide) (by decide)
  have hx : C / 2 ^ 8 % 32 < 32 := Nat.mod_lt _ (by decide)
  unfold m_L_acts_b635
  simp only [ew, G.oX, Option.bind_some, show ¬ (32 : Int32) = 0 by decide, if_false]
  generalize C / 2 ^ 8 % 32 = x at *
  obtain ⟨h0, -, hP⟩ := G.inv.1 i hi
  rcases h0 with hp | hp
  · refine ⟨σ, g, u, ?_, S⟩
    simp only [C_sender_no G hi hp, A_say_no S hi hp, bnd_some, G.oX, Option.bind_some, if_true]
    rw [if_neg (by decide)]
    rfl
  · obtain ⟨-, ⟨q, hq6, hq, -⟩, -⟩ := hP hp
    by_cases h6 : q = 6
    · subst h6
      refine ⟨σ, g, u, ?_, S⟩
      simp only [C_sender_2 G hi hp, hq, A_say_full S hi hp hq hx, bnd_some, G.oX, Option.bind_some, if_true]
      rw [if_pos (by decide), if_pos (show nI 6 = 6 from rfl)]
      rfl
    · have hq5 : q < 6 := by omega
      obtain ⟨σ', e, S'⟩ := A_say S hi hp hq hq5 hx
      have G' := S'.cg
      refine ⟨σ', _, _, ?_, S'⟩
      have e0 : sayG g i q (nI x) 1 i 0 = 1 := (sayG_j (j := 0) _ _ _ _ (by decide) (by omega)).trans hp
      have eq := C_queued_in G' (j := q) hi e0 (sayG_3 _ _ _ _) (show q + 1 ≤ 6 by omega) (Nat.lt_succ_self q)
      rw [sayG_q] at eq
      simp only [C_sender_2 G hi hp, hq, e, bnd_some, G.oX, Option.bind_some]
      rw [if_pos (nI_pos' (by omega)), if_neg (show ¬ nI q = 6 from fun e => h6 ((nI_eq (a := q) (b := 6) (by omega) (by decide)).mp e)), if_pos (nI_succ q)]
      simp only [G'.oX, eq, Option.bind_some, bnd_some, if_true]
      rfl
end LACT
