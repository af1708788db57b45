/-! LEVEL 2: the whole: an object of the class at z0 with its seven Nets and its history -/
def NetAt (σ : SG) (n : Nat) (w : NW) : Prop := ∀ k, k < 36 → σ.1 (n + k) = some (netC n w k)
theorem NetAt.eq {σ : SG} {n : Nat} {w : NW} (h : NetAt σ n w) : ovr σ n w = σ := by
  unfold ovr
  refine Prod.ext (funext fun a => ?_) rfl
  show (if n ≤ a ∧ a < n + 36 then some (netC n w (a - n)) else σ.1 a) = σ.1 a
  by_cases ha : n ≤ a ∧ a < n + 36
  · rw [if_pos ha, ← h (a - n) (by omega), Nat.add_sub_cancel' ha.1]
  · rw [if_neg ha]
theorem NetAt_ovr (σ : SG) (n : Nat) (w : NW) : NetAt (ovr σ n w) n w := fun _ hk => ovr_at hk
theorem NetAt.out {σ σ' : SG} {n : Nat} {w : NW} (h : NetAt σ n w) (ho : ∀ a, n ≤ a → a < n + 36 → σ'.1 a = σ.1 a) : NetAt σ' n w := fun k hk => (ho (n + k) (by omega) (by omega)).trans (h k hk)
/-- where the Nets are: now, ahead, the snapshot, four of the history -/
def NA (z0 k : Nat) : Nat := if k < 3 then z0 + (1 + 36 * k) else z0 + (3 + 36 * k)
def cMW (z0 : Nat) (h : Int32) : CE := .inl (7, [.ref (z0 + 1), .ref (z0 + 37), .ref (z0 + 73), .int h, .ref (z0 + 109), .ref (z0 + 255)])
def cHis (z0 kp : Nat) : CE := .inl (0, [.ref (z0 + 110), .int (nI kp)])
def cHA (z0 : Nat) (P : Nat → Nat) : CE := .inr (5, 4, .inr (fun i => if i < 4 then some (NA z0 (P i)) else none))
def cScr (z0 tl : Nat) : CE := .inl (5, [.ref (z0 + 256), .int (nI tl)])
def cSig (tx : Nat → Int32) : CE := .inr (1, 80, .inl tx)
def HS (z0 : Nat) (σ : SG) (W : Nat → NW) (P : Nat → Nat) (kp : Nat) (h : Int32) : Prop :=
  σ.2 = z0 + 257 ∧ (∀ k, k < 7 → NetAt σ (NA z0 k) (W k)) ∧ σ.1 z0 = some (cMW z0 h) ∧ σ.1 (z0 + 109) = some (cHis z0 kp) ∧ σ.1 (z0 + 110) = some (cHA z0 P)
section GLOB
variable {z0 : Nat} {σ : SG} {W : Nat → NW} {P : Nat → Nat} {kp : Nat} {h : Int32}
theorem NA_rng {z0 k : Nat} (hk : k < 7) : z0 + 1 ≤ NA z0 k ∧ NA z0 k + 36 ≤ z0 + 255 ∧ (NA z0 k + 36 ≤ z0 + 109 ∨ z0 + 111 ≤ NA z0 k) := by
  unfold NA
  split <;> omega
theorem NA_dis {z0 k k' : Nat} (hn : k ≠ k') : NA z0 k + 36 ≤ NA z0 k' ∨ NA z0 k' + 36 ≤ NA z0 k := by
  unfold NA
  split <;> split <;> omega
/-- another Net block -/
def upW (W : Nat → NW) (k : Nat) (w : NW) : Nat → NW := fun i => if i = k then w else W i
theorem upW_eq (W : Nat → NW) (k : Nat) (w : NW) : upW W k w k = w := if_pos rfl
theorem upW_ne (W : Nat → NW) {k i : Nat} (w : NW) (hn : i ≠ k) : upW W k w i = W i := if_neg hn
theorem HS.net (H : HS z0 σ W P kp h) {k : Nat} (hk : k < 7) : NetAt σ (NA z0 k) (W k) := H.2.1 k hk
theorem HS.neq (H : HS z0 σ W P kp h) {k : Nat} (hk : k < 7) : ovr σ (NA z0 k) (W k) = σ := (H.2.1 k hk).eq
theorem HS.upN (H : HS z0 σ W P kp h) {k : Nat} (hk : k < 7) (w : NW) : HS z0 (ovr σ (NA z0 k) w) (upW W k w) P kp h := by
  obtain ⟨h0, h1, h2, h3, h4⟩ := H
  have hr := NA_rng (z0 := z0) hk
  refine ⟨h0, fun i hi => ?_, ?_, ?_, ?_⟩
  · by_cases hik : i = k
    · subst hik; rw [upW_eq]; exact NetAt_ovr _ _ _
    · rw [upW_ne _ _ hik]
      have hd := NA_dis (z0 := z0) hik
      exact (h1 i hi).out fun a h1 h2 => ovr_out (by omega)
  · rw [ovr_out (by omega)]; exact h2
  · rw [ovr_out (by omega)]; exact h3
  · rw [ovr_out (by omega)]; exact h4
theorem hup_ne {hp : HP} {a b : Nat} {e : CE} (hn : b ≠ a) : hup hp a e b = hp b := if_neg hn
theorem hup_eq {hp : HP} {a : Nat} {e : CE} : hup hp a e a = some e := if_pos rfl
/-- the objects beside the Nets are written -/
theorem HS.upO (H : HS z0 σ W P kp h) {a : Nat} {e : CE} {P' : Nat → Nat} {kp' : Nat} {h' : Int32} (ha : a = z0 ∨ a = z0 + 109 ∨ a = z0 + 110)
    (e0 : (if a = z0 then some e else some (cMW z0 h)) = some (cMW z0 h')) (e1 : (if a = z0 + 109 then some e else some (cHis z0 kp)) = some (cHis z0 kp')) (e2 : (if a = z0 + 110 then some e else some (cHA z0 P)) = some (cHA z0 P')) : HS z0 (hup σ.1 a e, σ.2) W P' kp' h' := by
  obtain ⟨h0, h1, h2, h3, h4⟩ := H
  refine ⟨h0, fun i hi => ?_, ?_, ?_, ?_⟩
  · have hr := NA_rng (z0 := z0) hi
    exact (h1 i hi).out fun b h1 h2 => hup_ne (by omega)
  · rw [← e0, ← h2]
    by_cases hc : a = z0
    · rw [if_pos hc]; exact hc ▸ hup_eq
    · rw [if_neg hc]; exact hup_ne (Ne.symm hc)
  · rw [← e1, ← h3]
    by_cases hc : a = z0 + 109
    · rw [if_pos hc]; exact hc ▸ hup_eq
    · rw [if_neg hc]; exact hup_ne (Ne.symm hc)
  · rw [← e2, ← h4]
    by_cases hc : a = z0 + 110
    · rw [if_pos hc]; exact hc ▸ hup_eq
    · rw [if_neg hc]; exact hup_ne (Ne.symm hc)
/-! what the objects say -/
theorem HS.g0 (H : HS z0 σ W P kp h) : sGetR (some z0) 7 0 σ = some (some (NA z0 0)) := by simp [sGetR, H.2.2.1, cMW, NA]
theorem HS.g1 (H : HS z0 σ W P kp h) : sGetR (some z0) 7 1 σ = some (some (NA z0 1)) := by simp [sGetR, H.2.2.1, cMW, NA]
theorem HS.g2 (H : HS z0 σ W P kp h) : sGetR (some z0) 7 2 σ = some (some (NA z0 2)) := by simp [sGetR, H.2.2.1, cMW, NA]
theorem HS.g3 (H : HS z0 σ W P kp h) : sGetI (some z0) 7 3 σ = some h := by simp [sGetI, H.2.2.1, cMW]
theorem HS.g4 (H : HS z0 σ W P kp h) : sGetR (some z0) 7 4 σ = some (some (z0 + 109)) := by simp [sGetR, H.2.2.1, cMW]
theorem HS.oH (H : HS z0 σ W P kp h) : sObj (some (z0 + 109)) 0 σ = some () := by simp [sObj, H.2.2.2.1, cHis]
theorem HS.oN (H : HS z0 σ W P kp h) {k : Nat} (hk : k < 7) : sObj (some (NA z0 k)) 3 σ = some () := by
  rw [← H.neq hk]; exact ob_net
theorem HS.k0 (H : HS z0 σ W P kp h) : sGetR (some (z0 + 109)) 0 0 σ = some (some (z0 + 110)) := by simp [sGetR, H.2.2.2.1, cHis]
theorem HS.k1 (H : HS z0 σ W P kp h) : sGetI (some (z0 + 109)) 0 1 σ = some (nI kp) := by simp [sGetI, H.2.2.2.1, cHis]
theorem HS.kl (H : HS z0 σ W P kp h) : sLen (some (z0 + 110)) σ = some 4 := by simp [sLen, H.2.2.2.2, cHA]
theorem HS.ka (H : HS z0 σ W P kp h) {i : Nat} (hi : i < 4) : sAldR (some (z0 + 110)) (nI i) σ = some (some (NA z0 (P i))) := by
  simp only [sAldR, H.2.2.2.2, cHA]
  rw [if_pos (by decide), if_neg (nI_in (N := 4) hi (by decide)), nI_clamp (by omega), if_pos hi]
theorem HS.oX (H : HS z0 σ W P kp h) : sObj (some z0) 7 σ = some () := by simp [sObj, H.2.2.1, cMW]
/-! what is written -/
theorem HS.p3 (H : HS z0 σ W P kp h) : ∃ σ', sPutZ (some z0) 7 3 1 σ = some σ' ∧ HS z0 σ' W P kp 1 := by
  refine ⟨(hup σ.1 z0 (cMW z0 1), σ.2), by simp [sPutZ, sPutV, H.2.2.1, cMW], H.upO (Or.inl rfl) ?_ ?_ ?_⟩
  · rw [if_pos rfl]
  · rw [if_neg (by omega)]
  · rw [if_neg (by omega)]
theorem HS.pk (H : HS z0 σ W P kp h) (k : Nat) : ∃ σ', sPutI (some (z0 + 109)) 0 1 (nI k) σ = some σ' ∧ HS z0 σ' W P k h := by
  refine ⟨(hup σ.1 (z0 + 109) (cHis z0 k), σ.2), by simp [sPutI, sPutV, H.2.2.2.1, cHis], H.upO (Or.inr (Or.inl rfl)) ?_ ?_ ?_⟩
  · rw [if_neg (by omega)]
  · rw [if_pos rfl]
  · rw [if_neg (by omega)]
theorem HS.pa (H : HS z0 σ W P kp h) {i p : Nat} (hi : i < 4) (hp : p < 7) : ∃ σ', sAstR (some (z0 + 110)) (nI i) (some (NA z0 p)) σ = some σ' ∧ HS z0 σ' W (fun k => if k = i then p else P k) kp h := by
  refine ⟨(hup σ.1 (z0 + 110) (cHA z0 (fun k => if k = i then p else P k)), σ.2), ?_, H.upO (Or.inr (Or.inr rfl)) ?_ ?_ ?_⟩
  · simp only [sAstR, H.2.2.2.2, cHA]
    rw [if_pos (by decide), if_neg (nI_in (N := 4) hi (by decide)), nI_clamp (by omega), show sObj (some (NA z0 p)) (kci 5) σ = some () from H.oN hp]
    simp only [Option.bind_some]
    refine congrArg (fun f => some (hup σ.1 (z0 + 110) (.inr (5, 4, .inr f)), σ.2)) (funext fun k => ?_)
    unfold va_up
    by_cases hk : k = i
    · subst hk; simp [hi]
    · simp [hk]
  · rw [if_neg (by omega)]
  · rw [if_neg (by omega)]
  · rw [if_pos rfl]
end GLOB
