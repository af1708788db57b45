/-! p30: beats go alike where the numbers are alike -/
theorem ok1 {i j : Nat} (hi : i < 5) (hj : j < 14) : okN 1 i j := by unfold okN; omega
theorem ok2 {i j : Nat} (hi : i < 4) (hj : j < 5) : okN 2 i j := by unfold okN; omega
theorem ok3 {i j : Nat} (hi : i < 8) (hj : j < 6) : okN 3 i j := by unfold okN; omega
theorem ok4 {i j : Nat} (hi : i < 6) (hj : j < 7) : okN 4 i j := by unfold okN; omega
theorem ok6 {j : Nat} (hj : j < 4) : okN 6 0 j := by unfold okN; omega
theorem ok7 {j : Nat} (hj : j < 5) : okN 7 0 j := by unfold okN; omega
theorem ok0 : okN 0 0 0 := by unfold okN; omega
theorem Same.up {a b : NW} (h : Same a b) (c i j : Nat) {v v' : Int32} (e : v = v') : Same (up3 a c i j v) (up3 b c i j v') := by
  subst e
  intro c' i' j' ho
  simp only [up3]
  split
  · rfl
  · exact h _ _ _ ho
theorem Same.symm {a b : NW} (h : Same a b) : Same b a := fun c i j ho => (h c i j ho).symm
theorem Same.trans {a b c : NW} (h : Same a b) (h' : Same b c) : Same a c := fun c i j ho => (h c i j ho).trans (h' c i j ho)
section SAME
variable {a b : NW}
theorem Same.loss (h : Same a b) (x y : Int32) : lossG a x y = lossG b x y := by
  unfold lossG
  rw [h 6 0 0 (ok6 (by decide)), h 6 0 1 (ok6 (by decide))]
theorem Same.q_snd1 (h : Same a b) {f f' : Nat → Int32} (hf : f = f') (x y : Int32) : snd1 a f x y = snd1 b f' x y := by
  subst hf
  funext k
  unfold snd1
  rw [h.loss, h 6 0 2 (ok6 (by decide))]
theorem Same.bit (h : Same a b) {i : Nat} (hi : i < 5) : bitG a i = bitG b i := by
  unfold bitG
  rw [h 1 i 6 (ok1 hi (by decide)), h 1 i 8 (ok1 hi (by decide))]
theorem Same.q_spk (h : Same a b) {i : Nat} (hi : i < 5) : spk a i ↔ spk b i := by
  show (a 1 i 0 = 1 ∧ a 1 i 4 = 1) ↔ (b 1 i 0 = 1 ∧ b 1 i 4 = 1)
  rw [h 1 i 0 (ok1 hi (by decide)), h 1 i 4 (ok1 hi (by decide))]
theorem Same.q_hrS (h : Same a b) : ∀ k, k ≤ 5 → hrS a k = hrS b k
  | 0, _ => rfl
  | k + 1, hk => by
    unfold hrS
    rw [Same.q_hrS h k (by omega), h 1 k 1 (ok1 (by omega) (by decide)), h 1 k 2 (ok1 (by omega) (by decide)), h.q_snd1 rfl, h.bit (by omega)]
    simp only [h.q_spk (show k < 5 by omega)]
theorem Same.q_hrM (h : Same a b) : ∀ k, k ≤ 4 → hrM a k = hrM b k
  | 0, _ => h.q_hrS 5 (by omega)
  | k + 1, hk => by
    unfold hrM nois
    rw [Same.q_hrM h k (by omega), h 2 k 0 (ok2 (by omega) (by decide)), h 2 k 1 (ok2 (by omega) (by decide)), h 2 k 2 (ok2 (by omega) (by decide)), h 2 k 3 (ok2 (by omega) (by decide)), h 2 k 4 (ok2 (by omega) (by decide)), h 0 0 0 ok0, h.q_snd1 rfl]
theorem Same.q_hear (h : Same a b) : hear a = hear b := h.q_hrM 4 (by omega)
theorem Same.q_rest (h : Same a b) {i : Nat} (hi : i < 5) : rest a i ↔ rest b i := by
  show (a 1 i 0 = 1 ∧ a 1 i 4 = 0) ↔ (b 1 i 0 = 1 ∧ b 1 i 4 = 0)
  rw [h 1 i 0 (ok1 hi (by decide)), h 1 i 4 (ok1 hi (by decide))]
theorem Same.q_beg (h : Same a b) (hI : Inv b) {i : Nat} (hi : i < 5) : beg a i ↔ beg b i := by
  have e0 := h 1 i 0 (ok1 hi (by decide))
  by_cases hp : b 1 i 0 = 1
  · obtain ⟨-, -, hP⟩ := hI.1 i hi
    obtain ⟨⟨v, hv, hwv⟩, -⟩ := hP hp
    have hc : (b 1 i 1).toNatClampNeg = v := by rw [hwv]; exact nI_clamp (by omega)
    unfold beg rest quiet
    rw [e0, h 1 i 4 (ok1 hi (by decide)), h 1 i 3 (ok1 hi (by decide)), h 1 i 7 (ok1 hi (by decide)), h 1 i 1 (ok1 hi (by decide)), hc, h 4 v 0 (ok4 hv (by decide)), h 4 v 1 (ok4 hv (by decide))]
  · constructor
    · intro e; exact absurd (e0.symm.trans e.1.1) hp
    · intro e; exact absurd e.1.1 hp
theorem Same.q_bgn (h : Same a b) (hI : Inv b) : Same (bgn a) (bgn b) := by
  intro c i j ho
  by_cases hc : c = 1
  · subst hc
    have hi : i < 5 := by unfold okN at ho; omega
    rw [bgn_k a hi, bgn_k b hi]
    simp only [h.q_beg hI hi, h.q_rest hi, h 1 i 7 (ok1 hi (by decide)), h 1 i j ho]
  · rw [bgn_c _ hc, bgn_c _ hc]
    exact h _ _ _ ho
theorem Same.fin (h : Same a b) {k : Nat} (hk : k < 5) : Same (finG a k) (finG b k) := by
  have h1 : Same (finL (up3 a 1 k 4 0) k 5) (finL (up3 b 1 k 4 0) k 5) := by
    intro c i j ho
    have h0 := h.up 1 k 4 (v := 0) rfl
    simp only [finL]
    split
    next e => exact h0 1 k (j + 1) (ok1 hk (by omega))
    next => exact h0 _ _ _ ho
  unfold finG
  exact (h1.up 1 k 3 (by rw [h 1 k 3 (ok1 hk (by decide))])).up 7 0 0 (by rw [h 7 0 0 (ok7 (by decide))])
theorem Same.adv (h : Same a b) {k : Nat} (hk : k < 5) : Same (advG a k) (advG b k) := by
  unfold advG
  rw [h 1 k 6 (ok1 hk (by decide)), h 1 k 5 (ok1 hk (by decide)), h 6 0 3 (ok6 (by decide))]
  split
  · split
    · exact (h.up 1 k 6 rfl).up 1 k 5 rfl
    · exact ((h.up 1 k 6 rfl).up 1 k 5 rfl).fin hk
  · exact h.up 1 k 6 rfl
theorem Same.q_mov1 (h : Same a b) (f : Nat → Int32) {k : Nat} (hk : k < 5) : Same (mov1 f a k) (mov1 f b k) := by
  unfold mov1 isD
  simp only [h.q_spk hk, h 1 k 6 (ok1 hk (by decide)), h.bit hk, h 1 k 1 (ok1 hk (by decide))]
  split
  · split
    · unfold dstG
      exact ((h.up 1 k 4 rfl).up 1 k 7 rfl).up 7 0 1 (by rw [h 7 0 1 (ok7 (by decide))])
    · exact h.adv hk
  · exact h
theorem Same.q_movN (h : Same a b) (f : Nat → Int32) : ∀ k, k ≤ 5 → Same (movN f a k) (movN f b k)
  | 0, _ => h
  | k + 1, hk => (Same.q_movN h f k (by omega)).q_mov1 f (by omega)
theorem Same.q_lmp1 (h : Same a b) (x y c f : Int32) {k : Nat} (hk : k < 8) : Same (lmp1 a x y c f k) (lmp1 b x y c f k) := by
  unfold lmp1 isOfG
  rw [h 3 k 0 (ok3 hk (by decide)), h 3 k 1 (ok3 hk (by decide)), h 3 k 2 (ok3 hk (by decide)), h 3 k 3 (ok3 hk (by decide)), h 3 k 4 (ok3 hk (by decide)), h 3 k 5 (ok3 hk (by decide))]
  split
  · split
    · split
      · exact h.up 3 k 4 rfl
      · split
        · exact h.up 3 k 4 rfl
        · exact h
    · exact h.up 3 k 5 rfl
  · exact h
theorem Same.q_lmpN (h : Same a b) (x y c f : Int32) : ∀ k, k ≤ 8 → Same (lmpN a x y c f k) (lmpN b x y c f k)
  | 0, _ => h
  | k + 1, hk => (Same.q_lmpN h x y c f k (by omega)).q_lmp1 x y c f (by omega)
theorem Same.act (h : Same a b) {i : Nat} (hi : i < 6) (x : Int32) : Same (actG a i x) (actG b i x) := by
  unfold actG
  rw [h 4 i 6 (ok4 hi (by decide))]
  exact (h.q_lmpN _ _ _ _ 8 (by omega)).up 4 i 6 rfl
theorem Same.tel (h : Same a b) {i : Nat} (hi : i < 6) (x : Int32) : Same (telG a i x) (telG b i x) := by
  unfold telG
  rw [h 4 i 4 (ok4 hi (by decide)), h 4 i 5 (ok4 hi (by decide)), h 0 0 0 ok0, h 7 0 2 (ok7 (by decide)), h 7 0 3 (ok7 (by decide))]
  split
  · exact (h.up 7 0 3 rfl).up 4 i 5 rfl
  · exact (((h.up 7 0 2 rfl).up 4 i 4 rfl).act hi x).up 4 i 5 rfl
theorem Same.lis (h : Same a b) (i : Nat) : Same (lisG a i) (lisG b i) := by
  unfold lisG
  exact (((h.up 4 i 0 rfl).up 4 i 1 rfl).up 4 i 2 rfl).up 4 i 3 rfl
theorem Same.q_tak1 (h : Same a b) (f : Nat → Int32) {i : Nat} (hi : i < 6) : Same (tak1 f a i) (tak1 f b i) := by
  unfold tak1
  rw [h 4 i 0 (ok4 hi (by decide)), h 4 i 1 (ok4 hi (by decide)), h 4 i 2 (ok4 hi (by decide)), h 4 i 3 (ok4 hi (by decide)), h 7 0 4 (ok7 (by decide))]
  split
  · exact (h.up 4 i 1 rfl).up 4 i 0 rfl
  · split
    · exact (((h.up 4 i 2 rfl).up 4 i 3 rfl).up 7 0 4 rfl).lis i
    · split
      · exact (((h.up 4 i 2 rfl).up 4 i 3 rfl).tel hi _).lis i
      · exact (h.up 4 i 2 rfl).up 4 i 3 rfl
theorem Same.q_takN (h : Same a b) (f : Nat → Int32) : ∀ k, k ≤ 6 → Same (takN f a k) (takN f b k)
  | 0, _ => h
  | k + 1, hk => (Same.q_takN h f k (by omega)).q_tak1 f (by omega)
theorem Same.beat (h : Same a b) (hI : Inv b) : Same (beatG a) (beatG b) := by
  have h1 := h.q_bgn hI
  have h2 : Same (takN (hear (bgn a)) (movN (hear (bgn a)) (bgn a) 5) 6) (takN (hear (bgn b)) (movN (hear (bgn b)) (bgn b) 5) 6) := by
    rw [h1.q_hear]
    exact (h1.q_movN _ 5 (by omega)).q_takN _ 6 (by omega)
  unfold beatG
  exact h2.up 0 0 0 (by rw [h2 0 0 0 ok0])
theorem Same.q_itb : ∀ (d : Nat) {a b : NW}, Same a b → Inv b → Same (itb d a) (itb d b)
  | 0, _, _, h, _ => h
  | d + 1, _, _, h, hI => Same.q_itb d (h.beat hI) (Inv_beat hI)
theorem Same.q_fS (h : Same a b) (x : Int32) {k : Nat} (hk : k < 5) : fS a x k = fS b x k := by
  unfold fS
  rw [h 1 k 0 (ok1 hk (by decide)), h 1 k 3 (ok1 hk (by decide)), h 1 k 4 (ok1 hk (by decide))]
theorem Same.q_qs (h : Same a b) : qs a = qs b := sm_congr (N := 5) (fun k hk => h.q_fS 5 hk) 5 0 0 (by omega)
end SAME
theorem itb_add : ∀ (d e : Nat) (g : NW), itb (d + e) g = itb e (itb d g)
  | 0, e, g => by rw [Nat.zero_add]; rfl
  | d + 1, e, g => by rw [show d + 1 + e = (d + e) + 1 by omega]; exact itb_add d e (beatG g)
