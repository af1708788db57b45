/-! LEVEL 2: more queries: receiver, frame, loss, total, count -/
section QRY2
variable {z0 : Nat} {σ : SG} {W : Nat → NW} {P : Nat → Nat} {kp : Nat} {h : Int32} {g w : NW} {n M : Nat}
theorem lossG_rel (hB : Base g w) (a b : Int32) : lossG w a b = lossG g a b := by
  unfold lossG
  rw [hB.c6, hB.c6]
/-! sums -/
def sm (f : Nat → Int32) : Nat → Nat → Int32 → Int32
  | 0, _, x => x
  | d + 1, k, x => sm f d (k + 1) (x + f k)
theorem sm_congr {f f' : Nat → Int32} {N : Nat} (hf : ∀ k, k < N → f k = f' k) : ∀ d k x, k + d ≤ N → sm f d k x = sm f' d k x
  | 0, _, _, _ => rfl
  | d + 1, k, x, hk => by
    unfold sm
    rw [hf k (by omega), sm_congr hf d (k + 1) _ (by omega)]
def fS (g : NW) (a : Int32) (k : Nat) : Int32 := if g 1 k 0 = 1 then (if a = 1 then 1 else if a = 4 then g 1 k 4 else g 1 k 3) else 0
def fL (g : NW) (a : Int32) (k : Nat) : Int32 := if g 3 k 0 = 1 then (if a = 3 then 1 else if g 3 k 4 ≤ 0 then 0 else 1) else 0
theorem c_pinSL (hb : ∀ i, i < 5 → b01 (w 1 i 0)) : ∀ (d k : Nat), k + d = 5 → ∀ (F : Nat), d < F → ∀ (x : Int32), m_X8_presentIn_L10 F x (some (n + 1)) 5 (nI k) (ovr σ n w) = some (sm (fun k => w 1 k 0) d k x, ovr σ n w) := by
  intro d
  induction d with
  | zero =>
    intro k hk F hF x
    obtain ⟨F, rfl⟩ : ∃ m, F = m + 1 := ⟨F - 1, by omega⟩
    rw [show m_X8_presentIn_L10 (F + 1) = m_X8_presentIn_B10 (m_X8_presentIn_L10 F) from rfl]
    unfold m_X8_presentIn_B10
    rw [if_pos (show (5 : Int32) ≤ nI k from nI_le (a := 5) (by omega) (by omega))]
    rfl
  | succ d ih =>
    intro k hk F hF x
    obtain ⟨F, rfl⟩ : ∃ m, F = m + 1 := ⟨F - 1, by omega⟩
    have hk' : k < 5 := by omega
    rw [show m_X8_presentIn_L10 (F + 1) = m_X8_presentIn_B10 (m_X8_presentIn_L10 F) from rfl]
    unfold m_X8_presentIn_B10 
    rw [if_neg (show ¬ (5 : Int32) ≤ nI k from nI_ge (b := 5) hk' (by decide))]
    rw [show sm (fun k => w 1 k 0) (d + 1) k x = sm (fun k => w 1 k 0) d (k + 1) (x + (fun k => w 1 k 0) k) from rfl]
    simp only [ald_1 hk', gT_snd_1 hk', c_asN (hb k hk'), Option.bind_some, bnd_some, ← nI_succ, ih (k + 1) (by omega) F (by omega)]
    
theorem c_pinS (hb : ∀ i, i < 5 → b01 (w 1 i 0)) : m_X8_presentIn (some (n + 1)) (ovr σ n w) = some (sm (fun k => w 1 k 0) 5 0 0, ovr σ n w) := by
  have e := c_pinSL (σ := σ) (n := n) (w := w) hb 5 0 rfl 1000 (by decide) 0
  rw [← nI0] at e
  unfold m_X8_presentIn
  simp only [len_1, Option.bind_some]
  exact e
theorem c_pinML (hb : ∀ i, i < 4 → b01 (w 2 i 0)) : ∀ (d k : Nat), k + d = 4 → ∀ (F : Nat), d < F → ∀ (x : Int32), m_X8_presentIn_L10 F x (some (n + 2)) 4 (nI k) (ovr σ n w) = some (sm (fun k => w 2 k 0) d k x, ovr σ n w) := by
  intro d
  induction d with
  | zero =>
    intro k hk F hF x
    obtain ⟨F, rfl⟩ : ∃ m, F = m + 1 := ⟨F - 1, by omega⟩
    rw [show m_X8_presentIn_L10 (F + 1) = m_X8_presentIn_B10 (m_X8_presentIn_L10 F) from rfl]
    unfold m_X8_presentIn_B10
    rw [if_pos (show (4 : Int32) ≤ nI k from nI_le (a := 4) (by omega) (by omega))]
    rfl
  | succ d ih =>
    intro k hk F hF x
    obtain ⟨F, rfl⟩ : ∃ m, F = m + 1 := ⟨F - 1, by omega⟩
    have hk' : k < 4 := by omega
    rw [show m_X8_presentIn_L10 (F + 1) = m_X8_presentIn_B10 (m_X8_presentIn_L10 F) from rfl]
    unfold m_X8_presentIn_B10 
    rw [if_neg (show ¬ (4 : Int32) ≤ nI k from nI_ge (b := 4) hk' (by decide))]
    rw [show sm (fun k => w 2 k 0) (d + 1) k x = sm (fun k => w 2 k 0) d (k + 1) (x + (fun k => w 2 k 0) k) from rfl]
    simp only [ald_2 hk', gT_mac_1 hk', c_asN (hb k hk'), Option.bind_some, bnd_some, ← nI_succ, ih (k + 1) (by omega) F (by omega)]
    
theorem c_pinM (hb : ∀ i, i < 4 → b01 (w 2 i 0)) : m_X8_presentIn (some (n + 2)) (ovr σ n w) = some (sm (fun k => w 2 k 0) 4 0 0, ovr σ n w) := by
  have e := c_pinML (σ := σ) (n := n) (w := w) hb 4 0 rfl 1000 (by decide) 0
  rw [← nI0] at e
  unfold m_X8_presentIn
  simp only [len_2, Option.bind_some]
  exact e
theorem c_pinLL (hb : ∀ i, i < 8 → b01 (w 3 i 0)) : ∀ (d k : Nat), k + d = 8 → ∀ (F : Nat), d < F → ∀ (x : Int32), m_X8_presentIn_L10 F x (some (n + 3)) 8 (nI k) (ovr σ n w) = some (sm (fun k => w 3 k 0) d k x, ovr σ n w) := by
  intro d
  induction d with
  | zero =>
    intro k hk F hF x
    obtain ⟨F, rfl⟩ : ∃ m, F = m + 1 := ⟨F - 1, by omega⟩
    rw [show m_X8_presentIn_L10 (F + 1) = m_X8_presentIn_B10 (m_X8_presentIn_L10 F) from rfl]
    unfold m_X8_presentIn_B10
    rw [if_pos (show (8 : Int32) ≤ nI k from nI_le (a := 8) (by omega) (by omega))]
    rfl
  | succ d ih =>
    intro k hk F hF x
    obtain ⟨F, rfl⟩ : ∃ m, F = m + 1 := ⟨F - 1, by omega⟩
    have hk' : k < 8 := by omega
    rw [show m_X8_presentIn_L10 (F + 1) = m_X8_presentIn_B10 (m_X8_presentIn_L10 F) from rfl]
    unfold m_X8_presentIn_B10 
    rw [if_neg (show ¬ (8 : Int32) ≤ nI k from nI_ge (b := 8) hk' (by decide))]
    rw [show sm (fun k => w 3 k 0) (d + 1) k x = sm (fun k => w 3 k 0) d (k + 1) (x + (fun k => w 3 k 0) k) from rfl]
    simp only [ald_3 hk', gT_lam_1 hk', c_asN (hb k hk'), Option.bind_some, bnd_some, ← nI_succ, ih (k + 1) (by omega) F (by omega)]
    
theorem c_pinL (hb : ∀ i, i < 8 → b01 (w 3 i 0)) : m_X8_presentIn (some (n + 3)) (ovr σ n w) = some (sm (fun k => w 3 k 0) 8 0 0, ovr σ n w) := by
  have e := c_pinLL (σ := σ) (n := n) (w := w) hb 8 0 rfl 1000 (by decide) 0
  rw [← nI0] at e
  unfold m_X8_presentIn
  simp only [len_3, Option.bind_some]
  exact e
theorem c_spksL (hb : ∀ i, i < 5 → b01 (w 1 i 0) ∧ b01 (w 1 i 4)) : ∀ (d k : Nat), k + d = 5 → ∀ (F : Nat), d < F → ∀ (x : Int32), m_X3_speakingSenders_L13 F x (some (n + 1)) 5 (nI k) (ovr σ n w) = some (sm (fun k => if w 1 k 0 = 1 then w 1 k 4 else 0) d k x, ovr σ n w) := by
  intro d
  induction d with
  | zero =>
    intro k hk F hF x
    obtain ⟨F, rfl⟩ : ∃ m, F = m + 1 := ⟨F - 1, by omega⟩
    rw [show m_X3_speakingSenders_L13 (F + 1) = m_X3_speakingSenders_B13 (m_X3_speakingSenders_L13 F) from rfl]
    unfold m_X3_speakingSenders_B13
    rw [if_pos (show (5 : Int32) ≤ nI k from nI_le (a := 5) (by omega) (by omega))]
    rfl
  | succ d ih =>
    intro k hk F hF x
    obtain ⟨F, rfl⟩ : ∃ m, F = m + 1 := ⟨F - 1, by omega⟩
    have hk' : k < 5 := by omega
    rw [show m_X3_speakingSenders_L13 (F + 1) = m_X3_speakingSenders_B13 (m_X3_speakingSenders_L13 F) from rfl]
    unfold m_X3_speakingSenders_B13 m_X6_isSpeaking
    rw [if_neg (show ¬ (5 : Int32) ≤ nI k from nI_ge (b := 5) hk' (by decide))]
    rw [show sm (fun k => if w 1 k 0 = 1 then w 1 k 4 else 0) (d + 1) k x = sm (fun k => if w 1 k 0 = 1 then w 1 k 4 else 0) d (k + 1) (x + (fun k => if w 1 k 0 = 1 then w 1 k 4 else 0) k) from rfl]
    simp only [ald_1 hk', ob_snd hk', gI_snd_1 hk', gI_snd_6 hk', Option.bind_some, bnd_some, ← nI_succ, ih (k + 1) (by omega) F (by omega)]
    rcases (hb k hk').1 with h0 | h0
    · rw [if_pos h0, if_neg (by rw [h0]; decide), show ∀ τ, chkZ 0 τ = some (0, τ) from fun _ => rfl]
      simp only [bnd_some, c_asN (Or.inl rfl), ih (k + 1) (by omega) F (by omega)]
    · rw [if_neg (by rw [h0]; decide), if_pos h0]
      rcases (hb k hk').2 with h4 | h4
      · rw [if_pos h4, h4, show ∀ τ, chkZ 0 τ = some (0, τ) from fun _ => rfl]
        simp only [bnd_some, c_asN (Or.inl rfl), ih (k + 1) (by omega) F (by omega)]
      · rw [if_neg (by rw [h4]; decide), h4, show ∀ τ, chkZ 1 τ = some (1, τ) from fun _ => rfl]
        simp only [bnd_some, c_asN (Or.inr rfl), ih (k + 1) (by omega) F (by omega)]
theorem c_queL  : ∀ (d k : Nat), k + d = 5 → ∀ (F : Nat), d < F → ∀ (x : Int32), m_X3_queuedWords_L13 F x (some (n + 1)) 5 (nI k) (ovr σ n w) = some (sm (fun k => if w 1 k 0 = 0 then 0 else w 1 k 3) d k x, ovr σ n w) := by
  intro d
  induction d with
  | zero =>
    intro k hk F hF x
    obtain ⟨F, rfl⟩ : ∃ m, F = m + 1 := ⟨F - 1, by omega⟩
    rw [show m_X3_queuedWords_L13 (F + 1) = m_X3_queuedWords_B13 (m_X3_queuedWords_L13 F) from rfl]
    unfold m_X3_queuedWords_B13
    rw [if_pos (show (5 : Int32) ≤ nI k from nI_le (a := 5) (by omega) (by omega))]
    rfl
  | succ d ih =>
    intro k hk F hF x
    obtain ⟨F, rfl⟩ : ∃ m, F = m + 1 := ⟨F - 1, by omega⟩
    have hk' : k < 5 := by omega
    rw [show m_X3_queuedWords_L13 (F + 1) = m_X3_queuedWords_B13 (m_X3_queuedWords_L13 F) from rfl]
    unfold m_X3_queuedWords_B13 m_X3_queuedWords_b41
    rw [if_neg (show ¬ (5 : Int32) ≤ nI k from nI_ge (b := 5) hk' (by decide))]
    rw [show sm (fun k => if w 1 k 0 = 0 then 0 else w 1 k 3) (d + 1) k x = sm (fun k => if w 1 k 0 = 0 then 0 else w 1 k 3) d (k + 1) (x + (fun k => if w 1 k 0 = 0 then 0 else w 1 k 3) k) from rfl]
    simp only [ald_1 hk', gI_snd_1 hk', gI_snd_4 hk', Option.bind_some, bnd_some, ← nI_succ, ih (k + 1) (by omega) F (by omega)]
    split
    · rw [Int32.add_zero]
    · rfl
theorem c_litL  : ∀ (d k : Nat), k + d = 8 → ∀ (F : Nat), d < F → ∀ (x : Int32), m_X3_litLamps_L13 F x (some (n + 3)) 8 (nI k) (ovr σ n w) = some (sm (fun k => if w 3 k 0 = 0 then 0 else if w 3 k 4 ≤ 0 then 0 else 1) d k x, ovr σ n w) := by
  intro d
  induction d with
  | zero =>
    intro k hk F hF x
    obtain ⟨F, rfl⟩ : ∃ m, F = m + 1 := ⟨F - 1, by omega⟩
    rw [show m_X3_litLamps_L13 (F + 1) = m_X3_litLamps_B13 (m_X3_litLamps_L13 F) from rfl]
    unfold m_X3_litLamps_B13
    rw [if_pos (show (8 : Int32) ≤ nI k from nI_le (a := 8) (by omega) (by omega))]
    rfl
  | succ d ih =>
    intro k hk F hF x
    obtain ⟨F, rfl⟩ : ∃ m, F = m + 1 := ⟨F - 1, by omega⟩
    have hk' : k < 8 := by omega
    rw [show m_X3_litLamps_L13 (F + 1) = m_X3_litLamps_B13 (m_X3_litLamps_L13 F) from rfl]
    unfold m_X3_litLamps_B13 m_X3_litLamps_b46 m_X3_litLamps_b47
    rw [if_neg (show ¬ (8 : Int32) ≤ nI k from nI_ge (b := 8) hk' (by decide))]
    rw [show sm (fun k => if w 3 k 0 = 0 then 0 else if w 3 k 4 ≤ 0 then 0 else 1) (d + 1) k x = sm (fun k => if w 3 k 0 = 0 then 0 else if w 3 k 4 ≤ 0 then 0 else 1) d (k + 1) (x + (fun k => if w 3 k 0 = 0 then 0 else if w 3 k 4 ≤ 0 then 0 else 1) k) from rfl]
    simp only [ald_3 hk', gI_lam_1 hk', gI_lam_5 hk', c_asN (Or.inl rfl), c_asN (Or.inr rfl), Option.bind_some, bnd_some, ← nI_succ, ih (k + 1) (by omega) F (by omega)]
    split
    · rfl
    · split <;> rfl
theorem c_spks (hb : ∀ i, i < 5 → b01 (w 1 i 0) ∧ b01 (w 1 i 4)) : m_X3_speakingSenders (some n) (ovr σ n w) = some (sm (fun k => if w 1 k 0 = 1 then w 1 k 4 else 0) 5 0 0, ovr σ n w) := by
  have e := c_spksL (σ := σ) (n := n) (w := w) hb 5 0 rfl 1000 (by decide) 0
  rw [← nI0] at e
  unfold m_X3_speakingSenders
  simp only [gR_net_0, len_1, Option.bind_some]
  exact e
theorem c_que : m_X3_queuedWords (some n) (ovr σ n w) = some (sm (fun k => if w 1 k 0 = 0 then 0 else w 1 k 3) 5 0 0, ovr σ n w) := by
  have e := c_queL (σ := σ) (n := n) (w := w) 5 0 rfl 1000 (by decide) 0
  rw [← nI0] at e
  unfold m_X3_queuedWords
  simp only [gR_net_0, len_1, Option.bind_some]
  exact e
theorem c_lit : m_X3_litLamps (some n) (ovr σ n w) = some (sm (fun k => if w 3 k 0 = 0 then 0 else if w 3 k 4 ≤ 0 then 0 else 1) 8 0 0, ovr σ n w) := by
  have e := c_litL (σ := σ) (n := n) (w := w) 8 0 rfl 1000 (by decide) 0
  rw [← nI0] at e
  unfold m_X3_litLamps
  simp only [gR_net_2, len_3, Option.bind_some]
  exact e
theorem b01_if {x : Int32} (hx : b01 x) {α : Type} (a b : α) : (if x = 0 then a else b) = if x = 1 then b else a := by
  rcases hx with h | h <;> subst h <;> rfl
/-- the words that wait, on both sides -/
theorem que_eq (hR : Rel g w) (hI : Inv g) : sm (fun k => if w 1 k 0 = 0 then 0 else w 1 k 3) 5 0 0 = sm (fS g 5) 5 0 0 := by
  refine sm_congr (N := 5) (fun k hk => ?_) 5 0 0 (by omega)
  show (if w 1 k 0 = 0 then 0 else w 1 k 3) = fS g 5 k
  rw [hR.1.c1 k (by decide), hR.1.c1 k (by decide), b01_if (hI.1 k hk).1]
  rfl
end QRY2


