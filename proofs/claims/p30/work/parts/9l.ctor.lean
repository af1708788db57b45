/-! LEVEL 2: constructors, second: the small objects -/
section CTR
variable {σ : SG} {n m : Nat} {c : Nat → CE}
theorem ol_pI {k : Nat} (hk : k < m) {ci j : Nat} {fs : List Value} (hj : j < fs.length) (v : Int32) : sPutI (some (n + k)) ci j v (OL σ n m (cu c k (.inl (ci, fs)))) = some (OL σ n m (cu c k (.inl (ci, fs.set j (.int v))))) := (OL_putI hk (cu_eq _ _ _) hj v).trans (by rw [cu_cu])
theorem ol_pZ {k : Nat} (hk : k < m) {ci j : Nat} {fs : List Value} (hj : j < fs.length) {v : Int32} (hv : b01 v) : sPutZ (some (n + k)) ci j v (OL σ n m (cu c k (.inl (ci, fs)))) = some (OL σ n m (cu c k (.inl (ci, fs.set j (.int v))))) := (OL_putZ hk (cu_eq _ _ _) hj v hv).trans (by rw [cu_cu])
theorem ol_pR {k : Nat} (hk : k < m) {ci j : Nat} {fs : List Value} (hj : j < fs.length) (b : Nat) : sPutR (some (n + k)) ci j (some b) (OL σ n m (cu c k (.inl (ci, fs)))) = some (OL σ n m (cu c k (.inl (ci, fs.set j (.ref b))))) := (OL_putR hk (cu_eq _ _ _) hj b).trans (by rw [cu_cu])
theorem ol_pIT {k : Nat} (hk : k < m) {ci j : Nat} {fs : List Value} (hci : ci ∈ [1, 2, 6]) (hj : j < fs.length) (v : Int32) : sPutIT (some (n + k)) [1, 2, 6] j v (OL σ n m (cu c k (.inl (ci, fs)))) = some (OL σ n m (cu c k (.inl (ci, fs.set j (.int v))))) := by
  simp only [sPutIT, OL_at hk, cu_eq]
  rw [if_pos hci, if_pos hj, OL_hup hk, cu_cu]
theorem ol_pZT {k : Nat} (hk : k < m) {ci j : Nat} {fs : List Value} (hci : ci ∈ [1, 2, 6]) (hj : j < fs.length) {v : Int32} (hv : b01 v) : sPutZT (some (n + k)) [1, 2, 6] j v (OL σ n m (cu c k (.inl (ci, fs)))) = some (OL σ n m (cu c k (.inl (ci, fs.set j (.int v))))) := by
  simp only [sPutZT, OL_at hk, cu_eq]
  rw [if_pos hci, if_pos hv, if_pos hj, OL_hup hk, cu_cu]
theorem ol_ob {k : Nat} (hk : k < m) {ci : Nat} {fs : List Value} : sObj (some (n + k)) ci (OL σ n m (cu c k (.inl (ci, fs)))) = some () := OL_obj hk (cu_eq _ _ _)
theorem i_7 {k : Nat} (hk : k < m) {ci : Nat} (hci : ci ∈ [1, 2, 6]) {fs : List Value} (hl : 3 ≤ fs.length) (x : Int32) : m_X7_init (some (n + k)) x (OL σ n m (cu c k (.inl (ci, fs)))) = some ((), OL σ n m (cu c k (.inl (ci, ((fs.set 1 (.int 0)).set 2 (.int 0)).set 0 (.int x))))) := by
  unfold m_X7_init
  rw [show sNN (some (n + k)) = some () from rfl]
  simp only [Option.bind_some]
  rw [ol_pZT hk hci (by omega) (Or.inl rfl)]
  simp only [Option.bind_some]
  rw [ol_pIT hk hci (by rw [List.length_set]; omega)]
  simp only [Option.bind_some]
  rw [ol_pIT hk hci (by rw [List.length_set, List.length_set]; omega)]
  rfl
theorem i_4 {k : Nat} (hk : k < m) : m_X4_init (some (n + k)) (OL σ n m (cu c k (.inl (4, [.int 0, .int 0, .int 0, .int 0, .int 0, .int 0, .int 0])))) = some ((), OL σ n m (cu c k (.inl (4, [.int 0, .int 0, .int 0, .int 0, .int (-5), .int 0, .int 15])))) := by
  unfold m_X4_init
  rw [show sNN (some (n + k)) = some () from rfl]
  simp only [Option.bind_some]
  rw [ol_pZ hk (by decide) (Or.inl rfl)]
  simp only [Option.bind_some]
  rw [ol_pI hk (by simp)]
  simp only [Option.bind_some]
  rw [ol_pI hk (by simp)]
  simp only [Option.bind_some]
  rw [ol_pI hk (by simp)]
  simp only [Option.bind_some]
  rw [ol_pI hk (by simp)]
  simp only [Option.bind_some]
  rw [ol_pI hk (by simp)]
  simp only [Option.bind_some]
  rw [ol_pI hk (by simp)]
  rfl
theorem i_2 {k : Nat} (hk : k < m) (x : Int32) : m_X2_init (some (n + k)) x (OL σ n m (cu c k (.inl (2, [.int 0, .int 0, .int 0, .int 0, .int 0, .int 0])))) = some ((), OL σ n m (cu c k (.inl (2, [.int x, .int 0, .int 0, .int 0, .int 2, .int 0])))) := by
  unfold m_X2_init
  rw [ol_ob hk]
  simp only [Option.bind_some]
  rw [i_7 hk (by decide) (by simp)]
  simp only [bnd_some]
  rw [ol_pI hk (by simp)]
  simp only [Option.bind_some]
  rw [ol_pI hk (by simp)]
  simp only [Option.bind_some]
  rw [ol_pZ hk (by simp) (Or.inl rfl)]
  rfl
theorem i_1 {k : Nat} (hk : k < m) (x : Int32) : m_X1_init (some (n + k)) x (OL σ n m (cu c k (.inl (1, [.int 0, .int 0, .int 0, .int 0, .int 0, .int 0, .int 0])))) = some ((), OL σ n m (cu c k (.inl (1, [.int x, .int 0, .int 0, .int 0, .int 0, .int 0, .int 0])))) := by
  unfold m_X1_init
  rw [ol_ob hk]
  simp only [Option.bind_some]
  rw [i_7 hk (by decide) (by simp)]
  simp only [bnd_some]
  rw [ol_pI hk (by simp)]
  simp only [Option.bind_some]
  rw [ol_pI hk (by simp)]
  simp only [Option.bind_some]
  rw [ol_pI hk (by simp)]
  simp only [Option.bind_some]
  rw [ol_pZ hk (by simp) (Or.inl rfl)]
  rfl
theorem sSame_eq {a b : Nat} (h : a = b) : sSame a b = some () := if_pos h
theorem sRoom_eq {lim mc : Nat} {τ : SG} (h : τ.2 + mc ≤ lim) : sRoom lim mc τ = some () := if_pos h
theorem sEnd_eq {lim : Nat} {τ : SG} (h : τ.2 ≤ lim) : sEnd lim τ = some ((), τ) := if_pos h
/-- a sender takes one more cell, behind the block -/
theorem i_6 {k : Nat} (hk : k < m) (x : Int32) : m_X6_init (some (n + k)) x (OL σ n m (cu c k (.inl (6, [.int 0, .int 0, .int 0, .null, .int 0, .int 0, .int 0, .int 0, .int 0, .int 0])))) = some ((), OL σ n (m + 1) (cu (cu c k (.inl (6, [.int x, .int 0, .int 0, .ref (n + m), .int 0, .int 0, .int 0, .int 0, .int 0, .int 0]))) m (.inr (1, 6, .inl (fun _ => 0))))) := by
  unfold m_X6_init m_X6_init_e
  rw [sRoom_eq (by show n + m + 0 ≤ n + m + 1; omega), ol_ob hk]
  simp only [Option.bind_some]
  rw [i_7 hk (by decide) (by simp)]
  simp only [bnd_some]
  rw [sSame_eq (show (OL σ n m _).2 = (OL σ n m _).2 + 0 from rfl)]
  simp only [Option.bind_some]
  rw [show (6 : Int32) = nI 6 from rfl, OL_newA (by show n + m + 1 ≤ n + m + 1; omega) 1 (by decide)]
  simp only [bnd_some]
  have sw : ∀ (e e' : CE), cu (cu c k e) m e' = cu (cu c m e') k e := fun e e' => by
    funext j
    unfold cu
    by_cases h1 : j = m
    · rw [if_pos h1, if_neg (by omega), if_pos h1]
    · rw [if_neg h1, if_neg h1]
  have hk' : k < m + 1 := by omega
  rw [sw, ol_pR hk' (by simp)]
  simp only [Option.bind_some]
  rw [ol_pI hk' (by simp)]
  simp only [Option.bind_some]
  rw [ol_pI hk' (by simp)]
  simp only [Option.bind_some]
  rw [ol_pZ hk' (by simp) (Or.inl rfl)]
  simp only [Option.bind_some]
  rw [ol_pI hk' (by simp)]
  simp only [Option.bind_some]
  rw [ol_pI hk' (by simp)]
  simp only [Option.bind_some]
  rw [ol_pI hk' (by simp)]
  simp only [Option.bind_some]
  rw [sEnd_eq (by show n + (m + 1) ≤ n + m + 1; omega), sw]
  rfl
end CTR

