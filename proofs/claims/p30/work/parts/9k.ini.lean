/-! LEVEL 2: constructors, first: a block of cells that grows at the heap's end -/
def cu (c : Nat → CE) (k : Nat) (e : CE) : Nat → CE := fun j => if j = k then e else c j
theorem cu_eq (c : Nat → CE) (k : Nat) (e : CE) : cu c k e k = e := if_pos rfl
theorem cu_ne (c : Nat → CE) {k j : Nat} (e : CE) (h : j ≠ k) : cu c k e j = c j := if_neg h
theorem cu_cu (c : Nat → CE) (k : Nat) (e e' : CE) : cu (cu c k e) k e' = cu c k e' := by
  funext j
  unfold cu
  split <;> rfl
theorem cu_self {c : Nat → CE} {k : Nat} {e : CE} (h : c k = e) : cu c k e = c := by
  funext j
  unfold cu
  split
  · rename_i hj; rw [hj, h]
  · rfl
def OL (σ : SG) (n m : Nat) (c : Nat → CE) : SG := (fun a => if n ≤ a ∧ a < n + m then some (c (a - n)) else σ.1 a, n + m)
section OLS
variable {σ : SG} {n m : Nat} {c : Nat → CE}
theorem OL_at {k : Nat} (hk : k < m) : (OL σ n m c).1 (n + k) = some (c k) := by
  show (if n ≤ n + k ∧ n + k < n + m then some (c (n + k - n)) else σ.1 (n + k)) = _
  rw [if_pos ⟨by omega, by omega⟩, Nat.add_sub_cancel_left]
theorem OL_out {a : Nat} (h : ¬ (n ≤ a ∧ a < n + m)) : (OL σ n m c).1 a = σ.1 a := if_neg h
theorem OL_congr {c' : Nat → CE} (h : ∀ k, k < m → c k = c' k) : OL σ n m c = OL σ n m c' := by
  unfold OL
  congr 1
  funext a
  split
  · rw [h _ (by omega)]
  · rfl
theorem OL_hup {k : Nat} (hk : k < m) (e : CE) : (hup (OL σ n m c).1 (n + k) e, (OL σ n m c).2) = OL σ n m (cu c k e) := by
  unfold OL
  congr 1
  funext a
  simp only [hup, cu]
  by_cases ha : a = n + k
  · rw [if_pos ha, if_pos (by omega), if_pos (by omega)]
  · rw [if_neg ha]
    split
    · rw [if_neg (by omega)]
    · rfl
theorem OL_new {lim : Nat} (hl : n + m + 1 ≤ lim) (e : CE) : sNew lim e (OL σ n m c) = some (some (n + m), OL σ n (m + 1) (cu c m e)) := by
  unfold sNew
  rw [if_pos (show (OL σ n m c).2 + 1 ≤ lim from hl)]
  show some (some (n + m), (hup (OL σ n m c).1 (n + m) e, n + m + 1)) = _
  refine congrArg some (Prod.ext rfl (Prod.ext (funext fun a => ?_) rfl))
  show hup (OL σ n m c).1 (n + m) e a = (if n ≤ a ∧ a < n + (m + 1) then some (cu c m e (a - n)) else σ.1 a)
  simp only [hup, cu]
  by_cases ha : a = n + m
  · rw [if_pos ha, if_pos (by omega), if_pos (by omega)]
  · rw [if_neg ha]
    show (if n ≤ a ∧ a < n + m then some (c (a - n)) else σ.1 a) = _
    by_cases h : n ≤ a ∧ a < n + m
    · rw [if_pos h, if_pos (by omega), if_neg (by omega)]
    · rw [if_neg h, if_neg (by omega)]
theorem OL_newA {lim : Nat} (hl : n + m + 1 ≤ lim) (k : Nat) {N : Nat} (hN : N ≤ 800) : sNewA lim k (nI N) (OL σ n m c) = some (some (n + m), OL σ n (m + 1) (cu c m (.inr (k, N, .inl (fun _ => 0))))) := by
  unfold sNewA
  rw [nI_clamp (by omega), if_neg (by
    rintro (h | h)
    · exact nI_pos (by omega) h
    · omega), OL_new hl]
theorem OL_newQ {lim : Nat} (hl : n + m + 1 ≤ lim) (k : Nat) {N : Nat} (hN : N ≤ 800) : sNewQ lim k (nI N) (OL σ n m c) = some (some (n + m), OL σ n (m + 1) (cu c m (.inr (k, N, .inr (fun _ => none))))) := by
  unfold sNewQ
  rw [nI_clamp (by omega), if_neg (by
    rintro (h | h)
    · exact nI_pos (by omega) h
    · omega), OL_new hl]
theorem OL_putV {k : Nat} (hk : k < m) {ci j : Nat} {fs : List Value} (hc : c k = .inl (ci, fs)) (hj : j < fs.length) (v : Value) : sPutV (some (n + k)) ci j v (OL σ n m c) = some (OL σ n m (cu c k (.inl (ci, fs.set j v)))) := by
  simp only [sPutV, OL_at hk, hc, if_true]
  rw [if_pos hj, OL_hup hk]
theorem OL_putI {k : Nat} (hk : k < m) {ci j : Nat} {fs : List Value} (hc : c k = .inl (ci, fs)) (hj : j < fs.length) (v : Int32) : sPutI (some (n + k)) ci j v (OL σ n m c) = some (OL σ n m (cu c k (.inl (ci, fs.set j (.int v))))) := OL_putV hk hc hj _
theorem OL_putR {k : Nat} (hk : k < m) {ci j : Nat} {fs : List Value} (hc : c k = .inl (ci, fs)) (hj : j < fs.length) (b : Nat) : sPutR (some (n + k)) ci j (some b) (OL σ n m c) = some (OL σ n m (cu c k (.inl (ci, fs.set j (.ref b))))) := OL_putV hk hc hj _
theorem OL_putZ {k : Nat} (hk : k < m) {ci j : Nat} {fs : List Value} (hc : c k = .inl (ci, fs)) (hj : j < fs.length) (v : Int32) (hv : b01 v) : sPutZ (some (n + k)) ci j v (OL σ n m c) = some (OL σ n m (cu c k (.inl (ci, fs.set j (.int v))))) := (if_pos hv).trans (OL_putV hk hc hj _)
theorem OL_obj {k : Nat} (hk : k < m) {ci : Nat} {fs : List Value} (hc : c k = .inl (ci, fs)) : sObj (some (n + k)) ci (OL σ n m c) = some () := by
  simp only [sObj, OL_at hk, hc, if_true]
theorem OL_getR {k : Nat} (hk : k < m) {ci j b : Nat} {fs : List Value} (hc : c k = .inl (ci, fs)) (hj : fs[j]? = some (.ref b)) : sGetR (some (n + k)) ci j (OL σ n m c) = some (some b) := by
  simp only [sGetR, OL_at hk, hc, if_true, hj]
theorem OL_len {k : Nat} (hk : k < m) {kd N : Nat} {f : (Nat → Int32) ⊕ (Nat → Option Nat)} (hc : c k = .inr (kd, N, f)) (hd : kd < 8) : sLen (some (n + k)) (OL σ n m c) = some (nI N) := by
  simp only [sLen, OL_at hk, hc]
  rw [if_pos hd]
  rfl
end OLS

