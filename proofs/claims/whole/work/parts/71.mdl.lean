/-! LEVEL 2, second text: the reference's block of 11 cells. r k j: row k (0: the object's own numbers, by field), place j; its row 1 as numbers g c i j like a Net's -/
def up2 (r : Nat → Nat → Int32) (k j : Nat) (v : Int32) : Nat → Nat → Int32 := fun k' j' => if k' = k ∧ j' = j then v else r k' j'
def mLen (k : Nat) : Nat := if k = 4 then 760 else if k < 6 then 190 else if k = 6 then 6 else if k < 9 then 5 else if k = 9 then 82 else 80
def mKnd (k : Nat) : Nat := if k = 8 then 2 else if k = 10 then 0 else 1
def cMdl (M : Nat) (r : Nat → Nat → Int32) : CE := .inl (8, [.ref (M + 1), .ref (M + 2), .ref (M + 3), .ref (M + 4), .ref (M + 5), .ref (M + 6), .ref (M + 7), .ref (M + 8), .ref (M + 9), .ref (M + 10), .int (r 0 10), .int (r 0 11), .int (r 0 12), .int (r 0 13), .int (r 0 14)])
def mdlC (M : Nat) (r : Nat → Nat → Int32) (k : Nat) : CE := if k = 0 then cMdl M r else .inr (mKnd k, mLen k, .inl (fun j => r k j))
def ovm (σ : SG) (M : Nat) (r : Nat → Nat → Int32) : SG := (fun a => if M ≤ a ∧ a < M + 11 then some (mdlC M r (a - M)) else σ.1 a, σ.2)
theorem ovm_2 (σ : SG) (M : Nat) (r : Nat → Nat → Int32) : (ovm σ M r).2 = σ.2 := rfl
theorem ovm_at {σ : SG} {M : Nat} {r : Nat → Nat → Int32} {k : Nat} (hk : k < 11) : (ovm σ M r).1 (M + k) = some (mdlC M r k) := by
  simp only [ovm]
  rw [if_pos ⟨by omega, by omega⟩]
  congr 2
  omega
theorem ovm_at0 {σ : SG} {M : Nat} {r : Nat → Nat → Int32} : (ovm σ M r).1 M = some (cMdl M r) := by
  have h := ovm_at (σ := σ) (M := M) (r := r) (k := 0) (by decide)
  simpa [mdlC] using h
theorem ovm_row {σ : SG} {M : Nat} {r : Nat → Nat → Int32} {k : Nat} (h0 : 0 < k) (hk : k < 11) : (ovm σ M r).1 (M + k) = some (.inr (mKnd k, mLen k, .inl (fun j => r k j))) := by
  rw [ovm_at hk]
  simp only [mdlC]
  rw [if_neg (by omega)]
theorem ovm_out {σ : SG} {M : Nat} {r : Nat → Nat → Int32} {a : Nat} (h : ¬ (M ≤ a ∧ a < M + 11)) : (ovm σ M r).1 a = σ.1 a := by
  simp only [ovm]
  rw [if_neg h]
theorem ovm_put {σ : SG} {M : Nat} {r r' : Nat → Nat → Int32} {k : Nat} {e : CE} (hk : k < 11) (he : mdlC M r' k = e) (ho : ∀ k', k' ≠ k → mdlC M r' k' = mdlC M r k') : (hup (ovm σ M r).1 (M + k) e, (ovm σ M r).2) = ovm σ M r' := by
  unfold ovm
  congr 1
  funext a
  simp only [hup]
  by_cases h1 : a = M + k
  · rw [if_pos h1, if_pos ⟨by omega, by omega⟩, ← he]
    congr 2
    omega
  · rw [if_neg h1]
    split
    next h2 =>
      congr 1
      exact (ho _ (by omega)).symm
    · rfl
theorem ovm_ovm (σ : SG) (M : Nat) (r r' : Nat → Nat → Int32) : ovm (ovm σ M r) M r' = ovm σ M r' := by
  unfold ovm
  congr 1
  funext a
  simp only
  split <;> simp_all
theorem mdlC_row {M : Nat} {r r' : Nat → Nat → Int32} {k : Nat} (h : ∀ j, r' k j = r k j) : mdlC M r' k = mdlC M r k := by
  unfold mdlC
  split
  next hk => subst hk; simp only [cMdl, h]
  · simp only [h]

theorem ob_mdl {σ : SG} {M : Nat} {r : Nat → Nat → Int32} : sObj (some M) 8 (ovm σ M r) = some () := by simp [sObj, ovm_at0, cMdl]
theorem gR_mdl_0 {σ : SG} {M : Nat} {r : Nat → Nat → Int32} : sGetR (some M) 8 0 (ovm σ M r) = some (some (M + 1)) := by simp [sGetR, ovm_at0, cMdl]
theorem gR_mdl_1 {σ : SG} {M : Nat} {r : Nat → Nat → Int32} : sGetR (some M) 8 1 (ovm σ M r) = some (some (M + 2)) := by simp [sGetR, ovm_at0, cMdl]
theorem gR_mdl_2 {σ : SG} {M : Nat} {r : Nat → Nat → Int32} : sGetR (some M) 8 2 (ovm σ M r) = some (some (M + 3)) := by simp [sGetR, ovm_at0, cMdl]
theorem gR_mdl_3 {σ : SG} {M : Nat} {r : Nat → Nat → Int32} : sGetR (some M) 8 3 (ovm σ M r) = some (some (M + 4)) := by simp [sGetR, ovm_at0, cMdl]
theorem gR_mdl_4 {σ : SG} {M : Nat} {r : Nat → Nat → Int32} : sGetR (some M) 8 4 (ovm σ M r) = some (some (M + 5)) := by simp [sGetR, ovm_at0, cMdl]
theorem gR_mdl_5 {σ : SG} {M : Nat} {r : Nat → Nat → Int32} : sGetR (some M) 8 5 (ovm σ M r) = some (some (M + 6)) := by simp [sGetR, ovm_at0, cMdl]
theorem gR_mdl_6 {σ : SG} {M : Nat} {r : Nat → Nat → Int32} : sGetR (some M) 8 6 (ovm σ M r) = some (some (M + 7)) := by simp [sGetR, ovm_at0, cMdl]
theorem gR_mdl_7 {σ : SG} {M : Nat} {r : Nat → Nat → Int32} : sGetR (some M) 8 7 (ovm σ M r) = some (some (M + 8)) := by simp [sGetR, ovm_at0, cMdl]
theorem gR_mdl_8 {σ : SG} {M : Nat} {r : Nat → Nat → Int32} : sGetR (some M) 8 8 (ovm σ M r) = some (some (M + 9)) := by simp [sGetR, ovm_at0, cMdl]
theorem gR_mdl_9 {σ : SG} {M : Nat} {r : Nat → Nat → Int32} : sGetR (some M) 8 9 (ovm σ M r) = some (some (M + 10)) := by simp [sGetR, ovm_at0, cMdl]
theorem gI_mdl_10 {σ : SG} {M : Nat} {r : Nat → Nat → Int32} : sGetI (some M) 8 10 (ovm σ M r) = some (r 0 10) := by simp [sGetI, ovm_at0, cMdl]
theorem pV_mdl_10 {σ : SG} {M : Nat} {r : Nat → Nat → Int32} (v : Int32) : sPutV (some M) 8 10 (.int v) (ovm σ M r) = some (ovm σ M (up2 r 0 10 v)) := by
  simp only [sPutV, ovm_at0, cMdl, if_true]
  rw [if_pos (by simp)]
  refine congrArg some (ovm_put (k := 0) (by decide) ?_ (fun k' hk => mdlC_row (fun j => by simp [up2, hk])))
  simp [mdlC, cMdl, up2]
theorem pI_mdl_10 {σ : SG} {M : Nat} {r : Nat → Nat → Int32} (v : Int32) : sPutI (some M) 8 10 v (ovm σ M r) = some (ovm σ M (up2 r 0 10 v)) := pV_mdl_10 v
theorem pZ_mdl_10 {σ : SG} {M : Nat} {r : Nat → Nat → Int32} (v : Int32) (hv : v = 0 ∨ v = 1) : sPutZ (some M) 8 10 v (ovm σ M r) = some (ovm σ M (up2 r 0 10 v)) := by rw [sPutZ, if_pos hv]; exact pV_mdl_10 v
theorem gI_mdl_11 {σ : SG} {M : Nat} {r : Nat → Nat → Int32} : sGetI (some M) 8 11 (ovm σ M r) = some (r 0 11) := by simp [sGetI, ovm_at0, cMdl]
theorem pV_mdl_11 {σ : SG} {M : Nat} {r : Nat → Nat → Int32} (v : Int32) : sPutV (some M) 8 11 (.int v) (ovm σ M r) = some (ovm σ M (up2 r 0 11 v)) := by
  simp only [sPutV, ovm_at0, cMdl, if_true]
  rw [if_pos (by simp)]
  refine congrArg some (ovm_put (k := 0) (by decide) ?_ (fun k' hk => mdlC_row (fun j => by simp [up2, hk])))
  simp [mdlC, cMdl, up2]
theorem pI_mdl_11 {σ : SG} {M : Nat} {r : Nat → Nat → Int32} (v : Int32) : sPutI (some M) 8 11 v (ovm σ M r) = some (ovm σ M (up2 r 0 11 v)) := pV_mdl_11 v
theorem gI_mdl_12 {σ : SG} {M : Nat} {r : Nat → Nat → Int32} : sGetI (some M) 8 12 (ovm σ M r) = some (r 0 12) := by simp [sGetI, ovm_at0, cMdl]
theorem pV_mdl_12 {σ : SG} {M : Nat} {r : Nat → Nat → Int32} (v : Int32) : sPutV (some M) 8 12 (.int v) (ovm σ M r) = some (ovm σ M (up2 r 0 12 v)) := by
  simp only [sPutV, ovm_at0, cMdl, if_true]
  rw [if_pos (by simp)]
  refine congrArg some (ovm_put (k := 0) (by decide) ?_ (fun k' hk => mdlC_row (fun j => by simp [up2, hk])))
  simp [mdlC, cMdl, up2]
theorem pI_mdl_12 {σ : SG} {M : Nat} {r : Nat → Nat → Int32} (v : Int32) : sPutI (some M) 8 12 v (ovm σ M r) = some (ovm σ M (up2 r 0 12 v)) := pV_mdl_12 v
theorem gI_mdl_13 {σ : SG} {M : Nat} {r : Nat → Nat → Int32} : sGetI (some M) 8 13 (ovm σ M r) = some (r 0 13) := by simp [sGetI, ovm_at0, cMdl]
theorem pV_mdl_13 {σ : SG} {M : Nat} {r : Nat → Nat → Int32} (v : Int32) : sPutV (some M) 8 13 (.int v) (ovm σ M r) = some (ovm σ M (up2 r 0 13 v)) := by
  simp only [sPutV, ovm_at0, cMdl, if_true]
  rw [if_pos (by simp)]
  refine congrArg some (ovm_put (k := 0) (by decide) ?_ (fun k' hk => mdlC_row (fun j => by simp [up2, hk])))
  simp [mdlC, cMdl, up2]
theorem pI_mdl_13 {σ : SG} {M : Nat} {r : Nat → Nat → Int32} (v : Int32) : sPutI (some M) 8 13 v (ovm σ M r) = some (ovm σ M (up2 r 0 13 v)) := pV_mdl_13 v
theorem gI_mdl_14 {σ : SG} {M : Nat} {r : Nat → Nat → Int32} : sGetI (some M) 8 14 (ovm σ M r) = some (r 0 14) := by simp [sGetI, ovm_at0, cMdl]
theorem pV_mdl_14 {σ : SG} {M : Nat} {r : Nat → Nat → Int32} (v : Int32) : sPutV (some M) 8 14 (.int v) (ovm σ M r) = some (ovm σ M (up2 r 0 14 v)) := by
  simp only [sPutV, ovm_at0, cMdl, if_true]
  rw [if_pos (by simp)]
  refine congrArg some (ovm_put (k := 0) (by decide) ?_ (fun k' hk => mdlC_row (fun j => by simp [up2, hk])))
  simp [mdlC, cMdl, up2]
theorem pI_mdl_14 {σ : SG} {M : Nat} {r : Nat → Nat → Int32} (v : Int32) : sPutI (some M) 8 14 v (ovm σ M r) = some (ovm σ M (up2 r 0 14 v)) := pV_mdl_14 v
theorem mld_1 {σ : SG} {M : Nat} {r : Nat → Nat → Int32} {j : Nat} (h : j < 190) : sAld (some (M + 1)) 1 (nI j) (ovm σ M r) = some (r 1 j) := by
  simp only [sAld, ovm_row (k := 1) (by decide) (by decide)]
  rw [if_pos (by decide), if_neg (nI_in (N := mLen 1) (show j < 190 from h) (by decide)), nI_clamp (by omega)]
theorem mst_1 {σ : SG} {M : Nat} {r : Nat → Nat → Int32} {j : Nat} (h : j < 190) (v : Int32) : sAst (some (M + 1)) 1 (nI j) v (ovm σ M r) = some (ovm σ M (up2 r 1 j v)) := by
  simp only [sAst, ovm_row (k := 1) (by decide) (by decide)]
  rw [if_pos (by decide), if_neg (nI_in (N := mLen 1) (show j < 190 from h) (by decide)), nI_clamp (by omega)]
  refine congrArg some (ovm_put (k := 1) (by decide) ?_ (fun k' hk => mdlC_row (fun j => by simp [up2, hk])))
  simp only [mdlC]
  rw [if_neg (by decide)]
  congr 4
  funext q
  simp [up2, upd]
theorem mld_2 {σ : SG} {M : Nat} {r : Nat → Nat → Int32} {j : Nat} (h : j < 190) : sAld (some (M + 2)) 1 (nI j) (ovm σ M r) = some (r 2 j) := by
  simp only [sAld, ovm_row (k := 2) (by decide) (by decide)]
  rw [if_pos (by decide), if_neg (nI_in (N := mLen 2) (show j < 190 from h) (by decide)), nI_clamp (by omega)]
theorem mst_2 {σ : SG} {M : Nat} {r : Nat → Nat → Int32} {j : Nat} (h : j < 190) (v : Int32) : sAst (some (M + 2)) 1 (nI j) v (ovm σ M r) = some (ovm σ M (up2 r 2 j v)) := by
  simp only [sAst, ovm_row (k := 2) (by decide) (by decide)]
  rw [if_pos (by decide), if_neg (nI_in (N := mLen 2) (show j < 190 from h) (by decide)), nI_clamp (by omega)]
  refine congrArg some (ovm_put (k := 2) (by decide) ?_ (fun k' hk => mdlC_row (fun j => by simp [up2, hk])))
  simp only [mdlC]
  rw [if_neg (by decide)]
  congr 4
  funext q
  simp [up2, upd]
theorem mld_3 {σ : SG} {M : Nat} {r : Nat → Nat → Int32} {j : Nat} (h : j < 190) : sAld (some (M + 3)) 1 (nI j) (ovm σ M r) = some (r 3 j) := by
  simp only [sAld, ovm_row (k := 3) (by decide) (by decide)]
  rw [if_pos (by decide), if_neg (nI_in (N := mLen 3) (show j < 190 from h) (by decide)), nI_clamp (by omega)]
theorem mst_3 {σ : SG} {M : Nat} {r : Nat → Nat → Int32} {j : Nat} (h : j < 190) (v : Int32) : sAst (some (M + 3)) 1 (nI j) v (ovm σ M r) = some (ovm σ M (up2 r 3 j v)) := by
  simp only [sAst, ovm_row (k := 3) (by decide) (by decide)]
  rw [if_pos (by decide), if_neg (nI_in (N := mLen 3) (show j < 190 from h) (by decide)), nI_clamp (by omega)]
  refine congrArg some (ovm_put (k := 3) (by decide) ?_ (fun k' hk => mdlC_row (fun j => by simp [up2, hk])))
  simp only [mdlC]
  rw [if_neg (by decide)]
  congr 4
  funext q
  simp [up2, upd]
theorem mld_4 {σ : SG} {M : Nat} {r : Nat → Nat → Int32} {j : Nat} (h : j < 760) : sAld (some (M + 4)) 1 (nI j) (ovm σ M r) = some (r 4 j) := by
  simp only [sAld, ovm_row (k := 4) (by decide) (by decide)]
  rw [if_pos (by decide), if_neg (nI_in (N := mLen 4) (show j < 760 from h) (by decide)), nI_clamp (by omega)]
theorem mst_4 {σ : SG} {M : Nat} {r : Nat → Nat → Int32} {j : Nat} (h : j < 760) (v : Int32) : sAst (some (M + 4)) 1 (nI j) v (ovm σ M r) = some (ovm σ M (up2 r 4 j v)) := by
  simp only [sAst, ovm_row (k := 4) (by decide) (by decide)]
  rw [if_pos (by decide), if_neg (nI_in (N := mLen 4) (show j < 760 from h) (by decide)), nI_clamp (by omega)]
  refine congrArg some (ovm_put (k := 4) (by decide) ?_ (fun k' hk => mdlC_row (fun j => by simp [up2, hk])))
  simp only [mdlC]
  rw [if_neg (by decide)]
  congr 4
  funext q
  simp [up2, upd]
theorem mld_5 {σ : SG} {M : Nat} {r : Nat → Nat → Int32} {j : Nat} (h : j < 190) : sAld (some (M + 5)) 1 (nI j) (ovm σ M r) = some (r 5 j) := by
  simp only [sAld, ovm_row (k := 5) (by decide) (by decide)]
  rw [if_pos (by decide), if_neg (nI_in (N := mLen 5) (show j < 190 from h) (by decide)), nI_clamp (by omega)]
theorem mst_5 {σ : SG} {M : Nat} {r : Nat → Nat → Int32} {j : Nat} (h : j < 190) (v : Int32) : sAst (some (M + 5)) 1 (nI j) v (ovm σ M r) = some (ovm σ M (up2 r 5 j v)) := by
  simp only [sAst, ovm_row (k := 5) (by decide) (by decide)]
  rw [if_pos (by decide), if_neg (nI_in (N := mLen 5) (show j < 190 from h) (by decide)), nI_clamp (by omega)]
  refine congrArg some (ovm_put (k := 5) (by decide) ?_ (fun k' hk => mdlC_row (fun j => by simp [up2, hk])))
  simp only [mdlC]
  rw [if_neg (by decide)]
  congr 4
  funext q
  simp [up2, upd]
theorem mld_6 {σ : SG} {M : Nat} {r : Nat → Nat → Int32} {j : Nat} (h : j < 6) : sAld (some (M + 6)) 1 (nI j) (ovm σ M r) = some (r 6 j) := by
  simp only [sAld, ovm_row (k := 6) (by decide) (by decide)]
  rw [if_pos (by decide), if_neg (nI_in (N := mLen 6) (show j < 6 from h) (by decide)), nI_clamp (by omega)]
theorem mst_6 {σ : SG} {M : Nat} {r : Nat → Nat → Int32} {j : Nat} (h : j < 6) (v : Int32) : sAst (some (M + 6)) 1 (nI j) v (ovm σ M r) = some (ovm σ M (up2 r 6 j v)) := by
  simp only [sAst, ovm_row (k := 6) (by decide) (by decide)]
  rw [if_pos (by decide), if_neg (nI_in (N := mLen 6) (show j < 6 from h) (by decide)), nI_clamp (by omega)]
  refine congrArg some (ovm_put (k := 6) (by decide) ?_ (fun k' hk => mdlC_row (fun j => by simp [up2, hk])))
  simp only [mdlC]
  rw [if_neg (by decide)]
  congr 4
  funext q
  simp [up2, upd]
theorem mld_7 {σ : SG} {M : Nat} {r : Nat → Nat → Int32} {j : Nat} (h : j < 5) : sAld (some (M + 7)) 1 (nI j) (ovm σ M r) = some (r 7 j) := by
  simp only [sAld, ovm_row (k := 7) (by decide) (by decide)]
  rw [if_pos (by decide), if_neg (nI_in (N := mLen 7) (show j < 5 from h) (by decide)), nI_clamp (by omega)]
theorem mst_7 {σ : SG} {M : Nat} {r : Nat → Nat → Int32} {j : Nat} (h : j < 5) (v : Int32) : sAst (some (M + 7)) 1 (nI j) v (ovm σ M r) = some (ovm σ M (up2 r 7 j v)) := by
  simp only [sAst, ovm_row (k := 7) (by decide) (by decide)]
  rw [if_pos (by decide), if_neg (nI_in (N := mLen 7) (show j < 5 from h) (by decide)), nI_clamp (by omega)]
  refine congrArg some (ovm_put (k := 7) (by decide) ?_ (fun k' hk => mdlC_row (fun j => by simp [up2, hk])))
  simp only [mdlC]
  rw [if_neg (by decide)]
  congr 4
  funext q
  simp [up2, upd]
theorem mld_8 {σ : SG} {M : Nat} {r : Nat → Nat → Int32} {j : Nat} (h : j < 5) : sAld (some (M + 8)) 2 (nI j) (ovm σ M r) = some (r 8 j) := by
  simp only [sAld, ovm_row (k := 8) (by decide) (by decide)]
  rw [if_pos (by decide), if_neg (nI_in (N := mLen 8) (show j < 5 from h) (by decide)), nI_clamp (by omega)]
theorem mst_8 {σ : SG} {M : Nat} {r : Nat → Nat → Int32} {j : Nat} (h : j < 5) (v : Int32) : sAst (some (M + 8)) 2 (nI j) v (ovm σ M r) = some (ovm σ M (up2 r 8 j v)) := by
  simp only [sAst, ovm_row (k := 8) (by decide) (by decide)]
  rw [if_pos (by decide), if_neg (nI_in (N := mLen 8) (show j < 5 from h) (by decide)), nI_clamp (by omega)]
  refine congrArg some (ovm_put (k := 8) (by decide) ?_ (fun k' hk => mdlC_row (fun j => by simp [up2, hk])))
  simp only [mdlC]
  rw [if_neg (by decide)]
  congr 4
  funext q
  simp [up2, upd]
theorem mld_9 {σ : SG} {M : Nat} {r : Nat → Nat → Int32} {j : Nat} (h : j < 82) : sAld (some (M + 9)) 1 (nI j) (ovm σ M r) = some (r 9 j) := by
  simp only [sAld, ovm_row (k := 9) (by decide) (by decide)]
  rw [if_pos (by decide), if_neg (nI_in (N := mLen 9) (show j < 82 from h) (by decide)), nI_clamp (by omega)]
theorem mst_9 {σ : SG} {M : Nat} {r : Nat → Nat → Int32} {j : Nat} (h : j < 82) (v : Int32) : sAst (some (M + 9)) 1 (nI j) v (ovm σ M r) = some (ovm σ M (up2 r 9 j v)) := by
  simp only [sAst, ovm_row (k := 9) (by decide) (by decide)]
  rw [if_pos (by decide), if_neg (nI_in (N := mLen 9) (show j < 82 from h) (by decide)), nI_clamp (by omega)]
  refine congrArg some (ovm_put (k := 9) (by decide) ?_ (fun k' hk => mdlC_row (fun j => by simp [up2, hk])))
  simp only [mdlC]
  rw [if_neg (by decide)]
  congr 4
  funext q
  simp [up2, upd]
theorem mld_10 {σ : SG} {M : Nat} {r : Nat → Nat → Int32} {j : Nat} (h : j < 80) : sAld (some (M + 10)) 0 (nI j) (ovm σ M r) = some (r 10 j) := by
  simp only [sAld, ovm_row (k := 10) (by decide) (by decide)]
  rw [if_pos (by decide), if_neg (nI_in (N := mLen 10) (show j < 80 from h) (by decide)), nI_clamp (by omega)]
theorem mst_10 {σ : SG} {M : Nat} {r : Nat → Nat → Int32} {j : Nat} (h : j < 80) (v : Int32) : sAst (some (M + 10)) 0 (nI j) v (ovm σ M r) = some (ovm σ M (up2 r 10 j v)) := by
  simp only [sAst, ovm_row (k := 10) (by decide) (by decide)]
  rw [if_pos (by decide), if_neg (nI_in (N := mLen 10) (show j < 80 from h) (by decide)), nI_clamp (by omega)]
  refine congrArg some (ovm_put (k := 10) (by decide) ?_ (fun k' hk => mdlC_row (fun j => by simp [up2, hk])))
  simp only [mdlC]
  rw [if_neg (by decide)]
  congr 4
  funext q
  simp [up2, upd]
/-! the row 1 as numbers: settings (6), the time (0), totals (7), senders (1), machines (2), lamps (3), receivers (4) -/
def xS (i j : Nat) : Nat := 10 + 14 * i + j
def xM (i j : Nat) : Nat := 80 + 5 * i + j
def xL (i j : Nat) : Nat := 100 + 6 * i + j
def xR (i j : Nat) : Nat := 148 + 7 * i + j
def flat (g : NW) : Nat → Int32 := fun k => if k < 4 then g 6 0 k else if k < 5 then g 0 0 0 else if k < 10 then g 7 0 (k - 5) else if k < 80 then g 1 ((k - 10) / 14) ((k - 10) % 14) else if k < 100 then g 2 ((k - 80) / 5) ((k - 80) % 5) else if k < 148 then g 3 ((k - 100) / 6) ((k - 100) % 6) else if k < 190 then g 4 ((k - 148) / 7) ((k - 148) % 7) else 0
/-- where an entry stands -/
def posN (c i j : Nat) : Nat := if c = 6 then j else if c = 0 then 4 else if c = 7 then 5 + j else if c = 1 then xS i j else if c = 2 then xM i j else if c = 3 then xL i j else xR i j
def okN (c i j : Nat) : Prop := (c = 6 ∧ i = 0 ∧ j < 4) ∨ (c = 0 ∧ i = 0 ∧ j = 0) ∨ (c = 7 ∧ i = 0 ∧ j < 5) ∨ (c = 1 ∧ i < 5 ∧ j < 14) ∨ (c = 2 ∧ i < 4 ∧ j < 5) ∨ (c = 3 ∧ i < 8 ∧ j < 6) ∨ (c = 4 ∧ i < 6 ∧ j < 7)
theorem flat_at {g : NW} {c i j : Nat} (h : okN c i j) : flat g (posN c i j) = g c i j := by
  rcases h with ⟨rfl, rfl, h⟩ | ⟨rfl, rfl, rfl⟩ | ⟨rfl, rfl, h⟩ | ⟨rfl, hi, h⟩ | ⟨rfl, hi, h⟩ | ⟨rfl, hi, h⟩ | ⟨rfl, hi, h⟩
  · simp [posN, flat, h]
  · simp [posN, flat]
  · simp only [posN, flat]; simp; rw [if_neg (by omega), if_neg (by omega), if_pos (by omega)]
  · show flat g (xS i j) = g 1 i j
    unfold flat xS
    rw [if_neg (by omega), if_neg (by omega), if_neg (by omega), if_pos (by omega)]
    rw [show (10 + 14 * i + j - 10) / 14 = i by omega, show (10 + 14 * i + j - 10) % 14 = j by omega]
  · show flat g (xM i j) = g 2 i j
    unfold flat xM
    rw [if_neg (by omega), if_neg (by omega), if_neg (by omega), if_neg (by omega), if_pos (by omega)]
    rw [show (80 + 5 * i + j - 80) / 5 = i by omega, show (80 + 5 * i + j - 80) % 5 = j by omega]
  · show flat g (xL i j) = g 3 i j
    unfold flat xL
    rw [if_neg (by omega), if_neg (by omega), if_neg (by omega), if_neg (by omega), if_neg (by omega), if_pos (by omega)]
    rw [show (100 + 6 * i + j - 100) / 6 = i by omega, show (100 + 6 * i + j - 100) % 6 = j by omega]
  · show flat g (xR i j) = g 4 i j
    unfold flat xR
    rw [if_neg (by omega), if_neg (by omega), if_neg (by omega), if_neg (by omega), if_neg (by omega), if_neg (by omega), if_pos (by omega)]
    rw [show (148 + 7 * i + j - 148) / 7 = i by omega, show (148 + 7 * i + j - 148) % 7 = j by omega]
theorem posN_inv (k : Nat) (hk : k < 190) : ∃ c i j, okN c i j ∧ k = posN c i j := by
  by_cases h1 : k < 4
  · exact ⟨6, 0, k, Or.inl ⟨rfl, rfl, h1⟩, by simp [posN]⟩
  by_cases h2 : k < 5
  · exact ⟨0, 0, 0, Or.inr (Or.inl ⟨rfl, rfl, rfl⟩), by simp [posN]; omega⟩
  by_cases h3 : k < 10
  · exact ⟨7, 0, k - 5, Or.inr (Or.inr (Or.inl ⟨rfl, rfl, by omega⟩)), by simp [posN]; omega⟩
  by_cases h4 : k < 80
  · exact ⟨1, (k - 10) / 14, (k - 10) % 14, Or.inr (Or.inr (Or.inr (Or.inl ⟨rfl, by omega, by omega⟩))), by simp [posN, xS]; omega⟩
  by_cases h5 : k < 100
  · exact ⟨2, (k - 80) / 5, (k - 80) % 5, Or.inr (Or.inr (Or.inr (Or.inr (Or.inl ⟨rfl, by omega, by omega⟩)))), by simp [posN, xM]; omega⟩
  by_cases h6 : k < 148
  · exact ⟨3, (k - 100) / 6, (k - 100) % 6, Or.inr (Or.inr (Or.inr (Or.inr (Or.inr (Or.inl ⟨rfl, by omega, by omega⟩))))), by simp [posN, xL]; omega⟩
  · exact ⟨4, (k - 148) / 7, (k - 148) % 7, Or.inr (Or.inr (Or.inr (Or.inr (Or.inr (Or.inr ⟨rfl, by omega, by omega⟩))))), by simp [posN, xR]; omega⟩
theorem posN_lt {c i j : Nat} (h : okN c i j) : posN c i j < 190 := by
  rcases h with ⟨rfl, rfl, h⟩ | ⟨rfl, rfl, rfl⟩ | ⟨rfl, rfl, h⟩ | ⟨rfl, hi, h⟩ | ⟨rfl, hi, h⟩ | ⟨rfl, hi, h⟩ | ⟨rfl, hi, h⟩ <;> simp [posN, xS, xM, xL, xR] <;> omega
theorem flat_out {g : NW} {k : Nat} (h : ¬ k < 190) : flat g k = 0 := by
  unfold flat
  rw [if_neg (by omega), if_neg (by omega), if_neg (by omega), if_neg (by omega), if_neg (by omega), if_neg (by omega), if_neg h]
theorem posN_inj {c i j c' i' j' : Nat} (h : okN c i j) (h' : okN c' i' j') (e : posN c i j = posN c' i' j') : c = c' ∧ i = i' ∧ j = j' := by
  rcases h with ⟨rfl, rfl, h⟩ | ⟨rfl, rfl, rfl⟩ | ⟨rfl, rfl, h⟩ | ⟨rfl, hi, h⟩ | ⟨rfl, hi, h⟩ | ⟨rfl, hi, h⟩ | ⟨rfl, hi, h⟩ <;>
    rcases h' with ⟨rfl, rfl, h'⟩ | ⟨rfl, rfl, rfl⟩ | ⟨rfl, rfl, h'⟩ | ⟨rfl, hi', h'⟩ | ⟨rfl, hi', h'⟩ | ⟨rfl, hi', h'⟩ | ⟨rfl, hi', h'⟩ <;>
    simp [posN, xS, xM, xL, xR] at e ⊢ <;> omega
theorem flat_up {g : NW} {c i j : Nat} {v : Int32} (h : okN c i j) (k : Nat) : (if k = posN c i j then v else flat g k) = flat (up3 g c i j v) k := by
  by_cases hk : k < 190
  · obtain ⟨c', i', j', h', rfl⟩ := posN_inv k hk
    rw [flat_at h', flat_at h']
    simp only [up3]
    by_cases e : posN c' i' j' = posN c i j
    · obtain ⟨rfl, rfl, rfl⟩ := posN_inj h' h e
      simp
    · rw [if_neg e, if_neg]
      rintro ⟨rfl, rfl, rfl⟩
      exact e rfl
  · rw [flat_out hk, flat_out hk, if_neg]
    have := posN_lt h
    omega
/-- the reference's block with the numbers g in its row 1 -/
def srow (r : Nat → Nat → Int32) (g : NW) : Nat → Nat → Int32 := fun k j => if k = 1 then flat g j else r k j
abbrev ovs (σ : SG) (M : Nat) (r : Nat → Nat → Int32) (g : NW) : SG := ovm σ M (srow r g)
theorem srow_ld {σ : SG} {M : Nat} {r : Nat → Nat → Int32} {g : NW} {c i j : Nat} (h : okN c i j) : sAld (some (M + 1)) 1 (nI (posN c i j)) (ovs σ M r g) = some (g c i j) := by
  rw [mld_1 (posN_lt h)]
  simp only [srow, if_true]
  rw [flat_at h]
theorem srow_st {σ : SG} {M : Nat} {r : Nat → Nat → Int32} {g : NW} {c i j : Nat} (h : okN c i j) (v : Int32) : sAst (some (M + 1)) 1 (nI (posN c i j)) v (ovs σ M r g) = some (ovs σ M r (up3 g c i j v)) := by
  rw [mst_1 (posN_lt h)]
  congr 2
  funext k q
  simp only [up2, srow]
  by_cases hk : k = 1
  · subst hk
    simp only [true_and, if_true]
    exact flat_up h q
  · simp [hk]
theorem srow_up (r : Nat → Nat → Int32) (g : NW) {k j : Nat} (v : Int32) (hk : k ≠ 1) : up2 (srow r g) k j v = srow (up2 r k j v) g := by
  funext k' j'
  simp only [up2, srow]
  by_cases h : k' = 1
  · subst h
    simp [Ne.symm hk]
  · simp [h]
theorem srow_of (r : Nat → Nat → Int32) (g : NW) {k : Nat} (hk : k ≠ 1) (j : Nat) : srow r g k j = r k j := by simp [srow, hk]

theorem sld_2 {σ : SG} {M : Nat} {r : Nat → Nat → Int32} {g : NW} {j : Nat} (h : j < 190) : sAld (some (M + 2)) 1 (nI j) (ovs σ M r g) = some (r 2 j) := (mld_2 h).trans (by rw [srow_of _ _ (by decide)])
theorem sst_2 {σ : SG} {M : Nat} {r : Nat → Nat → Int32} {g : NW} {j : Nat} (h : j < 190) (v : Int32) : sAst (some (M + 2)) 1 (nI j) v (ovs σ M r g) = some (ovs σ M (up2 r 2 j v) g) := (mst_2 h v).trans (by rw [srow_up _ _ _ (by decide)])
theorem sld_3 {σ : SG} {M : Nat} {r : Nat → Nat → Int32} {g : NW} {j : Nat} (h : j < 190) : sAld (some (M + 3)) 1 (nI j) (ovs σ M r g) = some (r 3 j) := (mld_3 h).trans (by rw [srow_of _ _ (by decide)])
theorem sst_3 {σ : SG} {M : Nat} {r : Nat → Nat → Int32} {g : NW} {j : Nat} (h : j < 190) (v : Int32) : sAst (some (M + 3)) 1 (nI j) v (ovs σ M r g) = some (ovs σ M (up2 r 3 j v) g) := (mst_3 h v).trans (by rw [srow_up _ _ _ (by decide)])
theorem sld_4 {σ : SG} {M : Nat} {r : Nat → Nat → Int32} {g : NW} {j : Nat} (h : j < 760) : sAld (some (M + 4)) 1 (nI j) (ovs σ M r g) = some (r 4 j) := (mld_4 h).trans (by rw [srow_of _ _ (by decide)])
theorem sst_4 {σ : SG} {M : Nat} {r : Nat → Nat → Int32} {g : NW} {j : Nat} (h : j < 760) (v : Int32) : sAst (some (M + 4)) 1 (nI j) v (ovs σ M r g) = some (ovs σ M (up2 r 4 j v) g) := (mst_4 h v).trans (by rw [srow_up _ _ _ (by decide)])
theorem sld_5 {σ : SG} {M : Nat} {r : Nat → Nat → Int32} {g : NW} {j : Nat} (h : j < 190) : sAld (some (M + 5)) 1 (nI j) (ovs σ M r g) = some (r 5 j) := (mld_5 h).trans (by rw [srow_of _ _ (by decide)])
theorem sst_5 {σ : SG} {M : Nat} {r : Nat → Nat → Int32} {g : NW} {j : Nat} (h : j < 190) (v : Int32) : sAst (some (M + 5)) 1 (nI j) v (ovs σ M r g) = some (ovs σ M (up2 r 5 j v) g) := (mst_5 h v).trans (by rw [srow_up _ _ _ (by decide)])
theorem sld_6 {σ : SG} {M : Nat} {r : Nat → Nat → Int32} {g : NW} {j : Nat} (h : j < 6) : sAld (some (M + 6)) 1 (nI j) (ovs σ M r g) = some (r 6 j) := (mld_6 h).trans (by rw [srow_of _ _ (by decide)])
theorem sst_6 {σ : SG} {M : Nat} {r : Nat → Nat → Int32} {g : NW} {j : Nat} (h : j < 6) (v : Int32) : sAst (some (M + 6)) 1 (nI j) v (ovs σ M r g) = some (ovs σ M (up2 r 6 j v) g) := (mst_6 h v).trans (by rw [srow_up _ _ _ (by decide)])
theorem sld_7 {σ : SG} {M : Nat} {r : Nat → Nat → Int32} {g : NW} {j : Nat} (h : j < 5) : sAld (some (M + 7)) 1 (nI j) (ovs σ M r g) = some (r 7 j) := (mld_7 h).trans (by rw [srow_of _ _ (by decide)])
theorem sst_7 {σ : SG} {M : Nat} {r : Nat → Nat → Int32} {g : NW} {j : Nat} (h : j < 5) (v : Int32) : sAst (some (M + 7)) 1 (nI j) v (ovs σ M r g) = some (ovs σ M (up2 r 7 j v) g) := (mst_7 h v).trans (by rw [srow_up _ _ _ (by decide)])
theorem sld_8 {σ : SG} {M : Nat} {r : Nat → Nat → Int32} {g : NW} {j : Nat} (h : j < 5) : sAld (some (M + 8)) 2 (nI j) (ovs σ M r g) = some (r 8 j) := (mld_8 h).trans (by rw [srow_of _ _ (by decide)])
theorem sst_8 {σ : SG} {M : Nat} {r : Nat → Nat → Int32} {g : NW} {j : Nat} (h : j < 5) (v : Int32) : sAst (some (M + 8)) 2 (nI j) v (ovs σ M r g) = some (ovs σ M (up2 r 8 j v) g) := (mst_8 h v).trans (by rw [srow_up _ _ _ (by decide)])
theorem sld_9 {σ : SG} {M : Nat} {r : Nat → Nat → Int32} {g : NW} {j : Nat} (h : j < 82) : sAld (some (M + 9)) 1 (nI j) (ovs σ M r g) = some (r 9 j) := (mld_9 h).trans (by rw [srow_of _ _ (by decide)])
theorem sst_9 {σ : SG} {M : Nat} {r : Nat → Nat → Int32} {g : NW} {j : Nat} (h : j < 82) (v : Int32) : sAst (some (M + 9)) 1 (nI j) v (ovs σ M r g) = some (ovs σ M (up2 r 9 j v) g) := (mst_9 h v).trans (by rw [srow_up _ _ _ (by decide)])
theorem sld_10 {σ : SG} {M : Nat} {r : Nat → Nat → Int32} {g : NW} {j : Nat} (h : j < 80) : sAld (some (M + 10)) 0 (nI j) (ovs σ M r g) = some (r 10 j) := (mld_10 h).trans (by rw [srow_of _ _ (by decide)])
theorem sst_10 {σ : SG} {M : Nat} {r : Nat → Nat → Int32} {g : NW} {j : Nat} (h : j < 80) (v : Int32) : sAst (some (M + 10)) 0 (nI j) v (ovs σ M r g) = some (ovs σ M (up2 r 10 j v) g) := (mst_10 h v).trans (by rw [srow_up _ _ _ (by decide)])
theorem sld_S {σ : SG} {M : Nat} {r : Nat → Nat → Int32} {g : NW} {i j : Nat} (h : i < 5) (hj : j < 14) : sAld (some (M + 1)) 1 (nI (xS i j)) (ovs σ M r g) = some (g 1 i j) := srow_ld (c := 1) (Or.inr (Or.inr (Or.inr (Or.inl ⟨rfl, h, hj⟩))))
theorem sst_S {σ : SG} {M : Nat} {r : Nat → Nat → Int32} {g : NW} {i j : Nat} (h : i < 5) (hj : j < 14) (v : Int32) : sAst (some (M + 1)) 1 (nI (xS i j)) v (ovs σ M r g) = some (ovs σ M r (up3 g 1 i j v)) := srow_st (c := 1) (Or.inr (Or.inr (Or.inr (Or.inl ⟨rfl, h, hj⟩)))) v
theorem sld_M {σ : SG} {M : Nat} {r : Nat → Nat → Int32} {g : NW} {i j : Nat} (h : i < 4) (hj : j < 5) : sAld (some (M + 1)) 1 (nI (xM i j)) (ovs σ M r g) = some (g 2 i j) := srow_ld (c := 2) (Or.inr (Or.inr (Or.inr (Or.inr (Or.inl ⟨rfl, h, hj⟩)))))
theorem sst_M {σ : SG} {M : Nat} {r : Nat → Nat → Int32} {g : NW} {i j : Nat} (h : i < 4) (hj : j < 5) (v : Int32) : sAst (some (M + 1)) 1 (nI (xM i j)) v (ovs σ M r g) = some (ovs σ M r (up3 g 2 i j v)) := srow_st (c := 2) (Or.inr (Or.inr (Or.inr (Or.inr (Or.inl ⟨rfl, h, hj⟩))))) v
theorem sld_L {σ : SG} {M : Nat} {r : Nat → Nat → Int32} {g : NW} {i j : Nat} (h : i < 8) (hj : j < 6) : sAld (some (M + 1)) 1 (nI (xL i j)) (ovs σ M r g) = some (g 3 i j) := srow_ld (c := 3) (Or.inr (Or.inr (Or.inr (Or.inr (Or.inr (Or.inl ⟨rfl, h, hj⟩))))))
theorem sst_L {σ : SG} {M : Nat} {r : Nat → Nat → Int32} {g : NW} {i j : Nat} (h : i < 8) (hj : j < 6) (v : Int32) : sAst (some (M + 1)) 1 (nI (xL i j)) v (ovs σ M r g) = some (ovs σ M r (up3 g 3 i j v)) := srow_st (c := 3) (Or.inr (Or.inr (Or.inr (Or.inr (Or.inr (Or.inl ⟨rfl, h, hj⟩)))))) v
theorem sld_R {σ : SG} {M : Nat} {r : Nat → Nat → Int32} {g : NW} {i j : Nat} (h : i < 6) (hj : j < 7) : sAld (some (M + 1)) 1 (nI (xR i j)) (ovs σ M r g) = some (g 4 i j) := srow_ld (c := 4) (Or.inr (Or.inr (Or.inr (Or.inr (Or.inr (Or.inr ⟨rfl, h, hj⟩))))))
theorem sst_R {σ : SG} {M : Nat} {r : Nat → Nat → Int32} {g : NW} {i j : Nat} (h : i < 6) (hj : j < 7) (v : Int32) : sAst (some (M + 1)) 1 (nI (xR i j)) v (ovs σ M r g) = some (ovs σ M r (up3 g 4 i j v)) := srow_st (c := 4) (Or.inr (Or.inr (Or.inr (Or.inr (Or.inr (Or.inr ⟨rfl, h, hj⟩)))))) v
theorem sld_set {σ : SG} {M : Nat} {r : Nat → Nat → Int32} {g : NW} {j : Nat} (hj : j < 4) : sAld (some (M + 1)) 1 (nI j) (ovs σ M r g) = some (g 6 0 j) := srow_ld (c := 6) (i := 0) (Or.inl ⟨rfl, rfl, hj⟩)
theorem sst_set {σ : SG} {M : Nat} {r : Nat → Nat → Int32} {g : NW} {j : Nat} (hj : j < 4) (v : Int32) : sAst (some (M + 1)) 1 (nI j) v (ovs σ M r g) = some (ovs σ M r (up3 g 6 0 j v)) := srow_st (c := 6) (i := 0) (Or.inl ⟨rfl, rfl, hj⟩) v
theorem sld_time {σ : SG} {M : Nat} {r : Nat → Nat → Int32} {g : NW} : sAld (some (M + 1)) 1 (nI 4) (ovs σ M r g) = some (g 0 0 0) := srow_ld (c := 0) (i := 0) (j := 0) (Or.inr (Or.inl ⟨rfl, rfl, rfl⟩))
theorem sst_time {σ : SG} {M : Nat} {r : Nat → Nat → Int32} {g : NW} (v : Int32) : sAst (some (M + 1)) 1 (nI 4) v (ovs σ M r g) = some (ovs σ M r (up3 g 0 0 0 v)) := srow_st (c := 0) (i := 0) (j := 0) (Or.inr (Or.inl ⟨rfl, rfl, rfl⟩)) v
theorem sld_tot {σ : SG} {M : Nat} {r : Nat → Nat → Int32} {g : NW} {j : Nat} (hj : j < 5) : sAld (some (M + 1)) 1 (nI (5 + j)) (ovs σ M r g) = some (g 7 0 j) := srow_ld (c := 7) (i := 0) (Or.inr (Or.inr (Or.inl ⟨rfl, rfl, hj⟩)))
theorem sst_tot {σ : SG} {M : Nat} {r : Nat → Nat → Int32} {g : NW} {j : Nat} (hj : j < 5) (v : Int32) : sAst (some (M + 1)) 1 (nI (5 + j)) v (ovs σ M r g) = some (ovs σ M r (up3 g 7 0 j v)) := srow_st (c := 7) (i := 0) (Or.inr (Or.inr (Or.inl ⟨rfl, rfl, hj⟩))) v
theorem gR_s_0 {σ : SG} {M : Nat} {r : Nat → Nat → Int32} {g : NW} : sGetR (some M) 8 0 (ovs σ M r g) = some (some (M + 1)) := gR_mdl_0
theorem gR_s_1 {σ : SG} {M : Nat} {r : Nat → Nat → Int32} {g : NW} : sGetR (some M) 8 1 (ovs σ M r g) = some (some (M + 2)) := gR_mdl_1
theorem gR_s_2 {σ : SG} {M : Nat} {r : Nat → Nat → Int32} {g : NW} : sGetR (some M) 8 2 (ovs σ M r g) = some (some (M + 3)) := gR_mdl_2
theorem gR_s_3 {σ : SG} {M : Nat} {r : Nat → Nat → Int32} {g : NW} : sGetR (some M) 8 3 (ovs σ M r g) = some (some (M + 4)) := gR_mdl_3
theorem gR_s_4 {σ : SG} {M : Nat} {r : Nat → Nat → Int32} {g : NW} : sGetR (some M) 8 4 (ovs σ M r g) = some (some (M + 5)) := gR_mdl_4
theorem gR_s_5 {σ : SG} {M : Nat} {r : Nat → Nat → Int32} {g : NW} : sGetR (some M) 8 5 (ovs σ M r g) = some (some (M + 6)) := gR_mdl_5
theorem gR_s_6 {σ : SG} {M : Nat} {r : Nat → Nat → Int32} {g : NW} : sGetR (some M) 8 6 (ovs σ M r g) = some (some (M + 7)) := gR_mdl_6
theorem gR_s_7 {σ : SG} {M : Nat} {r : Nat → Nat → Int32} {g : NW} : sGetR (some M) 8 7 (ovs σ M r g) = some (some (M + 8)) := gR_mdl_7
theorem gR_s_8 {σ : SG} {M : Nat} {r : Nat → Nat → Int32} {g : NW} : sGetR (some M) 8 8 (ovs σ M r g) = some (some (M + 9)) := gR_mdl_8
theorem gR_s_9 {σ : SG} {M : Nat} {r : Nat → Nat → Int32} {g : NW} : sGetR (some M) 8 9 (ovs σ M r g) = some (some (M + 10)) := gR_mdl_9
theorem gI_s_10 {σ : SG} {M : Nat} {r : Nat → Nat → Int32} {g : NW} : sGetI (some M) 8 10 (ovs σ M r g) = some (r 0 10) := gI_mdl_10.trans (by rw [srow_of _ _ (by decide)])
theorem pI_s_10 {σ : SG} {M : Nat} {r : Nat → Nat → Int32} {g : NW} (v : Int32) : sPutI (some M) 8 10 v (ovs σ M r g) = some (ovs σ M (up2 r 0 10 v) g) := (pI_mdl_10 v).trans (by rw [srow_up _ _ _ (by decide)])
theorem pZ_s_10 {σ : SG} {M : Nat} {r : Nat → Nat → Int32} {g : NW} (v : Int32) (hv : v = 0 ∨ v = 1) : sPutZ (some M) 8 10 v (ovs σ M r g) = some (ovs σ M (up2 r 0 10 v) g) := (pZ_mdl_10 v hv).trans (by rw [srow_up _ _ _ (by decide)])
theorem gI_s_11 {σ : SG} {M : Nat} {r : Nat → Nat → Int32} {g : NW} : sGetI (some M) 8 11 (ovs σ M r g) = some (r 0 11) := gI_mdl_11.trans (by rw [srow_of _ _ (by decide)])
theorem pI_s_11 {σ : SG} {M : Nat} {r : Nat → Nat → Int32} {g : NW} (v : Int32) : sPutI (some M) 8 11 v (ovs σ M r g) = some (ovs σ M (up2 r 0 11 v) g) := (pI_mdl_11 v).trans (by rw [srow_up _ _ _ (by decide)])
theorem gI_s_12 {σ : SG} {M : Nat} {r : Nat → Nat → Int32} {g : NW} : sGetI (some M) 8 12 (ovs σ M r g) = some (r 0 12) := gI_mdl_12.trans (by rw [srow_of _ _ (by decide)])
theorem pI_s_12 {σ : SG} {M : Nat} {r : Nat → Nat → Int32} {g : NW} (v : Int32) : sPutI (some M) 8 12 v (ovs σ M r g) = some (ovs σ M (up2 r 0 12 v) g) := (pI_mdl_12 v).trans (by rw [srow_up _ _ _ (by decide)])
theorem gI_s_13 {σ : SG} {M : Nat} {r : Nat → Nat → Int32} {g : NW} : sGetI (some M) 8 13 (ovs σ M r g) = some (r 0 13) := gI_mdl_13.trans (by rw [srow_of _ _ (by decide)])
theorem pI_s_13 {σ : SG} {M : Nat} {r : Nat → Nat → Int32} {g : NW} (v : Int32) : sPutI (some M) 8 13 v (ovs σ M r g) = some (ovs σ M (up2 r 0 13 v) g) := (pI_mdl_13 v).trans (by rw [srow_up _ _ _ (by decide)])
theorem gI_s_14 {σ : SG} {M : Nat} {r : Nat → Nat → Int32} {g : NW} : sGetI (some M) 8 14 (ovs σ M r g) = some (r 0 14) := gI_mdl_14.trans (by rw [srow_of _ _ (by decide)])
theorem pI_s_14 {σ : SG} {M : Nat} {r : Nat → Nat → Int32} {g : NW} (v : Int32) : sPutI (some M) 8 14 v (ovs σ M r g) = some (ovs σ M (up2 r 0 14 v) g) := (pI_mdl_14 v).trans (by rw [srow_up _ _ _ (by decide)])
theorem ob_s {σ : SG} {M : Nat} {r : Nat → Nat → Int32} {g : NW} : sObj (some M) 8 (ovs σ M r g) = some () := ob_mdl
/-! places by numbers -/
theorem nI_mul (a b : Nat) : nI a * nI b = nI (a * b) := by simp [nI, Int32.ofNat_mul]
theorem nI_lit (a : Nat) : (OfNat.ofNat a : Int32) = nI a := rfl
theorem xS_0 (i : Nat) : (10 : Int32) + (14 : Int32) * nI i = nI (xS i 0) := by
  show nI 10 + nI 14 * nI i = _
  rw [nI_mul, nI_add]; rfl
theorem xM_0 (i : Nat) : (80 : Int32) + (5 : Int32) * nI i = nI (xM i 0) := by
  show nI 80 + nI 5 * nI i = _
  rw [nI_mul, nI_add]; rfl
theorem xL_0 (i : Nat) : (100 : Int32) + (6 : Int32) * nI i = nI (xL i 0) := by
  show nI 100 + nI 6 * nI i = _
  rw [nI_mul, nI_add]; rfl
theorem xR_0 (i : Nat) : (148 : Int32) + (7 : Int32) * nI i = nI (xR i 0) := by
  show nI 148 + nI 7 * nI i = _
  rw [nI_mul, nI_add]; rfl
theorem xS_p0 (i : Nat) : nI (xS i 0) + (0 : Int32) = nI (xS i 0) := by
  show nI _ + nI 0 = _
  rw [nI_add]; rfl
theorem xS_p1 (i : Nat) : nI (xS i 0) + (1 : Int32) = nI (xS i 1) := by
  show nI _ + nI 1 = _
  rw [nI_add]; rfl
theorem xS_p2 (i : Nat) : nI (xS i 0) + (2 : Int32) = nI (xS i 2) := by
  show nI _ + nI 2 = _
  rw [nI_add]; rfl
theorem xS_p3 (i : Nat) : nI (xS i 0) + (3 : Int32) = nI (xS i 3) := by
  show nI _ + nI 3 = _
  rw [nI_add]; rfl
theorem xS_p4 (i : Nat) : nI (xS i 0) + (4 : Int32) = nI (xS i 4) := by
  show nI _ + nI 4 = _
  rw [nI_add]; rfl
theorem xS_p5 (i : Nat) : nI (xS i 0) + (5 : Int32) = nI (xS i 5) := by
  show nI _ + nI 5 = _
  rw [nI_add]; rfl
theorem xS_p6 (i : Nat) : nI (xS i 0) + (6 : Int32) = nI (xS i 6) := by
  show nI _ + nI 6 = _
  rw [nI_add]; rfl
theorem xS_p7 (i : Nat) : nI (xS i 0) + (7 : Int32) = nI (xS i 7) := by
  show nI _ + nI 7 = _
  rw [nI_add]; rfl
theorem xS_p8 (i : Nat) : nI (xS i 0) + (8 : Int32) = nI (xS i 8) := by
  show nI _ + nI 8 = _
  rw [nI_add]; rfl
theorem xS_p9 (i : Nat) : nI (xS i 0) + (9 : Int32) = nI (xS i 9) := by
  show nI _ + nI 9 = _
  rw [nI_add]; rfl
theorem xS_p10 (i : Nat) : nI (xS i 0) + (10 : Int32) = nI (xS i 10) := by
  show nI _ + nI 10 = _
  rw [nI_add]; rfl
theorem xS_p11 (i : Nat) : nI (xS i 0) + (11 : Int32) = nI (xS i 11) := by
  show nI _ + nI 11 = _
  rw [nI_add]; rfl
theorem xS_p12 (i : Nat) : nI (xS i 0) + (12 : Int32) = nI (xS i 12) := by
  show nI _ + nI 12 = _
  rw [nI_add]; rfl
theorem xS_p13 (i : Nat) : nI (xS i 0) + (13 : Int32) = nI (xS i 13) := by
  show nI _ + nI 13 = _
  rw [nI_add]; rfl
theorem xM_p0 (i : Nat) : nI (xM i 0) + (0 : Int32) = nI (xM i 0) := by
  show nI _ + nI 0 = _
  rw [nI_add]; rfl
theorem xM_p1 (i : Nat) : nI (xM i 0) + (1 : Int32) = nI (xM i 1) := by
  show nI _ + nI 1 = _
  rw [nI_add]; rfl
theorem xM_p2 (i : Nat) : nI (xM i 0) + (2 : Int32) = nI (xM i 2) := by
  show nI _ + nI 2 = _
  rw [nI_add]; rfl
theorem xM_p3 (i : Nat) : nI (xM i 0) + (3 : Int32) = nI (xM i 3) := by
  show nI _ + nI 3 = _
  rw [nI_add]; rfl
theorem xM_p4 (i : Nat) : nI (xM i 0) + (4 : Int32) = nI (xM i 4) := by
  show nI _ + nI 4 = _
  rw [nI_add]; rfl
theorem xL_p0 (i : Nat) : nI (xL i 0) + (0 : Int32) = nI (xL i 0) := by
  show nI _ + nI 0 = _
  rw [nI_add]; rfl
theorem xL_p1 (i : Nat) : nI (xL i 0) + (1 : Int32) = nI (xL i 1) := by
  show nI _ + nI 1 = _
  rw [nI_add]; rfl
theorem xL_p2 (i : Nat) : nI (xL i 0) + (2 : Int32) = nI (xL i 2) := by
  show nI _ + nI 2 = _
  rw [nI_add]; rfl
theorem xL_p3 (i : Nat) : nI (xL i 0) + (3 : Int32) = nI (xL i 3) := by
  show nI _ + nI 3 = _
  rw [nI_add]; rfl
theorem xL_p4 (i : Nat) : nI (xL i 0) + (4 : Int32) = nI (xL i 4) := by
  show nI _ + nI 4 = _
  rw [nI_add]; rfl
theorem xL_p5 (i : Nat) : nI (xL i 0) + (5 : Int32) = nI (xL i 5) := by
  show nI _ + nI 5 = _
  rw [nI_add]; rfl
theorem xR_p0 (i : Nat) : nI (xR i 0) + (0 : Int32) = nI (xR i 0) := by
  show nI _ + nI 0 = _
  rw [nI_add]; rfl
theorem xR_p1 (i : Nat) : nI (xR i 0) + (1 : Int32) = nI (xR i 1) := by
  show nI _ + nI 1 = _
  rw [nI_add]; rfl
theorem xR_p2 (i : Nat) : nI (xR i 0) + (2 : Int32) = nI (xR i 2) := by
  show nI _ + nI 2 = _
  rw [nI_add]; rfl
theorem xR_p3 (i : Nat) : nI (xR i 0) + (3 : Int32) = nI (xR i 3) := by
  show nI _ + nI 3 = _
  rw [nI_add]; rfl
theorem xR_p4 (i : Nat) : nI (xR i 0) + (4 : Int32) = nI (xR i 4) := by
  show nI _ + nI 4 = _
  rw [nI_add]; rfl
theorem xR_p5 (i : Nat) : nI (xR i 0) + (5 : Int32) = nI (xR i 5) := by
  show nI _ + nI 5 = _
  rw [nI_add]; rfl
theorem xR_p6 (i : Nat) : nI (xR i 0) + (6 : Int32) = nI (xR i 6) := by
  show nI _ + nI 6 = _
  rw [nI_add]; rfl
