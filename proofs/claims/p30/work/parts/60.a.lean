/-! membership by place -/
theorem memc {big ws : List Cond} {c : Cond} (h : c ∈ big) (hs : ∀ x ∈ ws, x ∈ big) : ∀ x ∈ c :: ws, x ∈ big := fun x hx => (List.mem_cons.mp hx).elim (fun e => e ▸ h) (hs x)
theorem memn {big : List Cond} : ∀ x ∈ ([] : List Cond), x ∈ big := fun _ h => absurd h List.not_mem_nil
theorem goodIn_c {big ws : List Cond} {c : Cond} (h : c ∈ big) (hg : goodWord c = true) (hs : GoodIn big ws) : GoodIn big (c :: ws) := fun x hx => (List.mem_cons.mp hx).elim (fun e => e ▸ ⟨h, good_of_word hg⟩) (hs x)
