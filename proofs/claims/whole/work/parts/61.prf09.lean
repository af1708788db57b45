theorem in_X9_count_X9 : ∀ w ∈ u_ws RX9 TX9 15, w ∈ wsX9_count := by decide +kernel
theorem wd_X9_count_1 : Cond.fieldLink RX9 7 "MainsWordsModel" "s" "[I" ∈ wsX9_count := by decide +kernel
theorem fd_X9_count_7_X9 : FD RX9 7 wsX9_count 8 0 := ⟨RX9, "MainsWordsModel", TX9, 15, rfl, in_X9_count_X9, by decide, wd_X9_count_1, Or.inl rfl⟩
theorem wd_X9_count_3 : Cond.fieldLink RX9 59 "MainsWordsModel" "states" "I" ∈ wsX9_count := by decide +kernel
theorem fd_X9_count_59_X9 : FD RX9 59 wsX9_count 8 12 := ⟨RX9, "MainsWordsModel", TX9, 15, rfl, in_X9_count_X9, by decide, wd_X9_count_3, Or.inl rfl⟩
theorem wd_X9_count_5 : Cond.fieldLink RX9 141 "MainsWordsModel" "length" "I" ∈ wsX9_count := by decide +kernel
theorem fd_X9_count_141_X9 : FD RX9 141 wsX9_count 8 11 := ⟨RX9, "MainsWordsModel", TX9, 15, rfl, in_X9_count_X9, by decide, wd_X9_count_5, Or.inl rfl⟩
set_option maxRecDepth 100000 in
set_option maxHeartbeats 4000000 in
theorem v_X9_count_b127 {D : DG} {z0 : Nat} {l : Launch} : ∀ (v0 : Option Nat) (v1 : Int32) (σ : SG), V D z0 l RX9 cX9_count 2 wsX9_count (some .int) rmX9_count false tvI 127 [some (va_rf v0), some (.int v1)] [] σ 0 0 (m_X9_count_b127 v0 v1 σ) := by
  intro v0 v1 σ
  unfold m_X9_count_b127
  refine V_aload_n (x := v0) dX9_count_127 rfl ?_
  refine V_getR fd_X9_count_7_X9 dX9_count_128 (fun x1 => ?_)
  refine V_iload_n (x := v1) dX9_count_131 rfl ?_
  refine V_bipush (v := (7 : Int32)) dX9_count_132 rfl ?_
  refine V_isub (x := v1) (y := (7 : Int32)) dX9_count_134 ?_
  refine V_iaload dX9_count_135 (fun x2 => ?_)
  exact V_iret (fun _ => rfl) rfl (Nat.zero_le _) (Nat.zero_le _) dX9_count_136
set_option maxRecDepth 100000 in
set_option maxHeartbeats 4000000 in
theorem v_X9_count_b121 {D : DG} {z0 : Nat} {l : Launch} : ∀ (v0 : Option Nat) (v1 : Int32) (σ : SG), V D z0 l RX9 cX9_count 2 wsX9_count (some .int) rmX9_count false tvI 121 [some (va_rf v0), some (.int v1)] [] σ 0 0 (m_X9_count_b121 v0 v1 σ) := by
  intro v0 v1 σ
  unfold m_X9_count_b121
  refine V_aload_n (x := v0) dX9_count_121 rfl ?_
  refine V_iload_n (x := v1) dX9_count_122 rfl ?_
  refine V_callV0 (As := [.int v1]) (st0 := []) (stI := [.int v1, va_rf v0]) (fun _ h => by cases h; exact t_X9_ofLamps _ v1 σ) (q := (RX9, TX9, 15)) rfl rfl rfl (Nat.le_of_ble_eq_true rfl) rfl (fun s args hts => cwV 1 hts gX9_count_X9_ofLamps rfl rfl rfl (by decide +kernel) ⟨Nat.le_of_ble_eq_true rfl, Nat.le_of_ble_eq_true rfl⟩) rfl rfl dX9_count_123 (fun r3 σ4 _ => ?_)
  exact V_iret (fun _ => rfl) rfl (Nat.zero_le _) (Nat.zero_le _) dX9_count_126
set_option maxRecDepth 100000 in
set_option maxHeartbeats 4000000 in
theorem v_X9_count_b75 {D : DG} {z0 : Nat} {l : Launch} : ∀ (v0 : Option Nat) (v1 : Int32) (σ : SG), V D z0 l RX9 cX9_count 2 wsX9_count (some .int) rmX9_count false tvI 75 [some (va_rf v0), some (.int v1)] [] σ 0 0 (m_X9_count_b75 v0 v1 σ) := by
  intro v0 v1 σ
  unfold m_X9_count_b75
  refine V_aload_n (x := v0) dX9_count_75 rfl ?_
  refine V_iload_n (x := v1) dX9_count_76 rfl ?_
  refine V_callV0 (As := [.int v1]) (st0 := []) (stI := [.int v1, va_rf v0]) (fun _ h => by cases h; exact t_X9_ofSenders _ v1 σ) (q := (RX9, TX9, 15)) rfl rfl rfl (Nat.le_of_ble_eq_true rfl) rfl (fun s args hts => cwV 1 hts gX9_count_X9_ofSenders rfl rfl rfl (by decide +kernel) ⟨Nat.le_of_ble_eq_true rfl, Nat.le_of_ble_eq_true rfl⟩) rfl rfl dX9_count_77 (fun r5 σ6 _ => ?_)
  exact V_iret (fun _ => rfl) rfl (Nat.zero_le _) (Nat.zero_le _) dX9_count_80
set_option maxRecDepth 100000 in
set_option maxHeartbeats 4000000 in
theorem v_X9_count {D : DG} {z0 : Nat} {l : Launch} : ∀ (a0 : Option Nat) (a1 : Int32) (σ : SG), V D z0 l RX9 cX9_count 2 wsX9_count (some .int) rmX9_count false tvI 0 [some (va_rf a0), some (.int a1)] [] σ 0 0 (m_X9_count a0 a1 σ) := by
  intro a0 a1 σ
  unfold m_X9_count
  refine V_iload_n (x := a1) dX9_count_0 rfl ?_
  refine V_table (x := a1) (tb := [(0, 68), (1, 75), (2, 81), (3, 121), (4, 75), (5, 75), (6, 121), (7, 127), (8, 127), (9, 127), (10, 127), (11, 137), (12, 142)]) (tgt := 147) dX9_count_1 (by decide) rfl (by decide) (List.forall_mem_cons.mpr ⟨?_, List.forall_mem_cons.mpr ⟨?_, List.forall_mem_cons.mpr ⟨?_, List.forall_mem_cons.mpr ⟨?_, List.forall_mem_cons.mpr ⟨?_, List.forall_mem_cons.mpr ⟨?_, List.forall_mem_cons.mpr ⟨?_, List.forall_mem_cons.mpr ⟨?_, List.forall_mem_cons.mpr ⟨?_, List.forall_mem_cons.mpr ⟨?_, List.forall_mem_cons.mpr ⟨?_, List.forall_mem_cons.mpr ⟨?_, List.forall_mem_cons.mpr ⟨?_, fun _ h => absurd h List.not_mem_nil⟩⟩⟩⟩⟩⟩⟩⟩⟩⟩⟩⟩⟩) ?_
  · dsimp only
    refine V_aload_n (x := a0) dX9_count_68 rfl ?_
    refine V_getR fd_X9_count_7_X9 dX9_count_69 (fun x7 => ?_)
    refine V_iconst (v := (4 : Int32)) dX9_count_72 rfl ?_
    refine V_iaload dX9_count_73 (fun x8 => ?_)
    exact V_iret (fun _ => rfl) rfl (Nat.zero_le _) (Nat.zero_le _) dX9_count_74
  · dsimp only
    exact v_X9_count_b75  a0 a1 σ
  · dsimp only
    refine V_aload_n (x := a0) dX9_count_81 rfl ?_
    refine V_getR fd_X9_count_7_X9 dX9_count_82 (fun x9 => ?_)
    refine V_iconst (v := (0 : Int32)) dX9_count_85 rfl ?_
    refine V_callS0 (As := [.int (0 : Int32)]) (st0 := [va_rf x9]) (stI := [.int (0 : Int32), va_rf x9]) (t_X9_m (0 : Int32) σ) rfl (by simp only [List.map_cons, List.map_nil, List.sum_cons, List.sum_nil, va_rf_cat, catI, catF]; decide) rfl (fun s args hts => va_cwS 1 hts gX9_count_X9_m rfl rfl rfl (by decide +kernel) ⟨Nat.le_of_ble_eq_true rfl, Nat.le_of_ble_eq_true rfl⟩) rfl rfl dX9_count_86 (fun r10 σ11 _ => ?_)
    refine V_iaload dX9_count_89 (fun x12 => ?_)
    refine V_aload_n (x := a0) dX9_count_90 rfl ?_
    refine V_getR fd_X9_count_7_X9 dX9_count_91 (fun x13 => ?_)
    refine V_iconst (v := (1 : Int32)) dX9_count_94 rfl ?_
    refine V_callS0 (As := [.int (1 : Int32)]) (st0 := [va_rf x13, .int x12]) (stI := [.int (1 : Int32), va_rf x13, .int x12]) (t_X9_m (1 : Int32) σ11) rfl (by simp only [List.map_cons, List.map_nil, List.sum_cons, List.sum_nil, va_rf_cat, catI, catF]; decide) rfl (fun s args hts => va_cwS 1 hts gX9_count_X9_m rfl rfl rfl (by decide +kernel) ⟨Nat.le_of_ble_eq_true rfl, Nat.le_of_ble_eq_true rfl⟩) rfl rfl dX9_count_95 (fun r14 σ15 _ => ?_)
    refine V_iaload dX9_count_98 (fun x16 => ?_)
    refine V_iadd (x := x12) (y := x16) dX9_count_99 ?_
    refine V_aload_n (x := a0) dX9_count_100 rfl ?_
    refine V_getR fd_X9_count_7_X9 dX9_count_101 (fun x17 => ?_)
    refine V_iconst (v := (2 : Int32)) dX9_count_104 rfl ?_
    refine V_callS0 (As := [.int (2 : Int32)]) (st0 := [va_rf x17, .int (x12 + x16)]) (stI := [.int (2 : Int32), va_rf x17, .int (x12 + x16)]) (t_X9_m (2 : Int32) σ15) rfl (by simp only [List.map_cons, List.map_nil, List.sum_cons, List.sum_nil, va_rf_cat, catI, catF]; decide) rfl (fun s args hts => va_cwS 1 hts gX9_count_X9_m rfl rfl rfl (by decide +kernel) ⟨Nat.le_of_ble_eq_true rfl, Nat.le_of_ble_eq_true rfl⟩) rfl rfl dX9_count_105 (fun r18 σ19 _ => ?_)
    refine V_iaload dX9_count_108 (fun x20 => ?_)
    refine V_iadd (x := (x12 + x16)) (y := x20) dX9_count_109 ?_
    refine V_aload_n (x := a0) dX9_count_110 rfl ?_
    refine V_getR fd_X9_count_7_X9 dX9_count_111 (fun x21 => ?_)
    refine V_iconst (v := (3 : Int32)) dX9_count_114 rfl ?_
    refine V_callS0 (As := [.int (3 : Int32)]) (st0 := [va_rf x21, .int ((x12 + x16) + x20)]) (stI := [.int (3 : Int32), va_rf x21, .int ((x12 + x16) + x20)]) (t_X9_m (3 : Int32) σ19) rfl (by simp only [List.map_cons, List.map_nil, List.sum_cons, List.sum_nil, va_rf_cat, catI, catF]; decide) rfl (fun s args hts => va_cwS 1 hts gX9_count_X9_m rfl rfl rfl (by decide +kernel) ⟨Nat.le_of_ble_eq_true rfl, Nat.le_of_ble_eq_true rfl⟩) rfl rfl dX9_count_115 (fun r22 σ23 _ => ?_)
    refine V_iaload dX9_count_118 (fun x24 => ?_)
    refine V_iadd (x := ((x12 + x16) + x20)) (y := x24) dX9_count_119 ?_
    exact V_iret (fun _ => rfl) rfl (Nat.zero_le _) (Nat.zero_le _) dX9_count_120
  · dsimp only
    exact v_X9_count_b121  a0 a1 σ
  · dsimp only
    exact v_X9_count_b75  a0 a1 σ
  · dsimp only
    exact v_X9_count_b75  a0 a1 σ
  · dsimp only
    exact v_X9_count_b121  a0 a1 σ
  · dsimp only
    exact v_X9_count_b127  a0 a1 σ
  · dsimp only
    exact v_X9_count_b127  a0 a1 σ
  · dsimp only
    exact v_X9_count_b127  a0 a1 σ
  · dsimp only
    exact v_X9_count_b127  a0 a1 σ
  · dsimp only
    refine V_aload_n (x := a0) dX9_count_137 rfl ?_
    refine V_getI fd_X9_count_59_X9 dX9_count_138 (fun x25 => ?_)
    exact V_iret (fun _ => rfl) rfl (Nat.zero_le _) (Nat.zero_le _) dX9_count_141
  · dsimp only
    refine V_aload_n (x := a0) dX9_count_142 rfl ?_
    refine V_getI fd_X9_count_141_X9 dX9_count_143 (fun x26 => ?_)
    exact V_iret (fun _ => rfl) rfl (Nat.zero_le _) (Nat.zero_le _) dX9_count_146
  · refine V_bipush (v := (-2 : Int32)) dX9_count_147 rfl ?_
    exact V_iret (fun _ => rfl) rfl (Nat.zero_le _) (Nat.zero_le _) dX9_count_149
theorem t_X9_count {D : DG} {z0 : Nat} {l : Launch} (a : Nat) (a1 : Int32) (σ : SG) : MT D z0 l yX9_count wsX9_count rmX9_count tvI [.ref a, .int a1] σ (m_X9_count (some a) a1 σ) :=
  MT.of (own := RX9) (cc := cX9_count) (nL := 2) (ret := (some .int)) (ct := false) (by decide) rfl rfl (fun h => by cases h) (Nat.le_of_ble_eq_true rfl) (by intro v hv; simp only [List.mem_cons, List.not_mem_nil, or_false] at hv; first | (rcases hv with rfl | rfl <;> first | rfl | exact va_rf_cat _) | exact absurd hv (fun h => h)) (v_X9_count (some a) a1 σ)
theorem in_X9_total_X9 : ∀ w ∈ u_ws RX9 TX9 15, w ∈ wsX9_total := by decide +kernel
theorem wd_X9_total_1 : Cond.fieldLink RX9 7 "MainsWordsModel" "s" "[I" ∈ wsX9_total := by decide +kernel
theorem fd_X9_total_7_X9 : FD RX9 7 wsX9_total 8 0 := ⟨RX9, "MainsWordsModel", TX9, 15, rfl, in_X9_total_X9, by decide, wd_X9_total_1, Or.inl rfl⟩
set_option maxRecDepth 100000 in
set_option maxHeartbeats 4000000 in
theorem v_X9_total {D : DG} {z0 : Nat} {l : Launch} : ∀ (a0 : Option Nat) (a1 : Int32) (σ : SG), V D z0 l RX9 cX9_total 2 wsX9_total (some .int) rmX9_total false tvI 0 [some (va_rf a0), some (.int a1)] [] σ 0 0 (m_X9_total a0 a1 σ) := by
  intro a0 a1 σ
  unfold m_X9_total
  refine V_iload_n (x := a1) dX9_total_0 rfl ?_
  refine V_iconst (v := (0 : Int32)) dX9_total_1 rfl ?_
  refine V_iconst (v := (4 : Int32)) dX9_total_2 rfl ?_
  refine V_callS0 (As := [.int a1, .int (0 : Int32), .int (4 : Int32)]) (st0 := []) (stI := [.int (4 : Int32), .int (0 : Int32), .int a1]) (t_X9_in a1 (0 : Int32) (4 : Int32) σ) rfl (Nat.le_of_ble_eq_true rfl) rfl (fun s args hts => va_cwS 3 hts gX9_total_X9_in rfl rfl rfl (by decide +kernel) ⟨Nat.le_of_ble_eq_true rfl, Nat.le_of_ble_eq_true rfl⟩) rfl rfl dX9_total_3 (fun r1 σ2 _ => ?_)
  refine V_if_eq (tgt := 20) (x := r1) dX9_total_6 (by decide) (fun hc3 => ?_) (fun hc3 => ?_)
  · refine V_bipush (v := (-2 : Int32)) dX9_total_20 rfl ?_
    exact V_iret (fun _ => rfl) rfl (Nat.zero_le _) (Nat.zero_le _) dX9_total_22
  · refine V_aload_n (x := a0) dX9_total_9 rfl ?_
    refine V_getR fd_X9_total_7_X9 dX9_total_10 (fun x4 => ?_)
    refine V_iconst (v := (5 : Int32)) dX9_total_13 rfl ?_
    refine V_iload_n (x := a1) dX9_total_14 rfl ?_
    refine V_iadd (x := (5 : Int32)) (y := a1) dX9_total_15 ?_
    refine V_iaload dX9_total_16 (fun x5 => ?_)
    refine V_goto (tgt := 22) dX9_total_17 (by decide) ?_
    exact V_iret (fun _ => rfl) rfl (Nat.zero_le _) (Nat.zero_le _) dX9_total_22
theorem t_X9_total {D : DG} {z0 : Nat} {l : Launch} (a : Nat) (a1 : Int32) (σ : SG) : MT D z0 l yX9_total wsX9_total rmX9_total tvI [.ref a, .int a1] σ (m_X9_total (some a) a1 σ) :=
  MT.of (own := RX9) (cc := cX9_total) (nL := 2) (ret := (some .int)) (ct := false) (by decide) rfl rfl (fun h => by cases h) (Nat.le_of_ble_eq_true rfl) (by intro v hv; simp only [List.mem_cons, List.not_mem_nil, or_false] at hv; first | (rcases hv with rfl | rfl <;> first | rfl | exact va_rf_cat _) | exact absurd hv (fun h => h)) (v_X9_total (some a) a1 σ)
set_option maxRecDepth 100000 in
set_option maxHeartbeats 4000000 in
theorem v_X9_silentIn_b44 {D : DG} {z0 : Nat} {l : Launch} : ∀ (v0 : Option Nat) (v1 : Int32) (s0 : Int32) (σ : SG), V D z0 l RX9 cX9_silentIn 3 wsX9_silentIn (some .int) rmX9_silentIn false tvI 44 [some (va_rf v0), some (.int v1), none] [.int s0] σ 0 0 (m_X9_silentIn_b44 v0 v1 s0 σ) := by
  intro v0 v1 s0 σ
  unfold m_X9_silentIn_b44
  refine V_istore_n (x := s0) (ls' := [some (va_rf v0), some (.int v1), some (.int s0)]) dX9_silentIn_44 (by decide) rfl ?_
  refine V_aload_n (x := v0) dX9_silentIn_45 rfl ?_
  refine V_callV0 (As := []) (st0 := []) (stI := [va_rf v0]) (fun _ h => by cases h; exact t_X9_putBack _ σ) (q := (RX9, TX9, 15)) rfl rfl rfl (Nat.le_of_ble_eq_true rfl) rfl (fun s args hts => cwV 0 hts gX9_silentIn_X9_putBack rfl rfl rfl (by decide +kernel) ⟨Nat.le_of_ble_eq_true rfl, Nat.le_of_ble_eq_true rfl⟩) rfl rfl dX9_silentIn_46 (fun _ σ1 _ => ?_)
  refine V_iload_n (x := s0) dX9_silentIn_49 rfl ?_
  refine V_if_eq (tgt := 57) (x := s0) dX9_silentIn_50 (by decide) (fun hc2 => ?_) (fun hc2 => ?_)
  · refine V_bipush (v := (-5 : Int32)) dX9_silentIn_57 rfl ?_
    exact V_iret (fun _ => rfl) rfl (Nat.zero_le _) (Nat.zero_le _) dX9_silentIn_59
  · refine V_iload_n (x := v1) dX9_silentIn_53 rfl ?_
    refine V_goto (tgt := 59) dX9_silentIn_54 (by decide) ?_
    exact V_iret (fun _ => rfl) rfl (Nat.zero_le _) (Nat.zero_le _) dX9_silentIn_59
set_option maxRecDepth 100000 in
set_option maxHeartbeats 4000000 in
theorem v_X9_silentIn_b31 {D : DG} {z0 : Nat} {l : Launch} : ∀ (v0 : Option Nat) (v1 : Int32) (σ : SG), V D z0 l RX9 cX9_silentIn 3 wsX9_silentIn (some .int) rmX9_silentIn false tvI 31 [some (va_rf v0), some (.int v1), none] [] σ 0 0 (m_X9_silentIn_b31 v0 v1 σ) := by
  intro v0 v1 σ
  unfold m_X9_silentIn_b31
  refine V_aload_n (x := v0) dX9_silentIn_31 rfl ?_
  refine V_iconst (v := (5 : Int32)) dX9_silentIn_32 rfl ?_
  refine V_callV0 (As := [.int (5 : Int32)]) (st0 := []) (stI := [.int (5 : Int32), va_rf v0]) (fun _ h => by cases h; exact t_X9_ofSenders _ (5 : Int32) σ) (q := (RX9, TX9, 15)) rfl rfl rfl (Nat.le_of_ble_eq_true rfl) rfl (fun s args hts => cwV 1 hts gX9_silentIn_X9_ofSenders rfl rfl rfl (by decide +kernel) ⟨Nat.le_of_ble_eq_true rfl, Nat.le_of_ble_eq_true rfl⟩) rfl rfl dX9_silentIn_33 (fun r3 σ4 _ => ?_)
  refine V_if_ne (tgt := 43) (x := r3) dX9_silentIn_36 (by decide) (fun hc5 => ?_) (fun hc5 => ?_)
  · refine V_iconst (v := (1 : Int32)) dX9_silentIn_39 rfl ?_
    refine V_goto (tgt := 44) dX9_silentIn_40 (by decide) ?_
    exact v_X9_silentIn_b44  v0 v1 ((1 : Int32)) σ4
  · refine V_iconst (v := (0 : Int32)) dX9_silentIn_43 rfl ?_
    exact v_X9_silentIn_b44  v0 v1 ((0 : Int32)) σ4
set_option maxRecDepth 100000 in
set_option maxHeartbeats 4000000 in
theorem v_X9_silentIn_B6 {D : DG} {z0 : Nat} {l : Launch} {rec6 : Option Nat → Int32 → SG → Option (Int32 × SG)} (hrec6 : ∀ (v0 : Option Nat) (v1 : Int32) (σ : SG), V D z0 l RX9 cX9_silentIn 3 wsX9_silentIn (some .int) rmX9_silentIn false tvI 6 [some (va_rf v0), some (.int v1), none] [] σ 0 0 (rec6 v0 v1 σ)) : ∀ (v0 : Option Nat) (v1 : Int32) (σ : SG), V D z0 l RX9 cX9_silentIn 3 wsX9_silentIn (some .int) rmX9_silentIn false tvI 6 [some (va_rf v0), some (.int v1), none] [] σ 0 0 (m_X9_silentIn_B6 rec6 v0 v1 σ) := by
  intro v0 v1 σ
  unfold m_X9_silentIn_B6
  refine V_iload_n (x := v1) dX9_silentIn_6 rfl ?_
  refine V_sipush (v := (600 : Int32)) dX9_silentIn_7 rfl ?_
  refine V_icmp_ge (tgt := 31) (x := v1) (y := (600 : Int32)) dX9_silentIn_10 (by decide) (fun hc6 => ?_) (fun hc6 => ?_)
  · exact v_X9_silentIn_b31  v0 v1 σ
  · refine V_aload_n (x := v0) dX9_silentIn_13 rfl ?_
    refine V_iconst (v := (5 : Int32)) dX9_silentIn_14 rfl ?_
    refine V_callV0 (As := [.int (5 : Int32)]) (st0 := []) (stI := [.int (5 : Int32), va_rf v0]) (fun _ h => by cases h; exact t_X9_ofSenders _ (5 : Int32) σ) (q := (RX9, TX9, 15)) rfl rfl rfl (Nat.le_of_ble_eq_true rfl) rfl (fun s args hts => cwV 1 hts gX9_silentIn_X9_ofSenders rfl rfl rfl (by decide +kernel) ⟨Nat.le_of_ble_eq_true rfl, Nat.le_of_ble_eq_true rfl⟩) rfl rfl dX9_silentIn_15 (fun r7 σ8 _ => ?_)
    refine V_if_le (tgt := 31) (x := r7) dX9_silentIn_18 (by decide) (fun hc9 => ?_) (fun hc9 => ?_)
    · exact v_X9_silentIn_b31  v0 v1 σ8
    · refine V_aload_n (x := v0) dX9_silentIn_21 rfl ?_
      refine V_callV0 (As := []) (st0 := []) (stI := [va_rf v0]) (fun _ h => by cases h; exact t_X9_beat _ σ8) (q := (RX9, TX9, 15)) rfl rfl rfl (Nat.le_of_ble_eq_true rfl) rfl (fun s args hts => cwV 0 hts gX9_silentIn_X9_beat rfl rfl rfl (by decide +kernel) ⟨Nat.le_of_ble_eq_true rfl, Nat.le_of_ble_eq_true rfl⟩) rfl rfl dX9_silentIn_22 (fun _ σ10 _ => ?_)
      refine V_iinc (x := v1) (v := (v1 + 1)) (ls' := [some (va_rf v0), some (.int (v1 + 1)), none]) dX9_silentIn_25 rfl rfl (by decide) rfl ?_
      refine V_goto (tgt := 6) dX9_silentIn_28 (by decide) ?_
      exact hrec6 v0 ((v1 + 1)) σ10
theorem v_X9_silentIn_L6 {D : DG} {z0 : Nat} {l : Launch} : ∀ (n : Nat) (v0 : Option Nat) (v1 : Int32) (σ : SG), V D z0 l RX9 cX9_silentIn 3 wsX9_silentIn (some .int) rmX9_silentIn false tvI 6 [some (va_rf v0), some (.int v1), none] [] σ 0 0 (m_X9_silentIn_L6 n v0 v1 σ) := by
  intro n
  induction n with
  | zero => intros; exact V_none
  | succ n ih => exact v_X9_silentIn_B6  ih
set_option maxRecDepth 100000 in
set_option maxHeartbeats 4000000 in
theorem v_X9_silentIn {D : DG} {z0 : Nat} {l : Launch} : ∀ (a0 : Option Nat) (σ : SG), V D z0 l RX9 cX9_silentIn 3 wsX9_silentIn (some .int) rmX9_silentIn false tvI 0 [some (va_rf a0), none, none] [] σ 0 0 (m_X9_silentIn a0 σ) := by
  intro a0 σ
  unfold m_X9_silentIn
  refine V_aload_n (x := a0) dX9_silentIn_0 rfl ?_
  refine V_callV0 (As := []) (st0 := []) (stI := [va_rf a0]) (fun _ h => by cases h; exact t_X9_keepTrial _ σ) (q := (RX9, TX9, 15)) rfl rfl rfl (Nat.le_of_ble_eq_true rfl) rfl (fun s args hts => cwV 0 hts gX9_silentIn_X9_keepTrial rfl rfl rfl (by decide +kernel) ⟨Nat.le_of_ble_eq_true rfl, Nat.le_of_ble_eq_true rfl⟩) rfl rfl dX9_silentIn_1 (fun _ σ11 _ => ?_)
  refine V_iconst (v := (0 : Int32)) dX9_silentIn_4 rfl ?_
  refine V_istore_n (x := (0 : Int32)) (ls' := [some (va_rf a0), some (.int (0 : Int32)), none]) dX9_silentIn_5 (by decide) rfl ?_
  exact v_X9_silentIn_L6  1000 a0 ((0 : Int32)) σ11
theorem t_X9_silentIn {D : DG} {z0 : Nat} {l : Launch} (a : Nat)  (σ : SG) : MT D z0 l yX9_silentIn wsX9_silentIn rmX9_silentIn tvI [.ref a] σ (m_X9_silentIn (some a) σ) :=
  MT.of (own := RX9) (cc := cX9_silentIn) (nL := 3) (ret := (some .int)) (ct := false) (by decide) rfl rfl (fun h => by cases h) (Nat.le_of_ble_eq_true rfl) (by intro v hv; simp only [List.mem_cons, List.not_mem_nil, or_false] at hv; first | (rcases hv with rfl <;> first | rfl | exact va_rf_cat _) | exact absurd hv (fun h => h)) (v_X9_silentIn (some a) σ)
theorem in_X9_levelIn_X9 : ∀ w ∈ u_ws RX9 TX9 15, w ∈ wsX9_levelIn := by decide +kernel
theorem wd_X9_levelIn_1 : Cond.fieldLink RX9 7 "MainsWordsModel" "s" "[I" ∈ wsX9_levelIn := by decide +kernel
theorem fd_X9_levelIn_7_X9 : FD RX9 7 wsX9_levelIn 8 0 := ⟨RX9, "MainsWordsModel", TX9, 15, rfl, in_X9_levelIn_X9, by decide, wd_X9_levelIn_1, Or.inl rfl⟩
set_option maxRecDepth 100000 in
set_option maxHeartbeats 4000000 in
theorem v_X9_levelIn_B30 {D : DG} {z0 : Nat} {l : Launch} {rec30 : Option Nat → Int32 → Int32 → Int32 → SG → Option (Int32 × SG)} (hrec30 : ∀ (v0 : Option Nat) (v1 : Int32) (v2 : Int32) (v3 : Int32) (σ : SG), V D z0 l RX9 cX9_levelIn 4 wsX9_levelIn (some .int) rmX9_levelIn false tvI 30 [some (va_rf v0), some (.int v1), some (.int v2), some (.int v3)] [] σ 0 0 (rec30 v0 v1 v2 v3 σ)) : ∀ (v0 : Option Nat) (v1 : Int32) (v2 : Int32) (v3 : Int32) (σ : SG), V D z0 l RX9 cX9_levelIn 4 wsX9_levelIn (some .int) rmX9_levelIn false tvI 30 [some (va_rf v0), some (.int v1), some (.int v2), some (.int v3)] [] σ 0 0 (m_X9_levelIn_B30 rec30 v0 v1 v2 v3 σ) := by
  intro v0 v1 v2 v3 σ
  unfold m_X9_levelIn_B30
  refine V_iload_n (x := v3) dX9_levelIn_30 rfl ?_
  refine V_iload_n (x := v2) dX9_levelIn_31 rfl ?_
  refine V_icmp_ge (tgt := 45) (x := v3) (y := v2) dX9_levelIn_32 (by decide) (fun hc1 => ?_) (fun hc1 => ?_)
  · refine V_aload_n (x := v0) dX9_levelIn_45 rfl ?_
    refine V_getR fd_X9_levelIn_7_X9 dX9_levelIn_46 (fun x2 => ?_)
    refine V_iload_n (x := v1) dX9_levelIn_49 rfl ?_
    refine V_callS0 (As := [.int v1]) (st0 := [va_rf x2]) (stI := [.int v1, va_rf x2]) (t_X9_l v1 σ) rfl (by simp only [List.map_cons, List.map_nil, List.sum_cons, List.sum_nil, va_rf_cat, catI, catF]; decide) rfl (fun s args hts => va_cwS 1 hts gX9_levelIn_X9_l rfl rfl rfl (by decide +kernel) ⟨Nat.le_of_ble_eq_true rfl, Nat.le_of_ble_eq_true rfl⟩) rfl rfl dX9_levelIn_50 (fun r3 σ4 _ => ?_)
    refine V_iconst (v := (4 : Int32)) dX9_levelIn_53 rfl ?_
    refine V_iadd (x := r3) (y := (4 : Int32)) dX9_levelIn_54 ?_
    refine V_iaload dX9_levelIn_55 (fun x5 => ?_)
    refine V_istore_n (x := x5) (ls' := [some (va_rf v0), some (.int v1), some (.int v2), some (.int x5)]) dX9_levelIn_56 (by decide) rfl ?_
    refine V_aload_n (x := v0) dX9_levelIn_57 rfl ?_
    refine V_callV0 (As := []) (st0 := []) (stI := [va_rf v0]) (fun _ h => by cases h; exact t_X9_putBack _ σ4) (q := (RX9, TX9, 15)) rfl rfl rfl (Nat.le_of_ble_eq_true rfl) rfl (fun s args hts => cwV 0 hts gX9_levelIn_X9_putBack rfl rfl rfl (by decide +kernel) ⟨Nat.le_of_ble_eq_true rfl, Nat.le_of_ble_eq_true rfl⟩) rfl rfl dX9_levelIn_58 (fun _ σ6 _ => ?_)
    refine V_iload_n (x := x5) dX9_levelIn_61 rfl ?_
    exact V_iret (fun _ => rfl) rfl (Nat.zero_le _) (Nat.zero_le _) dX9_levelIn_62
  · refine V_aload_n (x := v0) dX9_levelIn_35 rfl ?_
    refine V_callV0 (As := []) (st0 := []) (stI := [va_rf v0]) (fun _ h => by cases h; exact t_X9_beat _ σ) (q := (RX9, TX9, 15)) rfl rfl rfl (Nat.le_of_ble_eq_true rfl) rfl (fun s args hts => cwV 0 hts gX9_levelIn_X9_beat rfl rfl rfl (by decide +kernel) ⟨Nat.le_of_ble_eq_true rfl, Nat.le_of_ble_eq_true rfl⟩) rfl rfl dX9_levelIn_36 (fun _ σ7 _ => ?_)
    refine V_iinc (x := v3) (v := (v3 + 1)) (ls' := [some (va_rf v0), some (.int v1), some (.int v2), some (.int (v3 + 1))]) dX9_levelIn_39 rfl rfl (by decide) rfl ?_
    refine V_goto (tgt := 30) dX9_levelIn_42 (by decide) ?_
    exact hrec30 v0 v1 v2 ((v3 + 1)) σ7
theorem v_X9_levelIn_L30 {D : DG} {z0 : Nat} {l : Launch} : ∀ (n : Nat) (v0 : Option Nat) (v1 : Int32) (v2 : Int32) (v3 : Int32) (σ : SG), V D z0 l RX9 cX9_levelIn 4 wsX9_levelIn (some .int) rmX9_levelIn false tvI 30 [some (va_rf v0), some (.int v1), some (.int v2), some (.int v3)] [] σ 0 0 (m_X9_levelIn_L30 n v0 v1 v2 v3 σ) := by
  intro n
  induction n with
  | zero => intros; exact V_none
  | succ n ih => exact v_X9_levelIn_B30  ih
set_option maxRecDepth 100000 in
set_option maxHeartbeats 4000000 in
theorem v_X9_levelIn {D : DG} {z0 : Nat} {l : Launch} : ∀ (a0 : Option Nat) (a1 : Int32) (a2 : Int32) (σ : SG), V D z0 l RX9 cX9_levelIn 4 wsX9_levelIn (some .int) rmX9_levelIn false tvI 0 [some (va_rf a0), some (.int a1), some (.int a2), none] [] σ 0 0 (m_X9_levelIn a0 a1 a2 σ) := by
  intro a0 a1 a2 σ
  unfold m_X9_levelIn
  refine V_aload_n (x := a0) dX9_levelIn_0 rfl ?_
  refine V_iload_n (x := a1) dX9_levelIn_1 rfl ?_
  refine V_callV0 (As := [.int a1]) (st0 := []) (stI := [.int a1, va_rf a0]) (fun _ h => by cases h; exact t_X9_isLamp _ a1 σ) (q := (RX9, TX9, 15)) rfl rfl rfl (Nat.le_of_ble_eq_true rfl) rfl (fun s args hts => cwV 1 hts gX9_levelIn_X9_isLamp rfl rfl rfl (by decide +kernel) ⟨Nat.le_of_ble_eq_true rfl, Nat.le_of_ble_eq_true rfl⟩) rfl rfl dX9_levelIn_2 (fun r8 σ9 _ => ?_)
  refine V_if_ne (tgt := 10) (x := r8) dX9_levelIn_5 (by decide) (fun hc10 => ?_) (fun hc10 => ?_)
  · refine V_iconst (v := (-1 : Int32)) dX9_levelIn_8 rfl ?_
    exact V_iret (fun _ => rfl) rfl (Nat.zero_le _) (Nat.zero_le _) dX9_levelIn_9
  · refine V_iload_n (x := a2) dX9_levelIn_10 rfl ?_
    refine V_iconst (v := (0 : Int32)) dX9_levelIn_11 rfl ?_
    refine V_sipush (v := (400 : Int32)) dX9_levelIn_12 rfl ?_
    refine V_callS0 (As := [.int a2, .int (0 : Int32), .int (400 : Int32)]) (st0 := []) (stI := [.int (400 : Int32), .int (0 : Int32), .int a2]) (t_X9_in a2 (0 : Int32) (400 : Int32) σ9) rfl (Nat.le_of_ble_eq_true rfl) rfl (fun s args hts => va_cwS 3 hts gX9_levelIn_X9_in rfl rfl rfl (by decide +kernel) ⟨Nat.le_of_ble_eq_true rfl, Nat.le_of_ble_eq_true rfl⟩) rfl rfl dX9_levelIn_15 (fun r11 σ12 _ => ?_)
    refine V_if_ne (tgt := 24) (x := r11) dX9_levelIn_18 (by decide) (fun hc13 => ?_) (fun hc13 => ?_)
    · refine V_bipush (v := (-2 : Int32)) dX9_levelIn_21 rfl ?_
      exact V_iret (fun _ => rfl) rfl (Nat.zero_le _) (Nat.zero_le _) dX9_levelIn_23
    · refine V_aload_n (x := a0) dX9_levelIn_24 rfl ?_
      refine V_callV0 (As := []) (st0 := []) (stI := [va_rf a0]) (fun _ h => by cases h; exact t_X9_keepTrial _ σ12) (q := (RX9, TX9, 15)) rfl rfl rfl (Nat.le_of_ble_eq_true rfl) rfl (fun s args hts => cwV 0 hts gX9_levelIn_X9_keepTrial rfl rfl rfl (by decide +kernel) ⟨Nat.le_of_ble_eq_true rfl, Nat.le_of_ble_eq_true rfl⟩) rfl rfl dX9_levelIn_25 (fun _ σ14 _ => ?_)
      refine V_iconst (v := (0 : Int32)) dX9_levelIn_28 rfl ?_
      refine V_istore_n (x := (0 : Int32)) (ls' := [some (va_rf a0), some (.int a1), some (.int a2), some (.int (0 : Int32))]) dX9_levelIn_29 (by decide) rfl ?_
      exact v_X9_levelIn_L30  1000 a0 a1 a2 ((0 : Int32)) σ14
theorem t_X9_levelIn {D : DG} {z0 : Nat} {l : Launch} (a : Nat) (a1 : Int32) (a2 : Int32) (σ : SG) : MT D z0 l yX9_levelIn wsX9_levelIn rmX9_levelIn tvI [.ref a, .int a1, .int a2] σ (m_X9_levelIn (some a) a1 a2 σ) :=
  MT.of (own := RX9) (cc := cX9_levelIn) (nL := 4) (ret := (some .int)) (ct := false) (by decide) rfl rfl (fun h => by cases h) (Nat.le_of_ble_eq_true rfl) (by intro v hv; simp only [List.mem_cons, List.not_mem_nil, or_false] at hv; first | (rcases hv with rfl | rfl | rfl <;> first | rfl | exact va_rf_cat _) | exact absurd hv (fun h => h)) (v_X9_levelIn (some a) a1 a2 σ)
theorem in_X9_freshness_X9 : ∀ w ∈ u_ws RX9 TX9 15, w ∈ wsX9_freshness := by decide +kernel
theorem wd_X9_freshness_1 : Cond.fieldLink RX9 7 "MainsWordsModel" "s" "[I" ∈ wsX9_freshness := by decide +kernel
theorem fd_X9_freshness_7_X9 : FD RX9 7 wsX9_freshness 8 0 := ⟨RX9, "MainsWordsModel", TX9, 15, rfl, in_X9_freshness_X9, by decide, wd_X9_freshness_1, Or.inl rfl⟩
set_option maxRecDepth 100000 in
set_option maxHeartbeats 4000000 in
theorem v_X9_freshness {D : DG} {z0 : Nat} {l : Launch} : ∀ (a0 : Option Nat) (σ : SG), V D z0 l RX9 cX9_freshness 2 wsX9_freshness (some .float) rmX9_freshness false tvF 0 [some (va_rf a0), none] [] σ 0 0 (m_X9_freshness a0 σ) := by
  intro a0 σ
  unfold m_X9_freshness
  refine V_aload_n (x := a0) dX9_freshness_0 rfl ?_
  refine V_getR fd_X9_freshness_7_X9 dX9_freshness_1 (fun x1 => ?_)
  refine V_bipush (v := (7 : Int32)) dX9_freshness_4 rfl ?_
  refine V_iaload dX9_freshness_6 (fun x2 => ?_)
  refine V_aload_n (x := a0) dX9_freshness_7 rfl ?_
  refine V_getR fd_X9_freshness_7_X9 dX9_freshness_8 (fun x3 => ?_)
  refine V_bipush (v := (8 : Int32)) dX9_freshness_11 rfl ?_
  refine V_iaload dX9_freshness_13 (fun x4 => ?_)
  refine V_iadd (x := x2) (y := x4) dX9_freshness_14 ?_
  refine V_aload_n (x := a0) dX9_freshness_15 rfl ?_
  refine V_getR fd_X9_freshness_7_X9 dX9_freshness_16 (fun x5 => ?_)
  refine V_bipush (v := (9 : Int32)) dX9_freshness_19 rfl ?_
  refine V_iaload dX9_freshness_21 (fun x6 => ?_)
  refine V_iadd (x := (x2 + x4)) (y := x6) dX9_freshness_22 ?_
  refine V_istore_n (x := ((x2 + x4) + x6)) (ls' := [some (va_rf a0), some (.int ((x2 + x4) + x6))]) dX9_freshness_23 (by decide) rfl ?_
  refine V_iload_n (x := ((x2 + x4) + x6)) dX9_freshness_24 rfl ?_
  refine V_if_ne (tgt := 32) (x := ((x2 + x4) + x6)) dX9_freshness_25 (by decide) (fun hc7 => ?_) (fun hc7 => ?_)
  · refine V_fconst0 dX9_freshness_28 ?_
    refine V_goto (tgt := 43) dX9_freshness_29 (by decide) ?_
    exact V_fret (fun _ => rfl) rfl (Nat.zero_le _) (Nat.zero_le _) dX9_freshness_43
  · refine V_aload_n (x := a0) dX9_freshness_32 rfl ?_
    refine V_getR fd_X9_freshness_7_X9 dX9_freshness_33 (fun x8 => ?_)
    refine V_bipush (v := (7 : Int32)) dX9_freshness_36 rfl ?_
    refine V_iaload dX9_freshness_38 (fun x9 => ?_)
    refine V_i2f (x := x9) dX9_freshness_39 ?_
    refine V_iload_n (x := ((x2 + x4) + x6)) dX9_freshness_40 rfl ?_
    refine V_i2f (x := ((x2 + x4) + x6)) dX9_freshness_41 ?_
    refine V_fdiv dX9_freshness_42 (fun f10 => ?_)
    exact V_fret (fun _ => rfl) rfl (Nat.zero_le _) (Nat.zero_le _) dX9_freshness_43
theorem t_X9_freshness {D : DG} {z0 : Nat} {l : Launch} (a : Nat)  (σ : SG) : MT D z0 l yX9_freshness wsX9_freshness rmX9_freshness tvF [.ref a] σ (m_X9_freshness (some a) σ) :=
  MT.of (own := RX9) (cc := cX9_freshness) (nL := 2) (ret := (some .float)) (ct := false) (by decide) rfl rfl (fun h => by cases h) (Nat.le_of_ble_eq_true rfl) (by intro v hv; simp only [List.mem_cons, List.not_mem_nil, or_false] at hv; first | (rcases hv with rfl <;> first | rfl | exact va_rf_cat _) | exact absurd hv (fun h => h)) (v_X9_freshness (some a) σ)
