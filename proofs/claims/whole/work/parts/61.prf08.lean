theorem in_X9_beats_X9 : ∀ w ∈ u_ws RX9 TX9 15, w ∈ wsX9_beats := by decide +kernel
theorem wd_X9_beats_1 : Cond.fieldLink RX9 35 "MainsWordsModel" "read" "[I" ∈ wsX9_beats := by decide +kernel
theorem fd_X9_beats_35_X9 : FD RX9 35 wsX9_beats 8 8 := ⟨RX9, "MainsWordsModel", TX9, 15, rfl, in_X9_beats_X9, by decide, wd_X9_beats_1, Or.inl rfl⟩
theorem wd_X9_beats_3 : Cond.fieldLink RX9 159 "MainsWordsModel" "orders" "I" ∈ wsX9_beats := by decide +kernel
theorem fd_X9_beats_159_X9 : FD RX9 159 wsX9_beats 8 13 := ⟨RX9, "MainsWordsModel", TX9, 15, rfl, in_X9_beats_X9, by decide, wd_X9_beats_3, Or.inl rfl⟩
theorem fw_X9_beats_X9_13 : FW RX9 wsX9_beats 8 13 .int false := ⟨RX9, TX9, 15, tyX9, rfl, in_X9_beats_X9, tyX9_ok, nmX9, rfl, (fun h => by cases h), rfl⟩
theorem wd_X9_beats_6 : Cond.fieldLink RX9 38 "MainsWordsModel" "text" "[C" ∈ wsX9_beats := by decide +kernel
theorem fd_X9_beats_38_X9 : FD RX9 38 wsX9_beats 8 9 := ⟨RX9, "MainsWordsModel", TX9, 15, rfl, in_X9_beats_X9, by decide, wd_X9_beats_6, Or.inl rfl⟩
theorem wd_X9_beats_8 : Cond.fieldLink RX9 144 "MainsWordsModel" "at" "I" ∈ wsX9_beats := by decide +kernel
theorem fd_X9_beats_144_X9 : FD RX9 144 wsX9_beats 8 14 := ⟨RX9, "MainsWordsModel", TX9, 15, rfl, in_X9_beats_X9, by decide, wd_X9_beats_8, Or.inl rfl⟩
theorem fw_X9_beats_X9_14 : FW RX9 wsX9_beats 8 14 .int false := ⟨RX9, TX9, 15, tyX9, rfl, in_X9_beats_X9, tyX9_ok, nmX9, rfl, (fun h => by cases h), rfl⟩
set_option maxRecDepth 100000 in
set_option maxHeartbeats 4000000 in
theorem v_X9_beats_b75 {D : DG} {z0 : Nat} {l : Launch} : ∀ (v0 : Option Nat) (v1 : Int32) (σ : SG), V D z0 l RX9 cX9_beats 2 wsX9_beats (some .boolean) rmX9_beats false tvI 75 [some (va_rf v0), some (.int v1)] [] σ 0 0 (m_X9_beats_b75 v0 v1 σ) := by
  intro v0 v1 σ
  unfold m_X9_beats_b75
  refine V_aload_n (x := v0) dX9_beats_75 rfl ?_
  refine V_getR fd_X9_beats_35_X9 dX9_beats_76 (fun x1 => ?_)
  refine V_iconst (v := (2 : Int32)) dX9_beats_79 rfl ?_
  refine V_aload_n (x := v0) dX9_beats_80 rfl ?_
  refine V_getI fd_X9_beats_159_X9 dX9_beats_81 (fun x2 => ?_)
  refine V_imul (x := (2 : Int32)) (y := x2) dX9_beats_84 ?_
  refine V_bipush (v := (9 : Int32)) dX9_beats_85 rfl ?_
  refine V_iastore dX9_beats_87 (fun σ3 hσ3 => ?_)
  refine V_aload_n (x := v0) dX9_beats_88 rfl ?_
  refine V_getR fd_X9_beats_35_X9 dX9_beats_89 (fun x4 => ?_)
  refine V_iconst (v := (2 : Int32)) dX9_beats_92 rfl ?_
  refine V_aload_n (x := v0) dX9_beats_93 rfl ?_
  refine V_getI fd_X9_beats_159_X9 dX9_beats_94 (fun x5 => ?_)
  refine V_imul (x := (2 : Int32)) (y := x5) dX9_beats_97 ?_
  refine V_iconst (v := (1 : Int32)) dX9_beats_98 rfl ?_
  refine V_iadd (x := ((2 : Int32) * x5)) (y := (1 : Int32)) dX9_beats_99 ?_
  refine V_iload_n (x := v1) dX9_beats_100 rfl ?_
  refine V_iastore dX9_beats_101 (fun σ6 hσ6 => ?_)
  refine V_aload_n (x := v0) dX9_beats_102 rfl ?_
  refine V_dup dX9_beats_103 (va_rf_cat _) ?_
  refine V_getI fd_X9_beats_159_X9 dX9_beats_104 (fun x7 => ?_)
  refine V_iconst (v := (1 : Int32)) dX9_beats_107 rfl ?_
  refine V_iadd (x := x7) (y := (1 : Int32)) dX9_beats_108 ?_
  refine V_putI fd_X9_beats_159_X9 fw_X9_beats_X9_13 (fun h => by cases h) dX9_beats_109 (fun σ8 hσ8 => ?_)
  refine V_iconst (v := (1 : Int32)) dX9_beats_112 rfl ?_
  exact V_zret (fun _ => rfl) rfl (Nat.zero_le _) (Nat.zero_le _) dX9_beats_113
set_option maxRecDepth 100000 in
set_option maxHeartbeats 4000000 in
theorem v_X9_beats {D : DG} {z0 : Nat} {l : Launch} : ∀ (a0 : Option Nat) (σ : SG), V D z0 l RX9 cX9_beats 2 wsX9_beats (some .boolean) rmX9_beats false tvI 0 [some (va_rf a0), none] [] σ 0 0 (m_X9_beats a0 σ) := by
  intro a0 σ
  unfold m_X9_beats
  refine V_aload_n (x := a0) dX9_beats_0 rfl ?_
  refine V_bipush (v := (49 : Int32)) dX9_beats_1 rfl ?_
  refine V_bipush (v := (57 : Int32)) dX9_beats_3 rfl ?_
  refine V_callV0 (As := [.int (49 : Int32), .int (57 : Int32)]) (st0 := []) (stI := [.int (57 : Int32), .int (49 : Int32), va_rf a0]) (fun _ h => by cases h; exact t_X9_isSign _ (49 : Int32) (57 : Int32) σ) (q := (RX9, TX9, 15)) rfl rfl rfl (Nat.le_of_ble_eq_true rfl) rfl (fun s args hts => cwV 2 hts gX9_beats_X9_isSign rfl rfl rfl (by decide +kernel) ⟨Nat.le_of_ble_eq_true rfl, Nat.le_of_ble_eq_true rfl⟩) rfl rfl dX9_beats_5 (fun r9 σ10 _ => ?_)
  refine V_if_ne (tgt := 13) (x := r9) dX9_beats_8 (by decide) (fun hc11 => ?_) (fun hc11 => ?_)
  · refine V_iconst (v := (0 : Int32)) dX9_beats_11 rfl ?_
    exact V_zret (fun _ => rfl) rfl (Nat.zero_le _) (Nat.zero_le _) dX9_beats_12
  · refine V_aload_n (x := a0) dX9_beats_13 rfl ?_
    refine V_getR fd_X9_beats_38_X9 dX9_beats_14 (fun x12 => ?_)
    refine V_aload_n (x := a0) dX9_beats_17 rfl ?_
    refine V_getI fd_X9_beats_144_X9 dX9_beats_18 (fun x13 => ?_)
    refine V_caload dX9_beats_21 (fun x14 => ?_)
    refine V_bipush (v := (48 : Int32)) dX9_beats_22 rfl ?_
    refine V_isub (x := x14) (y := (48 : Int32)) dX9_beats_24 ?_
    refine V_istore_n (x := (x14 - (48 : Int32))) (ls' := [some (va_rf a0), some (.int (x14 - (48 : Int32)))]) dX9_beats_25 (by decide) rfl ?_
    refine V_aload_n (x := a0) dX9_beats_26 rfl ?_
    refine V_dup dX9_beats_27 (va_rf_cat _) ?_
    refine V_getI fd_X9_beats_144_X9 dX9_beats_28 (fun x15 => ?_)
    refine V_iconst (v := (1 : Int32)) dX9_beats_31 rfl ?_
    refine V_iadd (x := x15) (y := (1 : Int32)) dX9_beats_32 ?_
    refine V_putI fd_X9_beats_144_X9 fw_X9_beats_X9_14 (fun h => by cases h) dX9_beats_33 (fun σ16 hσ16 => ?_)
    refine V_aload_n (x := a0) dX9_beats_36 rfl ?_
    refine V_bipush (v := (48 : Int32)) dX9_beats_37 rfl ?_
    refine V_bipush (v := (57 : Int32)) dX9_beats_39 rfl ?_
    refine V_callV0 (As := [.int (48 : Int32), .int (57 : Int32)]) (st0 := []) (stI := [.int (57 : Int32), .int (48 : Int32), va_rf a0]) (fun _ h => by cases h; exact t_X9_isSign _ (48 : Int32) (57 : Int32) σ16) (q := (RX9, TX9, 15)) rfl rfl rfl (Nat.le_of_ble_eq_true rfl) rfl (fun s args hts => cwV 2 hts gX9_beats_X9_isSign rfl rfl rfl (by decide +kernel) ⟨Nat.le_of_ble_eq_true rfl, Nat.le_of_ble_eq_true rfl⟩) rfl rfl dX9_beats_41 (fun r17 σ18 _ => ?_)
    refine V_if_eq (tgt := 75) (x := r17) dX9_beats_44 (by decide) (fun hc19 => ?_) (fun hc19 => ?_)
    · exact v_X9_beats_b75  a0 ((x14 - (48 : Int32))) σ18
    · refine V_bipush (v := (10 : Int32)) dX9_beats_47 rfl ?_
      refine V_iload_n (x := (x14 - (48 : Int32))) dX9_beats_49 rfl ?_
      refine V_imul (x := (10 : Int32)) (y := (x14 - (48 : Int32))) dX9_beats_50 ?_
      refine V_aload_n (x := a0) dX9_beats_51 rfl ?_
      refine V_getR fd_X9_beats_38_X9 dX9_beats_52 (fun x20 => ?_)
      refine V_aload_n (x := a0) dX9_beats_55 rfl ?_
      refine V_getI fd_X9_beats_144_X9 dX9_beats_56 (fun x21 => ?_)
      refine V_caload dX9_beats_59 (fun x22 => ?_)
      refine V_iadd (x := ((10 : Int32) * (x14 - (48 : Int32)))) (y := x22) dX9_beats_60 ?_
      refine V_bipush (v := (48 : Int32)) dX9_beats_61 rfl ?_
      refine V_isub (x := (((10 : Int32) * (x14 - (48 : Int32))) + x22)) (y := (48 : Int32)) dX9_beats_63 ?_
      refine V_istore_n (x := ((((10 : Int32) * (x14 - (48 : Int32))) + x22) - (48 : Int32))) (ls' := [some (va_rf a0), some (.int ((((10 : Int32) * (x14 - (48 : Int32))) + x22) - (48 : Int32)))]) dX9_beats_64 (by decide) rfl ?_
      refine V_aload_n (x := a0) dX9_beats_65 rfl ?_
      refine V_dup dX9_beats_66 (va_rf_cat _) ?_
      refine V_getI fd_X9_beats_144_X9 dX9_beats_67 (fun x23 => ?_)
      refine V_iconst (v := (1 : Int32)) dX9_beats_70 rfl ?_
      refine V_iadd (x := x23) (y := (1 : Int32)) dX9_beats_71 ?_
      refine V_putI fd_X9_beats_144_X9 fw_X9_beats_X9_14 (fun h => by cases h) dX9_beats_72 (fun σ24 hσ24 => ?_)
      exact v_X9_beats_b75  a0 (((((10 : Int32) * (x14 - (48 : Int32))) + x22) - (48 : Int32))) σ24
theorem t_X9_beats {D : DG} {z0 : Nat} {l : Launch} (a : Nat)  (σ : SG) : MT D z0 l yX9_beats wsX9_beats rmX9_beats tvI [.ref a] σ (m_X9_beats (some a) σ) :=
  MT.of (own := RX9) (cc := cX9_beats) (nL := 2) (ret := (some .boolean)) (ct := false) (by decide) rfl rfl (fun h => by cases h) (Nat.le_of_ble_eq_true rfl) (by intro v hv; simp only [List.mem_cons, List.not_mem_nil, or_false] at hv; first | (rcases hv with rfl <;> first | rfl | exact va_rf_cat _) | exact absurd hv (fun h => h)) (v_X9_beats (some a) σ)
set_option maxRecDepth 100000 in
set_option maxHeartbeats 4000000 in
theorem v_X9_part {D : DG} {z0 : Nat} {l : Launch} : ∀ (a0 : Option Nat) (σ : SG), V D z0 l RX9 cX9_part 1 wsX9_part (some .boolean) rmX9_part false tvI 0 [some (va_rf a0)] [] σ 0 0 (m_X9_part a0 σ) := by
  intro a0 σ
  unfold m_X9_part
  refine V_aload_n (x := a0) dX9_part_0 rfl ?_
  refine V_bipush (v := (48 : Int32)) dX9_part_1 rfl ?_
  refine V_bipush (v := (52 : Int32)) dX9_part_3 rfl ?_
  refine V_callV0 (As := [.int (48 : Int32), .int (52 : Int32)]) (st0 := []) (stI := [.int (52 : Int32), .int (48 : Int32), va_rf a0]) (fun _ h => by cases h; exact t_X9_isSign _ (48 : Int32) (52 : Int32) σ) (q := (RX9, TX9, 15)) rfl rfl rfl (Nat.le_of_ble_eq_true rfl) rfl (fun s args hts => cwV 2 hts gX9_part_X9_isSign rfl rfl rfl (by decide +kernel) ⟨Nat.le_of_ble_eq_true rfl, Nat.le_of_ble_eq_true rfl⟩) rfl rfl dX9_part_5 (fun r1 σ2 _ => ?_)
  refine V_if_eq (tgt := 16) (x := r1) dX9_part_8 (by decide) (fun hc3 => ?_) (fun hc3 => ?_)
  · refine V_aload_n (x := a0) dX9_part_16 rfl ?_
    refine V_bipush (v := (116 : Int32)) dX9_part_17 rfl ?_
    refine V_callV0 (As := [.int (116 : Int32)]) (st0 := []) (stI := [.int (116 : Int32), va_rf a0]) (fun _ h => by cases h; exact t_X9_accepts _ (116 : Int32) σ2) (q := (RX9, TX9, 15)) rfl rfl rfl (Nat.le_of_ble_eq_true rfl) rfl (fun s args hts => cwV 1 hts gX9_part_X9_accepts rfl rfl rfl (by decide +kernel) ⟨Nat.le_of_ble_eq_true rfl, Nat.le_of_ble_eq_true rfl⟩) rfl rfl dX9_part_19 (fun r4 σ5 _ => ?_)
    refine V_if_eq (tgt := 36) (x := r4) dX9_part_22 (by decide) (fun hc6 => ?_) (fun hc6 => ?_)
    · refine V_iconst (v := (0 : Int32)) dX9_part_36 rfl ?_
      exact V_zret (fun _ => rfl) rfl (Nat.zero_le _) (Nat.zero_le _) dX9_part_37
    · refine V_aload_n (x := a0) dX9_part_25 rfl ?_
      refine V_callV0 (As := []) (st0 := []) (stI := [va_rf a0]) (fun _ h => by cases h; exact t_X9_beats _ σ5) (q := (RX9, TX9, 15)) rfl rfl rfl (Nat.le_of_ble_eq_true rfl) rfl (fun s args hts => cwV 0 hts gX9_part_X9_beats rfl rfl rfl (by decide +kernel) ⟨Nat.le_of_ble_eq_true rfl, Nat.le_of_ble_eq_true rfl⟩) rfl rfl dX9_part_26 (fun r7 σ8 _ => ?_)
      refine V_if_eq (tgt := 36) (x := r7) dX9_part_29 (by decide) (fun hc9 => ?_) (fun hc9 => ?_)
      · refine V_iconst (v := (0 : Int32)) dX9_part_36 rfl ?_
        exact V_zret (fun _ => rfl) rfl (Nat.zero_le _) (Nat.zero_le _) dX9_part_37
      · refine V_iconst (v := (1 : Int32)) dX9_part_32 rfl ?_
        refine V_goto (tgt := 37) dX9_part_33 (by decide) ?_
        exact V_zret (fun _ => rfl) rfl (Nat.zero_le _) (Nat.zero_le _) dX9_part_37
  · refine V_aload_n (x := a0) dX9_part_11 rfl ?_
    refine V_callV0 (As := []) (st0 := []) (stI := [va_rf a0]) (fun _ h => by cases h; exact t_X9_words _ σ2) (q := (RX9, TX9, 15)) rfl rfl rfl (Nat.le_of_ble_eq_true rfl) rfl (fun s args hts => cwV 0 hts gX9_part_X9_words rfl rfl rfl (by decide +kernel) ⟨Nat.le_of_ble_eq_true rfl, Nat.le_of_ble_eq_true rfl⟩) rfl rfl dX9_part_12 (fun r10 σ11 _ => ?_)
    exact V_zret (fun _ => rfl) rfl (Nat.zero_le _) (Nat.zero_le _) dX9_part_15
theorem t_X9_part {D : DG} {z0 : Nat} {l : Launch} (a : Nat)  (σ : SG) : MT D z0 l yX9_part wsX9_part rmX9_part tvI [.ref a] σ (m_X9_part (some a) σ) :=
  MT.of (own := RX9) (cc := cX9_part) (nL := 1) (ret := (some .boolean)) (ct := false) (by decide) rfl rfl (fun h => by cases h) (Nat.le_of_ble_eq_true rfl) (by intro v hv; simp only [List.mem_cons, List.not_mem_nil, or_false] at hv; first | (rcases hv with rfl <;> first | rfl | exact va_rf_cat _) | exact absurd hv (fun h => h)) (v_X9_part (some a) σ)
theorem in_X9_faultOf_X9 : ∀ w ∈ u_ws RX9 TX9 15, w ∈ wsX9_faultOf := by decide +kernel
theorem wd_X9_faultOf_1 : Cond.fieldLink RX9 144 "MainsWordsModel" "at" "I" ∈ wsX9_faultOf := by decide +kernel
theorem fd_X9_faultOf_144_X9 : FD RX9 144 wsX9_faultOf 8 14 := ⟨RX9, "MainsWordsModel", TX9, 15, rfl, in_X9_faultOf_X9, by decide, wd_X9_faultOf_1, Or.inl rfl⟩
theorem wd_X9_faultOf_3 : Cond.fieldLink RX9 141 "MainsWordsModel" "length" "I" ∈ wsX9_faultOf := by decide +kernel
theorem fd_X9_faultOf_141_X9 : FD RX9 141 wsX9_faultOf 8 11 := ⟨RX9, "MainsWordsModel", TX9, 15, rfl, in_X9_faultOf_X9, by decide, wd_X9_faultOf_3, Or.inl rfl⟩
theorem fw_X9_faultOf_X9_14 : FW RX9 wsX9_faultOf 8 14 .int false := ⟨RX9, TX9, 15, tyX9, rfl, in_X9_faultOf_X9, tyX9_ok, nmX9, rfl, (fun h => by cases h), rfl⟩
theorem wd_X9_faultOf_6 : Cond.fieldLink RX9 159 "MainsWordsModel" "orders" "I" ∈ wsX9_faultOf := by decide +kernel
theorem fd_X9_faultOf_159_X9 : FD RX9 159 wsX9_faultOf 8 13 := ⟨RX9, "MainsWordsModel", TX9, 15, rfl, in_X9_faultOf_X9, by decide, wd_X9_faultOf_6, Or.inl rfl⟩
theorem fw_X9_faultOf_X9_13 : FW RX9 wsX9_faultOf 8 13 .int false := ⟨RX9, TX9, 15, tyX9, rfl, in_X9_faultOf_X9, tyX9_ok, nmX9, rfl, (fun h => by cases h), rfl⟩
set_option maxRecDepth 100000 in
set_option maxHeartbeats 4000000 in
theorem v_X9_faultOf_b55 {D : DG} {z0 : Nat} {l : Launch} : ∀ (v0 : Option Nat) (v1 : Int32) (σ : SG), V D z0 l RX9 cX9_faultOf 2 wsX9_faultOf (some .int) rmX9_faultOf false tvI 55 [some (va_rf v0), some (.int v1)] [] σ 0 0 (m_X9_faultOf_b55 v0 v1 σ) := by
  intro v0 v1 σ
  unfold m_X9_faultOf_b55
  refine V_iload_n (x := v1) dX9_faultOf_55 rfl ?_
  refine V_if_eq (tgt := 63) (x := v1) dX9_faultOf_56 (by decide) (fun hc1 => ?_) (fun hc1 => ?_)
  · refine V_aload_n (x := v0) dX9_faultOf_63 rfl ?_
    refine V_getI fd_X9_faultOf_144_X9 dX9_faultOf_64 (fun x2 => ?_)
    exact V_iret (fun _ => rfl) rfl (Nat.zero_le _) (Nat.zero_le _) dX9_faultOf_67
  · refine V_iconst (v := (-1 : Int32)) dX9_faultOf_59 rfl ?_
    refine V_goto (tgt := 67) dX9_faultOf_60 (by decide) ?_
    exact V_iret (fun _ => rfl) rfl (Nat.zero_le _) (Nat.zero_le _) dX9_faultOf_67
set_option maxRecDepth 100000 in
set_option maxHeartbeats 4000000 in
theorem v_X9_faultOf_b51 {D : DG} {z0 : Nat} {l : Launch} {rec15 : Option Nat → Int32 → SG → Option (Int32 × SG)} (hrec15 : ∀ (v0 : Option Nat) (v1 : Int32) (σ : SG), V D z0 l RX9 cX9_faultOf 2 wsX9_faultOf (some .int) rmX9_faultOf false tvI 15 [some (va_rf v0), some (.int v1)] [] σ 0 0 (rec15 v0 v1 σ)) : ∀ (v0 : Option Nat) (s0 : Int32) (σ : SG), V D z0 l RX9 cX9_faultOf 2 wsX9_faultOf (some .int) rmX9_faultOf false tvI 51 [some (va_rf v0), none] [.int s0] σ 0 0 (m_X9_faultOf_b51 rec15 v0 s0 σ) := by
  intro v0 s0 σ
  unfold m_X9_faultOf_b51
  refine V_istore_n (x := s0) (ls' := [some (va_rf v0), some (.int s0)]) dX9_faultOf_51 (by decide) rfl ?_
  refine V_goto (tgt := 15) dX9_faultOf_52 (by decide) ?_
  exact hrec15 v0 s0 σ
set_option maxRecDepth 100000 in
set_option maxHeartbeats 4000000 in
theorem v_X9_faultOf_b50 {D : DG} {z0 : Nat} {l : Launch} {rec15 : Option Nat → Int32 → SG → Option (Int32 × SG)} (hrec15 : ∀ (v0 : Option Nat) (v1 : Int32) (σ : SG), V D z0 l RX9 cX9_faultOf 2 wsX9_faultOf (some .int) rmX9_faultOf false tvI 15 [some (va_rf v0), some (.int v1)] [] σ 0 0 (rec15 v0 v1 σ)) : ∀ (v0 : Option Nat) (σ : SG), V D z0 l RX9 cX9_faultOf 2 wsX9_faultOf (some .int) rmX9_faultOf false tvI 50 [some (va_rf v0), none] [] σ 0 0 (m_X9_faultOf_b50 rec15 v0 σ) := by
  intro v0 σ
  unfold m_X9_faultOf_b50
  refine V_iconst (v := (0 : Int32)) dX9_faultOf_50 rfl ?_
  exact v_X9_faultOf_b51 hrec15 v0 ((0 : Int32)) σ
set_option maxRecDepth 100000 in
set_option maxHeartbeats 4000000 in
theorem v_X9_faultOf_B15 {D : DG} {z0 : Nat} {l : Launch} {rec15 : Option Nat → Int32 → SG → Option (Int32 × SG)} (hrec15 : ∀ (v0 : Option Nat) (v1 : Int32) (σ : SG), V D z0 l RX9 cX9_faultOf 2 wsX9_faultOf (some .int) rmX9_faultOf false tvI 15 [some (va_rf v0), some (.int v1)] [] σ 0 0 (rec15 v0 v1 σ)) : ∀ (v0 : Option Nat) (v1 : Int32) (σ : SG), V D z0 l RX9 cX9_faultOf 2 wsX9_faultOf (some .int) rmX9_faultOf false tvI 15 [some (va_rf v0), some (.int v1)] [] σ 0 0 (m_X9_faultOf_B15 rec15 v0 v1 σ) := by
  intro v0 v1 σ
  unfold m_X9_faultOf_B15
  refine V_iload_n (x := v1) dX9_faultOf_15 rfl ?_
  refine V_if_eq (tgt := 55) (x := v1) dX9_faultOf_16 (by decide) (fun hc3 => ?_) (fun hc3 => ?_)
  · exact v_X9_faultOf_b55  v0 v1 σ
  · refine V_aload_n (x := v0) dX9_faultOf_19 rfl ?_
    refine V_getI fd_X9_faultOf_144_X9 dX9_faultOf_20 (fun x4 => ?_)
    refine V_aload_n (x := v0) dX9_faultOf_23 rfl ?_
    refine V_getI fd_X9_faultOf_141_X9 dX9_faultOf_24 (fun x5 => ?_)
    refine V_icmp_ge (tgt := 55) (x := x4) (y := x5) dX9_faultOf_27 (by decide) (fun hc6 => ?_) (fun hc6 => ?_)
    · exact v_X9_faultOf_b55  v0 v1 σ
    · refine V_aload_n (x := v0) dX9_faultOf_30 rfl ?_
      refine V_bipush (v := (44 : Int32)) dX9_faultOf_31 rfl ?_
      refine V_callV0 (As := [.int (44 : Int32)]) (st0 := []) (stI := [.int (44 : Int32), va_rf v0]) (fun _ h => by cases h; exact t_X9_accepts _ (44 : Int32) σ) (q := (RX9, TX9, 15)) rfl rfl rfl (Nat.le_of_ble_eq_true rfl) rfl (fun s args hts => cwV 1 hts gX9_faultOf_X9_accepts rfl rfl rfl (by decide +kernel) ⟨Nat.le_of_ble_eq_true rfl, Nat.le_of_ble_eq_true rfl⟩) rfl rfl dX9_faultOf_33 (fun r7 σ8 _ => ?_)
      refine V_if_eq (tgt := 50) (x := r7) dX9_faultOf_36 (by decide) (fun hc9 => ?_) (fun hc9 => ?_)
      · exact V_sub (LE.s (LE.n LE.e)) (v_X9_faultOf_b50 hrec15 v0 σ8)
      · refine V_aload_n (x := v0) dX9_faultOf_39 rfl ?_
        refine V_callV0 (As := []) (st0 := []) (stI := [va_rf v0]) (fun _ h => by cases h; exact t_X9_part _ σ8) (q := (RX9, TX9, 15)) rfl rfl rfl (Nat.le_of_ble_eq_true rfl) rfl (fun s args hts => cwV 0 hts gX9_faultOf_X9_part rfl rfl rfl (by decide +kernel) ⟨Nat.le_of_ble_eq_true rfl, Nat.le_of_ble_eq_true rfl⟩) rfl rfl dX9_faultOf_40 (fun r10 σ11 _ => ?_)
        refine V_if_eq (tgt := 50) (x := r10) dX9_faultOf_43 (by decide) (fun hc12 => ?_) (fun hc12 => ?_)
        · exact V_sub (LE.s (LE.n LE.e)) (v_X9_faultOf_b50 hrec15 v0 σ11)
        · refine V_iconst (v := (1 : Int32)) dX9_faultOf_46 rfl ?_
          refine V_goto (tgt := 51) dX9_faultOf_47 (by decide) ?_
          exact V_sub (LE.s (LE.n LE.e)) (v_X9_faultOf_b51 hrec15 v0 ((1 : Int32)) σ11)
theorem v_X9_faultOf_L15 {D : DG} {z0 : Nat} {l : Launch} : ∀ (n : Nat) (v0 : Option Nat) (v1 : Int32) (σ : SG), V D z0 l RX9 cX9_faultOf 2 wsX9_faultOf (some .int) rmX9_faultOf false tvI 15 [some (va_rf v0), some (.int v1)] [] σ 0 0 (m_X9_faultOf_L15 n v0 v1 σ) := by
  intro n
  induction n with
  | zero => intros; exact V_none
  | succ n ih => exact v_X9_faultOf_B15  ih
set_option maxRecDepth 100000 in
set_option maxHeartbeats 4000000 in
theorem v_X9_faultOf {D : DG} {z0 : Nat} {l : Launch} : ∀ (a0 : Option Nat) (σ : SG), V D z0 l RX9 cX9_faultOf 2 wsX9_faultOf (some .int) rmX9_faultOf false tvI 0 [some (va_rf a0), none] [] σ 0 0 (m_X9_faultOf a0 σ) := by
  intro a0 σ
  unfold m_X9_faultOf
  refine V_aload_n (x := a0) dX9_faultOf_0 rfl ?_
  refine V_iconst (v := (0 : Int32)) dX9_faultOf_1 rfl ?_
  refine V_putI fd_X9_faultOf_144_X9 fw_X9_faultOf_X9_14 (fun h => by cases h) dX9_faultOf_2 (fun σ13 hσ13 => ?_)
  refine V_aload_n (x := a0) dX9_faultOf_5 rfl ?_
  refine V_iconst (v := (0 : Int32)) dX9_faultOf_6 rfl ?_
  refine V_putI fd_X9_faultOf_159_X9 fw_X9_faultOf_X9_13 (fun h => by cases h) dX9_faultOf_7 (fun σ14 hσ14 => ?_)
  refine V_aload_n (x := a0) dX9_faultOf_10 rfl ?_
  refine V_callV0 (As := []) (st0 := []) (stI := [va_rf a0]) (fun _ h => by cases h; exact t_X9_part _ σ14) (q := (RX9, TX9, 15)) rfl rfl rfl (Nat.le_of_ble_eq_true rfl) rfl (fun s args hts => cwV 0 hts gX9_faultOf_X9_part rfl rfl rfl (by decide +kernel) ⟨Nat.le_of_ble_eq_true rfl, Nat.le_of_ble_eq_true rfl⟩) rfl rfl dX9_faultOf_11 (fun r15 σ16 _ => ?_)
  refine V_istore_n (x := r15) (ls' := [some (va_rf a0), some (.int r15)]) dX9_faultOf_14 (by decide) rfl ?_
  exact v_X9_faultOf_L15  1000 a0 r15 σ16
theorem t_X9_faultOf {D : DG} {z0 : Nat} {l : Launch} (a : Nat)  (σ : SG) : MT D z0 l yX9_faultOf wsX9_faultOf rmX9_faultOf tvI [.ref a] σ (m_X9_faultOf (some a) σ) :=
  MT.of (own := RX9) (cc := cX9_faultOf) (nL := 2) (ret := (some .int)) (ct := false) (by decide) rfl rfl (fun h => by cases h) (Nat.le_of_ble_eq_true rfl) (by intro v hv; simp only [List.mem_cons, List.not_mem_nil, or_false] at hv; first | (rcases hv with rfl <;> first | rfl | exact va_rf_cat _) | exact absurd hv (fun h => h)) (v_X9_faultOf (some a) σ)
set_option maxRecDepth 100000 in
set_option maxHeartbeats 4000000 in
theorem v_X9_fault {D : DG} {z0 : Nat} {l : Launch} : ∀ (a0 : Option Nat) (σ : SG), V D z0 l RX9 cX9_fault 2 wsX9_fault (some .int) rmX9_fault false tvI 0 [some (va_rf a0), none] [] σ 0 0 (m_X9_fault a0 σ) := by
  intro a0 σ
  unfold m_X9_fault
  refine V_aload_n (x := a0) dX9_fault_0 rfl ?_
  refine V_callV0 (As := []) (st0 := []) (stI := [va_rf a0]) (fun _ h => by cases h; exact t_X9_faultOf _ σ) (q := (RX9, TX9, 15)) rfl rfl rfl (Nat.le_of_ble_eq_true rfl) rfl (fun s args hts => cwV 0 hts gX9_fault_X9_faultOf rfl rfl rfl (by decide +kernel) ⟨Nat.le_of_ble_eq_true rfl, Nat.le_of_ble_eq_true rfl⟩) rfl rfl dX9_fault_1 (fun r1 σ2 _ => ?_)
  refine V_istore_n (x := r1) (ls' := [some (va_rf a0), some (.int r1)]) dX9_fault_4 (by decide) rfl ?_
  refine V_iload_n (x := r1) dX9_fault_5 rfl ?_
  refine V_if_ge (tgt := 14) (x := r1) dX9_fault_6 (by decide) (fun hc3 => ?_) (fun hc3 => ?_)
  · refine V_iload_n (x := r1) dX9_fault_14 rfl ?_
    exact V_iret (fun _ => rfl) rfl (Nat.zero_le _) (Nat.zero_le _) dX9_fault_15
  · refine V_bipush (v := (-5 : Int32)) dX9_fault_9 rfl ?_
    refine V_goto (tgt := 15) dX9_fault_11 (by decide) ?_
    exact V_iret (fun _ => rfl) rfl (Nat.zero_le _) (Nat.zero_le _) dX9_fault_15
theorem t_X9_fault {D : DG} {z0 : Nat} {l : Launch} (a : Nat)  (σ : SG) : MT D z0 l yX9_fault wsX9_fault rmX9_fault tvI [.ref a] σ (m_X9_fault (some a) σ) :=
  MT.of (own := RX9) (cc := cX9_fault) (nL := 2) (ret := (some .int)) (ct := false) (by decide) rfl rfl (fun h => by cases h) (Nat.le_of_ble_eq_true rfl) (by intro v hv; simp only [List.mem_cons, List.not_mem_nil, or_false] at hv; first | (rcases hv with rfl <;> first | rfl | exact va_rf_cat _) | exact absurd hv (fun h => h)) (v_X9_fault (some a) σ)
theorem in_X9_perform_X9 : ∀ w ∈ u_ws RX9 TX9 15, w ∈ wsX9_perform := by decide +kernel
theorem wd_X9_perform_1 : Cond.fieldLink RX9 159 "MainsWordsModel" "orders" "I" ∈ wsX9_perform := by decide +kernel
theorem fd_X9_perform_159_X9 : FD RX9 159 wsX9_perform 8 13 := ⟨RX9, "MainsWordsModel", TX9, 15, rfl, in_X9_perform_X9, by decide, wd_X9_perform_1, Or.inl rfl⟩
theorem wd_X9_perform_3 : Cond.fieldLink RX9 35 "MainsWordsModel" "read" "[I" ∈ wsX9_perform := by decide +kernel
theorem fd_X9_perform_35_X9 : FD RX9 35 wsX9_perform 8 8 := ⟨RX9, "MainsWordsModel", TX9, 15, rfl, in_X9_perform_X9, by decide, wd_X9_perform_3, Or.inl rfl⟩
set_option maxRecDepth 100000 in
set_option maxHeartbeats 4000000 in
theorem v_X9_perform_b114 {D : DG} {z0 : Nat} {l : Launch} : ∀ (v0 : Option Nat) (v2 : Int32) (σ : SG), V D z0 l RX9 cX9_perform 5 wsX9_perform (some .int) rmX9_perform false tvI 114 [some (va_rf v0), none, some (.int v2), none, none] [] σ 0 0 (m_X9_perform_b114 v0 v2 σ) := by
  intro v0 v2 σ
  unfold m_X9_perform_b114
  refine V_aload_n (x := v0) dX9_perform_114 rfl ?_
  refine V_iload_n (x := v2) dX9_perform_115 rfl ?_
  refine V_callV0 (As := [.int v2]) (st0 := []) (stI := [.int v2, va_rf v0]) (fun _ h => by cases h; exact t_X9_recorded _ v2 σ) (q := (RX9, TX9, 15)) rfl rfl rfl (Nat.le_of_ble_eq_true rfl) rfl (fun s args hts => cwV 1 hts gX9_perform_X9_recorded rfl rfl rfl (by decide +kernel) ⟨Nat.le_of_ble_eq_true rfl, Nat.le_of_ble_eq_true rfl⟩) rfl rfl dX9_perform_116 (fun r1 σ2 _ => ?_)
  exact V_iret (fun _ => rfl) rfl (Nat.zero_le _) (Nat.zero_le _) dX9_perform_119
set_option maxRecDepth 100000 in
set_option maxHeartbeats 4000000 in
theorem v_X9_perform_b109 {D : DG} {z0 : Nat} {l : Launch} {rec22 : Option Nat → Int32 → Int32 → SG → Option (Int32 × SG)} (hrec22 : ∀ (v0 : Option Nat) (v2 : Int32) (v3 : Int32) (σ : SG), V D z0 l RX9 cX9_perform 5 wsX9_perform (some .int) rmX9_perform false tvI 22 [some (va_rf v0), none, some (.int v2), some (.int v3), none] [] σ 0 0 (rec22 v0 v2 v3 σ)) : ∀ (v0 : Option Nat) (v3 : Int32) (s0 : Int32) (s1 : Int32) (σ : SG), V D z0 l RX9 cX9_perform 5 wsX9_perform (some .int) rmX9_perform false tvI 109 [some (va_rf v0), none, none, some (.int v3), none] [.int s1, .int s0] σ 0 0 (m_X9_perform_b109 rec22 v0 v3 s0 s1 σ) := by
  intro v0 v3 s0 s1 σ
  unfold m_X9_perform_b109
  refine V_iadd (x := s0) (y := s1) dX9_perform_109 ?_
  refine V_istore_n (x := (s0 + s1)) (ls' := [some (va_rf v0), none, some (.int (s0 + s1)), some (.int v3), none]) dX9_perform_110 (by decide) rfl ?_
  refine V_goto (tgt := 22) dX9_perform_111 (by decide) ?_
  exact hrec22 v0 ((s0 + s1)) v3 σ
set_option maxRecDepth 100000 in
set_option maxHeartbeats 4000000 in
theorem v_X9_perform_b98 {D : DG} {z0 : Nat} {l : Launch} {rec22 : Option Nat → Int32 → Int32 → SG → Option (Int32 × SG)} (hrec22 : ∀ (v0 : Option Nat) (v2 : Int32) (v3 : Int32) (σ : SG), V D z0 l RX9 cX9_perform 5 wsX9_perform (some .int) rmX9_perform false tvI 22 [some (va_rf v0), none, some (.int v2), some (.int v3), none] [] σ 0 0 (rec22 v0 v2 v3 σ)) : ∀ (v0 : Option Nat) (v2 : Int32) (s0 : Int32) (σ : SG), V D z0 l RX9 cX9_perform 5 wsX9_perform (some .int) rmX9_perform false tvI 98 [some (va_rf v0), none, some (.int v2), none, none] [.int s0] σ 0 0 (m_X9_perform_b98 rec22 v0 v2 s0 σ) := by
  intro v0 v2 s0 σ
  unfold m_X9_perform_b98
  refine V_istore_n (x := s0) (ls' := [some (va_rf v0), none, some (.int v2), some (.int s0), none]) dX9_perform_98 (by decide) rfl ?_
  refine V_iload_n (x := v2) dX9_perform_99 rfl ?_
  refine V_iload_n (x := s0) dX9_perform_100 rfl ?_
  refine V_if_eq (tgt := 108) (x := s0) dX9_perform_101 (by decide) (fun hc3 => ?_) (fun hc3 => ?_)
  · refine V_iconst (v := (0 : Int32)) dX9_perform_108 rfl ?_
    exact V_sub (LE.s (LE.s (LE.n (LE.s (LE.s LE.e))))) (v_X9_perform_b109 hrec22 v0 s0 v2 ((0 : Int32)) σ)
  · refine V_iconst (v := (1 : Int32)) dX9_perform_104 rfl ?_
    refine V_goto (tgt := 109) dX9_perform_105 (by decide) ?_
    exact V_sub (LE.s (LE.s (LE.n (LE.s (LE.s LE.e))))) (v_X9_perform_b109 hrec22 v0 s0 v2 ((1 : Int32)) σ)
set_option maxRecDepth 100000 in
set_option maxHeartbeats 4000000 in
theorem v_X9_perform_b86 {D : DG} {z0 : Nat} {l : Launch} {rec22 : Option Nat → Int32 → Int32 → SG → Option (Int32 × SG)} (hrec22 : ∀ (v0 : Option Nat) (v2 : Int32) (v3 : Int32) (σ : SG), V D z0 l RX9 cX9_perform 5 wsX9_perform (some .int) rmX9_perform false tvI 22 [some (va_rf v0), none, some (.int v2), some (.int v3), none] [] σ 0 0 (rec22 v0 v2 v3 σ)) : ∀ (v0 : Option Nat) (v2 : Int32) (s0 : Int32) (σ : SG), V D z0 l RX9 cX9_perform 5 wsX9_perform (some .int) rmX9_perform false tvI 86 [some (va_rf v0), none, some (.int v2), none, none] [.int s0] σ 0 0 (m_X9_perform_b86 rec22 v0 v2 s0 σ) := by
  intro v0 v2 s0 σ
  unfold m_X9_perform_b86
  refine V_istore (x := s0) (ls' := [some (va_rf v0), none, some (.int v2), none, some (.int s0)]) dX9_perform_86 (by decide) rfl ?_
  refine V_iload (x := s0) dX9_perform_88 rfl ?_
  refine V_if_lt (tgt := 97) (x := s0) dX9_perform_90 (by decide) (fun hc4 => ?_) (fun hc4 => ?_)
  · refine V_iconst (v := (0 : Int32)) dX9_perform_97 rfl ?_
    exact V_sub (LE.s (LE.s (LE.s (LE.s (LE.n LE.e))))) (v_X9_perform_b98 hrec22 v0 v2 ((0 : Int32)) σ)
  · refine V_iconst (v := (1 : Int32)) dX9_perform_93 rfl ?_
    refine V_goto (tgt := 98) dX9_perform_94 (by decide) ?_
    exact V_sub (LE.s (LE.s (LE.s (LE.s (LE.n LE.e))))) (v_X9_perform_b98 hrec22 v0 v2 ((1 : Int32)) σ)
set_option maxRecDepth 100000 in
set_option maxHeartbeats 4000000 in
theorem v_X9_perform_B22 {D : DG} {z0 : Nat} {l : Launch} {rec22 : Option Nat → Int32 → Int32 → SG → Option (Int32 × SG)} (hrec22 : ∀ (v0 : Option Nat) (v2 : Int32) (v3 : Int32) (σ : SG), V D z0 l RX9 cX9_perform 5 wsX9_perform (some .int) rmX9_perform false tvI 22 [some (va_rf v0), none, some (.int v2), some (.int v3), none] [] σ 0 0 (rec22 v0 v2 v3 σ)) : ∀ (v0 : Option Nat) (v2 : Int32) (v3 : Int32) (σ : SG), V D z0 l RX9 cX9_perform 5 wsX9_perform (some .int) rmX9_perform false tvI 22 [some (va_rf v0), none, some (.int v2), some (.int v3), none] [] σ 0 0 (m_X9_perform_B22 rec22 v0 v2 v3 σ) := by
  intro v0 v2 v3 σ
  unfold m_X9_perform_B22
  refine V_iload_n (x := v3) dX9_perform_22 rfl ?_
  refine V_if_eq (tgt := 114) (x := v3) dX9_perform_23 (by decide) (fun hc5 => ?_) (fun hc5 => ?_)
  · exact V_sub (LE.s (LE.s (LE.s (LE.n (LE.s LE.e))))) (v_X9_perform_b114  v0 v2 σ)
  · refine V_iload_n (x := v2) dX9_perform_26 rfl ?_
    refine V_aload_n (x := v0) dX9_perform_27 rfl ?_
    refine V_getI fd_X9_perform_159_X9 dX9_perform_28 (fun x6 => ?_)
    refine V_icmp_ge (tgt := 114) (x := v2) (y := x6) dX9_perform_31 (by decide) (fun hc7 => ?_) (fun hc7 => ?_)
    · exact V_sub (LE.s (LE.s (LE.s (LE.n (LE.s LE.e))))) (v_X9_perform_b114  v0 v2 σ)
    · refine V_aload_n (x := v0) dX9_perform_34 rfl ?_
      refine V_getR fd_X9_perform_35_X9 dX9_perform_35 (fun x8 => ?_)
      refine V_iconst (v := (2 : Int32)) dX9_perform_38 rfl ?_
      refine V_iload_n (x := v2) dX9_perform_39 rfl ?_
      refine V_imul (x := (2 : Int32)) (y := v2) dX9_perform_40 ?_
      refine V_iaload dX9_perform_41 (fun x9 => ?_)
      refine V_bipush (v := (9 : Int32)) dX9_perform_42 rfl ?_
      refine V_icmp_ne (tgt := 64) (x := x9) (y := (9 : Int32)) dX9_perform_44 (by decide) (fun hc10 => ?_) (fun hc10 => ?_)
      · refine V_aload_n (x := v0) dX9_perform_47 rfl ?_
        refine V_aload_n (x := v0) dX9_perform_48 rfl ?_
        refine V_getR fd_X9_perform_35_X9 dX9_perform_49 (fun x11 => ?_)
        refine V_iconst (v := (2 : Int32)) dX9_perform_52 rfl ?_
        refine V_iload_n (x := v2) dX9_perform_53 rfl ?_
        refine V_imul (x := (2 : Int32)) (y := v2) dX9_perform_54 ?_
        refine V_iconst (v := (1 : Int32)) dX9_perform_55 rfl ?_
        refine V_iadd (x := ((2 : Int32) * v2)) (y := (1 : Int32)) dX9_perform_56 ?_
        refine V_iaload dX9_perform_57 (fun x12 => ?_)
        refine V_callV0 (As := [.int x12]) (st0 := []) (stI := [.int x12, va_rf v0]) (fun _ h => by cases h; exact t_X9_passes _ x12 σ) (q := (RX9, TX9, 15)) rfl rfl rfl (Nat.le_of_ble_eq_true rfl) rfl (fun s args hts => cwV 1 hts gX9_perform_X9_passes rfl rfl rfl (by decide +kernel) ⟨Nat.le_of_ble_eq_true rfl, Nat.le_of_ble_eq_true rfl⟩) rfl rfl dX9_perform_58 (fun r13 σ14 _ => ?_)
        refine V_goto (tgt := 86) dX9_perform_61 (by decide) ?_
        exact V_sub (LE.s (LE.s (LE.s (LE.n (LE.s LE.e))))) (v_X9_perform_b86 hrec22 v0 v2 r13 σ14)
      · refine V_aload_n (x := v0) dX9_perform_64 rfl ?_
        refine V_aload_n (x := v0) dX9_perform_65 rfl ?_
        refine V_getR fd_X9_perform_35_X9 dX9_perform_66 (fun x15 => ?_)
        refine V_iconst (v := (2 : Int32)) dX9_perform_69 rfl ?_
        refine V_iload_n (x := v2) dX9_perform_70 rfl ?_
        refine V_imul (x := (2 : Int32)) (y := v2) dX9_perform_71 ?_
        refine V_iaload dX9_perform_72 (fun x16 => ?_)
        refine V_aload_n (x := v0) dX9_perform_73 rfl ?_
        refine V_getR fd_X9_perform_35_X9 dX9_perform_74 (fun x17 => ?_)
        refine V_iconst (v := (2 : Int32)) dX9_perform_77 rfl ?_
        refine V_iload_n (x := v2) dX9_perform_78 rfl ?_
        refine V_imul (x := (2 : Int32)) (y := v2) dX9_perform_79 ?_
        refine V_iconst (v := (1 : Int32)) dX9_perform_80 rfl ?_
        refine V_iadd (x := ((2 : Int32) * v2)) (y := (1 : Int32)) dX9_perform_81 ?_
        refine V_iaload dX9_perform_82 (fun x18 => ?_)
        refine V_callV0 (As := [.int x16, .int x18]) (st0 := []) (stI := [.int x18, .int x16, va_rf v0]) (fun _ h => by cases h; exact t_X9_says _ x16 x18 σ) (q := (RX9, TX9, 15)) rfl rfl rfl (Nat.le_of_ble_eq_true rfl) rfl (fun s args hts => cwV 2 hts gX9_perform_X9_says rfl rfl rfl (by decide +kernel) ⟨Nat.le_of_ble_eq_true rfl, Nat.le_of_ble_eq_true rfl⟩) rfl rfl dX9_perform_83 (fun r19 σ20 _ => ?_)
        exact V_sub (LE.s (LE.s (LE.s (LE.n (LE.s LE.e))))) (v_X9_perform_b86 hrec22 v0 v2 r19 σ20)
theorem v_X9_perform_L22 {D : DG} {z0 : Nat} {l : Launch} : ∀ (n : Nat) (v0 : Option Nat) (v2 : Int32) (v3 : Int32) (σ : SG), V D z0 l RX9 cX9_perform 5 wsX9_perform (some .int) rmX9_perform false tvI 22 [some (va_rf v0), none, some (.int v2), some (.int v3), none] [] σ 0 0 (m_X9_perform_L22 n v0 v2 v3 σ) := by
  intro n
  induction n with
  | zero => intros; exact V_none
  | succ n ih => exact v_X9_perform_B22  ih
set_option maxRecDepth 100000 in
set_option maxHeartbeats 4000000 in
theorem v_X9_perform {D : DG} {z0 : Nat} {l : Launch} : ∀ (a0 : Option Nat) (σ : SG), V D z0 l RX9 cX9_perform 5 wsX9_perform (some .int) rmX9_perform false tvI 0 [some (va_rf a0), none, none, none, none] [] σ 0 0 (m_X9_perform a0 σ) := by
  intro a0 σ
  unfold m_X9_perform
  refine V_aload_n (x := a0) dX9_perform_0 rfl ?_
  refine V_callV0 (As := []) (st0 := []) (stI := [va_rf a0]) (fun _ h => by cases h; exact t_X9_faultOf _ σ) (q := (RX9, TX9, 15)) rfl rfl rfl (Nat.le_of_ble_eq_true rfl) rfl (fun s args hts => cwV 0 hts gX9_perform_X9_faultOf rfl rfl rfl (by decide +kernel) ⟨Nat.le_of_ble_eq_true rfl, Nat.le_of_ble_eq_true rfl⟩) rfl rfl dX9_perform_1 (fun r21 σ22 _ => ?_)
  refine V_istore_n (x := r21) (ls' := [some (va_rf a0), some (.int r21), none, none, none]) dX9_perform_4 (by decide) rfl ?_
  refine V_iload_n (x := r21) dX9_perform_5 rfl ?_
  refine V_if_lt (tgt := 14) (x := r21) dX9_perform_6 (by decide) (fun hc23 => ?_) (fun hc23 => ?_)
  · refine V_aload_n (x := a0) dX9_perform_14 rfl ?_
    refine V_callV0 (As := []) (st0 := []) (stI := [va_rf a0]) (fun _ h => by cases h; exact t_X9_hold _ σ22) (q := (RX9, TX9, 15)) rfl rfl rfl (Nat.le_of_ble_eq_true rfl) rfl (fun s args hts => cwV 0 hts gX9_perform_X9_hold rfl rfl rfl (by decide +kernel) ⟨Nat.le_of_ble_eq_true rfl, Nat.le_of_ble_eq_true rfl⟩) rfl rfl dX9_perform_15 (fun _ σ24 _ => ?_)
    refine V_iconst (v := (0 : Int32)) dX9_perform_18 rfl ?_
    refine V_istore_n (x := (0 : Int32)) (ls' := [some (va_rf a0), some (.int r21), some (.int (0 : Int32)), none, none]) dX9_perform_19 (by decide) rfl ?_
    refine V_iconst (v := (1 : Int32)) dX9_perform_20 rfl ?_
    refine V_istore_n (x := (1 : Int32)) (ls' := [some (va_rf a0), some (.int r21), some (.int (0 : Int32)), some (.int (1 : Int32)), none]) dX9_perform_21 (by decide) rfl ?_
    exact V_sub (LE.s (LE.n (LE.s (LE.s (LE.s LE.e))))) (v_X9_perform_L22  1000 a0 ((0 : Int32)) ((1 : Int32)) σ24)
  · refine V_bipush (v := (-100 : Int32)) dX9_perform_9 rfl ?_
    refine V_iload_n (x := r21) dX9_perform_11 rfl ?_
    refine V_isub (x := (-100 : Int32)) (y := r21) dX9_perform_12 ?_
    exact V_iret (fun _ => rfl) rfl (Nat.zero_le _) (Nat.zero_le _) dX9_perform_13
theorem t_X9_perform {D : DG} {z0 : Nat} {l : Launch} (a : Nat)  (σ : SG) : MT D z0 l yX9_perform wsX9_perform rmX9_perform tvI [.ref a] σ (m_X9_perform (some a) σ) :=
  MT.of (own := RX9) (cc := cX9_perform) (nL := 5) (ret := (some .int)) (ct := false) (by decide) rfl rfl (fun h => by cases h) (Nat.le_of_ble_eq_true rfl) (by intro v hv; simp only [List.mem_cons, List.not_mem_nil, or_false] at hv; first | (rcases hv with rfl <;> first | rfl | exact va_rf_cat _) | exact absurd hv (fun h => h)) (v_X9_perform (some a) σ)
theorem in_X9_undo_X9 : ∀ w ∈ u_ws RX9 TX9 15, w ∈ wsX9_undo := by decide +kernel
theorem wd_X9_undo_1 : Cond.fieldLink RX9 59 "MainsWordsModel" "states" "I" ∈ wsX9_undo := by decide +kernel
theorem fd_X9_undo_59_X9 : FD RX9 59 wsX9_undo 8 12 := ⟨RX9, "MainsWordsModel", TX9, 15, rfl, in_X9_undo_X9, by decide, wd_X9_undo_1, Or.inl rfl⟩
theorem wd_X9_undo_3 : Cond.fieldLink RX9 7 "MainsWordsModel" "s" "[I" ∈ wsX9_undo := by decide +kernel
theorem fd_X9_undo_7_X9 : FD RX9 7 wsX9_undo 8 0 := ⟨RX9, "MainsWordsModel", TX9, 15, rfl, in_X9_undo_X9, by decide, wd_X9_undo_3, Or.inl rfl⟩
theorem wd_X9_undo_5 : Cond.fieldLink RX9 19 "MainsWordsModel" "before" "[I" ∈ wsX9_undo := by decide +kernel
theorem fd_X9_undo_19_X9 : FD RX9 19 wsX9_undo 8 3 := ⟨RX9, "MainsWordsModel", TX9, 15, rfl, in_X9_undo_X9, by decide, wd_X9_undo_5, Or.inl rfl⟩
theorem fw_X9_undo_X9_12 : FW RX9 wsX9_undo 8 12 .int false := ⟨RX9, TX9, 15, tyX9, rfl, in_X9_undo_X9, tyX9_ok, nmX9, rfl, (fun h => by cases h), rfl⟩
set_option maxRecDepth 100000 in
set_option maxHeartbeats 4000000 in
theorem v_X9_undo_B22 {D : DG} {z0 : Nat} {l : Launch} {rec22 : Option Nat → Int32 → SG → Option (Int32 × SG)} (hrec22 : ∀ (v0 : Option Nat) (v1 : Int32) (σ : SG), V D z0 l RX9 cX9_undo 2 wsX9_undo (some .int) rmX9_undo false tvI 22 [some (va_rf v0), some (.int v1)] [] σ 0 0 (rec22 v0 v1 σ)) : ∀ (v0 : Option Nat) (v1 : Int32) (σ : SG), V D z0 l RX9 cX9_undo 2 wsX9_undo (some .int) rmX9_undo false tvI 22 [some (va_rf v0), some (.int v1)] [] σ 0 0 (m_X9_undo_B22 rec22 v0 v1 σ) := by
  intro v0 v1 σ
  unfold m_X9_undo_B22
  refine V_iload_n (x := v1) dX9_undo_22 rfl ?_
  refine V_sipush (v := (190 : Int32)) dX9_undo_23 rfl ?_
  refine V_icmp_ge (tgt := 56) (x := v1) (y := (190 : Int32)) dX9_undo_26 (by decide) (fun hc1 => ?_) (fun hc1 => ?_)
  · refine V_aload_n (x := v0) dX9_undo_56 rfl ?_
    refine V_getI fd_X9_undo_59_X9 dX9_undo_57 (fun x2 => ?_)
    exact V_iret (fun _ => rfl) rfl (Nat.zero_le _) (Nat.zero_le _) dX9_undo_60
  · refine V_aload_n (x := v0) dX9_undo_29 rfl ?_
    refine V_getR fd_X9_undo_7_X9 dX9_undo_30 (fun x3 => ?_)
    refine V_iload_n (x := v1) dX9_undo_33 rfl ?_
    refine V_aload_n (x := v0) dX9_undo_34 rfl ?_
    refine V_getR fd_X9_undo_19_X9 dX9_undo_35 (fun x4 => ?_)
    refine V_sipush (v := (190 : Int32)) dX9_undo_38 rfl ?_
    refine V_aload_n (x := v0) dX9_undo_41 rfl ?_
    refine V_getI fd_X9_undo_59_X9 dX9_undo_42 (fun x5 => ?_)
    refine V_imul (x := (190 : Int32)) (y := x5) dX9_undo_45 ?_
    refine V_iload_n (x := v1) dX9_undo_46 rfl ?_
    refine V_iadd (x := ((190 : Int32) * x5)) (y := v1) dX9_undo_47 ?_
    refine V_iaload dX9_undo_48 (fun x6 => ?_)
    refine V_iastore dX9_undo_49 (fun σ7 hσ7 => ?_)
    refine V_iinc (x := v1) (v := (v1 + 1)) (ls' := [some (va_rf v0), some (.int (v1 + 1))]) dX9_undo_50 rfl rfl (by decide) rfl ?_
    refine V_goto (tgt := 22) dX9_undo_53 (by decide) ?_
    exact hrec22 v0 ((v1 + 1)) σ7
theorem v_X9_undo_L22 {D : DG} {z0 : Nat} {l : Launch} : ∀ (n : Nat) (v0 : Option Nat) (v1 : Int32) (σ : SG), V D z0 l RX9 cX9_undo 2 wsX9_undo (some .int) rmX9_undo false tvI 22 [some (va_rf v0), some (.int v1)] [] σ 0 0 (m_X9_undo_L22 n v0 v1 σ) := by
  intro n
  induction n with
  | zero => intros; exact V_none
  | succ n ih => exact v_X9_undo_B22  ih
set_option maxRecDepth 100000 in
set_option maxHeartbeats 4000000 in
theorem v_X9_undo {D : DG} {z0 : Nat} {l : Launch} : ∀ (a0 : Option Nat) (σ : SG), V D z0 l RX9 cX9_undo 2 wsX9_undo (some .int) rmX9_undo false tvI 0 [some (va_rf a0), none] [] σ 0 0 (m_X9_undo a0 σ) := by
  intro a0 σ
  unfold m_X9_undo
  refine V_aload_n (x := a0) dX9_undo_0 rfl ?_
  refine V_getI fd_X9_undo_59_X9 dX9_undo_1 (fun x8 => ?_)
  refine V_if_ne (tgt := 10) (x := x8) dX9_undo_4 (by decide) (fun hc9 => ?_) (fun hc9 => ?_)
  · refine V_bipush (v := (-5 : Int32)) dX9_undo_7 rfl ?_
    exact V_iret (fun _ => rfl) rfl (Nat.zero_le _) (Nat.zero_le _) dX9_undo_9
  · refine V_aload_n (x := a0) dX9_undo_10 rfl ?_
    refine V_dup dX9_undo_11 (va_rf_cat _) ?_
    refine V_getI fd_X9_undo_59_X9 dX9_undo_12 (fun x10 => ?_)
    refine V_iconst (v := (1 : Int32)) dX9_undo_15 rfl ?_
    refine V_isub (x := x10) (y := (1 : Int32)) dX9_undo_16 ?_
    refine V_putI fd_X9_undo_59_X9 fw_X9_undo_X9_12 (fun h => by cases h) dX9_undo_17 (fun σ11 hσ11 => ?_)
    refine V_iconst (v := (0 : Int32)) dX9_undo_20 rfl ?_
    refine V_istore_n (x := (0 : Int32)) (ls' := [some (va_rf a0), some (.int (0 : Int32))]) dX9_undo_21 (by decide) rfl ?_
    exact v_X9_undo_L22  1000 a0 ((0 : Int32)) σ11
theorem t_X9_undo {D : DG} {z0 : Nat} {l : Launch} (a : Nat)  (σ : SG) : MT D z0 l yX9_undo wsX9_undo rmX9_undo tvI [.ref a] σ (m_X9_undo (some a) σ) :=
  MT.of (own := RX9) (cc := cX9_undo) (nL := 2) (ret := (some .int)) (ct := false) (by decide) rfl rfl (fun h => by cases h) (Nat.le_of_ble_eq_true rfl) (by intro v hv; simp only [List.mem_cons, List.not_mem_nil, or_false] at hv; first | (rcases hv with rfl <;> first | rfl | exact va_rf_cat _) | exact absurd hv (fun h => h)) (v_X9_undo (some a) σ)
theorem in_X9_save_X9 : ∀ w ∈ u_ws RX9 TX9 15, w ∈ wsX9_save := by decide +kernel
theorem wd_X9_save_1 : Cond.fieldLink RX9 178 "MainsWordsModel" "isSaved" "Z" ∈ wsX9_save := by decide +kernel
theorem fd_X9_save_178_X9 : FD RX9 178 wsX9_save 8 10 := ⟨RX9, "MainsWordsModel", TX9, 15, rfl, in_X9_save_X9, by decide, wd_X9_save_1, Or.inl rfl⟩
theorem fw_X9_save_X9_10 : FW RX9 wsX9_save 8 10 .boolean false := ⟨RX9, TX9, 15, tyX9, rfl, in_X9_save_X9, tyX9_ok, nmX9, rfl, (fun h => by cases h), rfl⟩
theorem wd_X9_save_4 : Cond.fieldLink RX9 7 "MainsWordsModel" "s" "[I" ∈ wsX9_save := by decide +kernel
theorem fd_X9_save_7_X9 : FD RX9 7 wsX9_save 8 0 := ⟨RX9, "MainsWordsModel", TX9, 15, rfl, in_X9_save_X9, by decide, wd_X9_save_4, Or.inl rfl⟩
theorem wd_X9_save_6 : Cond.fieldLink RX9 22 "MainsWordsModel" "saved" "[I" ∈ wsX9_save := by decide +kernel
theorem fd_X9_save_22_X9 : FD RX9 22 wsX9_save 8 4 := ⟨RX9, "MainsWordsModel", TX9, 15, rfl, in_X9_save_X9, by decide, wd_X9_save_6, Or.inl rfl⟩
set_option maxRecDepth 100000 in
set_option maxHeartbeats 4000000 in
theorem v_X9_save_B2 {D : DG} {z0 : Nat} {l : Launch} {rec2 : Option Nat → Int32 → SG → Option (Int32 × SG)} (hrec2 : ∀ (v0 : Option Nat) (v1 : Int32) (σ : SG), V D z0 l RX9 cX9_save 2 wsX9_save (some .int) rmX9_save false tvI 2 [some (va_rf v0), some (.int v1)] [] σ 0 0 (rec2 v0 v1 σ)) : ∀ (v0 : Option Nat) (v1 : Int32) (σ : SG), V D z0 l RX9 cX9_save 2 wsX9_save (some .int) rmX9_save false tvI 2 [some (va_rf v0), some (.int v1)] [] σ 0 0 (m_X9_save_B2 rec2 v0 v1 σ) := by
  intro v0 v1 σ
  unfold m_X9_save_B2
  refine V_iload_n (x := v1) dX9_save_2 rfl ?_
  refine V_sipush (v := (190 : Int32)) dX9_save_3 rfl ?_
  refine V_icmp_ge (tgt := 27) (x := v1) (y := (190 : Int32)) dX9_save_6 (by decide) (fun hc1 => ?_) (fun hc1 => ?_)
  · refine V_aload_n (x := v0) dX9_save_27 rfl ?_
    refine V_iconst (v := (1 : Int32)) dX9_save_28 rfl ?_
    refine V_putZ fd_X9_save_178_X9 fw_X9_save_X9_10 (fun h => by cases h) dX9_save_29 (fun σ2 hσ2 => ?_)
    refine V_aload_n (x := v0) dX9_save_32 rfl ?_
    refine V_getR fd_X9_save_7_X9 dX9_save_33 (fun x3 => ?_)
    refine V_iconst (v := (4 : Int32)) dX9_save_36 rfl ?_
    refine V_iaload dX9_save_37 (fun x4 => ?_)
    exact V_iret (fun _ => rfl) rfl (Nat.zero_le _) (Nat.zero_le _) dX9_save_38
  · refine V_aload_n (x := v0) dX9_save_9 rfl ?_
    refine V_getR fd_X9_save_22_X9 dX9_save_10 (fun x5 => ?_)
    refine V_iload_n (x := v1) dX9_save_13 rfl ?_
    refine V_aload_n (x := v0) dX9_save_14 rfl ?_
    refine V_getR fd_X9_save_7_X9 dX9_save_15 (fun x6 => ?_)
    refine V_iload_n (x := v1) dX9_save_18 rfl ?_
    refine V_iaload dX9_save_19 (fun x7 => ?_)
    refine V_iastore dX9_save_20 (fun σ8 hσ8 => ?_)
    refine V_iinc (x := v1) (v := (v1 + 1)) (ls' := [some (va_rf v0), some (.int (v1 + 1))]) dX9_save_21 rfl rfl (by decide) rfl ?_
    refine V_goto (tgt := 2) dX9_save_24 (by decide) ?_
    exact hrec2 v0 ((v1 + 1)) σ8
theorem v_X9_save_L2 {D : DG} {z0 : Nat} {l : Launch} : ∀ (n : Nat) (v0 : Option Nat) (v1 : Int32) (σ : SG), V D z0 l RX9 cX9_save 2 wsX9_save (some .int) rmX9_save false tvI 2 [some (va_rf v0), some (.int v1)] [] σ 0 0 (m_X9_save_L2 n v0 v1 σ) := by
  intro n
  induction n with
  | zero => intros; exact V_none
  | succ n ih => exact v_X9_save_B2  ih
set_option maxRecDepth 100000 in
set_option maxHeartbeats 4000000 in
theorem v_X9_save {D : DG} {z0 : Nat} {l : Launch} : ∀ (a0 : Option Nat) (σ : SG), V D z0 l RX9 cX9_save 2 wsX9_save (some .int) rmX9_save false tvI 0 [some (va_rf a0), none] [] σ 0 0 (m_X9_save a0 σ) := by
  intro a0 σ
  unfold m_X9_save
  refine V_iconst (v := (0 : Int32)) dX9_save_0 rfl ?_
  refine V_istore_n (x := (0 : Int32)) (ls' := [some (va_rf a0), some (.int (0 : Int32))]) dX9_save_1 (by decide) rfl ?_
  exact v_X9_save_L2  1000 a0 ((0 : Int32)) σ
theorem t_X9_save {D : DG} {z0 : Nat} {l : Launch} (a : Nat)  (σ : SG) : MT D z0 l yX9_save wsX9_save rmX9_save tvI [.ref a] σ (m_X9_save (some a) σ) :=
  MT.of (own := RX9) (cc := cX9_save) (nL := 2) (ret := (some .int)) (ct := false) (by decide) rfl rfl (fun h => by cases h) (Nat.le_of_ble_eq_true rfl) (by intro v hv; simp only [List.mem_cons, List.not_mem_nil, or_false] at hv; first | (rcases hv with rfl <;> first | rfl | exact va_rf_cat _) | exact absurd hv (fun h => h)) (v_X9_save (some a) σ)
theorem in_X9_restore_X9 : ∀ w ∈ u_ws RX9 TX9 15, w ∈ wsX9_restore := by decide +kernel
theorem wd_X9_restore_1 : Cond.fieldLink RX9 7 "MainsWordsModel" "s" "[I" ∈ wsX9_restore := by decide +kernel
theorem fd_X9_restore_7_X9 : FD RX9 7 wsX9_restore 8 0 := ⟨RX9, "MainsWordsModel", TX9, 15, rfl, in_X9_restore_X9, by decide, wd_X9_restore_1, Or.inl rfl⟩
theorem wd_X9_restore_3 : Cond.fieldLink RX9 22 "MainsWordsModel" "saved" "[I" ∈ wsX9_restore := by decide +kernel
theorem fd_X9_restore_22_X9 : FD RX9 22 wsX9_restore 8 4 := ⟨RX9, "MainsWordsModel", TX9, 15, rfl, in_X9_restore_X9, by decide, wd_X9_restore_3, Or.inl rfl⟩
theorem wd_X9_restore_5 : Cond.fieldLink RX9 178 "MainsWordsModel" "isSaved" "Z" ∈ wsX9_restore := by decide +kernel
theorem fd_X9_restore_178_X9 : FD RX9 178 wsX9_restore 8 10 := ⟨RX9, "MainsWordsModel", TX9, 15, rfl, in_X9_restore_X9, by decide, wd_X9_restore_5, Or.inl rfl⟩
set_option maxRecDepth 100000 in
set_option maxHeartbeats 4000000 in
theorem v_X9_restore_B16 {D : DG} {z0 : Nat} {l : Launch} {rec16 : Option Nat → Int32 → SG → Option (Int32 × SG)} (hrec16 : ∀ (v0 : Option Nat) (v1 : Int32) (σ : SG), V D z0 l RX9 cX9_restore 2 wsX9_restore (some .int) rmX9_restore false tvI 16 [some (va_rf v0), some (.int v1)] [] σ 0 0 (rec16 v0 v1 σ)) : ∀ (v0 : Option Nat) (v1 : Int32) (σ : SG), V D z0 l RX9 cX9_restore 2 wsX9_restore (some .int) rmX9_restore false tvI 16 [some (va_rf v0), some (.int v1)] [] σ 0 0 (m_X9_restore_B16 rec16 v0 v1 σ) := by
  intro v0 v1 σ
  unfold m_X9_restore_B16
  refine V_iload_n (x := v1) dX9_restore_16 rfl ?_
  refine V_sipush (v := (190 : Int32)) dX9_restore_17 rfl ?_
  refine V_icmp_ge (tgt := 41) (x := v1) (y := (190 : Int32)) dX9_restore_20 (by decide) (fun hc1 => ?_) (fun hc1 => ?_)
  · refine V_aload_n (x := v0) dX9_restore_41 rfl ?_
    refine V_aload_n (x := v0) dX9_restore_42 rfl ?_
    refine V_getR fd_X9_restore_7_X9 dX9_restore_43 (fun x2 => ?_)
    refine V_iconst (v := (4 : Int32)) dX9_restore_46 rfl ?_
    refine V_iaload dX9_restore_47 (fun x3 => ?_)
    refine V_callV0 (As := [.int x3]) (st0 := []) (stI := [.int x3, va_rf v0]) (fun _ h => by cases h; exact t_X9_recorded _ x3 σ) (q := (RX9, TX9, 15)) rfl rfl rfl (Nat.le_of_ble_eq_true rfl) rfl (fun s args hts => cwV 1 hts gX9_restore_X9_recorded rfl rfl rfl (by decide +kernel) ⟨Nat.le_of_ble_eq_true rfl, Nat.le_of_ble_eq_true rfl⟩) rfl rfl dX9_restore_48 (fun r4 σ5 _ => ?_)
    exact V_iret (fun _ => rfl) rfl (Nat.zero_le _) (Nat.zero_le _) dX9_restore_51
  · refine V_aload_n (x := v0) dX9_restore_23 rfl ?_
    refine V_getR fd_X9_restore_7_X9 dX9_restore_24 (fun x6 => ?_)
    refine V_iload_n (x := v1) dX9_restore_27 rfl ?_
    refine V_aload_n (x := v0) dX9_restore_28 rfl ?_
    refine V_getR fd_X9_restore_22_X9 dX9_restore_29 (fun x7 => ?_)
    refine V_iload_n (x := v1) dX9_restore_32 rfl ?_
    refine V_iaload dX9_restore_33 (fun x8 => ?_)
    refine V_iastore dX9_restore_34 (fun σ9 hσ9 => ?_)
    refine V_iinc (x := v1) (v := (v1 + 1)) (ls' := [some (va_rf v0), some (.int (v1 + 1))]) dX9_restore_35 rfl rfl (by decide) rfl ?_
    refine V_goto (tgt := 16) dX9_restore_38 (by decide) ?_
    exact hrec16 v0 ((v1 + 1)) σ9
theorem v_X9_restore_L16 {D : DG} {z0 : Nat} {l : Launch} : ∀ (n : Nat) (v0 : Option Nat) (v1 : Int32) (σ : SG), V D z0 l RX9 cX9_restore 2 wsX9_restore (some .int) rmX9_restore false tvI 16 [some (va_rf v0), some (.int v1)] [] σ 0 0 (m_X9_restore_L16 n v0 v1 σ) := by
  intro n
  induction n with
  | zero => intros; exact V_none
  | succ n ih => exact v_X9_restore_B16  ih
set_option maxRecDepth 100000 in
set_option maxHeartbeats 4000000 in
theorem v_X9_restore {D : DG} {z0 : Nat} {l : Launch} : ∀ (a0 : Option Nat) (σ : SG), V D z0 l RX9 cX9_restore 2 wsX9_restore (some .int) rmX9_restore false tvI 0 [some (va_rf a0), none] [] σ 0 0 (m_X9_restore a0 σ) := by
  intro a0 σ
  unfold m_X9_restore
  refine V_aload_n (x := a0) dX9_restore_0 rfl ?_
  refine V_getI fd_X9_restore_178_X9 dX9_restore_1 (fun x10 => ?_)
  refine V_if_ne (tgt := 10) (x := x10) dX9_restore_4 (by decide) (fun hc11 => ?_) (fun hc11 => ?_)
  · refine V_bipush (v := (-4 : Int32)) dX9_restore_7 rfl ?_
    exact V_iret (fun _ => rfl) rfl (Nat.zero_le _) (Nat.zero_le _) dX9_restore_9
  · refine V_aload_n (x := a0) dX9_restore_10 rfl ?_
    refine V_callV0 (As := []) (st0 := []) (stI := [va_rf a0]) (fun _ h => by cases h; exact t_X9_hold _ σ) (q := (RX9, TX9, 15)) rfl rfl rfl (Nat.le_of_ble_eq_true rfl) rfl (fun s args hts => cwV 0 hts gX9_restore_X9_hold rfl rfl rfl (by decide +kernel) ⟨Nat.le_of_ble_eq_true rfl, Nat.le_of_ble_eq_true rfl⟩) rfl rfl dX9_restore_11 (fun _ σ12 _ => ?_)
    refine V_iconst (v := (0 : Int32)) dX9_restore_14 rfl ?_
    refine V_istore_n (x := (0 : Int32)) (ls' := [some (va_rf a0), some (.int (0 : Int32))]) dX9_restore_15 (by decide) rfl ?_
    exact v_X9_restore_L16  1000 a0 ((0 : Int32)) σ12
theorem t_X9_restore {D : DG} {z0 : Nat} {l : Launch} (a : Nat)  (σ : SG) : MT D z0 l yX9_restore wsX9_restore rmX9_restore tvI [.ref a] σ (m_X9_restore (some a) σ) :=
  MT.of (own := RX9) (cc := cX9_restore) (nL := 2) (ret := (some .int)) (ct := false) (by decide) rfl rfl (fun h => by cases h) (Nat.le_of_ble_eq_true rfl) (by intro v hv; simp only [List.mem_cons, List.not_mem_nil, or_false] at hv; first | (rcases hv with rfl <;> first | rfl | exact va_rf_cat _) | exact absurd hv (fun h => h)) (v_X9_restore (some a) σ)
theorem in_X9_senderOf_X9 : ∀ w ∈ u_ws RX9 TX9 15, w ∈ wsX9_senderOf := by decide +kernel
theorem wd_X9_senderOf_1 : Cond.fieldLink RX9 7 "MainsWordsModel" "s" "[I" ∈ wsX9_senderOf := by decide +kernel
theorem fd_X9_senderOf_7_X9 : FD RX9 7 wsX9_senderOf 8 0 := ⟨RX9, "MainsWordsModel", TX9, 15, rfl, in_X9_senderOf_X9, by decide, wd_X9_senderOf_1, Or.inl rfl⟩
set_option maxRecDepth 100000 in
set_option maxHeartbeats 4000000 in
theorem v_X9_senderOf_b76 {D : DG} {z0 : Nat} {l : Launch} : ∀ (v0 : Option Nat) (v2 : Int32) (v3 : Int32) (σ : SG), V D z0 l RX9 cX9_senderOf 5 wsX9_senderOf (some .int) rmX9_senderOf false tvI 76 [some (va_rf v0), none, some (.int v2), some (.int v3), none] [] σ 0 0 (m_X9_senderOf_b76 v0 v2 v3 σ) := by
  intro v0 v2 v3 σ
  unfold m_X9_senderOf_b76
  refine V_aload_n (x := v0) dX9_senderOf_76 rfl ?_
  refine V_getR fd_X9_senderOf_7_X9 dX9_senderOf_77 (fun x1 => ?_)
  refine V_iload_n (x := v3) dX9_senderOf_80 rfl ?_
  refine V_iconst (v := (1 : Int32)) dX9_senderOf_81 rfl ?_
  refine V_iadd (x := v3) (y := (1 : Int32)) dX9_senderOf_82 ?_
  refine V_iload_n (x := v2) dX9_senderOf_83 rfl ?_
  refine V_iadd (x := (v3 + (1 : Int32))) (y := v2) dX9_senderOf_84 ?_
  refine V_iaload dX9_senderOf_85 (fun x2 => ?_)
  exact V_iret (fun _ => rfl) rfl (Nat.zero_le _) (Nat.zero_le _) dX9_senderOf_86
set_option maxRecDepth 100000 in
set_option maxHeartbeats 4000000 in
theorem v_X9_senderOf_b32 {D : DG} {z0 : Nat} {l : Launch} : ∀ (v0 : Option Nat) (v1 : Int32) (v2 : Int32) (v3 : Int32) (s0 : Int32) (σ : SG), V D z0 l RX9 cX9_senderOf 5 wsX9_senderOf (some .int) rmX9_senderOf false tvI 32 [some (va_rf v0), some (.int v1), some (.int v2), some (.int v3), none] [.int s0] σ 0 0 (m_X9_senderOf_b32 v0 v1 v2 v3 s0 σ) := by
  intro v0 v1 v2 v3 s0 σ
  unfold m_X9_senderOf_b32
  refine V_istore (x := s0) (ls' := [some (va_rf v0), some (.int v1), some (.int v2), some (.int v3), some (.int s0)]) dX9_senderOf_32 (by decide) rfl ?_
  refine V_iload_n (x := v2) dX9_senderOf_34 rfl ?_
  refine V_table (x := v2) (tb := [(0, 76), (1, 76), (2, 76), (3, 87), (4, 107), (5, 126), (6, 136)]) (tgt := 152) dX9_senderOf_35 (by decide) rfl (by decide) (List.forall_mem_cons.mpr ⟨?_, List.forall_mem_cons.mpr ⟨?_, List.forall_mem_cons.mpr ⟨?_, List.forall_mem_cons.mpr ⟨?_, List.forall_mem_cons.mpr ⟨?_, List.forall_mem_cons.mpr ⟨?_, List.forall_mem_cons.mpr ⟨?_, fun _ h => absurd h List.not_mem_nil⟩⟩⟩⟩⟩⟩⟩) ?_
  · dsimp only
    exact V_sub (LE.s (LE.n (LE.s (LE.s (LE.n LE.e))))) (v_X9_senderOf_b76  v0 v2 v3 σ)
  · dsimp only
    exact V_sub (LE.s (LE.n (LE.s (LE.s (LE.n LE.e))))) (v_X9_senderOf_b76  v0 v2 v3 σ)
  · dsimp only
    exact V_sub (LE.s (LE.n (LE.s (LE.s (LE.n LE.e))))) (v_X9_senderOf_b76  v0 v2 v3 σ)
  · dsimp only
    refine V_iload (x := s0) dX9_senderOf_87 rfl ?_
    refine V_if_eq (tgt := 104) (x := s0) dX9_senderOf_89 (by decide) (fun hc3 => ?_) (fun hc3 => ?_)
    · refine V_bipush (v := (-5 : Int32)) dX9_senderOf_104 rfl ?_
      exact V_iret (fun _ => rfl) rfl (Nat.zero_le _) (Nat.zero_le _) dX9_senderOf_106
    · refine V_aload_n (x := v0) dX9_senderOf_92 rfl ?_
      refine V_getR fd_X9_senderOf_7_X9 dX9_senderOf_93 (fun x4 => ?_)
      refine V_iload_n (x := v3) dX9_senderOf_96 rfl ?_
      refine V_bipush (v := (6 : Int32)) dX9_senderOf_97 rfl ?_
      refine V_iadd (x := v3) (y := (6 : Int32)) dX9_senderOf_99 ?_
      refine V_iaload dX9_senderOf_100 (fun x5 => ?_)
      refine V_goto (tgt := 106) dX9_senderOf_101 (by decide) ?_
      exact V_iret (fun _ => rfl) rfl (Nat.zero_le _) (Nat.zero_le _) dX9_senderOf_106
  · dsimp only
    refine V_iload (x := s0) dX9_senderOf_107 rfl ?_
    refine V_if_eq (tgt := 123) (x := s0) dX9_senderOf_109 (by decide) (fun hc6 => ?_) (fun hc6 => ?_)
    · refine V_bipush (v := (-5 : Int32)) dX9_senderOf_123 rfl ?_
      exact V_iret (fun _ => rfl) rfl (Nat.zero_le _) (Nat.zero_le _) dX9_senderOf_125
    · refine V_aload_n (x := v0) dX9_senderOf_112 rfl ?_
      refine V_getR fd_X9_senderOf_7_X9 dX9_senderOf_113 (fun x7 => ?_)
      refine V_iload_n (x := v3) dX9_senderOf_116 rfl ?_
      refine V_iconst (v := (5 : Int32)) dX9_senderOf_117 rfl ?_
      refine V_iadd (x := v3) (y := (5 : Int32)) dX9_senderOf_118 ?_
      refine V_iaload dX9_senderOf_119 (fun x8 => ?_)
      refine V_goto (tgt := 125) dX9_senderOf_120 (by decide) ?_
      exact V_iret (fun _ => rfl) rfl (Nat.zero_le _) (Nat.zero_le _) dX9_senderOf_125
  · dsimp only
    refine V_aload_n (x := v0) dX9_senderOf_126 rfl ?_
    refine V_getR fd_X9_senderOf_7_X9 dX9_senderOf_127 (fun x9 => ?_)
    refine V_iload_n (x := v3) dX9_senderOf_130 rfl ?_
    refine V_bipush (v := (7 : Int32)) dX9_senderOf_131 rfl ?_
    refine V_iadd (x := v3) (y := (7 : Int32)) dX9_senderOf_133 ?_
    refine V_iaload dX9_senderOf_134 (fun x10 => ?_)
    exact V_iret (fun _ => rfl) rfl (Nat.zero_le _) (Nat.zero_le _) dX9_senderOf_135
  · dsimp only
    refine V_iload (x := s0) dX9_senderOf_136 rfl ?_
    refine V_if_eq (tgt := 149) (x := s0) dX9_senderOf_138 (by decide) (fun hc11 => ?_) (fun hc11 => ?_)
    · refine V_bipush (v := (-5 : Int32)) dX9_senderOf_149 rfl ?_
      exact V_iret (fun _ => rfl) rfl (Nat.zero_le _) (Nat.zero_le _) dX9_senderOf_151
    · refine V_aload_n (x := v0) dX9_senderOf_141 rfl ?_
      refine V_iload_n (x := v1) dX9_senderOf_142 rfl ?_
      refine V_callV0 (As := [.int v1]) (st0 := []) (stI := [.int v1, va_rf v0]) (fun _ h => by cases h; exact t_X9_bitOf _ v1 σ) (q := (RX9, TX9, 15)) rfl rfl rfl (Nat.le_of_ble_eq_true rfl) rfl (fun s args hts => cwV 1 hts gX9_senderOf_X9_bitOf rfl rfl rfl (by decide +kernel) ⟨Nat.le_of_ble_eq_true rfl, Nat.le_of_ble_eq_true rfl⟩) rfl rfl dX9_senderOf_143 (fun r12 σ13 _ => ?_)
      refine V_goto (tgt := 151) dX9_senderOf_146 (by decide) ?_
      exact V_iret (fun _ => rfl) rfl (Nat.zero_le _) (Nat.zero_le _) dX9_senderOf_151
  · refine V_bipush (v := (-2 : Int32)) dX9_senderOf_152 rfl ?_
    exact V_iret (fun _ => rfl) rfl (Nat.zero_le _) (Nat.zero_le _) dX9_senderOf_154
set_option maxRecDepth 100000 in
set_option maxHeartbeats 4000000 in
theorem v_X9_senderOf {D : DG} {z0 : Nat} {l : Launch} : ∀ (a0 : Option Nat) (a1 : Int32) (a2 : Int32) (σ : SG), V D z0 l RX9 cX9_senderOf 5 wsX9_senderOf (some .int) rmX9_senderOf false tvI 0 [some (va_rf a0), some (.int a1), some (.int a2), none, none] [] σ 0 0 (m_X9_senderOf a0 a1 a2 σ) := by
  intro a0 a1 a2 σ
  unfold m_X9_senderOf
  refine V_aload_n (x := a0) dX9_senderOf_0 rfl ?_
  refine V_iload_n (x := a1) dX9_senderOf_1 rfl ?_
  refine V_callV0 (As := [.int a1]) (st0 := []) (stI := [.int a1, va_rf a0]) (fun _ h => by cases h; exact t_X9_isSender _ a1 σ) (q := (RX9, TX9, 15)) rfl rfl rfl (Nat.le_of_ble_eq_true rfl) rfl (fun s args hts => cwV 1 hts gX9_senderOf_X9_isSender rfl rfl rfl (by decide +kernel) ⟨Nat.le_of_ble_eq_true rfl, Nat.le_of_ble_eq_true rfl⟩) rfl rfl dX9_senderOf_2 (fun r14 σ15 _ => ?_)
  refine V_if_ne (tgt := 10) (x := r14) dX9_senderOf_5 (by decide) (fun hc16 => ?_) (fun hc16 => ?_)
  · refine V_iconst (v := (-1 : Int32)) dX9_senderOf_8 rfl ?_
    exact V_iret (fun _ => rfl) rfl (Nat.zero_le _) (Nat.zero_le _) dX9_senderOf_9
  · refine V_iload_n (x := a1) dX9_senderOf_10 rfl ?_
    refine V_callS0 (As := [.int a1]) (st0 := []) (stI := [.int a1]) (t_X9_n a1 σ15) rfl (Nat.le_of_ble_eq_true rfl) rfl (fun s args hts => va_cwS 1 hts gX9_senderOf_X9_n rfl rfl rfl (by decide +kernel) ⟨Nat.le_of_ble_eq_true rfl, Nat.le_of_ble_eq_true rfl⟩) rfl rfl dX9_senderOf_11 (fun r17 σ18 _ => ?_)
    refine V_istore_n (x := r17) (ls' := [some (va_rf a0), some (.int a1), some (.int a2), some (.int r17), none]) dX9_senderOf_14 (by decide) rfl ?_
    refine V_aload_n (x := a0) dX9_senderOf_15 rfl ?_
    refine V_getR fd_X9_senderOf_7_X9 dX9_senderOf_16 (fun x19 => ?_)
    refine V_iload_n (x := r17) dX9_senderOf_19 rfl ?_
    refine V_iconst (v := (4 : Int32)) dX9_senderOf_20 rfl ?_
    refine V_iadd (x := r17) (y := (4 : Int32)) dX9_senderOf_21 ?_
    refine V_iaload dX9_senderOf_22 (fun x20 => ?_)
    refine V_iconst (v := (1 : Int32)) dX9_senderOf_23 rfl ?_
    refine V_icmp_ne (tgt := 31) (x := x20) (y := (1 : Int32)) dX9_senderOf_24 (by decide) (fun hc21 => ?_) (fun hc21 => ?_)
    · refine V_iconst (v := (1 : Int32)) dX9_senderOf_27 rfl ?_
      refine V_goto (tgt := 32) dX9_senderOf_28 (by decide) ?_
      exact v_X9_senderOf_b32  a0 a1 a2 r17 ((1 : Int32)) σ18
    · refine V_iconst (v := (0 : Int32)) dX9_senderOf_31 rfl ?_
      exact v_X9_senderOf_b32  a0 a1 a2 r17 ((0 : Int32)) σ18
theorem t_X9_senderOf {D : DG} {z0 : Nat} {l : Launch} (a : Nat) (a1 : Int32) (a2 : Int32) (σ : SG) : MT D z0 l yX9_senderOf wsX9_senderOf rmX9_senderOf tvI [.ref a, .int a1, .int a2] σ (m_X9_senderOf (some a) a1 a2 σ) :=
  MT.of (own := RX9) (cc := cX9_senderOf) (nL := 5) (ret := (some .int)) (ct := false) (by decide) rfl rfl (fun h => by cases h) (Nat.le_of_ble_eq_true rfl) (by intro v hv; simp only [List.mem_cons, List.not_mem_nil, or_false] at hv; first | (rcases hv with rfl | rfl | rfl <;> first | rfl | exact va_rf_cat _) | exact absurd hv (fun h => h)) (v_X9_senderOf (some a) a1 a2 σ)
theorem in_X9_queued_X9 : ∀ w ∈ u_ws RX9 TX9 15, w ∈ wsX9_queued := by decide +kernel
theorem wd_X9_queued_1 : Cond.fieldLink RX9 7 "MainsWordsModel" "s" "[I" ∈ wsX9_queued := by decide +kernel
theorem fd_X9_queued_7_X9 : FD RX9 7 wsX9_queued 8 0 := ⟨RX9, "MainsWordsModel", TX9, 15, rfl, in_X9_queued_X9, by decide, wd_X9_queued_1, Or.inl rfl⟩
set_option maxRecDepth 100000 in
set_option maxHeartbeats 4000000 in
theorem v_X9_queued {D : DG} {z0 : Nat} {l : Launch} : ∀ (a0 : Option Nat) (a1 : Int32) (a2 : Int32) (σ : SG), V D z0 l RX9 cX9_queued 3 wsX9_queued (some .int) rmX9_queued false tvI 0 [some (va_rf a0), some (.int a1), some (.int a2)] [] σ 0 0 (m_X9_queued a0 a1 a2 σ) := by
  intro a0 a1 a2 σ
  unfold m_X9_queued
  refine V_aload_n (x := a0) dX9_queued_0 rfl ?_
  refine V_iload_n (x := a1) dX9_queued_1 rfl ?_
  refine V_callV0 (As := [.int a1]) (st0 := []) (stI := [.int a1, va_rf a0]) (fun _ h => by cases h; exact t_X9_isSender _ a1 σ) (q := (RX9, TX9, 15)) rfl rfl rfl (Nat.le_of_ble_eq_true rfl) rfl (fun s args hts => cwV 1 hts gX9_queued_X9_isSender rfl rfl rfl (by decide +kernel) ⟨Nat.le_of_ble_eq_true rfl, Nat.le_of_ble_eq_true rfl⟩) rfl rfl dX9_queued_2 (fun r1 σ2 _ => ?_)
  refine V_if_ne (tgt := 10) (x := r1) dX9_queued_5 (by decide) (fun hc3 => ?_) (fun hc3 => ?_)
  · refine V_iconst (v := (-1 : Int32)) dX9_queued_8 rfl ?_
    exact V_iret (fun _ => rfl) rfl (Nat.zero_le _) (Nat.zero_le _) dX9_queued_9
  · refine V_iload_n (x := a2) dX9_queued_10 rfl ?_
    refine V_if_ge (tgt := 17) (x := a2) dX9_queued_11 (by decide) (fun hc4 => ?_) (fun hc4 => ?_)
    · refine V_iload_n (x := a2) dX9_queued_17 rfl ?_
      refine V_aload_n (x := a0) dX9_queued_18 rfl ?_
      refine V_getR fd_X9_queued_7_X9 dX9_queued_19 (fun x5 => ?_)
      refine V_iload_n (x := a1) dX9_queued_22 rfl ?_
      refine V_callS0 (As := [.int a1]) (st0 := [va_rf x5, .int a2]) (stI := [.int a1, va_rf x5, .int a2]) (t_X9_n a1 σ2) rfl (by simp only [List.map_cons, List.map_nil, List.sum_cons, List.sum_nil, va_rf_cat, catI, catF]; decide) rfl (fun s args hts => va_cwS 1 hts gX9_queued_X9_n rfl rfl rfl (by decide +kernel) ⟨Nat.le_of_ble_eq_true rfl, Nat.le_of_ble_eq_true rfl⟩) rfl rfl dX9_queued_23 (fun r6 σ7 _ => ?_)
      refine V_iconst (v := (3 : Int32)) dX9_queued_26 rfl ?_
      refine V_iadd (x := r6) (y := (3 : Int32)) dX9_queued_27 ?_
      refine V_iaload dX9_queued_28 (fun x8 => ?_)
      refine V_icmp_ge (tgt := 49) (x := a2) (y := x8) dX9_queued_29 (by decide) (fun hc9 => ?_) (fun hc9 => ?_)
      · refine V_bipush (v := (-5 : Int32)) dX9_queued_49 rfl ?_
        exact V_iret (fun _ => rfl) rfl (Nat.zero_le _) (Nat.zero_le _) dX9_queued_51
      · refine V_aload_n (x := a0) dX9_queued_32 rfl ?_
        refine V_getR fd_X9_queued_7_X9 dX9_queued_33 (fun x10 => ?_)
        refine V_iload_n (x := a1) dX9_queued_36 rfl ?_
        refine V_callS0 (As := [.int a1]) (st0 := [va_rf x10]) (stI := [.int a1, va_rf x10]) (t_X9_n a1 σ7) rfl (by simp only [List.map_cons, List.map_nil, List.sum_cons, List.sum_nil, va_rf_cat, catI, catF]; decide) rfl (fun s args hts => va_cwS 1 hts gX9_queued_X9_n rfl rfl rfl (by decide +kernel) ⟨Nat.le_of_ble_eq_true rfl, Nat.le_of_ble_eq_true rfl⟩) rfl rfl dX9_queued_37 (fun r11 σ12 _ => ?_)
        refine V_bipush (v := (8 : Int32)) dX9_queued_40 rfl ?_
        refine V_iadd (x := r11) (y := (8 : Int32)) dX9_queued_42 ?_
        refine V_iload_n (x := a2) dX9_queued_43 rfl ?_
        refine V_iadd (x := (r11 + (8 : Int32))) (y := a2) dX9_queued_44 ?_
        refine V_iaload dX9_queued_45 (fun x13 => ?_)
        refine V_goto (tgt := 51) dX9_queued_46 (by decide) ?_
        exact V_iret (fun _ => rfl) rfl (Nat.zero_le _) (Nat.zero_le _) dX9_queued_51
    · refine V_bipush (v := (-2 : Int32)) dX9_queued_14 rfl ?_
      exact V_iret (fun _ => rfl) rfl (Nat.zero_le _) (Nat.zero_le _) dX9_queued_16
theorem t_X9_queued {D : DG} {z0 : Nat} {l : Launch} (a : Nat) (a1 : Int32) (a2 : Int32) (σ : SG) : MT D z0 l yX9_queued wsX9_queued rmX9_queued tvI [.ref a, .int a1, .int a2] σ (m_X9_queued (some a) a1 a2 σ) :=
  MT.of (own := RX9) (cc := cX9_queued) (nL := 3) (ret := (some .int)) (ct := false) (by decide) rfl rfl (fun h => by cases h) (Nat.le_of_ble_eq_true rfl) (by intro v hv; simp only [List.mem_cons, List.not_mem_nil, or_false] at hv; first | (rcases hv with rfl | rfl | rfl <;> first | rfl | exact va_rf_cat _) | exact absurd hv (fun h => h)) (v_X9_queued (some a) a1 a2 σ)
theorem in_X9_machineOf_X9 : ∀ w ∈ u_ws RX9 TX9 15, w ∈ wsX9_machineOf := by decide +kernel
theorem wd_X9_machineOf_1 : Cond.fieldLink RX9 7 "MainsWordsModel" "s" "[I" ∈ wsX9_machineOf := by decide +kernel
theorem fd_X9_machineOf_7_X9 : FD RX9 7 wsX9_machineOf 8 0 := ⟨RX9, "MainsWordsModel", TX9, 15, rfl, in_X9_machineOf_X9, by decide, wd_X9_machineOf_1, Or.inl rfl⟩
set_option maxRecDepth 100000 in
set_option maxHeartbeats 4000000 in
theorem v_X9_machineOf {D : DG} {z0 : Nat} {l : Launch} : ∀ (a0 : Option Nat) (a1 : Int32) (a2 : Int32) (σ : SG), V D z0 l RX9 cX9_machineOf 3 wsX9_machineOf (some .int) rmX9_machineOf false tvI 0 [some (va_rf a0), some (.int a1), some (.int a2)] [] σ 0 0 (m_X9_machineOf a0 a1 a2 σ) := by
  intro a0 a1 a2 σ
  unfold m_X9_machineOf
  refine V_aload_n (x := a0) dX9_machineOf_0 rfl ?_
  refine V_iload_n (x := a1) dX9_machineOf_1 rfl ?_
  refine V_callV0 (As := [.int a1]) (st0 := []) (stI := [.int a1, va_rf a0]) (fun _ h => by cases h; exact t_X9_isMachine _ a1 σ) (q := (RX9, TX9, 15)) rfl rfl rfl (Nat.le_of_ble_eq_true rfl) rfl (fun s args hts => cwV 1 hts gX9_machineOf_X9_isMachine rfl rfl rfl (by decide +kernel) ⟨Nat.le_of_ble_eq_true rfl, Nat.le_of_ble_eq_true rfl⟩) rfl rfl dX9_machineOf_2 (fun r1 σ2 _ => ?_)
  refine V_if_ne (tgt := 12) (x := r1) dX9_machineOf_5 (by decide) (fun hc3 => ?_) (fun hc3 => ?_)
  · refine V_iconst (v := (-1 : Int32)) dX9_machineOf_8 rfl ?_
    refine V_goto (tgt := 39) dX9_machineOf_9 (by decide) ?_
    exact V_iret (fun _ => rfl) rfl (Nat.zero_le _) (Nat.zero_le _) dX9_machineOf_39
  · refine V_iload_n (x := a2) dX9_machineOf_12 rfl ?_
    refine V_iconst (v := (0 : Int32)) dX9_machineOf_13 rfl ?_
    refine V_iconst (v := (3 : Int32)) dX9_machineOf_14 rfl ?_
    refine V_callS0 (As := [.int a2, .int (0 : Int32), .int (3 : Int32)]) (st0 := []) (stI := [.int (3 : Int32), .int (0 : Int32), .int a2]) (t_X9_in a2 (0 : Int32) (3 : Int32) σ2) rfl (Nat.le_of_ble_eq_true rfl) rfl (fun s args hts => va_cwS 3 hts gX9_machineOf_X9_in rfl rfl rfl (by decide +kernel) ⟨Nat.le_of_ble_eq_true rfl, Nat.le_of_ble_eq_true rfl⟩) rfl rfl dX9_machineOf_15 (fun r4 σ5 _ => ?_)
    refine V_if_eq (tgt := 37) (x := r4) dX9_machineOf_18 (by decide) (fun hc6 => ?_) (fun hc6 => ?_)
    · refine V_bipush (v := (-2 : Int32)) dX9_machineOf_37 rfl ?_
      exact V_iret (fun _ => rfl) rfl (Nat.zero_le _) (Nat.zero_le _) dX9_machineOf_39
    · refine V_aload_n (x := a0) dX9_machineOf_21 rfl ?_
      refine V_getR fd_X9_machineOf_7_X9 dX9_machineOf_22 (fun x7 => ?_)
      refine V_iload_n (x := a1) dX9_machineOf_25 rfl ?_
      refine V_callS0 (As := [.int a1]) (st0 := [va_rf x7]) (stI := [.int a1, va_rf x7]) (t_X9_m a1 σ5) rfl (by simp only [List.map_cons, List.map_nil, List.sum_cons, List.sum_nil, va_rf_cat, catI, catF]; decide) rfl (fun s args hts => va_cwS 1 hts gX9_machineOf_X9_m rfl rfl rfl (by decide +kernel) ⟨Nat.le_of_ble_eq_true rfl, Nat.le_of_ble_eq_true rfl⟩) rfl rfl dX9_machineOf_26 (fun r8 σ9 _ => ?_)
      refine V_iconst (v := (1 : Int32)) dX9_machineOf_29 rfl ?_
      refine V_iadd (x := r8) (y := (1 : Int32)) dX9_machineOf_30 ?_
      refine V_iload_n (x := a2) dX9_machineOf_31 rfl ?_
      refine V_iadd (x := (r8 + (1 : Int32))) (y := a2) dX9_machineOf_32 ?_
      refine V_iaload dX9_machineOf_33 (fun x10 => ?_)
      refine V_goto (tgt := 39) dX9_machineOf_34 (by decide) ?_
      exact V_iret (fun _ => rfl) rfl (Nat.zero_le _) (Nat.zero_le _) dX9_machineOf_39
theorem t_X9_machineOf {D : DG} {z0 : Nat} {l : Launch} (a : Nat) (a1 : Int32) (a2 : Int32) (σ : SG) : MT D z0 l yX9_machineOf wsX9_machineOf rmX9_machineOf tvI [.ref a, .int a1, .int a2] σ (m_X9_machineOf (some a) a1 a2 σ) :=
  MT.of (own := RX9) (cc := cX9_machineOf) (nL := 3) (ret := (some .int)) (ct := false) (by decide) rfl rfl (fun h => by cases h) (Nat.le_of_ble_eq_true rfl) (by intro v hv; simp only [List.mem_cons, List.not_mem_nil, or_false] at hv; first | (rcases hv with rfl | rfl | rfl <;> first | rfl | exact va_rf_cat _) | exact absurd hv (fun h => h)) (v_X9_machineOf (some a) a1 a2 σ)
theorem in_X9_lampOf_X9 : ∀ w ∈ u_ws RX9 TX9 15, w ∈ wsX9_lampOf := by decide +kernel
theorem wd_X9_lampOf_1 : Cond.fieldLink RX9 7 "MainsWordsModel" "s" "[I" ∈ wsX9_lampOf := by decide +kernel
theorem fd_X9_lampOf_7_X9 : FD RX9 7 wsX9_lampOf 8 0 := ⟨RX9, "MainsWordsModel", TX9, 15, rfl, in_X9_lampOf_X9, by decide, wd_X9_lampOf_1, Or.inl rfl⟩
set_option maxRecDepth 100000 in
set_option maxHeartbeats 4000000 in
theorem v_X9_lampOf {D : DG} {z0 : Nat} {l : Launch} : ∀ (a0 : Option Nat) (a1 : Int32) (a2 : Int32) (σ : SG), V D z0 l RX9 cX9_lampOf 3 wsX9_lampOf (some .int) rmX9_lampOf false tvI 0 [some (va_rf a0), some (.int a1), some (.int a2)] [] σ 0 0 (m_X9_lampOf a0 a1 a2 σ) := by
  intro a0 a1 a2 σ
  unfold m_X9_lampOf
  refine V_aload_n (x := a0) dX9_lampOf_0 rfl ?_
  refine V_iload_n (x := a1) dX9_lampOf_1 rfl ?_
  refine V_callV0 (As := [.int a1]) (st0 := []) (stI := [.int a1, va_rf a0]) (fun _ h => by cases h; exact t_X9_isLamp _ a1 σ) (q := (RX9, TX9, 15)) rfl rfl rfl (Nat.le_of_ble_eq_true rfl) rfl (fun s args hts => cwV 1 hts gX9_lampOf_X9_isLamp rfl rfl rfl (by decide +kernel) ⟨Nat.le_of_ble_eq_true rfl, Nat.le_of_ble_eq_true rfl⟩) rfl rfl dX9_lampOf_2 (fun r1 σ2 _ => ?_)
  refine V_if_ne (tgt := 12) (x := r1) dX9_lampOf_5 (by decide) (fun hc3 => ?_) (fun hc3 => ?_)
  · refine V_iconst (v := (-1 : Int32)) dX9_lampOf_8 rfl ?_
    refine V_goto (tgt := 39) dX9_lampOf_9 (by decide) ?_
    exact V_iret (fun _ => rfl) rfl (Nat.zero_le _) (Nat.zero_le _) dX9_lampOf_39
  · refine V_iload_n (x := a2) dX9_lampOf_12 rfl ?_
    refine V_iconst (v := (0 : Int32)) dX9_lampOf_13 rfl ?_
    refine V_iconst (v := (4 : Int32)) dX9_lampOf_14 rfl ?_
    refine V_callS0 (As := [.int a2, .int (0 : Int32), .int (4 : Int32)]) (st0 := []) (stI := [.int (4 : Int32), .int (0 : Int32), .int a2]) (t_X9_in a2 (0 : Int32) (4 : Int32) σ2) rfl (Nat.le_of_ble_eq_true rfl) rfl (fun s args hts => va_cwS 3 hts gX9_lampOf_X9_in rfl rfl rfl (by decide +kernel) ⟨Nat.le_of_ble_eq_true rfl, Nat.le_of_ble_eq_true rfl⟩) rfl rfl dX9_lampOf_15 (fun r4 σ5 _ => ?_)
    refine V_if_eq (tgt := 37) (x := r4) dX9_lampOf_18 (by decide) (fun hc6 => ?_) (fun hc6 => ?_)
    · refine V_bipush (v := (-2 : Int32)) dX9_lampOf_37 rfl ?_
      exact V_iret (fun _ => rfl) rfl (Nat.zero_le _) (Nat.zero_le _) dX9_lampOf_39
    · refine V_aload_n (x := a0) dX9_lampOf_21 rfl ?_
      refine V_getR fd_X9_lampOf_7_X9 dX9_lampOf_22 (fun x7 => ?_)
      refine V_iload_n (x := a1) dX9_lampOf_25 rfl ?_
      refine V_callS0 (As := [.int a1]) (st0 := [va_rf x7]) (stI := [.int a1, va_rf x7]) (t_X9_l a1 σ5) rfl (by simp only [List.map_cons, List.map_nil, List.sum_cons, List.sum_nil, va_rf_cat, catI, catF]; decide) rfl (fun s args hts => va_cwS 1 hts gX9_lampOf_X9_l rfl rfl rfl (by decide +kernel) ⟨Nat.le_of_ble_eq_true rfl, Nat.le_of_ble_eq_true rfl⟩) rfl rfl dX9_lampOf_26 (fun r8 σ9 _ => ?_)
      refine V_iconst (v := (1 : Int32)) dX9_lampOf_29 rfl ?_
      refine V_iadd (x := r8) (y := (1 : Int32)) dX9_lampOf_30 ?_
      refine V_iload_n (x := a2) dX9_lampOf_31 rfl ?_
      refine V_iadd (x := (r8 + (1 : Int32))) (y := a2) dX9_lampOf_32 ?_
      refine V_iaload dX9_lampOf_33 (fun x10 => ?_)
      refine V_goto (tgt := 39) dX9_lampOf_34 (by decide) ?_
      exact V_iret (fun _ => rfl) rfl (Nat.zero_le _) (Nat.zero_le _) dX9_lampOf_39
theorem t_X9_lampOf {D : DG} {z0 : Nat} {l : Launch} (a : Nat) (a1 : Int32) (a2 : Int32) (σ : SG) : MT D z0 l yX9_lampOf wsX9_lampOf rmX9_lampOf tvI [.ref a, .int a1, .int a2] σ (m_X9_lampOf (some a) a1 a2 σ) :=
  MT.of (own := RX9) (cc := cX9_lampOf) (nL := 3) (ret := (some .int)) (ct := false) (by decide) rfl rfl (fun h => by cases h) (Nat.le_of_ble_eq_true rfl) (by intro v hv; simp only [List.mem_cons, List.not_mem_nil, or_false] at hv; first | (rcases hv with rfl | rfl | rfl <;> first | rfl | exact va_rf_cat _) | exact absurd hv (fun h => h)) (v_X9_lampOf (some a) a1 a2 σ)
theorem in_X9_receiver_X9 : ∀ w ∈ u_ws RX9 TX9 15, w ∈ wsX9_receiver := by decide +kernel
theorem wd_X9_receiver_1 : Cond.fieldLink RX9 7 "MainsWordsModel" "s" "[I" ∈ wsX9_receiver := by decide +kernel
theorem fd_X9_receiver_7_X9 : FD RX9 7 wsX9_receiver 8 0 := ⟨RX9, "MainsWordsModel", TX9, 15, rfl, in_X9_receiver_X9, by decide, wd_X9_receiver_1, Or.inl rfl⟩
set_option maxRecDepth 100000 in
set_option maxHeartbeats 4000000 in
theorem v_X9_receiver {D : DG} {z0 : Nat} {l : Launch} : ∀ (a0 : Option Nat) (a1 : Int32) (a2 : Int32) (σ : SG), V D z0 l RX9 cX9_receiver 4 wsX9_receiver (some .int) rmX9_receiver false tvI 0 [some (va_rf a0), some (.int a1), some (.int a2), none] [] σ 0 0 (m_X9_receiver a0 a1 a2 σ) := by
  intro a0 a1 a2 σ
  unfold m_X9_receiver
  refine V_iload_n (x := a1) dX9_receiver_0 rfl ?_
  refine V_callS0 (As := [.int a1]) (st0 := []) (stI := [.int a1]) (t_X9_isWire a1 σ) rfl (Nat.le_of_ble_eq_true rfl) rfl (fun s args hts => va_cwS 1 hts gX9_receiver_X9_isWire rfl rfl rfl (by decide +kernel) ⟨Nat.le_of_ble_eq_true rfl, Nat.le_of_ble_eq_true rfl⟩) rfl rfl dX9_receiver_1 (fun r1 σ2 _ => ?_)
  refine V_if_ne (tgt := 9) (x := r1) dX9_receiver_4 (by decide) (fun hc3 => ?_) (fun hc3 => ?_)
  · refine V_iconst (v := (-1 : Int32)) dX9_receiver_7 rfl ?_
    exact V_iret (fun _ => rfl) rfl (Nat.zero_le _) (Nat.zero_le _) dX9_receiver_8
  · refine V_iload_n (x := a1) dX9_receiver_9 rfl ?_
    refine V_callS0 (As := [.int a1]) (st0 := []) (stI := [.int a1]) (t_X9_r a1 σ2) rfl (Nat.le_of_ble_eq_true rfl) rfl (fun s args hts => va_cwS 1 hts gX9_receiver_X9_r rfl rfl rfl (by decide +kernel) ⟨Nat.le_of_ble_eq_true rfl, Nat.le_of_ble_eq_true rfl⟩) rfl rfl dX9_receiver_10 (fun r4 σ5 _ => ?_)
    refine V_istore_n (x := r4) (ls' := [some (va_rf a0), some (.int a1), some (.int a2), some (.int r4)]) dX9_receiver_13 (by decide) rfl ?_
    refine V_iload_n (x := a2) dX9_receiver_14 rfl ?_
    refine V_table (x := a2) (tb := [(0, 48), (1, 74), (2, 99), (3, 126), (4, 158)]) (tgt := 168) dX9_receiver_15 (by decide) rfl (by decide) (List.forall_mem_cons.mpr ⟨?_, List.forall_mem_cons.mpr ⟨?_, List.forall_mem_cons.mpr ⟨?_, List.forall_mem_cons.mpr ⟨?_, List.forall_mem_cons.mpr ⟨?_, fun _ h => absurd h List.not_mem_nil⟩⟩⟩⟩⟩) ?_
    · dsimp only
      refine V_aload_n (x := a0) dX9_receiver_48 rfl ?_
      refine V_getR fd_X9_receiver_7_X9 dX9_receiver_49 (fun x6 => ?_)
      refine V_iload_n (x := r4) dX9_receiver_52 rfl ?_
      refine V_iconst (v := (0 : Int32)) dX9_receiver_53 rfl ?_
      refine V_iadd (x := r4) (y := (0 : Int32)) dX9_receiver_54 ?_
      refine V_iaload dX9_receiver_55 (fun x7 => ?_)
      refine V_iconst (v := (1 : Int32)) dX9_receiver_56 rfl ?_
      refine V_icmp_ne (tgt := 71) (x := x7) (y := (1 : Int32)) dX9_receiver_57 (by decide) (fun hc8 => ?_) (fun hc8 => ?_)
      · refine V_aload_n (x := a0) dX9_receiver_60 rfl ?_
        refine V_getR fd_X9_receiver_7_X9 dX9_receiver_61 (fun x9 => ?_)
        refine V_iload_n (x := r4) dX9_receiver_64 rfl ?_
        refine V_iconst (v := (2 : Int32)) dX9_receiver_65 rfl ?_
        refine V_iadd (x := r4) (y := (2 : Int32)) dX9_receiver_66 ?_
        refine V_iaload dX9_receiver_67 (fun x10 => ?_)
        refine V_goto (tgt := 73) dX9_receiver_68 (by decide) ?_
        exact V_iret (fun _ => rfl) rfl (Nat.zero_le _) (Nat.zero_le _) dX9_receiver_73
      · refine V_bipush (v := (-5 : Int32)) dX9_receiver_71 rfl ?_
        exact V_iret (fun _ => rfl) rfl (Nat.zero_le _) (Nat.zero_le _) dX9_receiver_73
    · dsimp only
      refine V_aload_n (x := a0) dX9_receiver_74 rfl ?_
      refine V_getR fd_X9_receiver_7_X9 dX9_receiver_75 (fun x11 => ?_)
      refine V_iload_n (x := r4) dX9_receiver_78 rfl ?_
      refine V_iconst (v := (0 : Int32)) dX9_receiver_79 rfl ?_
      refine V_iadd (x := r4) (y := (0 : Int32)) dX9_receiver_80 ?_
      refine V_iaload dX9_receiver_81 (fun x12 => ?_)
      refine V_if_ne (tgt := 96) (x := x12) dX9_receiver_82 (by decide) (fun hc13 => ?_) (fun hc13 => ?_)
      · refine V_aload_n (x := a0) dX9_receiver_85 rfl ?_
        refine V_getR fd_X9_receiver_7_X9 dX9_receiver_86 (fun x14 => ?_)
        refine V_iload_n (x := r4) dX9_receiver_89 rfl ?_
        refine V_iconst (v := (1 : Int32)) dX9_receiver_90 rfl ?_
        refine V_iadd (x := r4) (y := (1 : Int32)) dX9_receiver_91 ?_
        refine V_iaload dX9_receiver_92 (fun x15 => ?_)
        refine V_goto (tgt := 98) dX9_receiver_93 (by decide) ?_
        exact V_iret (fun _ => rfl) rfl (Nat.zero_le _) (Nat.zero_le _) dX9_receiver_98
      · refine V_bipush (v := (-5 : Int32)) dX9_receiver_96 rfl ?_
        exact V_iret (fun _ => rfl) rfl (Nat.zero_le _) (Nat.zero_le _) dX9_receiver_98
    · dsimp only
      refine V_aload_n (x := a0) dX9_receiver_99 rfl ?_
      refine V_getR fd_X9_receiver_7_X9 dX9_receiver_100 (fun x16 => ?_)
      refine V_iload_n (x := r4) dX9_receiver_103 rfl ?_
      refine V_iconst (v := (4 : Int32)) dX9_receiver_104 rfl ?_
      refine V_iadd (x := r4) (y := (4 : Int32)) dX9_receiver_105 ?_
      refine V_iaload dX9_receiver_106 (fun x17 => ?_)
      refine V_if_ne (tgt := 115) (x := x17) dX9_receiver_107 (by decide) (fun hc18 => ?_) (fun hc18 => ?_)
      · refine V_bipush (v := (-5 : Int32)) dX9_receiver_110 rfl ?_
        refine V_goto (tgt := 125) dX9_receiver_112 (by decide) ?_
        exact V_iret (fun _ => rfl) rfl (Nat.zero_le _) (Nat.zero_le _) dX9_receiver_125
      · refine V_aload_n (x := a0) dX9_receiver_115 rfl ?_
        refine V_getR fd_X9_receiver_7_X9 dX9_receiver_116 (fun x19 => ?_)
        refine V_iload_n (x := r4) dX9_receiver_119 rfl ?_
        refine V_iconst (v := (4 : Int32)) dX9_receiver_120 rfl ?_
        refine V_iadd (x := r4) (y := (4 : Int32)) dX9_receiver_121 ?_
        refine V_iaload dX9_receiver_122 (fun x20 => ?_)
        refine V_iconst (v := (1 : Int32)) dX9_receiver_123 rfl ?_
        refine V_isub (x := x20) (y := (1 : Int32)) dX9_receiver_124 ?_
        exact V_iret (fun _ => rfl) rfl (Nat.zero_le _) (Nat.zero_le _) dX9_receiver_125
    · dsimp only
      refine V_aload_n (x := a0) dX9_receiver_126 rfl ?_
      refine V_getR fd_X9_receiver_7_X9 dX9_receiver_127 (fun x21 => ?_)
      refine V_iload_n (x := r4) dX9_receiver_130 rfl ?_
      refine V_iconst (v := (4 : Int32)) dX9_receiver_131 rfl ?_
      refine V_iadd (x := r4) (y := (4 : Int32)) dX9_receiver_132 ?_
      refine V_iaload dX9_receiver_133 (fun x22 => ?_)
      refine V_if_ne (tgt := 142) (x := x22) dX9_receiver_134 (by decide) (fun hc23 => ?_) (fun hc23 => ?_)
      · refine V_bipush (v := (-5 : Int32)) dX9_receiver_137 rfl ?_
        refine V_goto (tgt := 157) dX9_receiver_139 (by decide) ?_
        exact V_iret (fun _ => rfl) rfl (Nat.zero_le _) (Nat.zero_le _) dX9_receiver_157
      · refine V_aload_n (x := a0) dX9_receiver_142 rfl ?_
        refine V_getR fd_X9_receiver_7_X9 dX9_receiver_143 (fun x24 => ?_)
        refine V_iconst (v := (4 : Int32)) dX9_receiver_146 rfl ?_
        refine V_iaload dX9_receiver_147 (fun x25 => ?_)
        refine V_aload_n (x := a0) dX9_receiver_148 rfl ?_
        refine V_getR fd_X9_receiver_7_X9 dX9_receiver_149 (fun x26 => ?_)
        refine V_iload_n (x := r4) dX9_receiver_152 rfl ?_
        refine V_iconst (v := (5 : Int32)) dX9_receiver_153 rfl ?_
        refine V_iadd (x := r4) (y := (5 : Int32)) dX9_receiver_154 ?_
        refine V_iaload dX9_receiver_155 (fun x27 => ?_)
        refine V_isub (x := x25) (y := x27) dX9_receiver_156 ?_
        exact V_iret (fun _ => rfl) rfl (Nat.zero_le _) (Nat.zero_le _) dX9_receiver_157
    · dsimp only
      refine V_aload_n (x := a0) dX9_receiver_158 rfl ?_
      refine V_getR fd_X9_receiver_7_X9 dX9_receiver_159 (fun x28 => ?_)
      refine V_iload_n (x := r4) dX9_receiver_162 rfl ?_
      refine V_bipush (v := (6 : Int32)) dX9_receiver_163 rfl ?_
      refine V_iadd (x := r4) (y := (6 : Int32)) dX9_receiver_165 ?_
      refine V_iaload dX9_receiver_166 (fun x29 => ?_)
      exact V_iret (fun _ => rfl) rfl (Nat.zero_le _) (Nat.zero_le _) dX9_receiver_167
    · refine V_bipush (v := (-2 : Int32)) dX9_receiver_168 rfl ?_
      exact V_iret (fun _ => rfl) rfl (Nat.zero_le _) (Nat.zero_le _) dX9_receiver_170
theorem t_X9_receiver {D : DG} {z0 : Nat} {l : Launch} (a : Nat) (a1 : Int32) (a2 : Int32) (σ : SG) : MT D z0 l yX9_receiver wsX9_receiver rmX9_receiver tvI [.ref a, .int a1, .int a2] σ (m_X9_receiver (some a) a1 a2 σ) :=
  MT.of (own := RX9) (cc := cX9_receiver) (nL := 4) (ret := (some .int)) (ct := false) (by decide) rfl rfl (fun h => by cases h) (Nat.le_of_ble_eq_true rfl) (by intro v hv; simp only [List.mem_cons, List.not_mem_nil, or_false] at hv; first | (rcases hv with rfl | rfl | rfl <;> first | rfl | exact va_rf_cat _) | exact absurd hv (fun h => h)) (v_X9_receiver (some a) a1 a2 σ)
set_option maxRecDepth 100000 in
set_option maxHeartbeats 4000000 in
theorem v_X9_frame {D : DG} {z0 : Nat} {l : Launch} : ∀ (a0 : Option Nat) (a1 : Int32) (a2 : Int32) (σ : SG), V D z0 l RX9 cX9_frame 3 wsX9_frame (some .int) rmX9_frame false tvI 0 [some (va_rf a0), some (.int a1), some (.int a2)] [] σ 0 0 (m_X9_frame a0 a1 a2 σ) := by
  intro a0 a1 a2 σ
  unfold m_X9_frame
  refine V_iload_n (x := a1) dX9_frame_0 rfl ?_
  refine V_iconst (v := (0 : Int32)) dX9_frame_1 rfl ?_
  refine V_bipush (v := (31 : Int32)) dX9_frame_2 rfl ?_
  refine V_callS0 (As := [.int a1, .int (0 : Int32), .int (31 : Int32)]) (st0 := []) (stI := [.int (31 : Int32), .int (0 : Int32), .int a1]) (t_X9_in a1 (0 : Int32) (31 : Int32) σ) rfl (Nat.le_of_ble_eq_true rfl) rfl (fun s args hts => va_cwS 3 hts gX9_frame_X9_in rfl rfl rfl (by decide +kernel) ⟨Nat.le_of_ble_eq_true rfl, Nat.le_of_ble_eq_true rfl⟩) rfl rfl dX9_frame_4 (fun r1 σ2 _ => ?_)
  refine V_if_eq (tgt := 28) (x := r1) dX9_frame_7 (by decide) (fun hc3 => ?_) (fun hc3 => ?_)
  · refine V_bipush (v := (-2 : Int32)) dX9_frame_28 rfl ?_
    exact V_iret (fun _ => rfl) rfl (Nat.zero_le _) (Nat.zero_le _) dX9_frame_30
  · refine V_iload_n (x := a2) dX9_frame_10 rfl ?_
    refine V_iconst (v := (0 : Int32)) dX9_frame_11 rfl ?_
    refine V_bipush (v := (13 : Int32)) dX9_frame_12 rfl ?_
    refine V_callS0 (As := [.int a2, .int (0 : Int32), .int (13 : Int32)]) (st0 := []) (stI := [.int (13 : Int32), .int (0 : Int32), .int a2]) (t_X9_in a2 (0 : Int32) (13 : Int32) σ2) rfl (Nat.le_of_ble_eq_true rfl) rfl (fun s args hts => va_cwS 3 hts gX9_frame_X9_in rfl rfl rfl (by decide +kernel) ⟨Nat.le_of_ble_eq_true rfl, Nat.le_of_ble_eq_true rfl⟩) rfl rfl dX9_frame_14 (fun r4 σ5 _ => ?_)
    refine V_if_eq (tgt := 28) (x := r4) dX9_frame_17 (by decide) (fun hc6 => ?_) (fun hc6 => ?_)
    · refine V_bipush (v := (-2 : Int32)) dX9_frame_28 rfl ?_
      exact V_iret (fun _ => rfl) rfl (Nat.zero_le _) (Nat.zero_le _) dX9_frame_30
    · refine V_iload_n (x := a1) dX9_frame_20 rfl ?_
      refine V_iload_n (x := a2) dX9_frame_21 rfl ?_
      refine V_callS0 (As := [.int a1, .int a2]) (st0 := []) (stI := [.int a2, .int a1]) (t_X9_frameBit a1 a2 σ5) rfl (Nat.le_of_ble_eq_true rfl) rfl (fun s args hts => va_cwS 2 hts gX9_frame_X9_frameBit rfl rfl rfl (by decide +kernel) ⟨Nat.le_of_ble_eq_true rfl, Nat.le_of_ble_eq_true rfl⟩) rfl rfl dX9_frame_22 (fun r7 σ8 _ => ?_)
      refine V_goto (tgt := 30) dX9_frame_25 (by decide) ?_
      exact V_iret (fun _ => rfl) rfl (Nat.zero_le _) (Nat.zero_le _) dX9_frame_30
theorem t_X9_frame {D : DG} {z0 : Nat} {l : Launch} (a : Nat) (a1 : Int32) (a2 : Int32) (σ : SG) : MT D z0 l yX9_frame wsX9_frame rmX9_frame tvI [.ref a, .int a1, .int a2] σ (m_X9_frame (some a) a1 a2 σ) :=
  MT.of (own := RX9) (cc := cX9_frame) (nL := 3) (ret := (some .int)) (ct := false) (by decide) rfl rfl (fun h => by cases h) (Nat.le_of_ble_eq_true rfl) (by intro v hv; simp only [List.mem_cons, List.not_mem_nil, or_false] at hv; first | (rcases hv with rfl | rfl | rfl <;> first | rfl | exact va_rf_cat _) | exact absurd hv (fun h => h)) (v_X9_frame (some a) a1 a2 σ)
set_option maxRecDepth 100000 in
set_option maxHeartbeats 4000000 in
theorem v_X9_loss {D : DG} {z0 : Nat} {l : Launch} : ∀ (a0 : Option Nat) (a1 : Int32) (a2 : Int32) (σ : SG), V D z0 l RX9 cX9_loss 3 wsX9_loss (some .int) rmX9_loss false tvI 0 [some (va_rf a0), some (.int a1), some (.int a2)] [] σ 0 0 (m_X9_loss a0 a1 a2 σ) := by
  intro a0 a1 a2 σ
  unfold m_X9_loss
  refine V_iload_n (x := a1) dX9_loss_0 rfl ?_
  refine V_callS0 (As := [.int a1]) (st0 := []) (stI := [.int a1]) (t_X9_isWire a1 σ) rfl (Nat.le_of_ble_eq_true rfl) rfl (fun s args hts => va_cwS 1 hts gX9_loss_X9_isWire rfl rfl rfl (by decide +kernel) ⟨Nat.le_of_ble_eq_true rfl, Nat.le_of_ble_eq_true rfl⟩) rfl rfl dX9_loss_1 (fun r1 σ2 _ => ?_)
  refine V_if_eq (tgt := 23) (x := r1) dX9_loss_4 (by decide) (fun hc3 => ?_) (fun hc3 => ?_)
  · refine V_iconst (v := (-1 : Int32)) dX9_loss_23 rfl ?_
    exact V_iret (fun _ => rfl) rfl (Nat.zero_le _) (Nat.zero_le _) dX9_loss_24
  · refine V_iload_n (x := a2) dX9_loss_7 rfl ?_
    refine V_callS0 (As := [.int a2]) (st0 := []) (stI := [.int a2]) (t_X9_isWire a2 σ2) rfl (Nat.le_of_ble_eq_true rfl) rfl (fun s args hts => va_cwS 1 hts gX9_loss_X9_isWire rfl rfl rfl (by decide +kernel) ⟨Nat.le_of_ble_eq_true rfl, Nat.le_of_ble_eq_true rfl⟩) rfl rfl dX9_loss_8 (fun r4 σ5 _ => ?_)
    refine V_if_eq (tgt := 23) (x := r4) dX9_loss_11 (by decide) (fun hc6 => ?_) (fun hc6 => ?_)
    · refine V_iconst (v := (-1 : Int32)) dX9_loss_23 rfl ?_
      exact V_iret (fun _ => rfl) rfl (Nat.zero_le _) (Nat.zero_le _) dX9_loss_24
    · refine V_aload_n (x := a0) dX9_loss_14 rfl ?_
      refine V_iload_n (x := a1) dX9_loss_15 rfl ?_
      refine V_iload_n (x := a2) dX9_loss_16 rfl ?_
      refine V_callV0 (As := [.int a1, .int a2]) (st0 := []) (stI := [.int a2, .int a1, va_rf a0]) (fun _ h => by cases h; exact t_X9_lossOf _ a1 a2 σ5) (q := (RX9, TX9, 15)) rfl rfl rfl (Nat.le_of_ble_eq_true rfl) rfl (fun s args hts => cwV 2 hts gX9_loss_X9_lossOf rfl rfl rfl (by decide +kernel) ⟨Nat.le_of_ble_eq_true rfl, Nat.le_of_ble_eq_true rfl⟩) rfl rfl dX9_loss_17 (fun r7 σ8 _ => ?_)
      refine V_goto (tgt := 24) dX9_loss_20 (by decide) ?_
      exact V_iret (fun _ => rfl) rfl (Nat.zero_le _) (Nat.zero_le _) dX9_loss_24
theorem t_X9_loss {D : DG} {z0 : Nat} {l : Launch} (a : Nat) (a1 : Int32) (a2 : Int32) (σ : SG) : MT D z0 l yX9_loss wsX9_loss rmX9_loss tvI [.ref a, .int a1, .int a2] σ (m_X9_loss (some a) a1 a2 σ) :=
  MT.of (own := RX9) (cc := cX9_loss) (nL := 3) (ret := (some .int)) (ct := false) (by decide) rfl rfl (fun h => by cases h) (Nat.le_of_ble_eq_true rfl) (by intro v hv; simp only [List.mem_cons, List.not_mem_nil, or_false] at hv; first | (rcases hv with rfl | rfl | rfl <;> first | rfl | exact va_rf_cat _) | exact absurd hv (fun h => h)) (v_X9_loss (some a) a1 a2 σ)
theorem in_X9_ofSenders_X9 : ∀ w ∈ u_ws RX9 TX9 15, w ∈ wsX9_ofSenders := by decide +kernel
theorem wd_X9_ofSenders_1 : Cond.fieldLink RX9 7 "MainsWordsModel" "s" "[I" ∈ wsX9_ofSenders := by decide +kernel
theorem fd_X9_ofSenders_7_X9 : FD RX9 7 wsX9_ofSenders 8 0 := ⟨RX9, "MainsWordsModel", TX9, 15, rfl, in_X9_ofSenders_X9, by decide, wd_X9_ofSenders_1, Or.inl rfl⟩
set_option maxRecDepth 100000 in
set_option maxHeartbeats 4000000 in
theorem v_X9_ofSenders_b59 {D : DG} {z0 : Nat} {l : Launch} {rec4 : Option Nat → Int32 → Int32 → Int32 → SG → Option (Int32 × SG)} (hrec4 : ∀ (v0 : Option Nat) (v1 : Int32) (v2 : Int32) (v3 : Int32) (σ : SG), V D z0 l RX9 cX9_ofSenders 4 wsX9_ofSenders (some .int) rmX9_ofSenders false tvI 4 [some (va_rf v0), some (.int v1), some (.int v2), some (.int v3)] [] σ 0 0 (rec4 v0 v1 v2 v3 σ)) : ∀ (v0 : Option Nat) (v1 : Int32) (v2 : Int32) (v3 : Int32) (σ : SG), V D z0 l RX9 cX9_ofSenders 4 wsX9_ofSenders (some .int) rmX9_ofSenders false tvI 59 [some (va_rf v0), some (.int v1), some (.int v2), some (.int v3)] [] σ 0 0 (m_X9_ofSenders_b59 rec4 v0 v1 v2 v3 σ) := by
  intro v0 v1 v2 v3 σ
  unfold m_X9_ofSenders_b59
  refine V_iinc (x := v3) (v := (v3 + 1)) (ls' := [some (va_rf v0), some (.int v1), some (.int v2), some (.int (v3 + 1))]) dX9_ofSenders_59 rfl rfl (by decide) rfl ?_
  refine V_goto (tgt := 4) dX9_ofSenders_62 (by decide) ?_
  exact hrec4 v0 v1 v2 ((v3 + 1)) σ
set_option maxRecDepth 100000 in
set_option maxHeartbeats 4000000 in
theorem v_X9_ofSenders_b57 {D : DG} {z0 : Nat} {l : Launch} {rec4 : Option Nat → Int32 → Int32 → Int32 → SG → Option (Int32 × SG)} (hrec4 : ∀ (v0 : Option Nat) (v1 : Int32) (v2 : Int32) (v3 : Int32) (σ : SG), V D z0 l RX9 cX9_ofSenders 4 wsX9_ofSenders (some .int) rmX9_ofSenders false tvI 4 [some (va_rf v0), some (.int v1), some (.int v2), some (.int v3)] [] σ 0 0 (rec4 v0 v1 v2 v3 σ)) : ∀ (v0 : Option Nat) (v1 : Int32) (v3 : Int32) (s0 : Int32) (s1 : Int32) (σ : SG), V D z0 l RX9 cX9_ofSenders 4 wsX9_ofSenders (some .int) rmX9_ofSenders false tvI 57 [some (va_rf v0), some (.int v1), none, some (.int v3)] [.int s1, .int s0] σ 0 0 (m_X9_ofSenders_b57 rec4 v0 v1 v3 s0 s1 σ) := by
  intro v0 v1 v3 s0 s1 σ
  unfold m_X9_ofSenders_b57
  refine V_iadd (x := s0) (y := s1) dX9_ofSenders_57 ?_
  refine V_istore_n (x := (s0 + s1)) (ls' := [some (va_rf v0), some (.int v1), some (.int (s0 + s1)), some (.int v3)]) dX9_ofSenders_58 (by decide) rfl ?_
  exact v_X9_ofSenders_b59 hrec4 v0 v1 ((s0 + s1)) v3 σ
set_option maxRecDepth 100000 in
set_option maxHeartbeats 4000000 in
theorem v_X9_ofSenders_B4 {D : DG} {z0 : Nat} {l : Launch} {rec4 : Option Nat → Int32 → Int32 → Int32 → SG → Option (Int32 × SG)} (hrec4 : ∀ (v0 : Option Nat) (v1 : Int32) (v2 : Int32) (v3 : Int32) (σ : SG), V D z0 l RX9 cX9_ofSenders 4 wsX9_ofSenders (some .int) rmX9_ofSenders false tvI 4 [some (va_rf v0), some (.int v1), some (.int v2), some (.int v3)] [] σ 0 0 (rec4 v0 v1 v2 v3 σ)) : ∀ (v0 : Option Nat) (v1 : Int32) (v2 : Int32) (v3 : Int32) (σ : SG), V D z0 l RX9 cX9_ofSenders 4 wsX9_ofSenders (some .int) rmX9_ofSenders false tvI 4 [some (va_rf v0), some (.int v1), some (.int v2), some (.int v3)] [] σ 0 0 (m_X9_ofSenders_B4 rec4 v0 v1 v2 v3 σ) := by
  intro v0 v1 v2 v3 σ
  unfold m_X9_ofSenders_B4
  refine V_iload_n (x := v3) dX9_ofSenders_4 rfl ?_
  refine V_iconst (v := (5 : Int32)) dX9_ofSenders_5 rfl ?_
  refine V_icmp_ge (tgt := 65) (x := v3) (y := (5 : Int32)) dX9_ofSenders_6 (by decide) (fun hc1 => ?_) (fun hc1 => ?_)
  · refine V_iload_n (x := v2) dX9_ofSenders_65 rfl ?_
    exact V_iret (fun _ => rfl) rfl (Nat.zero_le _) (Nat.zero_le _) dX9_ofSenders_66
  · refine V_aload_n (x := v0) dX9_ofSenders_9 rfl ?_
    refine V_iload_n (x := v3) dX9_ofSenders_10 rfl ?_
    refine V_callV0 (As := [.int v3]) (st0 := []) (stI := [.int v3, va_rf v0]) (fun _ h => by cases h; exact t_X9_isSender _ v3 σ) (q := (RX9, TX9, 15)) rfl rfl rfl (Nat.le_of_ble_eq_true rfl) rfl (fun s args hts => cwV 1 hts gX9_ofSenders_X9_isSender rfl rfl rfl (by decide +kernel) ⟨Nat.le_of_ble_eq_true rfl, Nat.le_of_ble_eq_true rfl⟩) rfl rfl dX9_ofSenders_11 (fun r2 σ3 _ => ?_)
    refine V_if_eq (tgt := 59) (x := r2) dX9_ofSenders_14 (by decide) (fun hc4 => ?_) (fun hc4 => ?_)
    · exact v_X9_ofSenders_b59 hrec4 v0 v1 v2 v3 σ3
    · refine V_iload_n (x := v2) dX9_ofSenders_17 rfl ?_
      refine V_iload_n (x := v1) dX9_ofSenders_18 rfl ?_
      refine V_iconst (v := (1 : Int32)) dX9_ofSenders_19 rfl ?_
      refine V_icmp_ne (tgt := 27) (x := v1) (y := (1 : Int32)) dX9_ofSenders_20 (by decide) (fun hc5 => ?_) (fun hc5 => ?_)
      · refine V_iconst (v := (1 : Int32)) dX9_ofSenders_23 rfl ?_
        refine V_goto (tgt := 57) dX9_ofSenders_24 (by decide) ?_
        exact V_sub (LE.s (LE.s (LE.n (LE.s LE.e)))) (v_X9_ofSenders_b57 hrec4 v0 v1 v3 v2 ((1 : Int32)) σ3)
      · refine V_iload_n (x := v1) dX9_ofSenders_27 rfl ?_
        refine V_iconst (v := (4 : Int32)) dX9_ofSenders_28 rfl ?_
        refine V_icmp_ne (tgt := 46) (x := v1) (y := (4 : Int32)) dX9_ofSenders_29 (by decide) (fun hc6 => ?_) (fun hc6 => ?_)
        · refine V_aload_n (x := v0) dX9_ofSenders_32 rfl ?_
          refine V_getR fd_X9_ofSenders_7_X9 dX9_ofSenders_33 (fun x7 => ?_)
          refine V_iload_n (x := v3) dX9_ofSenders_36 rfl ?_
          refine V_callS0 (As := [.int v3]) (st0 := [va_rf x7, .int v2]) (stI := [.int v3, va_rf x7, .int v2]) (t_X9_n v3 σ3) rfl (by simp only [List.map_cons, List.map_nil, List.sum_cons, List.sum_nil, va_rf_cat, catI, catF]; decide) rfl (fun s args hts => va_cwS 1 hts gX9_ofSenders_X9_n rfl rfl rfl (by decide +kernel) ⟨Nat.le_of_ble_eq_true rfl, Nat.le_of_ble_eq_true rfl⟩) rfl rfl dX9_ofSenders_37 (fun r8 σ9 _ => ?_)
          refine V_iconst (v := (4 : Int32)) dX9_ofSenders_40 rfl ?_
          refine V_iadd (x := r8) (y := (4 : Int32)) dX9_ofSenders_41 ?_
          refine V_iaload dX9_ofSenders_42 (fun x10 => ?_)
          refine V_goto (tgt := 57) dX9_ofSenders_43 (by decide) ?_
          exact V_sub (LE.s (LE.s (LE.n (LE.s LE.e)))) (v_X9_ofSenders_b57 hrec4 v0 v1 v3 v2 x10 σ9)
        · refine V_aload_n (x := v0) dX9_ofSenders_46 rfl ?_
          refine V_getR fd_X9_ofSenders_7_X9 dX9_ofSenders_47 (fun x11 => ?_)
          refine V_iload_n (x := v3) dX9_ofSenders_50 rfl ?_
          refine V_callS0 (As := [.int v3]) (st0 := [va_rf x11, .int v2]) (stI := [.int v3, va_rf x11, .int v2]) (t_X9_n v3 σ3) rfl (by simp only [List.map_cons, List.map_nil, List.sum_cons, List.sum_nil, va_rf_cat, catI, catF]; decide) rfl (fun s args hts => va_cwS 1 hts gX9_ofSenders_X9_n rfl rfl rfl (by decide +kernel) ⟨Nat.le_of_ble_eq_true rfl, Nat.le_of_ble_eq_true rfl⟩) rfl rfl dX9_ofSenders_51 (fun r12 σ13 _ => ?_)
          refine V_iconst (v := (3 : Int32)) dX9_ofSenders_54 rfl ?_
          refine V_iadd (x := r12) (y := (3 : Int32)) dX9_ofSenders_55 ?_
          refine V_iaload dX9_ofSenders_56 (fun x14 => ?_)
          exact V_sub (LE.s (LE.s (LE.n (LE.s LE.e)))) (v_X9_ofSenders_b57 hrec4 v0 v1 v3 v2 x14 σ13)
theorem v_X9_ofSenders_L4 {D : DG} {z0 : Nat} {l : Launch} : ∀ (n : Nat) (v0 : Option Nat) (v1 : Int32) (v2 : Int32) (v3 : Int32) (σ : SG), V D z0 l RX9 cX9_ofSenders 4 wsX9_ofSenders (some .int) rmX9_ofSenders false tvI 4 [some (va_rf v0), some (.int v1), some (.int v2), some (.int v3)] [] σ 0 0 (m_X9_ofSenders_L4 n v0 v1 v2 v3 σ) := by
  intro n
  induction n with
  | zero => intros; exact V_none
  | succ n ih => exact v_X9_ofSenders_B4  ih
set_option maxRecDepth 100000 in
set_option maxHeartbeats 4000000 in
theorem v_X9_ofSenders {D : DG} {z0 : Nat} {l : Launch} : ∀ (a0 : Option Nat) (a1 : Int32) (σ : SG), V D z0 l RX9 cX9_ofSenders 4 wsX9_ofSenders (some .int) rmX9_ofSenders false tvI 0 [some (va_rf a0), some (.int a1), none, none] [] σ 0 0 (m_X9_ofSenders a0 a1 σ) := by
  intro a0 a1 σ
  unfold m_X9_ofSenders
  refine V_iconst (v := (0 : Int32)) dX9_ofSenders_0 rfl ?_
  refine V_istore_n (x := (0 : Int32)) (ls' := [some (va_rf a0), some (.int a1), some (.int (0 : Int32)), none]) dX9_ofSenders_1 (by decide) rfl ?_
  refine V_iconst (v := (0 : Int32)) dX9_ofSenders_2 rfl ?_
  refine V_istore_n (x := (0 : Int32)) (ls' := [some (va_rf a0), some (.int a1), some (.int (0 : Int32)), some (.int (0 : Int32))]) dX9_ofSenders_3 (by decide) rfl ?_
  exact v_X9_ofSenders_L4  1000 a0 a1 ((0 : Int32)) ((0 : Int32)) σ
theorem t_X9_ofSenders {D : DG} {z0 : Nat} {l : Launch} (a : Nat) (a1 : Int32) (σ : SG) : MT D z0 l yX9_ofSenders wsX9_ofSenders rmX9_ofSenders tvI [.ref a, .int a1] σ (m_X9_ofSenders (some a) a1 σ) :=
  MT.of (own := RX9) (cc := cX9_ofSenders) (nL := 4) (ret := (some .int)) (ct := false) (by decide) rfl rfl (fun h => by cases h) (Nat.le_of_ble_eq_true rfl) (by intro v hv; simp only [List.mem_cons, List.not_mem_nil, or_false] at hv; first | (rcases hv with rfl | rfl <;> first | rfl | exact va_rf_cat _) | exact absurd hv (fun h => h)) (v_X9_ofSenders (some a) a1 σ)
theorem in_X9_ofLamps_X9 : ∀ w ∈ u_ws RX9 TX9 15, w ∈ wsX9_ofLamps := by decide +kernel
theorem wd_X9_ofLamps_1 : Cond.fieldLink RX9 7 "MainsWordsModel" "s" "[I" ∈ wsX9_ofLamps := by decide +kernel
theorem fd_X9_ofLamps_7_X9 : FD RX9 7 wsX9_ofLamps 8 0 := ⟨RX9, "MainsWordsModel", TX9, 15, rfl, in_X9_ofLamps_X9, by decide, wd_X9_ofLamps_1, Or.inl rfl⟩
set_option maxRecDepth 100000 in
set_option maxHeartbeats 4000000 in
theorem v_X9_ofLamps_b43 {D : DG} {z0 : Nat} {l : Launch} {rec4 : Option Nat → Int32 → Int32 → Int32 → SG → Option (Int32 × SG)} (hrec4 : ∀ (v0 : Option Nat) (v1 : Int32) (v2 : Int32) (v3 : Int32) (σ : SG), V D z0 l RX9 cX9_ofLamps 4 wsX9_ofLamps (some .int) rmX9_ofLamps false tvI 4 [some (va_rf v0), some (.int v1), some (.int v2), some (.int v3)] [] σ 0 0 (rec4 v0 v1 v2 v3 σ)) : ∀ (v0 : Option Nat) (v1 : Int32) (v3 : Int32) (s0 : Int32) (s1 : Int32) (σ : SG), V D z0 l RX9 cX9_ofLamps 4 wsX9_ofLamps (some .int) rmX9_ofLamps false tvI 43 [some (va_rf v0), some (.int v1), none, some (.int v3)] [.int s1, .int s0] σ 0 0 (m_X9_ofLamps_b43 rec4 v0 v1 v3 s0 s1 σ) := by
  intro v0 v1 v3 s0 s1 σ
  unfold m_X9_ofLamps_b43
  refine V_iadd (x := s0) (y := s1) dX9_ofLamps_43 ?_
  refine V_istore_n (x := (s0 + s1)) (ls' := [some (va_rf v0), some (.int v1), some (.int (s0 + s1)), some (.int v3)]) dX9_ofLamps_44 (by decide) rfl ?_
  refine V_iinc (x := v3) (v := (v3 + 1)) (ls' := [some (va_rf v0), some (.int v1), some (.int (s0 + s1)), some (.int (v3 + 1))]) dX9_ofLamps_45 rfl rfl (by decide) rfl ?_
  refine V_goto (tgt := 4) dX9_ofLamps_48 (by decide) ?_
  exact hrec4 v0 v1 ((s0 + s1)) ((v3 + 1)) σ
set_option maxRecDepth 100000 in
set_option maxHeartbeats 4000000 in
theorem v_X9_ofLamps_b42 {D : DG} {z0 : Nat} {l : Launch} {rec4 : Option Nat → Int32 → Int32 → Int32 → SG → Option (Int32 × SG)} (hrec4 : ∀ (v0 : Option Nat) (v1 : Int32) (v2 : Int32) (v3 : Int32) (σ : SG), V D z0 l RX9 cX9_ofLamps 4 wsX9_ofLamps (some .int) rmX9_ofLamps false tvI 4 [some (va_rf v0), some (.int v1), some (.int v2), some (.int v3)] [] σ 0 0 (rec4 v0 v1 v2 v3 σ)) : ∀ (v0 : Option Nat) (v1 : Int32) (v3 : Int32) (s0 : Int32) (σ : SG), V D z0 l RX9 cX9_ofLamps 4 wsX9_ofLamps (some .int) rmX9_ofLamps false tvI 42 [some (va_rf v0), some (.int v1), none, some (.int v3)] [.int s0] σ 0 0 (m_X9_ofLamps_b42 rec4 v0 v1 v3 s0 σ) := by
  intro v0 v1 v3 s0 σ
  unfold m_X9_ofLamps_b42
  refine V_iconst (v := (0 : Int32)) dX9_ofLamps_42 rfl ?_
  exact v_X9_ofLamps_b43 hrec4 v0 v1 v3 s0 ((0 : Int32)) σ
set_option maxRecDepth 100000 in
set_option maxHeartbeats 4000000 in
theorem v_X9_ofLamps_b38 {D : DG} {z0 : Nat} {l : Launch} {rec4 : Option Nat → Int32 → Int32 → Int32 → SG → Option (Int32 × SG)} (hrec4 : ∀ (v0 : Option Nat) (v1 : Int32) (v2 : Int32) (v3 : Int32) (σ : SG), V D z0 l RX9 cX9_ofLamps 4 wsX9_ofLamps (some .int) rmX9_ofLamps false tvI 4 [some (va_rf v0), some (.int v1), some (.int v2), some (.int v3)] [] σ 0 0 (rec4 v0 v1 v2 v3 σ)) : ∀ (v0 : Option Nat) (v1 : Int32) (v3 : Int32) (s0 : Int32) (σ : SG), V D z0 l RX9 cX9_ofLamps 4 wsX9_ofLamps (some .int) rmX9_ofLamps false tvI 38 [some (va_rf v0), some (.int v1), none, some (.int v3)] [.int s0] σ 0 0 (m_X9_ofLamps_b38 rec4 v0 v1 v3 s0 σ) := by
  intro v0 v1 v3 s0 σ
  unfold m_X9_ofLamps_b38
  refine V_iconst (v := (1 : Int32)) dX9_ofLamps_38 rfl ?_
  refine V_goto (tgt := 43) dX9_ofLamps_39 (by decide) ?_
  exact v_X9_ofLamps_b43 hrec4 v0 v1 v3 s0 ((1 : Int32)) σ
set_option maxRecDepth 100000 in
set_option maxHeartbeats 4000000 in
theorem v_X9_ofLamps_B4 {D : DG} {z0 : Nat} {l : Launch} {rec4 : Option Nat → Int32 → Int32 → Int32 → SG → Option (Int32 × SG)} (hrec4 : ∀ (v0 : Option Nat) (v1 : Int32) (v2 : Int32) (v3 : Int32) (σ : SG), V D z0 l RX9 cX9_ofLamps 4 wsX9_ofLamps (some .int) rmX9_ofLamps false tvI 4 [some (va_rf v0), some (.int v1), some (.int v2), some (.int v3)] [] σ 0 0 (rec4 v0 v1 v2 v3 σ)) : ∀ (v0 : Option Nat) (v1 : Int32) (v2 : Int32) (v3 : Int32) (σ : SG), V D z0 l RX9 cX9_ofLamps 4 wsX9_ofLamps (some .int) rmX9_ofLamps false tvI 4 [some (va_rf v0), some (.int v1), some (.int v2), some (.int v3)] [] σ 0 0 (m_X9_ofLamps_B4 rec4 v0 v1 v2 v3 σ) := by
  intro v0 v1 v2 v3 σ
  unfold m_X9_ofLamps_B4
  refine V_iload_n (x := v3) dX9_ofLamps_4 rfl ?_
  refine V_bipush (v := (8 : Int32)) dX9_ofLamps_5 rfl ?_
  refine V_icmp_ge (tgt := 51) (x := v3) (y := (8 : Int32)) dX9_ofLamps_7 (by decide) (fun hc1 => ?_) (fun hc1 => ?_)
  · refine V_iload_n (x := v2) dX9_ofLamps_51 rfl ?_
    exact V_iret (fun _ => rfl) rfl (Nat.zero_le _) (Nat.zero_le _) dX9_ofLamps_52
  · refine V_iload_n (x := v2) dX9_ofLamps_10 rfl ?_
    refine V_aload_n (x := v0) dX9_ofLamps_11 rfl ?_
    refine V_iload_n (x := v3) dX9_ofLamps_12 rfl ?_
    refine V_callV0 (As := [.int v3]) (st0 := [.int v2]) (stI := [.int v3, va_rf v0, .int v2]) (fun _ h => by cases h; exact t_X9_isLamp _ v3 σ) (q := (RX9, TX9, 15)) rfl rfl rfl (Nat.le_of_ble_eq_true rfl) rfl (fun s args hts => cwV 1 hts gX9_ofLamps_X9_isLamp rfl rfl rfl (by decide +kernel) ⟨Nat.le_of_ble_eq_true rfl, Nat.le_of_ble_eq_true rfl⟩) rfl rfl dX9_ofLamps_13 (fun r2 σ3 _ => ?_)
    refine V_if_eq (tgt := 42) (x := r2) dX9_ofLamps_16 (by decide) (fun hc4 => ?_) (fun hc4 => ?_)
    · exact V_sub (LE.s (LE.s (LE.n (LE.s LE.e)))) (v_X9_ofLamps_b42 hrec4 v0 v1 v3 v2 σ3)
    · refine V_iload_n (x := v1) dX9_ofLamps_19 rfl ?_
      refine V_iconst (v := (3 : Int32)) dX9_ofLamps_20 rfl ?_
      refine V_icmp_eq (tgt := 38) (x := v1) (y := (3 : Int32)) dX9_ofLamps_21 (by decide) (fun hc5 => ?_) (fun hc5 => ?_)
      · exact V_sub (LE.s (LE.s (LE.n (LE.s LE.e)))) (v_X9_ofLamps_b38 hrec4 v0 v1 v3 v2 σ3)
      · refine V_aload_n (x := v0) dX9_ofLamps_24 rfl ?_
        refine V_getR fd_X9_ofLamps_7_X9 dX9_ofLamps_25 (fun x6 => ?_)
        refine V_iload_n (x := v3) dX9_ofLamps_28 rfl ?_
        refine V_callS0 (As := [.int v3]) (st0 := [va_rf x6, .int v2]) (stI := [.int v3, va_rf x6, .int v2]) (t_X9_l v3 σ3) rfl (by simp only [List.map_cons, List.map_nil, List.sum_cons, List.sum_nil, va_rf_cat, catI, catF]; decide) rfl (fun s args hts => va_cwS 1 hts gX9_ofLamps_X9_l rfl rfl rfl (by decide +kernel) ⟨Nat.le_of_ble_eq_true rfl, Nat.le_of_ble_eq_true rfl⟩) rfl rfl dX9_ofLamps_29 (fun r7 σ8 _ => ?_)
        refine V_iconst (v := (4 : Int32)) dX9_ofLamps_32 rfl ?_
        refine V_iadd (x := r7) (y := (4 : Int32)) dX9_ofLamps_33 ?_
        refine V_iaload dX9_ofLamps_34 (fun x9 => ?_)
        refine V_if_le (tgt := 42) (x := x9) dX9_ofLamps_35 (by decide) (fun hc10 => ?_) (fun hc10 => ?_)
        · exact V_sub (LE.s (LE.s (LE.n (LE.s LE.e)))) (v_X9_ofLamps_b42 hrec4 v0 v1 v3 v2 σ8)
        · exact V_sub (LE.s (LE.s (LE.n (LE.s LE.e)))) (v_X9_ofLamps_b38 hrec4 v0 v1 v3 v2 σ8)
theorem v_X9_ofLamps_L4 {D : DG} {z0 : Nat} {l : Launch} : ∀ (n : Nat) (v0 : Option Nat) (v1 : Int32) (v2 : Int32) (v3 : Int32) (σ : SG), V D z0 l RX9 cX9_ofLamps 4 wsX9_ofLamps (some .int) rmX9_ofLamps false tvI 4 [some (va_rf v0), some (.int v1), some (.int v2), some (.int v3)] [] σ 0 0 (m_X9_ofLamps_L4 n v0 v1 v2 v3 σ) := by
  intro n
  induction n with
  | zero => intros; exact V_none
  | succ n ih => exact v_X9_ofLamps_B4  ih
set_option maxRecDepth 100000 in
set_option maxHeartbeats 4000000 in
theorem v_X9_ofLamps {D : DG} {z0 : Nat} {l : Launch} : ∀ (a0 : Option Nat) (a1 : Int32) (σ : SG), V D z0 l RX9 cX9_ofLamps 4 wsX9_ofLamps (some .int) rmX9_ofLamps false tvI 0 [some (va_rf a0), some (.int a1), none, none] [] σ 0 0 (m_X9_ofLamps a0 a1 σ) := by
  intro a0 a1 σ
  unfold m_X9_ofLamps
  refine V_iconst (v := (0 : Int32)) dX9_ofLamps_0 rfl ?_
  refine V_istore_n (x := (0 : Int32)) (ls' := [some (va_rf a0), some (.int a1), some (.int (0 : Int32)), none]) dX9_ofLamps_1 (by decide) rfl ?_
  refine V_iconst (v := (0 : Int32)) dX9_ofLamps_2 rfl ?_
  refine V_istore_n (x := (0 : Int32)) (ls' := [some (va_rf a0), some (.int a1), some (.int (0 : Int32)), some (.int (0 : Int32))]) dX9_ofLamps_3 (by decide) rfl ?_
  exact v_X9_ofLamps_L4  1000 a0 a1 ((0 : Int32)) ((0 : Int32)) σ
theorem t_X9_ofLamps {D : DG} {z0 : Nat} {l : Launch} (a : Nat) (a1 : Int32) (σ : SG) : MT D z0 l yX9_ofLamps wsX9_ofLamps rmX9_ofLamps tvI [.ref a, .int a1] σ (m_X9_ofLamps (some a) a1 σ) :=
  MT.of (own := RX9) (cc := cX9_ofLamps) (nL := 4) (ret := (some .int)) (ct := false) (by decide) rfl rfl (fun h => by cases h) (Nat.le_of_ble_eq_true rfl) (by intro v hv; simp only [List.mem_cons, List.not_mem_nil, or_false] at hv; first | (rcases hv with rfl | rfl <;> first | rfl | exact va_rf_cat _) | exact absurd hv (fun h => h)) (v_X9_ofLamps (some a) a1 σ)
