theorem in_X0_keep_X0 : ∀ w ∈ u_ws RX0 TX0 2, w ∈ wsX0_keep := by decide +kernel
theorem wd_X0_keep_1 : Cond.fieldLink RX0 17 "MainsWords$History" "kept" "I" ∈ wsX0_keep := by decide +kernel
theorem fd_X0_keep_17_X0 : FD RX0 17 wsX0_keep 0 1 := ⟨RX0, "MainsWords$History", TX0, 2, rfl, in_X0_keep_X0, by decide, wd_X0_keep_1, Or.inl rfl⟩
theorem wd_X0_keep_3 : Cond.fieldLink RX0 11 "MainsWords$History" "states" "[LMainsWords$Net;" ∈ wsX0_keep := by decide +kernel
theorem fd_X0_keep_11_X0 : FD RX0 11 wsX0_keep 0 0 := ⟨RX0, "MainsWords$History", TX0, 2, rfl, in_X0_keep_X0, by decide, wd_X0_keep_3, Or.inl rfl⟩
theorem fw_X0_keep_X0_1 : FW RX0 wsX0_keep 0 1 .int false := ⟨RX0, TX0, 2, tyX0, rfl, in_X0_keep_X0, tyX0_ok, nmX0, rfl, (fun h => by cases h), rfl⟩
set_option maxRecDepth 100000 in
set_option maxHeartbeats 4000000 in
theorem v_X0_keep_b16 {D : DG} {z0 : Nat} {l : Launch} : ∀ (v0 : Option Nat) (v1 : Option Nat) (σ : SG), V D z0 l RX0 cX0_keep 2 wsX0_keep none rmX0_keep false tvU 16 [some (va_rf v0), some (va_rf v1)] [] σ 0 0 (m_X0_keep_b16 v0 v1 σ) := by
  intro v0 v1 σ
  unfold m_X0_keep_b16
  refine V_aload_n (x := v0) dX0_keep_16 rfl ?_
  refine V_getI fd_X0_keep_17_X0 dX0_keep_17 (fun x1 => ?_)
  refine V_if_lt (tgt := 58) (x := x1) dX0_keep_20 (by decide) (fun hc2 => ?_) (fun hc2 => ?_)
  · exact V_vret (fun _ => rfl) rfl (Nat.zero_le _) (Nat.zero_le _) dX0_keep_58
  · refine V_aload_n (x := v0) dX0_keep_23 rfl ?_
    refine V_getI fd_X0_keep_17_X0 dX0_keep_24 (fun x3 => ?_)
    refine V_aload_n (x := v0) dX0_keep_27 rfl ?_
    refine V_getR fd_X0_keep_11_X0 dX0_keep_28 (fun x4 => ?_)
    refine V_alen dX0_keep_31 (fun x5 => ?_)
    refine V_icmp_ge (tgt := 58) (x := x3) (y := x5) dX0_keep_32 (by decide) (fun hc6 => ?_) (fun hc6 => ?_)
    · exact V_vret (fun _ => rfl) rfl (Nat.zero_le _) (Nat.zero_le _) dX0_keep_58
    · refine V_aload_n (x := v0) dX0_keep_35 rfl ?_
      refine V_getR fd_X0_keep_11_X0 dX0_keep_36 (fun x7 => ?_)
      refine V_aload_n (x := v0) dX0_keep_39 rfl ?_
      refine V_getI fd_X0_keep_17_X0 dX0_keep_40 (fun x8 => ?_)
      refine V_aaload dX0_keep_43 (fun x9 => ?_)
      refine V_aload_n (x := v1) dX0_keep_44 rfl ?_
      refine V_callV0 (As := [va_rf v1]) (st0 := []) (stI := [va_rf v1, va_rf x9]) (fun _ h => by cases h; exact t_X3_copyFrom _ v1 σ) (q := (RX3, TX3, 8)) rfl rfl rfl (Nat.le_of_ble_eq_true rfl) rfl (fun s args hts => cwV 1 hts gX0_keep_X3_copyFrom rfl rfl rfl (by decide +kernel) ⟨Nat.le_of_ble_eq_true rfl, Nat.le_of_ble_eq_true rfl⟩) rfl rfl dX0_keep_45 (fun _ σ10 _ => ?_)
      refine V_aload_n (x := v0) dX0_keep_48 rfl ?_
      refine V_dup dX0_keep_49 (va_rf_cat _) ?_
      refine V_getI fd_X0_keep_17_X0 dX0_keep_50 (fun x11 => ?_)
      refine V_iconst (v := (1 : Int32)) dX0_keep_53 rfl ?_
      refine V_iadd (x := x11) (y := (1 : Int32)) dX0_keep_54 ?_
      refine V_putI fd_X0_keep_17_X0 fw_X0_keep_X0_1 (fun h => by cases h) dX0_keep_55 (fun σ12 hσ12 => ?_)
      exact V_vret (fun _ => rfl) rfl (Nat.zero_le _) (Nat.zero_le _) dX0_keep_58
set_option maxRecDepth 100000 in
set_option maxHeartbeats 4000000 in
theorem v_X0_keep {D : DG} {z0 : Nat} {l : Launch} : ∀ (a0 : Option Nat) (a1 : Option Nat) (σ : SG), V D z0 l RX0 cX0_keep 2 wsX0_keep none rmX0_keep false tvU 0 [some (va_rf a0), some (va_rf a1)] [] σ 0 0 (m_X0_keep a0 a1 σ) := by
  intro a0 a1 σ
  unfold m_X0_keep
  refine V_aload_n (x := a0) dX0_keep_0 rfl ?_
  refine V_getI fd_X0_keep_17_X0 dX0_keep_1 (fun x13 => ?_)
  refine V_aload_n (x := a0) dX0_keep_4 rfl ?_
  refine V_getR fd_X0_keep_11_X0 dX0_keep_5 (fun x14 => ?_)
  refine V_alen dX0_keep_8 (fun x15 => ?_)
  refine V_icmp_lt (tgt := 16) (x := x13) (y := x15) dX0_keep_9 (by decide) (fun hc16 => ?_) (fun hc16 => ?_)
  · exact v_X0_keep_b16  a0 a1 σ
  · refine V_aload_n (x := a0) dX0_keep_12 rfl ?_
    refine V_callV0 (As := []) (st0 := []) (stI := [va_rf a0]) (fun _ h => by cases h; exact t_X0_dropOldest _ σ) (q := (RX0, TX0, 2)) rfl rfl rfl (Nat.le_of_ble_eq_true rfl) rfl (fun s args hts => cwV 0 hts gX0_keep_X0_dropOldest rfl rfl rfl (by decide +kernel) ⟨Nat.le_of_ble_eq_true rfl, Nat.le_of_ble_eq_true rfl⟩) rfl rfl dX0_keep_13 (fun _ σ17 _ => ?_)
    exact v_X0_keep_b16  a0 a1 σ17
theorem t_X0_keep {D : DG} {z0 : Nat} {l : Launch} (a : Nat) (a1 : Option Nat) (σ : SG) : MT D z0 l yX0_keep wsX0_keep rmX0_keep tvU [.ref a, va_rf a1] σ (m_X0_keep (some a) a1 σ) :=
  MT.of (own := RX0) (cc := cX0_keep) (nL := 2) (ret := none) (ct := false) (by decide) rfl rfl (fun h => by cases h) (Nat.le_of_ble_eq_true rfl) (by intro v hv; simp only [List.mem_cons, List.not_mem_nil, or_false] at hv; first | (rcases hv with rfl | rfl <;> first | rfl | exact va_rf_cat _) | exact absurd hv (fun h => h)) (v_X0_keep (some a) a1 σ)
theorem in_X0_takeBack_X0 : ∀ w ∈ u_ws RX0 TX0 2, w ∈ wsX0_takeBack := by decide +kernel
theorem wd_X0_takeBack_1 : Cond.fieldLink RX0 17 "MainsWords$History" "kept" "I" ∈ wsX0_takeBack := by decide +kernel
theorem fd_X0_takeBack_17_X0 : FD RX0 17 wsX0_takeBack 0 1 := ⟨RX0, "MainsWords$History", TX0, 2, rfl, in_X0_takeBack_X0, by decide, wd_X0_takeBack_1, Or.inl rfl⟩
theorem wd_X0_takeBack_3 : Cond.fieldLink RX0 11 "MainsWords$History" "states" "[LMainsWords$Net;" ∈ wsX0_takeBack := by decide +kernel
theorem fd_X0_takeBack_11_X0 : FD RX0 11 wsX0_takeBack 0 0 := ⟨RX0, "MainsWords$History", TX0, 2, rfl, in_X0_takeBack_X0, by decide, wd_X0_takeBack_3, Or.inl rfl⟩
theorem fw_X0_takeBack_X0_1 : FW RX0 wsX0_takeBack 0 1 .int false := ⟨RX0, TX0, 2, tyX0, rfl, in_X0_takeBack_X0, tyX0_ok, nmX0, rfl, (fun h => by cases h), rfl⟩
set_option maxRecDepth 100000 in
set_option maxHeartbeats 4000000 in
theorem v_X0_takeBack {D : DG} {z0 : Nat} {l : Launch} : ∀ (a0 : Option Nat) (a1 : Option Nat) (σ : SG), V D z0 l RX0 cX0_takeBack 2 wsX0_takeBack none rmX0_takeBack false tvU 0 [some (va_rf a0), some (va_rf a1)] [] σ 0 0 (m_X0_takeBack a0 a1 σ) := by
  intro a0 a1 σ
  unfold m_X0_takeBack
  refine V_aload_n (x := a0) dX0_takeBack_0 rfl ?_
  refine V_getI fd_X0_takeBack_17_X0 dX0_takeBack_1 (fun x1 => ?_)
  refine V_if_le (tgt := 42) (x := x1) dX0_takeBack_4 (by decide) (fun hc2 => ?_) (fun hc2 => ?_)
  · exact V_vret (fun _ => rfl) rfl (Nat.zero_le _) (Nat.zero_le _) dX0_takeBack_42
  · refine V_aload_n (x := a0) dX0_takeBack_7 rfl ?_
    refine V_getI fd_X0_takeBack_17_X0 dX0_takeBack_8 (fun x3 => ?_)
    refine V_aload_n (x := a0) dX0_takeBack_11 rfl ?_
    refine V_getR fd_X0_takeBack_11_X0 dX0_takeBack_12 (fun x4 => ?_)
    refine V_alen dX0_takeBack_15 (fun x5 => ?_)
    refine V_icmp_gt (tgt := 42) (x := x3) (y := x5) dX0_takeBack_16 (by decide) (fun hc6 => ?_) (fun hc6 => ?_)
    · exact V_vret (fun _ => rfl) rfl (Nat.zero_le _) (Nat.zero_le _) dX0_takeBack_42
    · refine V_aload_n (x := a0) dX0_takeBack_19 rfl ?_
      refine V_dup dX0_takeBack_20 (va_rf_cat _) ?_
      refine V_getI fd_X0_takeBack_17_X0 dX0_takeBack_21 (fun x7 => ?_)
      refine V_iconst (v := (1 : Int32)) dX0_takeBack_24 rfl ?_
      refine V_isub (x := x7) (y := (1 : Int32)) dX0_takeBack_25 ?_
      refine V_putI fd_X0_takeBack_17_X0 fw_X0_takeBack_X0_1 (fun h => by cases h) dX0_takeBack_26 (fun σ8 hσ8 => ?_)
      refine V_aload_n (x := a1) dX0_takeBack_29 rfl ?_
      refine V_aload_n (x := a0) dX0_takeBack_30 rfl ?_
      refine V_getR fd_X0_takeBack_11_X0 dX0_takeBack_31 (fun x9 => ?_)
      refine V_aload_n (x := a0) dX0_takeBack_34 rfl ?_
      refine V_getI fd_X0_takeBack_17_X0 dX0_takeBack_35 (fun x10 => ?_)
      refine V_aaload dX0_takeBack_38 (fun x11 => ?_)
      refine V_callV0 (As := [va_rf x11]) (st0 := []) (stI := [va_rf x11, va_rf a1]) (fun _ h => by cases h; exact t_X3_copyFrom _ x11 σ8) (q := (RX3, TX3, 8)) rfl rfl rfl (Nat.le_of_ble_eq_true rfl) rfl (fun s args hts => cwV 1 hts gX0_takeBack_X3_copyFrom rfl rfl rfl (by decide +kernel) ⟨Nat.le_of_ble_eq_true rfl, Nat.le_of_ble_eq_true rfl⟩) rfl rfl dX0_takeBack_39 (fun _ σ12 _ => ?_)
      exact V_vret (fun _ => rfl) rfl (Nat.zero_le _) (Nat.zero_le _) dX0_takeBack_42
theorem t_X0_takeBack {D : DG} {z0 : Nat} {l : Launch} (a : Nat) (a1 : Option Nat) (σ : SG) : MT D z0 l yX0_takeBack wsX0_takeBack rmX0_takeBack tvU [.ref a, va_rf a1] σ (m_X0_takeBack (some a) a1 σ) :=
  MT.of (own := RX0) (cc := cX0_takeBack) (nL := 2) (ret := none) (ct := false) (by decide) rfl rfl (fun h => by cases h) (Nat.le_of_ble_eq_true rfl) (by intro v hv; simp only [List.mem_cons, List.not_mem_nil, or_false] at hv; first | (rcases hv with rfl | rfl <;> first | rfl | exact va_rf_cat _) | exact absurd hv (fun h => h)) (v_X0_takeBack (some a) a1 σ)
theorem wd_X1_put_0 : Cond.sameField "MainsWords$Lamp" "MainsWords$Thing" "isPresent" "Z" ∈ wsX1_put := by decide +kernel
theorem in_X1_put_X1 : ∀ w ∈ u_ws RX1 TX1 7, w ∈ wsX1_put := by decide +kernel
theorem wd_X1_put_2 : Cond.fieldLink RX1 25 "MainsWords$Lamp" "isPresent" "Z" ∈ wsX1_put := by decide +kernel
theorem fd_X1_put_25_X1 : FD RX1 25 wsX1_put 1 1 := ⟨RX1, "MainsWords$Lamp", TX1, 7, rfl, in_X1_put_X1, by decide, wd_X1_put_2, Or.inr wd_X1_put_0⟩
theorem fw_X1_put_X1_1 : FW RX1 wsX1_put 1 1 .boolean false := ⟨RX1, TX1, 7, tyX1, rfl, in_X1_put_X1, tyX1_ok, nmX1, rfl, (fun h => by cases h), rfl⟩
theorem wd_X1_put_5 : Cond.sameField "MainsWords$Lamp" "MainsWords$Thing" "wire" "I" ∈ wsX1_put := by decide +kernel
theorem wd_X1_put_6 : Cond.fieldLink RX1 28 "MainsWords$Lamp" "wire" "I" ∈ wsX1_put := by decide +kernel
theorem fd_X1_put_28_X1 : FD RX1 28 wsX1_put 1 2 := ⟨RX1, "MainsWords$Lamp", TX1, 7, rfl, in_X1_put_X1, by decide, wd_X1_put_6, Or.inr wd_X1_put_5⟩
theorem fw_X1_put_X1_2 : FW RX1 wsX1_put 1 2 .int false := ⟨RX1, TX1, 7, tyX1, rfl, in_X1_put_X1, tyX1_ok, nmX1, rfl, (fun h => by cases h), rfl⟩
theorem wd_X1_put_9 : Cond.fieldLink RX1 9 "MainsWords$Lamp" "letter" "I" ∈ wsX1_put := by decide +kernel
theorem fd_X1_put_9_X1 : FD RX1 9 wsX1_put 1 3 := ⟨RX1, "MainsWords$Lamp", TX1, 7, rfl, in_X1_put_X1, by decide, wd_X1_put_9, Or.inl rfl⟩
theorem fw_X1_put_X1_3 : FW RX1 wsX1_put 1 3 .int false := ⟨RX1, TX1, 7, tyX1, rfl, in_X1_put_X1, tyX1_ok, nmX1, rfl, (fun h => by cases h), rfl⟩
theorem wd_X1_put_12 : Cond.fieldLink RX1 15 "MainsWords$Lamp" "unit" "I" ∈ wsX1_put := by decide +kernel
theorem fd_X1_put_15_X1 : FD RX1 15 wsX1_put 1 4 := ⟨RX1, "MainsWords$Lamp", TX1, 7, rfl, in_X1_put_X1, by decide, wd_X1_put_12, Or.inl rfl⟩
theorem fw_X1_put_X1_4 : FW RX1 wsX1_put 1 4 .int false := ⟨RX1, TX1, 7, tyX1, rfl, in_X1_put_X1, tyX1_ok, nmX1, rfl, (fun h => by cases h), rfl⟩
theorem wd_X1_put_15 : Cond.fieldLink RX1 18 "MainsWords$Lamp" "level" "I" ∈ wsX1_put := by decide +kernel
theorem fd_X1_put_18_X1 : FD RX1 18 wsX1_put 1 5 := ⟨RX1, "MainsWords$Lamp", TX1, 7, rfl, in_X1_put_X1, by decide, wd_X1_put_15, Or.inl rfl⟩
theorem fw_X1_put_X1_5 : FW RX1 wsX1_put 1 5 .int false := ⟨RX1, TX1, 7, tyX1, rfl, in_X1_put_X1, tyX1_ok, nmX1, rfl, (fun h => by cases h), rfl⟩
theorem wd_X1_put_18 : Cond.fieldLink RX1 21 "MainsWords$Lamp" "isSelected" "Z" ∈ wsX1_put := by decide +kernel
theorem fd_X1_put_21_X1 : FD RX1 21 wsX1_put 1 6 := ⟨RX1, "MainsWords$Lamp", TX1, 7, rfl, in_X1_put_X1, by decide, wd_X1_put_18, Or.inl rfl⟩
theorem fw_X1_put_X1_6 : FW RX1 wsX1_put 1 6 .boolean false := ⟨RX1, TX1, 7, tyX1, rfl, in_X1_put_X1, tyX1_ok, nmX1, rfl, (fun h => by cases h), rfl⟩
set_option maxRecDepth 100000 in
set_option maxHeartbeats 4000000 in
theorem v_X1_put {D : DG} {z0 : Nat} {l : Launch} : ∀ (a0 : Option Nat) (a1 : Int32) (a2 : Int32) (a3 : Int32) (σ : SG), V D z0 l RX1 cX1_put 4 wsX1_put none rmX1_put false tvU 0 [some (va_rf a0), some (.int a1), some (.int a2), some (.int a3)] [] σ 0 0 (m_X1_put a0 a1 a2 a3 σ) := by
  intro a0 a1 a2 a3 σ
  unfold m_X1_put
  refine V_aload_n (x := a0) dX1_put_0 rfl ?_
  refine V_iconst (v := (1 : Int32)) dX1_put_1 rfl ?_
  refine V_putZ fd_X1_put_25_X1 fw_X1_put_X1_1 (fun h => by cases h) dX1_put_2 (fun σ1 hσ1 => ?_)
  refine V_aload_n (x := a0) dX1_put_5 rfl ?_
  refine V_iload_n (x := a1) dX1_put_6 rfl ?_
  refine V_putI fd_X1_put_28_X1 fw_X1_put_X1_2 (fun h => by cases h) dX1_put_7 (fun σ2 hσ2 => ?_)
  refine V_aload_n (x := a0) dX1_put_10 rfl ?_
  refine V_iload_n (x := a2) dX1_put_11 rfl ?_
  refine V_putI fd_X1_put_9_X1 fw_X1_put_X1_3 (fun h => by cases h) dX1_put_12 (fun σ3 hσ3 => ?_)
  refine V_aload_n (x := a0) dX1_put_15 rfl ?_
  refine V_iload_n (x := a3) dX1_put_16 rfl ?_
  refine V_putI fd_X1_put_15_X1 fw_X1_put_X1_4 (fun h => by cases h) dX1_put_17 (fun σ4 hσ4 => ?_)
  refine V_aload_n (x := a0) dX1_put_20 rfl ?_
  refine V_iconst (v := (0 : Int32)) dX1_put_21 rfl ?_
  refine V_putI fd_X1_put_18_X1 fw_X1_put_X1_5 (fun h => by cases h) dX1_put_22 (fun σ5 hσ5 => ?_)
  refine V_aload_n (x := a0) dX1_put_25 rfl ?_
  refine V_iconst (v := (0 : Int32)) dX1_put_26 rfl ?_
  refine V_putZ fd_X1_put_21_X1 fw_X1_put_X1_6 (fun h => by cases h) dX1_put_27 (fun σ6 hσ6 => ?_)
  exact V_vret (fun _ => rfl) rfl (Nat.zero_le _) (Nat.zero_le _) dX1_put_30
theorem t_X1_put {D : DG} {z0 : Nat} {l : Launch} (a : Nat) (a1 : Int32) (a2 : Int32) (a3 : Int32) (σ : SG) : MT D z0 l yX1_put wsX1_put rmX1_put tvU [.ref a, .int a1, .int a2, .int a3] σ (m_X1_put (some a) a1 a2 a3 σ) :=
  MT.of (own := RX1) (cc := cX1_put) (nL := 4) (ret := none) (ct := false) (by decide) rfl rfl (fun h => by cases h) (Nat.le_of_ble_eq_true rfl) (by intro v hv; simp only [List.mem_cons, List.not_mem_nil, or_false] at hv; first | (rcases hv with rfl | rfl | rfl | rfl <;> first | rfl | exact va_rf_cat _) | exact absurd hv (fun h => h)) (v_X1_put (some a) a1 a2 a3 σ)
theorem wd_X1_isCalledBy_0 : Cond.sameField "MainsWords$Lamp" "MainsWords$Thing" "isPresent" "Z" ∈ wsX1_isCalledBy := by decide +kernel
theorem in_X1_isCalledBy_X1 : ∀ w ∈ u_ws RX1 TX1 7, w ∈ wsX1_isCalledBy := by decide +kernel
theorem wd_X1_isCalledBy_2 : Cond.fieldLink RX1 25 "MainsWords$Lamp" "isPresent" "Z" ∈ wsX1_isCalledBy := by decide +kernel
theorem fd_X1_isCalledBy_25_X1 : FD RX1 25 wsX1_isCalledBy 1 1 := ⟨RX1, "MainsWords$Lamp", TX1, 7, rfl, in_X1_isCalledBy_X1, by decide, wd_X1_isCalledBy_2, Or.inr wd_X1_isCalledBy_0⟩
theorem wd_X1_isCalledBy_4 : Cond.sameField "MainsWords$Lamp" "MainsWords$Thing" "wire" "I" ∈ wsX1_isCalledBy := by decide +kernel
theorem wd_X1_isCalledBy_5 : Cond.fieldLink RX1 28 "MainsWords$Lamp" "wire" "I" ∈ wsX1_isCalledBy := by decide +kernel
theorem fd_X1_isCalledBy_28_X1 : FD RX1 28 wsX1_isCalledBy 1 2 := ⟨RX1, "MainsWords$Lamp", TX1, 7, rfl, in_X1_isCalledBy_X1, by decide, wd_X1_isCalledBy_5, Or.inr wd_X1_isCalledBy_4⟩
theorem wd_X1_isCalledBy_7 : Cond.fieldLink RX1 9 "MainsWords$Lamp" "letter" "I" ∈ wsX1_isCalledBy := by decide +kernel
theorem fd_X1_isCalledBy_9_X1 : FD RX1 9 wsX1_isCalledBy 1 3 := ⟨RX1, "MainsWords$Lamp", TX1, 7, rfl, in_X1_isCalledBy_X1, by decide, wd_X1_isCalledBy_7, Or.inl rfl⟩
set_option maxRecDepth 100000 in
set_option maxHeartbeats 4000000 in
theorem v_X1_isCalledBy {D : DG} {z0 : Nat} {l : Launch} : ∀ (a0 : Option Nat) (a1 : Int32) (a2 : Int32) (σ : SG), V D z0 l RX1 cX1_isCalledBy 3 wsX1_isCalledBy (some .boolean) rmX1_isCalledBy false tvI 0 [some (va_rf a0), some (.int a1), some (.int a2)] [] σ 0 0 (m_X1_isCalledBy a0 a1 a2 σ) := by
  intro a0 a1 a2 σ
  unfold m_X1_isCalledBy
  refine V_aload_n (x := a0) dX1_isCalledBy_0 rfl ?_
  refine V_getI fd_X1_isCalledBy_25_X1 dX1_isCalledBy_1 (fun x1 => ?_)
  refine V_if_eq (tgt := 27) (x := x1) dX1_isCalledBy_4 (by decide) (fun hc2 => ?_) (fun hc2 => ?_)
  · refine V_iconst (v := (0 : Int32)) dX1_isCalledBy_27 rfl ?_
    exact V_zret (fun _ => rfl) rfl (Nat.zero_le _) (Nat.zero_le _) dX1_isCalledBy_28
  · refine V_aload_n (x := a0) dX1_isCalledBy_7 rfl ?_
    refine V_getI fd_X1_isCalledBy_28_X1 dX1_isCalledBy_8 (fun x3 => ?_)
    refine V_iload_n (x := a1) dX1_isCalledBy_11 rfl ?_
    refine V_icmp_ne (tgt := 27) (x := x3) (y := a1) dX1_isCalledBy_12 (by decide) (fun hc4 => ?_) (fun hc4 => ?_)
    · refine V_aload_n (x := a0) dX1_isCalledBy_15 rfl ?_
      refine V_getI fd_X1_isCalledBy_9_X1 dX1_isCalledBy_16 (fun x5 => ?_)
      refine V_iload_n (x := a2) dX1_isCalledBy_19 rfl ?_
      refine V_icmp_ne (tgt := 27) (x := x5) (y := a2) dX1_isCalledBy_20 (by decide) (fun hc6 => ?_) (fun hc6 => ?_)
      · refine V_iconst (v := (1 : Int32)) dX1_isCalledBy_23 rfl ?_
        refine V_goto (tgt := 28) dX1_isCalledBy_24 (by decide) ?_
        exact V_zret (fun _ => rfl) rfl (Nat.zero_le _) (Nat.zero_le _) dX1_isCalledBy_28
      · refine V_iconst (v := (0 : Int32)) dX1_isCalledBy_27 rfl ?_
        exact V_zret (fun _ => rfl) rfl (Nat.zero_le _) (Nat.zero_le _) dX1_isCalledBy_28
    · refine V_iconst (v := (0 : Int32)) dX1_isCalledBy_27 rfl ?_
      exact V_zret (fun _ => rfl) rfl (Nat.zero_le _) (Nat.zero_le _) dX1_isCalledBy_28
theorem t_X1_isCalledBy {D : DG} {z0 : Nat} {l : Launch} (a : Nat) (a1 : Int32) (a2 : Int32) (σ : SG) : MT D z0 l yX1_isCalledBy wsX1_isCalledBy rmX1_isCalledBy tvI [.ref a, .int a1, .int a2] σ (m_X1_isCalledBy (some a) a1 a2 σ) :=
  MT.of (own := RX1) (cc := cX1_isCalledBy) (nL := 3) (ret := (some .boolean)) (ct := false) (by decide) rfl rfl (fun h => by cases h) (Nat.le_of_ble_eq_true rfl) (by intro v hv; simp only [List.mem_cons, List.not_mem_nil, or_false] at hv; first | (rcases hv with rfl | rfl | rfl <;> first | rfl | exact va_rf_cat _) | exact absurd hv (fun h => h)) (v_X1_isCalledBy (some a) a1 a2 σ)
theorem in_X1_levelBy_X1 : ∀ w ∈ u_ws RX1 TX1 7, w ∈ wsX1_levelBy := by decide +kernel
theorem wd_X1_levelBy_1 : Cond.fieldLink RX1 18 "MainsWords$Lamp" "level" "I" ∈ wsX1_levelBy := by decide +kernel
theorem fd_X1_levelBy_18_X1 : FD RX1 18 wsX1_levelBy 1 5 := ⟨RX1, "MainsWords$Lamp", TX1, 7, rfl, in_X1_levelBy_X1, by decide, wd_X1_levelBy_1, Or.inl rfl⟩
set_option maxRecDepth 100000 in
set_option maxHeartbeats 4000000 in
theorem v_X1_levelBy {D : DG} {z0 : Nat} {l : Launch} : ∀ (a0 : Option Nat) (a1 : Int32) (σ : SG), V D z0 l RX1 cX1_levelBy 2 wsX1_levelBy (some .int) rmX1_levelBy false tvI 0 [some (va_rf a0), some (.int a1)] [] σ 0 0 (m_X1_levelBy a0 a1 σ) := by
  intro a0 a1 σ
  unfold m_X1_levelBy
  refine V_iload_n (x := a1) dX1_levelBy_0 rfl ?_
  refine V_table (x := a1) (tb := [(4, 28), (5, 31), (6, 33)]) (tgt := 54) dX1_levelBy_1 (by decide) rfl (by decide) (List.forall_mem_cons.mpr ⟨?_, List.forall_mem_cons.mpr ⟨?_, List.forall_mem_cons.mpr ⟨?_, fun _ h => absurd h List.not_mem_nil⟩⟩⟩) ?_
  · dsimp only
    refine V_bipush (v := (9 : Int32)) dX1_levelBy_28 rfl ?_
    exact V_iret (fun _ => rfl) rfl (Nat.zero_le _) (Nat.zero_le _) dX1_levelBy_30
  · dsimp only
    refine V_iconst (v := (0 : Int32)) dX1_levelBy_31 rfl ?_
    exact V_iret (fun _ => rfl) rfl (Nat.zero_le _) (Nat.zero_le _) dX1_levelBy_32
  · dsimp only
    refine V_aload_n (x := a0) dX1_levelBy_33 rfl ?_
    refine V_getI fd_X1_levelBy_18_X1 dX1_levelBy_34 (fun x1 => ?_)
    refine V_bipush (v := (9 : Int32)) dX1_levelBy_37 rfl ?_
    refine V_icmp_ge (tgt := 51) (x := x1) (y := (9 : Int32)) dX1_levelBy_39 (by decide) (fun hc2 => ?_) (fun hc2 => ?_)
    · refine V_bipush (v := (9 : Int32)) dX1_levelBy_51 rfl ?_
      exact V_iret (fun _ => rfl) rfl (Nat.zero_le _) (Nat.zero_le _) dX1_levelBy_53
    · refine V_aload_n (x := a0) dX1_levelBy_42 rfl ?_
      refine V_getI fd_X1_levelBy_18_X1 dX1_levelBy_43 (fun x3 => ?_)
      refine V_iconst (v := (1 : Int32)) dX1_levelBy_46 rfl ?_
      refine V_iadd (x := x3) (y := (1 : Int32)) dX1_levelBy_47 ?_
      refine V_goto (tgt := 53) dX1_levelBy_48 (by decide) ?_
      exact V_iret (fun _ => rfl) rfl (Nat.zero_le _) (Nat.zero_le _) dX1_levelBy_53
  · refine V_aload_n (x := a0) dX1_levelBy_54 rfl ?_
    refine V_getI fd_X1_levelBy_18_X1 dX1_levelBy_55 (fun x4 => ?_)
    exact V_iret (fun _ => rfl) rfl (Nat.zero_le _) (Nat.zero_le _) dX1_levelBy_58
theorem t_X1_levelBy {D : DG} {z0 : Nat} {l : Launch} (a : Nat) (a1 : Int32) (σ : SG) : MT D z0 l yX1_levelBy wsX1_levelBy rmX1_levelBy tvI [.ref a, .int a1] σ (m_X1_levelBy (some a) a1 σ) :=
  MT.of (own := RX1) (cc := cX1_levelBy) (nL := 2) (ret := (some .int)) (ct := false) (by decide) rfl rfl (fun h => by cases h) (Nat.le_of_ble_eq_true rfl) (by intro v hv; simp only [List.mem_cons, List.not_mem_nil, or_false] at hv; first | (rcases hv with rfl | rfl <;> first | rfl | exact va_rf_cat _) | exact absurd hv (fun h => h)) (v_X1_levelBy (some a) a1 σ)
theorem in_X1_obey_X1 : ∀ w ∈ u_ws RX1 TX1 7, w ∈ wsX1_obey := by decide +kernel
theorem wd_X1_obey_1 : Cond.fieldLink RX1 21 "MainsWords$Lamp" "isSelected" "Z" ∈ wsX1_obey := by decide +kernel
theorem fd_X1_obey_21_X1 : FD RX1 21 wsX1_obey 1 6 := ⟨RX1, "MainsWords$Lamp", TX1, 7, rfl, in_X1_obey_X1, by decide, wd_X1_obey_1, Or.inl rfl⟩
theorem fw_X1_obey_X1_6 : FW RX1 wsX1_obey 1 6 .boolean false := ⟨RX1, TX1, 7, tyX1, rfl, in_X1_obey_X1, tyX1_ok, nmX1, rfl, (fun h => by cases h), rfl⟩
theorem wd_X1_obey_4 : Cond.fieldLink RX1 18 "MainsWords$Lamp" "level" "I" ∈ wsX1_obey := by decide +kernel
theorem fd_X1_obey_18_X1 : FD RX1 18 wsX1_obey 1 5 := ⟨RX1, "MainsWords$Lamp", TX1, 7, rfl, in_X1_obey_X1, by decide, wd_X1_obey_4, Or.inl rfl⟩
theorem fw_X1_obey_X1_5 : FW RX1 wsX1_obey 1 5 .int false := ⟨RX1, TX1, 7, tyX1, rfl, in_X1_obey_X1, tyX1_ok, nmX1, rfl, (fun h => by cases h), rfl⟩
theorem wd_X1_obey_7 : Cond.fieldLink RX1 15 "MainsWords$Lamp" "unit" "I" ∈ wsX1_obey := by decide +kernel
theorem fd_X1_obey_15_X1 : FD RX1 15 wsX1_obey 1 4 := ⟨RX1, "MainsWords$Lamp", TX1, 7, rfl, in_X1_obey_X1, by decide, wd_X1_obey_7, Or.inl rfl⟩
set_option maxRecDepth 100000 in
set_option maxHeartbeats 4000000 in
theorem v_X1_obey_b30 {D : DG} {z0 : Nat} {l : Launch} : ∀ (s0 : Option Nat) (s1 : Int32) (σ : SG), V D z0 l RX1 cX1_obey 3 wsX1_obey none rmX1_obey false tvU 30 [none, none, none] [.int s1, va_rf s0] σ 0 0 (m_X1_obey_b30 s0 s1 σ) := by
  intro s0 s1 σ
  unfold m_X1_obey_b30
  refine V_putZ fd_X1_obey_21_X1 fw_X1_obey_X1_6 (fun h => by cases h) dX1_obey_30 (fun σ1 hσ1 => ?_)
  refine V_goto (tgt := 66) dX1_obey_33 (by decide) ?_
  exact V_vret (fun _ => rfl) rfl (Nat.zero_le _) (Nat.zero_le _) dX1_obey_66
set_option maxRecDepth 100000 in
set_option maxHeartbeats 4000000 in
theorem v_X1_obey_b29 {D : DG} {z0 : Nat} {l : Launch} : ∀ (s0 : Option Nat) (σ : SG), V D z0 l RX1 cX1_obey 3 wsX1_obey none rmX1_obey false tvU 29 [none, none, none] [va_rf s0] σ 0 0 (m_X1_obey_b29 s0 σ) := by
  intro s0 σ
  unfold m_X1_obey_b29
  refine V_iconst (v := (0 : Int32)) dX1_obey_29 rfl ?_
  exact v_X1_obey_b30  s0 ((0 : Int32)) σ
set_option maxRecDepth 100000 in
set_option maxHeartbeats 4000000 in
theorem v_X1_obey_b25 {D : DG} {z0 : Nat} {l : Launch} : ∀ (s0 : Option Nat) (σ : SG), V D z0 l RX1 cX1_obey 3 wsX1_obey none rmX1_obey false tvU 25 [none, none, none] [va_rf s0] σ 0 0 (m_X1_obey_b25 s0 σ) := by
  intro s0 σ
  unfold m_X1_obey_b25
  refine V_iconst (v := (1 : Int32)) dX1_obey_25 rfl ?_
  refine V_goto (tgt := 30) dX1_obey_26 (by decide) ?_
  exact v_X1_obey_b30  s0 ((1 : Int32)) σ
set_option maxRecDepth 100000 in
set_option maxHeartbeats 4000000 in
theorem v_X1_obey {D : DG} {z0 : Nat} {l : Launch} : ∀ (a0 : Option Nat) (a1 : Int32) (a2 : Int32) (σ : SG), V D z0 l RX1 cX1_obey 3 wsX1_obey none rmX1_obey false tvU 0 [some (va_rf a0), some (.int a1), some (.int a2)] [] σ 0 0 (m_X1_obey a0 a1 a2 σ) := by
  intro a0 a1 a2 σ
  unfold m_X1_obey
  refine V_iload_n (x := a1) dX1_obey_0 rfl ?_
  refine V_iconst (v := (4 : Int32)) dX1_obey_1 rfl ?_
  refine V_icmp_ge (tgt := 36) (x := a1) (y := (4 : Int32)) dX1_obey_2 (by decide) (fun hc2 => ?_) (fun hc2 => ?_)
  · refine V_iload_n (x := a1) dX1_obey_36 rfl ?_
    refine V_bipush (v := (7 : Int32)) dX1_obey_37 rfl ?_
    refine V_icmp_ne (tgt := 50) (x := a1) (y := (7 : Int32)) dX1_obey_39 (by decide) (fun hc3 => ?_) (fun hc3 => ?_)
    · refine V_aload_n (x := a0) dX1_obey_42 rfl ?_
      refine V_iconst (v := (0 : Int32)) dX1_obey_43 rfl ?_
      refine V_putI fd_X1_obey_18_X1 fw_X1_obey_X1_5 (fun h => by cases h) dX1_obey_44 (fun σ4 hσ4 => ?_)
      refine V_goto (tgt := 66) dX1_obey_47 (by decide) ?_
      exact V_vret (fun _ => rfl) rfl (Nat.zero_le _) (Nat.zero_le _) dX1_obey_66
    · refine V_aload_n (x := a0) dX1_obey_50 rfl ?_
      refine V_getI fd_X1_obey_21_X1 dX1_obey_51 (fun x5 => ?_)
      refine V_if_eq (tgt := 66) (x := x5) dX1_obey_54 (by decide) (fun hc6 => ?_) (fun hc6 => ?_)
      · exact V_vret (fun _ => rfl) rfl (Nat.zero_le _) (Nat.zero_le _) dX1_obey_66
      · refine V_aload_n (x := a0) dX1_obey_57 rfl ?_
        refine V_aload_n (x := a0) dX1_obey_58 rfl ?_
        refine V_iload_n (x := a1) dX1_obey_59 rfl ?_
        refine V_callV0 (As := [.int a1]) (st0 := [va_rf a0]) (stI := [.int a1, va_rf a0, va_rf a0]) (fun _ h => by cases h; exact t_X1_levelBy _ a1 σ) (q := (RX1, TX1, 7)) rfl rfl rfl (by simp only [List.map_cons, List.map_nil, List.sum_cons, List.sum_nil, va_rf_cat, catI, catF]; decide) rfl (fun s args hts => cwV 1 hts gX1_obey_X1_levelBy rfl rfl rfl (by decide +kernel) ⟨Nat.le_of_ble_eq_true rfl, Nat.le_of_ble_eq_true rfl⟩) rfl rfl dX1_obey_60 (fun r7 σ8 _ => ?_)
        refine V_putI fd_X1_obey_18_X1 fw_X1_obey_X1_5 (fun h => by cases h) dX1_obey_63 (fun σ9 hσ9 => ?_)
        exact V_vret (fun _ => rfl) rfl (Nat.zero_le _) (Nat.zero_le _) dX1_obey_66
  · refine V_aload_n (x := a0) dX1_obey_5 rfl ?_
    refine V_aload_n (x := a0) dX1_obey_6 rfl ?_
    refine V_getI fd_X1_obey_15_X1 dX1_obey_7 (fun x10 => ?_)
    refine V_iload_n (x := a1) dX1_obey_10 rfl ?_
    refine V_icmp_eq (tgt := 25) (x := x10) (y := a1) dX1_obey_11 (by decide) (fun hc11 => ?_) (fun hc11 => ?_)
    · exact V_sub (LE.n (LE.n (LE.n LE.e))) (v_X1_obey_b25  a0 σ)
    · refine V_aload_n (x := a0) dX1_obey_14 rfl ?_
      refine V_getI fd_X1_obey_21_X1 dX1_obey_15 (fun x12 => ?_)
      refine V_if_eq (tgt := 29) (x := x12) dX1_obey_18 (by decide) (fun hc13 => ?_) (fun hc13 => ?_)
      · exact V_sub (LE.n (LE.n (LE.n LE.e))) (v_X1_obey_b29  a0 σ)
      · refine V_iload_n (x := a2) dX1_obey_21 rfl ?_
        refine V_if_eq (tgt := 29) (x := a2) dX1_obey_22 (by decide) (fun hc14 => ?_) (fun hc14 => ?_)
        · exact V_sub (LE.n (LE.n (LE.n LE.e))) (v_X1_obey_b29  a0 σ)
        · exact V_sub (LE.n (LE.n (LE.n LE.e))) (v_X1_obey_b25  a0 σ)
theorem t_X1_obey {D : DG} {z0 : Nat} {l : Launch} (a : Nat) (a1 : Int32) (a2 : Int32) (σ : SG) : MT D z0 l yX1_obey wsX1_obey rmX1_obey tvU [.ref a, .int a1, .int a2] σ (m_X1_obey (some a) a1 a2 σ) :=
  MT.of (own := RX1) (cc := cX1_obey) (nL := 3) (ret := none) (ct := false) (by decide) rfl rfl (fun h => by cases h) (Nat.le_of_ble_eq_true rfl) (by intro v hv; simp only [List.mem_cons, List.not_mem_nil, or_false] at hv; first | (rcases hv with rfl | rfl | rfl <;> first | rfl | exact va_rf_cat _) | exact absurd hv (fun h => h)) (v_X1_obey (some a) a1 a2 σ)
theorem wd_X2_put_0 : Cond.sameField "MainsWords$Machine" "MainsWords$Thing" "isPresent" "Z" ∈ wsX2_put := by decide +kernel
theorem in_X2_put_X2 : ∀ w ∈ u_ws RX2 TX2 6, w ∈ wsX2_put := by decide +kernel
theorem wd_X2_put_2 : Cond.fieldLink RX2 22 "MainsWords$Machine" "isPresent" "Z" ∈ wsX2_put := by decide +kernel
theorem fd_X2_put_22_X2 : FD RX2 22 wsX2_put 2 1 := ⟨RX2, "MainsWords$Machine", TX2, 6, rfl, in_X2_put_X2, by decide, wd_X2_put_2, Or.inr wd_X2_put_0⟩
theorem fw_X2_put_X2_1 : FW RX2 wsX2_put 2 1 .boolean false := ⟨RX2, TX2, 6, tyX2, rfl, in_X2_put_X2, tyX2_ok, nmX2, rfl, (fun h => by cases h), rfl⟩
theorem wd_X2_put_5 : Cond.sameField "MainsWords$Machine" "MainsWords$Thing" "wire" "I" ∈ wsX2_put := by decide +kernel
theorem wd_X2_put_6 : Cond.fieldLink RX2 25 "MainsWords$Machine" "wire" "I" ∈ wsX2_put := by decide +kernel
theorem fd_X2_put_25_X2 : FD RX2 25 wsX2_put 2 2 := ⟨RX2, "MainsWords$Machine", TX2, 6, rfl, in_X2_put_X2, by decide, wd_X2_put_6, Or.inr wd_X2_put_5⟩
theorem fw_X2_put_X2_2 : FW RX2 wsX2_put 2 2 .int false := ⟨RX2, TX2, 6, tyX2, rfl, in_X2_put_X2, tyX2_ok, nmX2, rfl, (fun h => by cases h), rfl⟩
theorem wd_X2_put_9 : Cond.fieldLink RX2 9 "MainsWords$Machine" "strength" "I" ∈ wsX2_put := by decide +kernel
theorem fd_X2_put_9_X2 : FD RX2 9 wsX2_put 2 3 := ⟨RX2, "MainsWords$Machine", TX2, 6, rfl, in_X2_put_X2, by decide, wd_X2_put_9, Or.inl rfl⟩
theorem fw_X2_put_X2_3 : FW RX2 wsX2_put 2 3 .int false := ⟨RX2, TX2, 6, tyX2, rfl, in_X2_put_X2, tyX2_ok, nmX2, rfl, (fun h => by cases h), rfl⟩
theorem wd_X2_put_12 : Cond.fieldLink RX2 15 "MainsWords$Machine" "period" "I" ∈ wsX2_put := by decide +kernel
theorem fd_X2_put_15_X2 : FD RX2 15 wsX2_put 2 4 := ⟨RX2, "MainsWords$Machine", TX2, 6, rfl, in_X2_put_X2, by decide, wd_X2_put_12, Or.inl rfl⟩
theorem fw_X2_put_X2_4 : FW RX2 wsX2_put 2 4 .int false := ⟨RX2, TX2, 6, tyX2, rfl, in_X2_put_X2, tyX2_ok, nmX2, rfl, (fun h => by cases h), rfl⟩
theorem wd_X2_put_15 : Cond.fieldLink RX2 18 "MainsWords$Machine" "isOn" "Z" ∈ wsX2_put := by decide +kernel
theorem fd_X2_put_18_X2 : FD RX2 18 wsX2_put 2 5 := ⟨RX2, "MainsWords$Machine", TX2, 6, rfl, in_X2_put_X2, by decide, wd_X2_put_15, Or.inl rfl⟩
theorem fw_X2_put_X2_5 : FW RX2 wsX2_put 2 5 .boolean false := ⟨RX2, TX2, 6, tyX2, rfl, in_X2_put_X2, tyX2_ok, nmX2, rfl, (fun h => by cases h), rfl⟩
set_option maxRecDepth 100000 in
set_option maxHeartbeats 4000000 in
theorem v_X2_put {D : DG} {z0 : Nat} {l : Launch} : ∀ (a0 : Option Nat) (a1 : Int32) (a2 : Int32) (a3 : Int32) (σ : SG), V D z0 l RX2 cX2_put 4 wsX2_put none rmX2_put false tvU 0 [some (va_rf a0), some (.int a1), some (.int a2), some (.int a3)] [] σ 0 0 (m_X2_put a0 a1 a2 a3 σ) := by
  intro a0 a1 a2 a3 σ
  unfold m_X2_put
  refine V_aload_n (x := a0) dX2_put_0 rfl ?_
  refine V_iconst (v := (1 : Int32)) dX2_put_1 rfl ?_
  refine V_putZ fd_X2_put_22_X2 fw_X2_put_X2_1 (fun h => by cases h) dX2_put_2 (fun σ1 hσ1 => ?_)
  refine V_aload_n (x := a0) dX2_put_5 rfl ?_
  refine V_iload_n (x := a1) dX2_put_6 rfl ?_
  refine V_putI fd_X2_put_25_X2 fw_X2_put_X2_2 (fun h => by cases h) dX2_put_7 (fun σ2 hσ2 => ?_)
  refine V_aload_n (x := a0) dX2_put_10 rfl ?_
  refine V_iload_n (x := a2) dX2_put_11 rfl ?_
  refine V_putI fd_X2_put_9_X2 fw_X2_put_X2_3 (fun h => by cases h) dX2_put_12 (fun σ3 hσ3 => ?_)
  refine V_aload_n (x := a0) dX2_put_15 rfl ?_
  refine V_iload_n (x := a3) dX2_put_16 rfl ?_
  refine V_putI fd_X2_put_15_X2 fw_X2_put_X2_4 (fun h => by cases h) dX2_put_17 (fun σ4 hσ4 => ?_)
  refine V_aload_n (x := a0) dX2_put_20 rfl ?_
  refine V_iconst (v := (1 : Int32)) dX2_put_21 rfl ?_
  refine V_putZ fd_X2_put_18_X2 fw_X2_put_X2_5 (fun h => by cases h) dX2_put_22 (fun σ5 hσ5 => ?_)
  exact V_vret (fun _ => rfl) rfl (Nat.zero_le _) (Nat.zero_le _) dX2_put_25
theorem t_X2_put {D : DG} {z0 : Nat} {l : Launch} (a : Nat) (a1 : Int32) (a2 : Int32) (a3 : Int32) (σ : SG) : MT D z0 l yX2_put wsX2_put rmX2_put tvU [.ref a, .int a1, .int a2, .int a3] σ (m_X2_put (some a) a1 a2 a3 σ) :=
  MT.of (own := RX2) (cc := cX2_put) (nL := 4) (ret := none) (ct := false) (by decide) rfl rfl (fun h => by cases h) (Nat.le_of_ble_eq_true rfl) (by intro v hv; simp only [List.mem_cons, List.not_mem_nil, or_false] at hv; first | (rcases hv with rfl | rfl | rfl | rfl <;> first | rfl | exact va_rf_cat _) | exact absurd hv (fun h => h)) (v_X2_put (some a) a1 a2 a3 σ)
theorem wd_X2_makesNoiseAt_0 : Cond.sameField "MainsWords$Machine" "MainsWords$Thing" "isPresent" "Z" ∈ wsX2_makesNoiseAt := by decide +kernel
theorem in_X2_makesNoiseAt_X2 : ∀ w ∈ u_ws RX2 TX2 6, w ∈ wsX2_makesNoiseAt := by decide +kernel
theorem wd_X2_makesNoiseAt_2 : Cond.fieldLink RX2 22 "MainsWords$Machine" "isPresent" "Z" ∈ wsX2_makesNoiseAt := by decide +kernel
theorem fd_X2_makesNoiseAt_22_X2 : FD RX2 22 wsX2_makesNoiseAt 2 1 := ⟨RX2, "MainsWords$Machine", TX2, 6, rfl, in_X2_makesNoiseAt_X2, by decide, wd_X2_makesNoiseAt_2, Or.inr wd_X2_makesNoiseAt_0⟩
theorem wd_X2_makesNoiseAt_4 : Cond.fieldLink RX2 18 "MainsWords$Machine" "isOn" "Z" ∈ wsX2_makesNoiseAt := by decide +kernel
theorem fd_X2_makesNoiseAt_18_X2 : FD RX2 18 wsX2_makesNoiseAt 2 5 := ⟨RX2, "MainsWords$Machine", TX2, 6, rfl, in_X2_makesNoiseAt_X2, by decide, wd_X2_makesNoiseAt_4, Or.inl rfl⟩
theorem wd_X2_makesNoiseAt_6 : Cond.fieldLink RX2 15 "MainsWords$Machine" "period" "I" ∈ wsX2_makesNoiseAt := by decide +kernel
theorem fd_X2_makesNoiseAt_15_X2 : FD RX2 15 wsX2_makesNoiseAt 2 4 := ⟨RX2, "MainsWords$Machine", TX2, 6, rfl, in_X2_makesNoiseAt_X2, by decide, wd_X2_makesNoiseAt_6, Or.inl rfl⟩
set_option maxRecDepth 100000 in
set_option maxHeartbeats 4000000 in
theorem v_X2_makesNoiseAt {D : DG} {z0 : Nat} {l : Launch} : ∀ (a0 : Option Nat) (a1 : Int32) (σ : SG), V D z0 l RX2 cX2_makesNoiseAt 2 wsX2_makesNoiseAt (some .boolean) rmX2_makesNoiseAt false tvI 0 [some (va_rf a0), some (.int a1)] [] σ 0 0 (m_X2_makesNoiseAt a0 a1 σ) := by
  intro a0 a1 σ
  unfold m_X2_makesNoiseAt
  refine V_aload_n (x := a0) dX2_makesNoiseAt_0 rfl ?_
  refine V_getI fd_X2_makesNoiseAt_22_X2 dX2_makesNoiseAt_1 (fun x1 => ?_)
  refine V_if_eq (tgt := 34) (x := x1) dX2_makesNoiseAt_4 (by decide) (fun hc2 => ?_) (fun hc2 => ?_)
  · refine V_iconst (v := (0 : Int32)) dX2_makesNoiseAt_34 rfl ?_
    exact V_zret (fun _ => rfl) rfl (Nat.zero_le _) (Nat.zero_le _) dX2_makesNoiseAt_35
  · refine V_aload_n (x := a0) dX2_makesNoiseAt_7 rfl ?_
    refine V_getI fd_X2_makesNoiseAt_18_X2 dX2_makesNoiseAt_8 (fun x3 => ?_)
    refine V_if_eq (tgt := 34) (x := x3) dX2_makesNoiseAt_11 (by decide) (fun hc4 => ?_) (fun hc4 => ?_)
    · refine V_iconst (v := (0 : Int32)) dX2_makesNoiseAt_34 rfl ?_
      exact V_zret (fun _ => rfl) rfl (Nat.zero_le _) (Nat.zero_le _) dX2_makesNoiseAt_35
    · refine V_aload_n (x := a0) dX2_makesNoiseAt_14 rfl ?_
      refine V_getI fd_X2_makesNoiseAt_15_X2 dX2_makesNoiseAt_15 (fun x5 => ?_)
      refine V_if_le (tgt := 34) (x := x5) dX2_makesNoiseAt_18 (by decide) (fun hc6 => ?_) (fun hc6 => ?_)
      · refine V_iconst (v := (0 : Int32)) dX2_makesNoiseAt_34 rfl ?_
        exact V_zret (fun _ => rfl) rfl (Nat.zero_le _) (Nat.zero_le _) dX2_makesNoiseAt_35
      · refine V_iload_n (x := a1) dX2_makesNoiseAt_21 rfl ?_
        refine V_aload_n (x := a0) dX2_makesNoiseAt_22 rfl ?_
        refine V_getI fd_X2_makesNoiseAt_15_X2 dX2_makesNoiseAt_23 (fun x7 => ?_)
        refine V_irem (x := a1) (y := x7) dX2_makesNoiseAt_26 ?_
        refine V_if_ne (tgt := 34) (x := (a1 - a1 / x7 * x7)) dX2_makesNoiseAt_27 (by decide) (fun hc8 => ?_) (fun hc8 => ?_)
        · refine V_iconst (v := (1 : Int32)) dX2_makesNoiseAt_30 rfl ?_
          refine V_goto (tgt := 35) dX2_makesNoiseAt_31 (by decide) ?_
          exact V_zret (fun _ => rfl) rfl (Nat.zero_le _) (Nat.zero_le _) dX2_makesNoiseAt_35
        · refine V_iconst (v := (0 : Int32)) dX2_makesNoiseAt_34 rfl ?_
          exact V_zret (fun _ => rfl) rfl (Nat.zero_le _) (Nat.zero_le _) dX2_makesNoiseAt_35
theorem t_X2_makesNoiseAt {D : DG} {z0 : Nat} {l : Launch} (a : Nat) (a1 : Int32) (σ : SG) : MT D z0 l yX2_makesNoiseAt wsX2_makesNoiseAt rmX2_makesNoiseAt tvI [.ref a, .int a1] σ (m_X2_makesNoiseAt (some a) a1 σ) :=
  MT.of (own := RX2) (cc := cX2_makesNoiseAt) (nL := 2) (ret := (some .boolean)) (ct := false) (by decide) rfl rfl (fun h => by cases h) (Nat.le_of_ble_eq_true rfl) (by intro v hv; simp only [List.mem_cons, List.not_mem_nil, or_false] at hv; first | (rcases hv with rfl | rfl <;> first | rfl | exact va_rf_cat _) | exact absurd hv (fun h => h)) (v_X2_makesNoiseAt (some a) a1 σ)
theorem in_X3_thingsOf_X3 : ∀ w ∈ u_ws RX3 TX3 8, w ∈ wsX3_thingsOf := by decide +kernel
theorem wd_X3_thingsOf_1 : Cond.fieldLink RX3 11 "MainsWords$Net" "senders" "[LMainsWords$Sender;" ∈ wsX3_thingsOf := by decide +kernel
theorem fd_X3_thingsOf_11_X3 : FD RX3 11 wsX3_thingsOf 3 0 := ⟨RX3, "MainsWords$Net", TX3, 8, rfl, in_X3_thingsOf_X3, by decide, wd_X3_thingsOf_1, Or.inl rfl⟩
theorem wd_X3_thingsOf_3 : Cond.fieldLink RX3 19 "MainsWords$Net" "machines" "[LMainsWords$Machine;" ∈ wsX3_thingsOf := by decide +kernel
theorem fd_X3_thingsOf_19_X3 : FD RX3 19 wsX3_thingsOf 3 1 := ⟨RX3, "MainsWords$Net", TX3, 8, rfl, in_X3_thingsOf_X3, by decide, wd_X3_thingsOf_3, Or.inl rfl⟩
theorem wd_X3_thingsOf_5 : Cond.fieldLink RX3 25 "MainsWords$Net" "lamps" "[LMainsWords$Lamp;" ∈ wsX3_thingsOf := by decide +kernel
theorem fd_X3_thingsOf_25_X3 : FD RX3 25 wsX3_thingsOf 3 2 := ⟨RX3, "MainsWords$Net", TX3, 8, rfl, in_X3_thingsOf_X3, by decide, wd_X3_thingsOf_5, Or.inl rfl⟩
set_option maxRecDepth 100000 in
set_option maxHeartbeats 4000000 in
theorem v_X3_thingsOf {D : DG} {z0 : Nat} {l : Launch} : ∀ (a0 : Option Nat) (a1 : Int32) (σ : SG), V D z0 l RX3 cX3_thingsOf 2 wsX3_thingsOf (some (.array (.object "MainsWords$Thing"))) rmX3_thingsOf false tvR 0 [some (va_rf a0), some (.int a1)] [] σ 0 0 (m_X3_thingsOf a0 a1 σ) := by
  intro a0 a1 σ
  unfold m_X3_thingsOf
  refine V_iload_n (x := a1) dX3_thingsOf_0 rfl ?_
  refine V_table (x := a1) (tb := [(0, 28), (1, 33), (2, 38)]) (tgt := 43) dX3_thingsOf_1 (by decide) rfl (by decide) (List.forall_mem_cons.mpr ⟨?_, List.forall_mem_cons.mpr ⟨?_, List.forall_mem_cons.mpr ⟨?_, fun _ h => absurd h List.not_mem_nil⟩⟩⟩) ?_
  · dsimp only
    refine V_aload_n (x := a0) dX3_thingsOf_28 rfl ?_
    refine V_getR fd_X3_thingsOf_11_X3 dX3_thingsOf_29 (fun x1 => ?_)
    exact V_aret (x := x1) (fun _ => rfl) rfl (Or.inr ⟨_, rfl⟩) (Nat.zero_le _) (Nat.zero_le _) dX3_thingsOf_32
  · dsimp only
    refine V_aload_n (x := a0) dX3_thingsOf_33 rfl ?_
    refine V_getR fd_X3_thingsOf_19_X3 dX3_thingsOf_34 (fun x2 => ?_)
    exact V_aret (x := x2) (fun _ => rfl) rfl (Or.inr ⟨_, rfl⟩) (Nat.zero_le _) (Nat.zero_le _) dX3_thingsOf_37
  · dsimp only
    refine V_aload_n (x := a0) dX3_thingsOf_38 rfl ?_
    refine V_getR fd_X3_thingsOf_25_X3 dX3_thingsOf_39 (fun x3 => ?_)
    exact V_aret (x := x3) (fun _ => rfl) rfl (Or.inr ⟨_, rfl⟩) (Nat.zero_le _) (Nat.zero_le _) dX3_thingsOf_42
  · refine V_null dX3_thingsOf_43 ?_
    exact V_aret (x := none) (fun _ => rfl) rfl (Or.inr ⟨_, rfl⟩) (Nat.zero_le _) (Nat.zero_le _) dX3_thingsOf_44
theorem t_X3_thingsOf {D : DG} {z0 : Nat} {l : Launch} (a : Nat) (a1 : Int32) (σ : SG) : MT D z0 l yX3_thingsOf wsX3_thingsOf rmX3_thingsOf tvR [.ref a, .int a1] σ (m_X3_thingsOf (some a) a1 σ) :=
  MT.of (own := RX3) (cc := cX3_thingsOf) (nL := 2) (ret := (some (.array (.object "MainsWords$Thing")))) (ct := false) (by decide) rfl rfl (fun h => by cases h) (Nat.le_of_ble_eq_true rfl) (by intro v hv; simp only [List.mem_cons, List.not_mem_nil, or_false] at hv; first | (rcases hv with rfl | rfl <;> first | rfl | exact va_rf_cat _) | exact absurd hv (fun h => h)) (v_X3_thingsOf (some a) a1 σ)
theorem in_X8_firstFree_X1 : ∀ w ∈ u_ws RX1 TX1 7, w ∈ wsX8_firstFree := by decide +kernel
theorem wd_X8_firstFree_1 : Cond.fieldLink RX8 88 "MainsWords$Thing" "isPresent" "Z" ∈ wsX8_firstFree := by decide +kernel
theorem fd_X8_firstFree_88_X1 : FD RX8 88 wsX8_firstFree 1 1 := ⟨RX1, "MainsWords$Thing", TX1, 7, rfl, in_X8_firstFree_X1, by decide, wd_X8_firstFree_1, Or.inl rfl⟩
theorem in_X8_firstFree_X2 : ∀ w ∈ u_ws RX2 TX2 6, w ∈ wsX8_firstFree := by decide +kernel
theorem fd_X8_firstFree_88_X2 : FD RX8 88 wsX8_firstFree 2 1 := ⟨RX2, "MainsWords$Thing", TX2, 6, rfl, in_X8_firstFree_X2, by decide, wd_X8_firstFree_1, Or.inl rfl⟩
theorem in_X8_firstFree_X6 : ∀ w ∈ u_ws RX6 TX6 10, w ∈ wsX8_firstFree := by decide +kernel
theorem fd_X8_firstFree_88_X6 : FD RX8 88 wsX8_firstFree 6 1 := ⟨RX6, "MainsWords$Thing", TX6, 10, rfl, in_X8_firstFree_X6, by decide, wd_X8_firstFree_1, Or.inl rfl⟩
set_option maxRecDepth 100000 in
set_option maxHeartbeats 4000000 in
theorem v_X8_firstFree_B7 {D : DG} {z0 : Nat} {l : Launch} {rec7 : Option Nat → Int32 → Int32 → SG → Option (Option Nat × SG)} (hrec7 : ∀ (v1 : Option Nat) (v2 : Int32) (v3 : Int32) (σ : SG), V D z0 l RX8 cX8_firstFree 5 wsX8_firstFree (some (.object "MainsWords$Thing")) rmX8_firstFree false tvR 7 [none, some (va_rf v1), some (.int v2), some (.int v3), none] [] σ 0 0 (rec7 v1 v2 v3 σ)) : ∀ (v1 : Option Nat) (v2 : Int32) (v3 : Int32) (σ : SG), V D z0 l RX8 cX8_firstFree 5 wsX8_firstFree (some (.object "MainsWords$Thing")) rmX8_firstFree false tvR 7 [none, some (va_rf v1), some (.int v2), some (.int v3), none] [] σ 0 0 (m_X8_firstFree_B7 rec7 v1 v2 v3 σ) := by
  intro v1 v2 v3 σ
  unfold m_X8_firstFree_B7
  refine V_iload_n (x := v3) dX8_firstFree_7 rfl ?_
  refine V_iload_n (x := v2) dX8_firstFree_8 rfl ?_
  refine V_icmp_ge (tgt := 34) (x := v3) (y := v2) dX8_firstFree_9 (by decide) (fun hc1 => ?_) (fun hc1 => ?_)
  · refine V_null dX8_firstFree_34 ?_
    exact V_aret (x := none) (fun _ => rfl) rfl (Or.inl ⟨_, rfl⟩) (Nat.zero_le _) (Nat.zero_le _) dX8_firstFree_35
  · refine V_aload_n (x := v1) dX8_firstFree_12 rfl ?_
    refine V_iload_n (x := v3) dX8_firstFree_13 rfl ?_
    refine V_aaload dX8_firstFree_14 (fun x2 => ?_)
    refine V_astore (x := x2) (ls' := [none, some (va_rf v1), some (.int v2), some (.int v3), some (va_rf x2)]) dX8_firstFree_15 (by decide) rfl ?_
    refine V_aload (x := x2) dX8_firstFree_17 rfl ?_
    refine V_getIT (LE3 fd_X8_firstFree_88_X1 fd_X8_firstFree_88_X2 fd_X8_firstFree_88_X6) dX8_firstFree_19 (fun x3 => ?_)
    refine V_if_ne (tgt := 28) (x := x3) dX8_firstFree_22 (by decide) (fun hc4 => ?_) (fun hc4 => ?_)
    · refine V_aload (x := x2) dX8_firstFree_25 rfl ?_
      exact V_aret (x := x2) (fun _ => rfl) rfl (Or.inl ⟨_, rfl⟩) (Nat.zero_le _) (Nat.zero_le _) dX8_firstFree_27
    · refine V_iinc (x := v3) (v := (v3 + 1)) (ls' := [none, some (va_rf v1), some (.int v2), some (.int (v3 + 1)), some (va_rf x2)]) dX8_firstFree_28 rfl rfl (by decide) rfl ?_
      refine V_goto (tgt := 7) dX8_firstFree_31 (by decide) ?_
      exact V_sub (LE.s (LE.s (LE.s (LE.s (LE.n LE.e))))) (hrec7 v1 v2 ((v3 + 1)) σ)
theorem v_X8_firstFree_L7 {D : DG} {z0 : Nat} {l : Launch} : ∀ (n : Nat) (v1 : Option Nat) (v2 : Int32) (v3 : Int32) (σ : SG), V D z0 l RX8 cX8_firstFree 5 wsX8_firstFree (some (.object "MainsWords$Thing")) rmX8_firstFree false tvR 7 [none, some (va_rf v1), some (.int v2), some (.int v3), none] [] σ 0 0 (m_X8_firstFree_L7 n v1 v2 v3 σ) := by
  intro n
  induction n with
  | zero => intros; exact V_none
  | succ n ih => exact v_X8_firstFree_B7  ih
set_option maxRecDepth 100000 in
set_option maxHeartbeats 4000000 in
theorem v_X8_firstFree {D : DG} {z0 : Nat} {l : Launch} : ∀ (a0 : Option Nat) (σ : SG), V D z0 l RX8 cX8_firstFree 5 wsX8_firstFree (some (.object "MainsWords$Thing")) rmX8_firstFree false tvR 0 [some (va_rf a0), none, none, none, none] [] σ 0 0 (m_X8_firstFree a0 σ) := by
  intro a0 σ
  unfold m_X8_firstFree
  refine V_aload_n (x := a0) dX8_firstFree_0 rfl ?_
  refine V_astore_n (x := a0) (ls' := [some (va_rf a0), some (va_rf a0), none, none, none]) dX8_firstFree_1 (by decide) rfl ?_
  refine V_aload_n (x := a0) dX8_firstFree_2 rfl ?_
  refine V_alen dX8_firstFree_3 (fun x5 => ?_)
  refine V_istore_n (x := x5) (ls' := [some (va_rf a0), some (va_rf a0), some (.int x5), none, none]) dX8_firstFree_4 (by decide) rfl ?_
  refine V_iconst (v := (0 : Int32)) dX8_firstFree_5 rfl ?_
  refine V_istore_n (x := (0 : Int32)) (ls' := [some (va_rf a0), some (va_rf a0), some (.int x5), some (.int (0 : Int32)), none]) dX8_firstFree_6 (by decide) rfl ?_
  exact V_sub (LE.n (LE.s (LE.s (LE.s (LE.s LE.e))))) (v_X8_firstFree_L7  1000 a0 x5 ((0 : Int32)) σ)
theorem t_X8_firstFree {D : DG} {z0 : Nat} {l : Launch} (a0 : Option Nat) (σ : SG) : MT D z0 l yX8_firstFree wsX8_firstFree rmX8_firstFree tvR [va_rf a0] σ (m_X8_firstFree a0 σ) :=
  MT.of (own := RX8) (cc := cX8_firstFree) (nL := 5) (ret := (some (.object "MainsWords$Thing"))) (ct := false) (by decide) rfl rfl (fun h => by cases h) (Nat.le_of_ble_eq_true rfl) (by intro v hv; simp only [List.mem_cons, List.not_mem_nil, or_false] at hv; first | (rcases hv with rfl <;> first | rfl | exact va_rf_cat _) | exact absurd hv (fun h => h)) (v_X8_firstFree a0 σ)
theorem in_X3_freeSender_X3 : ∀ w ∈ u_ws RX3 TX3 8, w ∈ wsX3_freeSender := by decide +kernel
theorem wd_X3_freeSender_1 : Cond.fieldLink RX3 11 "MainsWords$Net" "senders" "[LMainsWords$Sender;" ∈ wsX3_freeSender := by decide +kernel
theorem fd_X3_freeSender_11_X3 : FD RX3 11 wsX3_freeSender 3 0 := ⟨RX3, "MainsWords$Net", TX3, 8, rfl, in_X3_freeSender_X3, by decide, wd_X3_freeSender_1, Or.inl rfl⟩
theorem wd_X3_freeSender_3 : Cond.initialized RX8 ∈ wsX3_freeSender := by decide +kernel
theorem wd_X3_freeSender_4 : Cond.static yX8_firstFree ∈ wsX3_freeSender := by decide +kernel
theorem wd_X3_freeSender_5 : Cond.classLink RX3 9 RX6 ∈ wsX3_freeSender := by decide +kernel
set_option maxRecDepth 100000 in
set_option maxHeartbeats 4000000 in
theorem v_X3_freeSender {D : DG} {z0 : Nat} {l : Launch} : ∀ (a0 : Option Nat) (σ : SG), V D z0 l RX3 cX3_freeSender 3 wsX3_freeSender (some (.object "MainsWords$Sender")) rmX3_freeSender false tvR 0 [some (va_rf a0), none, none] [] σ 0 0 (m_X3_freeSender a0 σ) := by
  intro a0 σ
  unfold m_X3_freeSender
  refine V_aload_n (x := a0) dX3_freeSender_0 rfl ?_
  refine V_getR fd_X3_freeSender_11_X3 dX3_freeSender_1 (fun x1 => ?_)
  refine V_callSN0 (host := "MainsWords") (As := [va_rf x1]) (st0 := []) (stI := [va_rf x1]) (t_X8_firstFree x1 σ) rfl (Nat.le_of_ble_eq_true rfl) rfl (by decide +kernel) (fun s args hts hnw => ⟨va_cnB 1 hts gX3_freeSender_X8_firstFree_n73 rfl rfl rfl hnw (hts _ wd_X3_freeSender_3) (by decide +kernel) ⟨Nat.le_of_ble_eq_true rfl, Nat.le_of_ble_eq_true rfl⟩, hts _ wd_X3_freeSender_4, trivial⟩) rfl rfl dX3_freeSender_4 (fun r2 σ3 _ => ?_)
  refine V_astore_n (x := r2) (ls' := [some (va_rf a0), none, some (va_rf r2)]) dX3_freeSender_7 (by decide) rfl ?_
  refine V_aload_n (x := r2) dX3_freeSender_8 rfl ?_
  refine V_instof (q := (RX6, TX6, 10)) rfl wd_X3_freeSender_5 dX3_freeSender_9 (fun x4 => ?_)
  refine V_if_eq (tgt := 24) (x := x4) dX3_freeSender_12 (by decide) (fun hc5 => ?_) (fun hc5 => ?_)
  · refine V_null dX3_freeSender_24 ?_
    exact V_aret (x := none) (fun _ => rfl) rfl (Or.inl ⟨_, rfl⟩) (Nat.zero_le _) (Nat.zero_le _) dX3_freeSender_25
  · refine V_aload_n (x := r2) dX3_freeSender_15 rfl ?_
    refine V_cast (q := (RX6, TX6, 10)) rfl wd_X3_freeSender_5 dX3_freeSender_16 ?_
    refine V_astore_n (x := r2) (ls' := [some (va_rf a0), some (va_rf r2), some (va_rf r2)]) dX3_freeSender_19 (by decide) rfl ?_
    refine V_aload_n (x := r2) dX3_freeSender_20 rfl ?_
    refine V_goto (tgt := 25) dX3_freeSender_21 (by decide) ?_
    exact V_aret (x := r2) (fun _ => rfl) rfl (Or.inl ⟨_, rfl⟩) (Nat.zero_le _) (Nat.zero_le _) dX3_freeSender_25
theorem t_X3_freeSender {D : DG} {z0 : Nat} {l : Launch} (a : Nat)  (σ : SG) : MT D z0 l yX3_freeSender wsX3_freeSender rmX3_freeSender tvR [.ref a] σ (m_X3_freeSender (some a) σ) :=
  MT.of (own := RX3) (cc := cX3_freeSender) (nL := 3) (ret := (some (.object "MainsWords$Sender"))) (ct := false) (by decide) rfl rfl (fun h => by cases h) (Nat.le_of_ble_eq_true rfl) (by intro v hv; simp only [List.mem_cons, List.not_mem_nil, or_false] at hv; first | (rcases hv with rfl <;> first | rfl | exact va_rf_cat _) | exact absurd hv (fun h => h)) (v_X3_freeSender (some a) σ)
theorem in_X8_presentAt_X1 : ∀ w ∈ u_ws RX1 TX1 7, w ∈ wsX8_presentAt := by decide +kernel
theorem wd_X8_presentAt_1 : Cond.fieldLink RX8 88 "MainsWords$Thing" "isPresent" "Z" ∈ wsX8_presentAt := by decide +kernel
theorem fd_X8_presentAt_88_X1 : FD RX8 88 wsX8_presentAt 1 1 := ⟨RX1, "MainsWords$Thing", TX1, 7, rfl, in_X8_presentAt_X1, by decide, wd_X8_presentAt_1, Or.inl rfl⟩
theorem in_X8_presentAt_X2 : ∀ w ∈ u_ws RX2 TX2 6, w ∈ wsX8_presentAt := by decide +kernel
theorem fd_X8_presentAt_88_X2 : FD RX8 88 wsX8_presentAt 2 1 := ⟨RX2, "MainsWords$Thing", TX2, 6, rfl, in_X8_presentAt_X2, by decide, wd_X8_presentAt_1, Or.inl rfl⟩
theorem in_X8_presentAt_X6 : ∀ w ∈ u_ws RX6 TX6 10, w ∈ wsX8_presentAt := by decide +kernel
theorem fd_X8_presentAt_88_X6 : FD RX8 88 wsX8_presentAt 6 1 := ⟨RX6, "MainsWords$Thing", TX6, 10, rfl, in_X8_presentAt_X6, by decide, wd_X8_presentAt_1, Or.inl rfl⟩
set_option maxRecDepth 100000 in
set_option maxHeartbeats 4000000 in
theorem v_X8_presentAt_b10 {D : DG} {z0 : Nat} {l : Launch} : ∀ (σ : SG), V D z0 l RX8 cX8_presentAt 2 wsX8_presentAt (some (.object "MainsWords$Thing")) rmX8_presentAt false tvR 10 [none, none] [] σ 0 0 (m_X8_presentAt_b10 σ) := by
  intro σ
  unfold m_X8_presentAt_b10
  refine V_null dX8_presentAt_10 ?_
  exact V_aret (x := none) (fun _ => rfl) rfl (Or.inl ⟨_, rfl⟩) (Nat.zero_le _) (Nat.zero_le _) dX8_presentAt_11
set_option maxRecDepth 100000 in
set_option maxHeartbeats 4000000 in
theorem v_X8_presentAt {D : DG} {z0 : Nat} {l : Launch} : ∀ (a0 : Option Nat) (a1 : Int32) (σ : SG), V D z0 l RX8 cX8_presentAt 2 wsX8_presentAt (some (.object "MainsWords$Thing")) rmX8_presentAt false tvR 0 [some (va_rf a0), some (.int a1)] [] σ 0 0 (m_X8_presentAt a0 a1 σ) := by
  intro a0 a1 σ
  unfold m_X8_presentAt
  refine V_iload_n (x := a1) dX8_presentAt_0 rfl ?_
  refine V_if_lt (tgt := 10) (x := a1) dX8_presentAt_1 (by decide) (fun hc1 => ?_) (fun hc1 => ?_)
  · exact V_sub (LE.n (LE.n LE.e)) (v_X8_presentAt_b10  σ)
  · refine V_iload_n (x := a1) dX8_presentAt_4 rfl ?_
    refine V_aload_n (x := a0) dX8_presentAt_5 rfl ?_
    refine V_alen dX8_presentAt_6 (fun x2 => ?_)
    refine V_icmp_lt (tgt := 12) (x := a1) (y := x2) dX8_presentAt_7 (by decide) (fun hc3 => ?_) (fun hc3 => ?_)
    · refine V_aload_n (x := a0) dX8_presentAt_12 rfl ?_
      refine V_iload_n (x := a1) dX8_presentAt_13 rfl ?_
      refine V_aaload dX8_presentAt_14 (fun x4 => ?_)
      refine V_getIT (LE3 fd_X8_presentAt_88_X1 fd_X8_presentAt_88_X2 fd_X8_presentAt_88_X6) dX8_presentAt_15 (fun x5 => ?_)
      refine V_if_eq (tgt := 27) (x := x5) dX8_presentAt_18 (by decide) (fun hc6 => ?_) (fun hc6 => ?_)
      · refine V_null dX8_presentAt_27 ?_
        exact V_aret (x := none) (fun _ => rfl) rfl (Or.inl ⟨_, rfl⟩) (Nat.zero_le _) (Nat.zero_le _) dX8_presentAt_28
      · refine V_aload_n (x := a0) dX8_presentAt_21 rfl ?_
        refine V_iload_n (x := a1) dX8_presentAt_22 rfl ?_
        refine V_aaload dX8_presentAt_23 (fun x7 => ?_)
        refine V_goto (tgt := 28) dX8_presentAt_24 (by decide) ?_
        exact V_aret (x := x7) (fun _ => rfl) rfl (Or.inl ⟨_, rfl⟩) (Nat.zero_le _) (Nat.zero_le _) dX8_presentAt_28
    · exact V_sub (LE.n (LE.n LE.e)) (v_X8_presentAt_b10  σ)
theorem t_X8_presentAt {D : DG} {z0 : Nat} {l : Launch} (a0 : Option Nat) (a1 : Int32) (σ : SG) : MT D z0 l yX8_presentAt wsX8_presentAt rmX8_presentAt tvR [va_rf a0, .int a1] σ (m_X8_presentAt a0 a1 σ) :=
  MT.of (own := RX8) (cc := cX8_presentAt) (nL := 2) (ret := (some (.object "MainsWords$Thing"))) (ct := false) (by decide) rfl rfl (fun h => by cases h) (Nat.le_of_ble_eq_true rfl) (by intro v hv; simp only [List.mem_cons, List.not_mem_nil, or_false] at hv; first | (rcases hv with rfl | rfl <;> first | rfl | exact va_rf_cat _) | exact absurd hv (fun h => h)) (v_X8_presentAt a0 a1 σ)
theorem in_X3_senderAt_X3 : ∀ w ∈ u_ws RX3 TX3 8, w ∈ wsX3_senderAt := by decide +kernel
theorem wd_X3_senderAt_1 : Cond.fieldLink RX3 11 "MainsWords$Net" "senders" "[LMainsWords$Sender;" ∈ wsX3_senderAt := by decide +kernel
theorem fd_X3_senderAt_11_X3 : FD RX3 11 wsX3_senderAt 3 0 := ⟨RX3, "MainsWords$Net", TX3, 8, rfl, in_X3_senderAt_X3, by decide, wd_X3_senderAt_1, Or.inl rfl⟩
theorem wd_X3_senderAt_3 : Cond.initialized RX8 ∈ wsX3_senderAt := by decide +kernel
theorem wd_X3_senderAt_4 : Cond.static yX8_presentAt ∈ wsX3_senderAt := by decide +kernel
theorem wd_X3_senderAt_5 : Cond.classLink RX3 9 RX6 ∈ wsX3_senderAt := by decide +kernel
set_option maxRecDepth 100000 in
set_option maxHeartbeats 4000000 in
theorem v_X3_senderAt {D : DG} {z0 : Nat} {l : Launch} : ∀ (a0 : Option Nat) (a1 : Int32) (σ : SG), V D z0 l RX3 cX3_senderAt 4 wsX3_senderAt (some (.object "MainsWords$Sender")) rmX3_senderAt false tvR 0 [some (va_rf a0), some (.int a1), none, none] [] σ 0 0 (m_X3_senderAt a0 a1 σ) := by
  intro a0 a1 σ
  unfold m_X3_senderAt
  refine V_aload_n (x := a0) dX3_senderAt_0 rfl ?_
  refine V_getR fd_X3_senderAt_11_X3 dX3_senderAt_1 (fun x1 => ?_)
  refine V_iload_n (x := a1) dX3_senderAt_4 rfl ?_
  refine V_callSN0 (host := "MainsWords") (As := [va_rf x1, .int a1]) (st0 := []) (stI := [.int a1, va_rf x1]) (t_X8_presentAt x1 a1 σ) rfl (Nat.le_of_ble_eq_true rfl) rfl (by decide +kernel) (fun s args hts hnw => ⟨va_cnB 2 hts gX3_senderAt_X8_presentAt_n77 rfl rfl rfl hnw (hts _ wd_X3_senderAt_3) (by decide +kernel) ⟨Nat.le_of_ble_eq_true rfl, Nat.le_of_ble_eq_true rfl⟩, hts _ wd_X3_senderAt_4, trivial⟩) rfl rfl dX3_senderAt_5 (fun r2 σ3 _ => ?_)
  refine V_astore_n (x := r2) (ls' := [some (va_rf a0), some (.int a1), none, some (va_rf r2)]) dX3_senderAt_8 (by decide) rfl ?_
  refine V_aload_n (x := r2) dX3_senderAt_9 rfl ?_
  refine V_instof (q := (RX6, TX6, 10)) rfl wd_X3_senderAt_5 dX3_senderAt_10 (fun x4 => ?_)
  refine V_if_eq (tgt := 25) (x := x4) dX3_senderAt_13 (by decide) (fun hc5 => ?_) (fun hc5 => ?_)
  · refine V_null dX3_senderAt_25 ?_
    exact V_aret (x := none) (fun _ => rfl) rfl (Or.inl ⟨_, rfl⟩) (Nat.zero_le _) (Nat.zero_le _) dX3_senderAt_26
  · refine V_aload_n (x := r2) dX3_senderAt_16 rfl ?_
    refine V_cast (q := (RX6, TX6, 10)) rfl wd_X3_senderAt_5 dX3_senderAt_17 ?_
    refine V_astore_n (x := r2) (ls' := [some (va_rf a0), some (.int a1), some (va_rf r2), some (va_rf r2)]) dX3_senderAt_20 (by decide) rfl ?_
    refine V_aload_n (x := r2) dX3_senderAt_21 rfl ?_
    refine V_goto (tgt := 26) dX3_senderAt_22 (by decide) ?_
    exact V_aret (x := r2) (fun _ => rfl) rfl (Or.inl ⟨_, rfl⟩) (Nat.zero_le _) (Nat.zero_le _) dX3_senderAt_26
theorem t_X3_senderAt {D : DG} {z0 : Nat} {l : Launch} (a : Nat) (a1 : Int32) (σ : SG) : MT D z0 l yX3_senderAt wsX3_senderAt rmX3_senderAt tvR [.ref a, .int a1] σ (m_X3_senderAt (some a) a1 σ) :=
  MT.of (own := RX3) (cc := cX3_senderAt) (nL := 4) (ret := (some (.object "MainsWords$Sender"))) (ct := false) (by decide) rfl rfl (fun h => by cases h) (Nat.le_of_ble_eq_true rfl) (by intro v hv; simp only [List.mem_cons, List.not_mem_nil, or_false] at hv; first | (rcases hv with rfl | rfl <;> first | rfl | exact va_rf_cat _) | exact absurd hv (fun h => h)) (v_X3_senderAt (some a) a1 σ)
theorem in_X3_freeMachine_X3 : ∀ w ∈ u_ws RX3 TX3 8, w ∈ wsX3_freeMachine := by decide +kernel
theorem wd_X3_freeMachine_1 : Cond.fieldLink RX3 19 "MainsWords$Net" "machines" "[LMainsWords$Machine;" ∈ wsX3_freeMachine := by decide +kernel
theorem fd_X3_freeMachine_19_X3 : FD RX3 19 wsX3_freeMachine 3 1 := ⟨RX3, "MainsWords$Net", TX3, 8, rfl, in_X3_freeMachine_X3, by decide, wd_X3_freeMachine_1, Or.inl rfl⟩
theorem wd_X3_freeMachine_3 : Cond.initialized RX8 ∈ wsX3_freeMachine := by decide +kernel
theorem wd_X3_freeMachine_4 : Cond.static yX8_firstFree ∈ wsX3_freeMachine := by decide +kernel
theorem wd_X3_freeMachine_5 : Cond.classLink RX3 17 RX2 ∈ wsX3_freeMachine := by decide +kernel
set_option maxRecDepth 100000 in
set_option maxHeartbeats 4000000 in
theorem v_X3_freeMachine {D : DG} {z0 : Nat} {l : Launch} : ∀ (a0 : Option Nat) (σ : SG), V D z0 l RX3 cX3_freeMachine 3 wsX3_freeMachine (some (.object "MainsWords$Machine")) rmX3_freeMachine false tvR 0 [some (va_rf a0), none, none] [] σ 0 0 (m_X3_freeMachine a0 σ) := by
  intro a0 σ
  unfold m_X3_freeMachine
  refine V_aload_n (x := a0) dX3_freeMachine_0 rfl ?_
  refine V_getR fd_X3_freeMachine_19_X3 dX3_freeMachine_1 (fun x1 => ?_)
  refine V_callSN0 (host := "MainsWords") (As := [va_rf x1]) (st0 := []) (stI := [va_rf x1]) (t_X8_firstFree x1 σ) rfl (Nat.le_of_ble_eq_true rfl) rfl (by decide +kernel) (fun s args hts hnw => ⟨va_cnB 1 hts gX3_freeMachine_X8_firstFree_n73 rfl rfl rfl hnw (hts _ wd_X3_freeMachine_3) (by decide +kernel) ⟨Nat.le_of_ble_eq_true rfl, Nat.le_of_ble_eq_true rfl⟩, hts _ wd_X3_freeMachine_4, trivial⟩) rfl rfl dX3_freeMachine_4 (fun r2 σ3 _ => ?_)
  refine V_astore_n (x := r2) (ls' := [some (va_rf a0), none, some (va_rf r2)]) dX3_freeMachine_7 (by decide) rfl ?_
  refine V_aload_n (x := r2) dX3_freeMachine_8 rfl ?_
  refine V_instof (q := (RX2, TX2, 6)) rfl wd_X3_freeMachine_5 dX3_freeMachine_9 (fun x4 => ?_)
  refine V_if_eq (tgt := 24) (x := x4) dX3_freeMachine_12 (by decide) (fun hc5 => ?_) (fun hc5 => ?_)
  · refine V_null dX3_freeMachine_24 ?_
    exact V_aret (x := none) (fun _ => rfl) rfl (Or.inl ⟨_, rfl⟩) (Nat.zero_le _) (Nat.zero_le _) dX3_freeMachine_25
  · refine V_aload_n (x := r2) dX3_freeMachine_15 rfl ?_
    refine V_cast (q := (RX2, TX2, 6)) rfl wd_X3_freeMachine_5 dX3_freeMachine_16 ?_
    refine V_astore_n (x := r2) (ls' := [some (va_rf a0), some (va_rf r2), some (va_rf r2)]) dX3_freeMachine_19 (by decide) rfl ?_
    refine V_aload_n (x := r2) dX3_freeMachine_20 rfl ?_
    refine V_goto (tgt := 25) dX3_freeMachine_21 (by decide) ?_
    exact V_aret (x := r2) (fun _ => rfl) rfl (Or.inl ⟨_, rfl⟩) (Nat.zero_le _) (Nat.zero_le _) dX3_freeMachine_25
theorem t_X3_freeMachine {D : DG} {z0 : Nat} {l : Launch} (a : Nat)  (σ : SG) : MT D z0 l yX3_freeMachine wsX3_freeMachine rmX3_freeMachine tvR [.ref a] σ (m_X3_freeMachine (some a) σ) :=
  MT.of (own := RX3) (cc := cX3_freeMachine) (nL := 3) (ret := (some (.object "MainsWords$Machine"))) (ct := false) (by decide) rfl rfl (fun h => by cases h) (Nat.le_of_ble_eq_true rfl) (by intro v hv; simp only [List.mem_cons, List.not_mem_nil, or_false] at hv; first | (rcases hv with rfl <;> first | rfl | exact va_rf_cat _) | exact absurd hv (fun h => h)) (v_X3_freeMachine (some a) σ)
theorem in_X3_machineAt_X3 : ∀ w ∈ u_ws RX3 TX3 8, w ∈ wsX3_machineAt := by decide +kernel
theorem wd_X3_machineAt_1 : Cond.fieldLink RX3 19 "MainsWords$Net" "machines" "[LMainsWords$Machine;" ∈ wsX3_machineAt := by decide +kernel
theorem fd_X3_machineAt_19_X3 : FD RX3 19 wsX3_machineAt 3 1 := ⟨RX3, "MainsWords$Net", TX3, 8, rfl, in_X3_machineAt_X3, by decide, wd_X3_machineAt_1, Or.inl rfl⟩
theorem wd_X3_machineAt_3 : Cond.initialized RX8 ∈ wsX3_machineAt := by decide +kernel
theorem wd_X3_machineAt_4 : Cond.static yX8_presentAt ∈ wsX3_machineAt := by decide +kernel
theorem wd_X3_machineAt_5 : Cond.classLink RX3 17 RX2 ∈ wsX3_machineAt := by decide +kernel
set_option maxRecDepth 100000 in
set_option maxHeartbeats 4000000 in
theorem v_X3_machineAt {D : DG} {z0 : Nat} {l : Launch} : ∀ (a0 : Option Nat) (a1 : Int32) (σ : SG), V D z0 l RX3 cX3_machineAt 4 wsX3_machineAt (some (.object "MainsWords$Machine")) rmX3_machineAt false tvR 0 [some (va_rf a0), some (.int a1), none, none] [] σ 0 0 (m_X3_machineAt a0 a1 σ) := by
  intro a0 a1 σ
  unfold m_X3_machineAt
  refine V_aload_n (x := a0) dX3_machineAt_0 rfl ?_
  refine V_getR fd_X3_machineAt_19_X3 dX3_machineAt_1 (fun x1 => ?_)
  refine V_iload_n (x := a1) dX3_machineAt_4 rfl ?_
  refine V_callSN0 (host := "MainsWords") (As := [va_rf x1, .int a1]) (st0 := []) (stI := [.int a1, va_rf x1]) (t_X8_presentAt x1 a1 σ) rfl (Nat.le_of_ble_eq_true rfl) rfl (by decide +kernel) (fun s args hts hnw => ⟨va_cnB 2 hts gX3_machineAt_X8_presentAt_n77 rfl rfl rfl hnw (hts _ wd_X3_machineAt_3) (by decide +kernel) ⟨Nat.le_of_ble_eq_true rfl, Nat.le_of_ble_eq_true rfl⟩, hts _ wd_X3_machineAt_4, trivial⟩) rfl rfl dX3_machineAt_5 (fun r2 σ3 _ => ?_)
  refine V_astore_n (x := r2) (ls' := [some (va_rf a0), some (.int a1), none, some (va_rf r2)]) dX3_machineAt_8 (by decide) rfl ?_
  refine V_aload_n (x := r2) dX3_machineAt_9 rfl ?_
  refine V_instof (q := (RX2, TX2, 6)) rfl wd_X3_machineAt_5 dX3_machineAt_10 (fun x4 => ?_)
  refine V_if_eq (tgt := 25) (x := x4) dX3_machineAt_13 (by decide) (fun hc5 => ?_) (fun hc5 => ?_)
  · refine V_null dX3_machineAt_25 ?_
    exact V_aret (x := none) (fun _ => rfl) rfl (Or.inl ⟨_, rfl⟩) (Nat.zero_le _) (Nat.zero_le _) dX3_machineAt_26
  · refine V_aload_n (x := r2) dX3_machineAt_16 rfl ?_
    refine V_cast (q := (RX2, TX2, 6)) rfl wd_X3_machineAt_5 dX3_machineAt_17 ?_
    refine V_astore_n (x := r2) (ls' := [some (va_rf a0), some (.int a1), some (va_rf r2), some (va_rf r2)]) dX3_machineAt_20 (by decide) rfl ?_
    refine V_aload_n (x := r2) dX3_machineAt_21 rfl ?_
    refine V_goto (tgt := 26) dX3_machineAt_22 (by decide) ?_
    exact V_aret (x := r2) (fun _ => rfl) rfl (Or.inl ⟨_, rfl⟩) (Nat.zero_le _) (Nat.zero_le _) dX3_machineAt_26
theorem t_X3_machineAt {D : DG} {z0 : Nat} {l : Launch} (a : Nat) (a1 : Int32) (σ : SG) : MT D z0 l yX3_machineAt wsX3_machineAt rmX3_machineAt tvR [.ref a, .int a1] σ (m_X3_machineAt (some a) a1 σ) :=
  MT.of (own := RX3) (cc := cX3_machineAt) (nL := 4) (ret := (some (.object "MainsWords$Machine"))) (ct := false) (by decide) rfl rfl (fun h => by cases h) (Nat.le_of_ble_eq_true rfl) (by intro v hv; simp only [List.mem_cons, List.not_mem_nil, or_false] at hv; first | (rcases hv with rfl | rfl <;> first | rfl | exact va_rf_cat _) | exact absurd hv (fun h => h)) (v_X3_machineAt (some a) a1 σ)
theorem in_X3_freeLamp_X3 : ∀ w ∈ u_ws RX3 TX3 8, w ∈ wsX3_freeLamp := by decide +kernel
theorem wd_X3_freeLamp_1 : Cond.fieldLink RX3 25 "MainsWords$Net" "lamps" "[LMainsWords$Lamp;" ∈ wsX3_freeLamp := by decide +kernel
theorem fd_X3_freeLamp_25_X3 : FD RX3 25 wsX3_freeLamp 3 2 := ⟨RX3, "MainsWords$Net", TX3, 8, rfl, in_X3_freeLamp_X3, by decide, wd_X3_freeLamp_1, Or.inl rfl⟩
theorem wd_X3_freeLamp_3 : Cond.initialized RX8 ∈ wsX3_freeLamp := by decide +kernel
theorem wd_X3_freeLamp_4 : Cond.static yX8_firstFree ∈ wsX3_freeLamp := by decide +kernel
theorem wd_X3_freeLamp_5 : Cond.classLink RX3 23 RX1 ∈ wsX3_freeLamp := by decide +kernel
set_option maxRecDepth 100000 in
set_option maxHeartbeats 4000000 in
theorem v_X3_freeLamp {D : DG} {z0 : Nat} {l : Launch} : ∀ (a0 : Option Nat) (σ : SG), V D z0 l RX3 cX3_freeLamp 3 wsX3_freeLamp (some (.object "MainsWords$Lamp")) rmX3_freeLamp false tvR 0 [some (va_rf a0), none, none] [] σ 0 0 (m_X3_freeLamp a0 σ) := by
  intro a0 σ
  unfold m_X3_freeLamp
  refine V_aload_n (x := a0) dX3_freeLamp_0 rfl ?_
  refine V_getR fd_X3_freeLamp_25_X3 dX3_freeLamp_1 (fun x1 => ?_)
  refine V_callSN0 (host := "MainsWords") (As := [va_rf x1]) (st0 := []) (stI := [va_rf x1]) (t_X8_firstFree x1 σ) rfl (Nat.le_of_ble_eq_true rfl) rfl (by decide +kernel) (fun s args hts hnw => ⟨va_cnB 1 hts gX3_freeLamp_X8_firstFree_n73 rfl rfl rfl hnw (hts _ wd_X3_freeLamp_3) (by decide +kernel) ⟨Nat.le_of_ble_eq_true rfl, Nat.le_of_ble_eq_true rfl⟩, hts _ wd_X3_freeLamp_4, trivial⟩) rfl rfl dX3_freeLamp_4 (fun r2 σ3 _ => ?_)
  refine V_astore_n (x := r2) (ls' := [some (va_rf a0), none, some (va_rf r2)]) dX3_freeLamp_7 (by decide) rfl ?_
  refine V_aload_n (x := r2) dX3_freeLamp_8 rfl ?_
  refine V_instof (q := (RX1, TX1, 7)) rfl wd_X3_freeLamp_5 dX3_freeLamp_9 (fun x4 => ?_)
  refine V_if_eq (tgt := 24) (x := x4) dX3_freeLamp_12 (by decide) (fun hc5 => ?_) (fun hc5 => ?_)
  · refine V_null dX3_freeLamp_24 ?_
    exact V_aret (x := none) (fun _ => rfl) rfl (Or.inl ⟨_, rfl⟩) (Nat.zero_le _) (Nat.zero_le _) dX3_freeLamp_25
  · refine V_aload_n (x := r2) dX3_freeLamp_15 rfl ?_
    refine V_cast (q := (RX1, TX1, 7)) rfl wd_X3_freeLamp_5 dX3_freeLamp_16 ?_
    refine V_astore_n (x := r2) (ls' := [some (va_rf a0), some (va_rf r2), some (va_rf r2)]) dX3_freeLamp_19 (by decide) rfl ?_
    refine V_aload_n (x := r2) dX3_freeLamp_20 rfl ?_
    refine V_goto (tgt := 25) dX3_freeLamp_21 (by decide) ?_
    exact V_aret (x := r2) (fun _ => rfl) rfl (Or.inl ⟨_, rfl⟩) (Nat.zero_le _) (Nat.zero_le _) dX3_freeLamp_25
theorem t_X3_freeLamp {D : DG} {z0 : Nat} {l : Launch} (a : Nat)  (σ : SG) : MT D z0 l yX3_freeLamp wsX3_freeLamp rmX3_freeLamp tvR [.ref a] σ (m_X3_freeLamp (some a) σ) :=
  MT.of (own := RX3) (cc := cX3_freeLamp) (nL := 3) (ret := (some (.object "MainsWords$Lamp"))) (ct := false) (by decide) rfl rfl (fun h => by cases h) (Nat.le_of_ble_eq_true rfl) (by intro v hv; simp only [List.mem_cons, List.not_mem_nil, or_false] at hv; first | (rcases hv with rfl <;> first | rfl | exact va_rf_cat _) | exact absurd hv (fun h => h)) (v_X3_freeLamp (some a) σ)
theorem in_X3_lampAt_X3 : ∀ w ∈ u_ws RX3 TX3 8, w ∈ wsX3_lampAt := by decide +kernel
theorem wd_X3_lampAt_1 : Cond.fieldLink RX3 25 "MainsWords$Net" "lamps" "[LMainsWords$Lamp;" ∈ wsX3_lampAt := by decide +kernel
theorem fd_X3_lampAt_25_X3 : FD RX3 25 wsX3_lampAt 3 2 := ⟨RX3, "MainsWords$Net", TX3, 8, rfl, in_X3_lampAt_X3, by decide, wd_X3_lampAt_1, Or.inl rfl⟩
theorem wd_X3_lampAt_3 : Cond.initialized RX8 ∈ wsX3_lampAt := by decide +kernel
theorem wd_X3_lampAt_4 : Cond.static yX8_presentAt ∈ wsX3_lampAt := by decide +kernel
theorem wd_X3_lampAt_5 : Cond.classLink RX3 23 RX1 ∈ wsX3_lampAt := by decide +kernel
set_option maxRecDepth 100000 in
set_option maxHeartbeats 4000000 in
theorem v_X3_lampAt {D : DG} {z0 : Nat} {l : Launch} : ∀ (a0 : Option Nat) (a1 : Int32) (σ : SG), V D z0 l RX3 cX3_lampAt 4 wsX3_lampAt (some (.object "MainsWords$Lamp")) rmX3_lampAt false tvR 0 [some (va_rf a0), some (.int a1), none, none] [] σ 0 0 (m_X3_lampAt a0 a1 σ) := by
  intro a0 a1 σ
  unfold m_X3_lampAt
  refine V_aload_n (x := a0) dX3_lampAt_0 rfl ?_
  refine V_getR fd_X3_lampAt_25_X3 dX3_lampAt_1 (fun x1 => ?_)
  refine V_iload_n (x := a1) dX3_lampAt_4 rfl ?_
  refine V_callSN0 (host := "MainsWords") (As := [va_rf x1, .int a1]) (st0 := []) (stI := [.int a1, va_rf x1]) (t_X8_presentAt x1 a1 σ) rfl (Nat.le_of_ble_eq_true rfl) rfl (by decide +kernel) (fun s args hts hnw => ⟨va_cnB 2 hts gX3_lampAt_X8_presentAt_n77 rfl rfl rfl hnw (hts _ wd_X3_lampAt_3) (by decide +kernel) ⟨Nat.le_of_ble_eq_true rfl, Nat.le_of_ble_eq_true rfl⟩, hts _ wd_X3_lampAt_4, trivial⟩) rfl rfl dX3_lampAt_5 (fun r2 σ3 _ => ?_)
  refine V_astore_n (x := r2) (ls' := [some (va_rf a0), some (.int a1), none, some (va_rf r2)]) dX3_lampAt_8 (by decide) rfl ?_
  refine V_aload_n (x := r2) dX3_lampAt_9 rfl ?_
  refine V_instof (q := (RX1, TX1, 7)) rfl wd_X3_lampAt_5 dX3_lampAt_10 (fun x4 => ?_)
  refine V_if_eq (tgt := 25) (x := x4) dX3_lampAt_13 (by decide) (fun hc5 => ?_) (fun hc5 => ?_)
  · refine V_null dX3_lampAt_25 ?_
    exact V_aret (x := none) (fun _ => rfl) rfl (Or.inl ⟨_, rfl⟩) (Nat.zero_le _) (Nat.zero_le _) dX3_lampAt_26
  · refine V_aload_n (x := r2) dX3_lampAt_16 rfl ?_
    refine V_cast (q := (RX1, TX1, 7)) rfl wd_X3_lampAt_5 dX3_lampAt_17 ?_
    refine V_astore_n (x := r2) (ls' := [some (va_rf a0), some (.int a1), some (va_rf r2), some (va_rf r2)]) dX3_lampAt_20 (by decide) rfl ?_
    refine V_aload_n (x := r2) dX3_lampAt_21 rfl ?_
    refine V_goto (tgt := 26) dX3_lampAt_22 (by decide) ?_
    exact V_aret (x := r2) (fun _ => rfl) rfl (Or.inl ⟨_, rfl⟩) (Nat.zero_le _) (Nat.zero_le _) dX3_lampAt_26
theorem t_X3_lampAt {D : DG} {z0 : Nat} {l : Launch} (a : Nat) (a1 : Int32) (σ : SG) : MT D z0 l yX3_lampAt wsX3_lampAt rmX3_lampAt tvR [.ref a, .int a1] σ (m_X3_lampAt (some a) a1 σ) :=
  MT.of (own := RX3) (cc := cX3_lampAt) (nL := 4) (ret := (some (.object "MainsWords$Lamp"))) (ct := false) (by decide) rfl rfl (fun h => by cases h) (Nat.le_of_ble_eq_true rfl) (by intro v hv; simp only [List.mem_cons, List.not_mem_nil, or_false] at hv; first | (rcases hv with rfl | rfl <;> first | rfl | exact va_rf_cat _) | exact absurd hv (fun h => h)) (v_X3_lampAt (some a) a1 σ)
theorem wd_X6_isSpeaking_0 : Cond.sameField "MainsWords$Sender" "MainsWords$Thing" "isPresent" "Z" ∈ wsX6_isSpeaking := by decide +kernel
theorem in_X6_isSpeaking_X6 : ∀ w ∈ u_ws RX6 TX6 10, w ∈ wsX6_isSpeaking := by decide +kernel
theorem wd_X6_isSpeaking_2 : Cond.fieldLink RX6 35 "MainsWords$Sender" "isPresent" "Z" ∈ wsX6_isSpeaking := by decide +kernel
theorem fd_X6_isSpeaking_35_X6 : FD RX6 35 wsX6_isSpeaking 6 1 := ⟨RX6, "MainsWords$Sender", TX6, 10, rfl, in_X6_isSpeaking_X6, by decide, wd_X6_isSpeaking_2, Or.inr wd_X6_isSpeaking_0⟩
theorem wd_X6_isSpeaking_4 : Cond.fieldLink RX6 22 "MainsWords$Sender" "speaks" "Z" ∈ wsX6_isSpeaking := by decide +kernel
theorem fd_X6_isSpeaking_22_X6 : FD RX6 22 wsX6_isSpeaking 6 6 := ⟨RX6, "MainsWords$Sender", TX6, 10, rfl, in_X6_isSpeaking_X6, by decide, wd_X6_isSpeaking_4, Or.inl rfl⟩
set_option maxRecDepth 100000 in
set_option maxHeartbeats 4000000 in
theorem v_X6_isSpeaking {D : DG} {z0 : Nat} {l : Launch} : ∀ (a0 : Option Nat) (σ : SG), V D z0 l RX6 cX6_isSpeaking 1 wsX6_isSpeaking (some .boolean) rmX6_isSpeaking false tvI 0 [some (va_rf a0)] [] σ 0 0 (m_X6_isSpeaking a0 σ) := by
  intro a0 σ
  unfold m_X6_isSpeaking
  refine V_aload_n (x := a0) dX6_isSpeaking_0 rfl ?_
  refine V_getI fd_X6_isSpeaking_35_X6 dX6_isSpeaking_1 (fun x1 => ?_)
  refine V_if_eq (tgt := 18) (x := x1) dX6_isSpeaking_4 (by decide) (fun hc2 => ?_) (fun hc2 => ?_)
  · refine V_iconst (v := (0 : Int32)) dX6_isSpeaking_18 rfl ?_
    exact V_zret (fun _ => rfl) rfl (Nat.zero_le _) (Nat.zero_le _) dX6_isSpeaking_19
  · refine V_aload_n (x := a0) dX6_isSpeaking_7 rfl ?_
    refine V_getI fd_X6_isSpeaking_22_X6 dX6_isSpeaking_8 (fun x3 => ?_)
    refine V_if_eq (tgt := 18) (x := x3) dX6_isSpeaking_11 (by decide) (fun hc4 => ?_) (fun hc4 => ?_)
    · refine V_iconst (v := (0 : Int32)) dX6_isSpeaking_18 rfl ?_
      exact V_zret (fun _ => rfl) rfl (Nat.zero_le _) (Nat.zero_le _) dX6_isSpeaking_19
    · refine V_iconst (v := (1 : Int32)) dX6_isSpeaking_14 rfl ?_
      refine V_goto (tgt := 19) dX6_isSpeaking_15 (by decide) ?_
      exact V_zret (fun _ => rfl) rfl (Nat.zero_le _) (Nat.zero_le _) dX6_isSpeaking_19
theorem t_X6_isSpeaking {D : DG} {z0 : Nat} {l : Launch} (a : Nat)  (σ : SG) : MT D z0 l yX6_isSpeaking wsX6_isSpeaking rmX6_isSpeaking tvI [.ref a] σ (m_X6_isSpeaking (some a) σ) :=
  MT.of (own := RX6) (cc := cX6_isSpeaking) (nL := 1) (ret := (some .boolean)) (ct := false) (by decide) rfl rfl (fun h => by cases h) (Nat.le_of_ble_eq_true rfl) (by intro v hv; simp only [List.mem_cons, List.not_mem_nil, or_false] at hv; first | (rcases hv with rfl <;> first | rfl | exact va_rf_cat _) | exact absurd hv (fun h => h)) (v_X6_isSpeaking (some a) σ)
set_option maxRecDepth 100000 in
set_option maxHeartbeats 4000000 in
theorem v_X8_asNumber {D : DG} {z0 : Nat} {l : Launch} : ∀ (a0 : Int32) (σ : SG), V D z0 l RX8 cX8_asNumber 1 wsX8_asNumber (some .int) rmX8_asNumber false tvI 0 [some (.int a0)] [] σ 0 0 (m_X8_asNumber a0 σ) := by
  intro a0 σ
  unfold m_X8_asNumber
  refine V_iload_n (x := a0) dX8_asNumber_0 rfl ?_
  refine V_if_eq (tgt := 8) (x := a0) dX8_asNumber_1 (by decide) (fun hc1 => ?_) (fun hc1 => ?_)
  · refine V_iconst (v := (0 : Int32)) dX8_asNumber_8 rfl ?_
    exact V_iret (fun _ => rfl) rfl (Nat.zero_le _) (Nat.zero_le _) dX8_asNumber_9
  · refine V_iconst (v := (1 : Int32)) dX8_asNumber_4 rfl ?_
    refine V_goto (tgt := 9) dX8_asNumber_5 (by decide) ?_
    exact V_iret (fun _ => rfl) rfl (Nat.zero_le _) (Nat.zero_le _) dX8_asNumber_9
theorem t_X8_asNumber {D : DG} {z0 : Nat} {l : Launch} (a0 : Int32) (σ : SG) : MT D z0 l yX8_asNumber wsX8_asNumber rmX8_asNumber tvI [.int a0] σ (m_X8_asNumber a0 σ) :=
  MT.of (own := RX8) (cc := cX8_asNumber) (nL := 1) (ret := (some .int)) (ct := false) (by decide) rfl rfl (fun h => by cases h) (Nat.le_of_ble_eq_true rfl) (by intro v hv; simp only [List.mem_cons, List.not_mem_nil, or_false] at hv; first | (rcases hv with rfl <;> first | rfl | exact va_rf_cat _) | exact absurd hv (fun h => h)) (v_X8_asNumber a0 σ)
theorem wd_X3_speakingSenders_0 : Cond.initialized RX8 ∈ wsX3_speakingSenders := by decide +kernel
theorem wd_X3_speakingSenders_1 : Cond.static yX8_asNumber ∈ wsX3_speakingSenders := by decide +kernel
theorem in_X3_speakingSenders_X3 : ∀ w ∈ u_ws RX3 TX3 8, w ∈ wsX3_speakingSenders := by decide +kernel
theorem wd_X3_speakingSenders_3 : Cond.fieldLink RX3 11 "MainsWords$Net" "senders" "[LMainsWords$Sender;" ∈ wsX3_speakingSenders := by decide +kernel
theorem fd_X3_speakingSenders_11_X3 : FD RX3 11 wsX3_speakingSenders 3 0 := ⟨RX3, "MainsWords$Net", TX3, 8, rfl, in_X3_speakingSenders_X3, by decide, wd_X3_speakingSenders_3, Or.inl rfl⟩
set_option maxRecDepth 100000 in
set_option maxHeartbeats 4000000 in
theorem v_X3_speakingSenders_B13 {D : DG} {z0 : Nat} {l : Launch} {rec13 : Int32 → Option Nat → Int32 → Int32 → SG → Option (Int32 × SG)} (hrec13 : ∀ (v1 : Int32) (v2 : Option Nat) (v3 : Int32) (v4 : Int32) (σ : SG), V D z0 l RX3 cX3_speakingSenders 6 wsX3_speakingSenders (some .int) rmX3_speakingSenders false tvI 13 [none, some (.int v1), some (va_rf v2), some (.int v3), some (.int v4), none] [] σ 0 0 (rec13 v1 v2 v3 v4 σ)) : ∀ (v1 : Int32) (v2 : Option Nat) (v3 : Int32) (v4 : Int32) (σ : SG), V D z0 l RX3 cX3_speakingSenders 6 wsX3_speakingSenders (some .int) rmX3_speakingSenders false tvI 13 [none, some (.int v1), some (va_rf v2), some (.int v3), some (.int v4), none] [] σ 0 0 (m_X3_speakingSenders_B13 rec13 v1 v2 v3 v4 σ) := by
  intro v1 v2 v3 v4 σ
  unfold m_X3_speakingSenders_B13
  refine V_iload (x := v4) dX3_speakingSenders_13 rfl ?_
  refine V_iload_n (x := v3) dX3_speakingSenders_15 rfl ?_
  refine V_icmp_ge (tgt := 42) (x := v4) (y := v3) dX3_speakingSenders_16 (by decide) (fun hc1 => ?_) (fun hc1 => ?_)
  · refine V_iload_n (x := v1) dX3_speakingSenders_42 rfl ?_
    exact V_iret (fun _ => rfl) rfl (Nat.zero_le _) (Nat.zero_le _) dX3_speakingSenders_43
  · refine V_aload_n (x := v2) dX3_speakingSenders_19 rfl ?_
    refine V_iload (x := v4) dX3_speakingSenders_20 rfl ?_
    refine V_aaload dX3_speakingSenders_22 (fun x2 => ?_)
    refine V_astore (x := x2) (ls' := [none, some (.int v1), some (va_rf v2), some (.int v3), some (.int v4), some (va_rf x2)]) dX3_speakingSenders_23 (by decide) rfl ?_
    refine V_iload_n (x := v1) dX3_speakingSenders_25 rfl ?_
    refine V_aload (x := x2) dX3_speakingSenders_26 rfl ?_
    refine V_callV0 (As := []) (st0 := [.int v1]) (stI := [va_rf x2, .int v1]) (fun _ h => by cases h; exact t_X6_isSpeaking _ σ) (q := (RX6, TX6, 10)) rfl rfl rfl (Nat.le_of_ble_eq_true rfl) rfl (fun s args hts => cwV 0 hts gX3_speakingSenders_X6_isSpeaking rfl rfl rfl (by decide +kernel) ⟨Nat.le_of_ble_eq_true rfl, Nat.le_of_ble_eq_true rfl⟩) rfl rfl dX3_speakingSenders_28 (fun r3 σ4 _ => ?_)
    refine V_callSN0 (host := "MainsWords") (As := [.int r3]) (st0 := [.int v1]) (stI := [.int r3, .int v1]) (t_X8_asNumber r3 σ4) rfl (Nat.le_of_ble_eq_true rfl) rfl (by decide +kernel) (fun s args hts hnw => ⟨va_cnB 1 hts gX3_speakingSenders_X8_asNumber_n85 rfl rfl rfl hnw (hts _ wd_X3_speakingSenders_0) (by decide +kernel) ⟨Nat.le_of_ble_eq_true rfl, Nat.le_of_ble_eq_true rfl⟩, hts _ wd_X3_speakingSenders_1, trivial⟩) rfl rfl dX3_speakingSenders_31 (fun r5 σ6 _ => ?_)
    refine V_iadd (x := v1) (y := r5) dX3_speakingSenders_34 ?_
    refine V_istore_n (x := (v1 + r5)) (ls' := [none, some (.int (v1 + r5)), some (va_rf v2), some (.int v3), some (.int v4), some (va_rf x2)]) dX3_speakingSenders_35 (by decide) rfl ?_
    refine V_iinc (x := v4) (v := (v4 + 1)) (ls' := [none, some (.int (v1 + r5)), some (va_rf v2), some (.int v3), some (.int (v4 + 1)), some (va_rf x2)]) dX3_speakingSenders_36 rfl rfl (by decide) rfl ?_
    refine V_goto (tgt := 13) dX3_speakingSenders_39 (by decide) ?_
    exact V_sub (LE.s (LE.s (LE.s (LE.s (LE.s (LE.n LE.e)))))) (hrec13 ((v1 + r5)) v2 v3 ((v4 + 1)) σ6)
theorem v_X3_speakingSenders_L13 {D : DG} {z0 : Nat} {l : Launch} : ∀ (n : Nat) (v1 : Int32) (v2 : Option Nat) (v3 : Int32) (v4 : Int32) (σ : SG), V D z0 l RX3 cX3_speakingSenders 6 wsX3_speakingSenders (some .int) rmX3_speakingSenders false tvI 13 [none, some (.int v1), some (va_rf v2), some (.int v3), some (.int v4), none] [] σ 0 0 (m_X3_speakingSenders_L13 n v1 v2 v3 v4 σ) := by
  intro n
  induction n with
  | zero => intros; exact V_none
  | succ n ih => exact v_X3_speakingSenders_B13  ih
set_option maxRecDepth 100000 in
set_option maxHeartbeats 4000000 in
theorem v_X3_speakingSenders {D : DG} {z0 : Nat} {l : Launch} : ∀ (a0 : Option Nat) (σ : SG), V D z0 l RX3 cX3_speakingSenders 6 wsX3_speakingSenders (some .int) rmX3_speakingSenders false tvI 0 [some (va_rf a0), none, none, none, none, none] [] σ 0 0 (m_X3_speakingSenders a0 σ) := by
  intro a0 σ
  unfold m_X3_speakingSenders
  refine V_iconst (v := (0 : Int32)) dX3_speakingSenders_0 rfl ?_
  refine V_istore_n (x := (0 : Int32)) (ls' := [some (va_rf a0), some (.int (0 : Int32)), none, none, none, none]) dX3_speakingSenders_1 (by decide) rfl ?_
  refine V_aload_n (x := a0) dX3_speakingSenders_2 rfl ?_
  refine V_getR fd_X3_speakingSenders_11_X3 dX3_speakingSenders_3 (fun x7 => ?_)
  refine V_astore_n (x := x7) (ls' := [some (va_rf a0), some (.int (0 : Int32)), some (va_rf x7), none, none, none]) dX3_speakingSenders_6 (by decide) rfl ?_
  refine V_aload_n (x := x7) dX3_speakingSenders_7 rfl ?_
  refine V_alen dX3_speakingSenders_8 (fun x8 => ?_)
  refine V_istore_n (x := x8) (ls' := [some (va_rf a0), some (.int (0 : Int32)), some (va_rf x7), some (.int x8), none, none]) dX3_speakingSenders_9 (by decide) rfl ?_
  refine V_iconst (v := (0 : Int32)) dX3_speakingSenders_10 rfl ?_
  refine V_istore (x := (0 : Int32)) (ls' := [some (va_rf a0), some (.int (0 : Int32)), some (va_rf x7), some (.int x8), some (.int (0 : Int32)), none]) dX3_speakingSenders_11 (by decide) rfl ?_
  exact V_sub (LE.n (LE.s (LE.s (LE.s (LE.s (LE.s LE.e)))))) (v_X3_speakingSenders_L13  1000 ((0 : Int32)) x7 x8 ((0 : Int32)) σ)
theorem t_X3_speakingSenders {D : DG} {z0 : Nat} {l : Launch} (a : Nat)  (σ : SG) : MT D z0 l yX3_speakingSenders wsX3_speakingSenders rmX3_speakingSenders tvI [.ref a] σ (m_X3_speakingSenders (some a) σ) :=
  MT.of (own := RX3) (cc := cX3_speakingSenders) (nL := 6) (ret := (some .int)) (ct := false) (by decide) rfl rfl (fun h => by cases h) (Nat.le_of_ble_eq_true rfl) (by intro v hv; simp only [List.mem_cons, List.not_mem_nil, or_false] at hv; first | (rcases hv with rfl <;> first | rfl | exact va_rf_cat _) | exact absurd hv (fun h => h)) (v_X3_speakingSenders (some a) σ)
theorem wd_X3_queuedWords_0 : Cond.sameField "MainsWords$Sender" "MainsWords$Thing" "isPresent" "Z" ∈ wsX3_queuedWords := by decide +kernel
theorem in_X3_queuedWords_X6 : ∀ w ∈ u_ws RX6 TX6 10, w ∈ wsX3_queuedWords := by decide +kernel
theorem wd_X3_queuedWords_2 : Cond.fieldLink RX3 89 "MainsWords$Sender" "isPresent" "Z" ∈ wsX3_queuedWords := by decide +kernel
theorem fd_X3_queuedWords_89_X6 : FD RX3 89 wsX3_queuedWords 6 1 := ⟨RX6, "MainsWords$Sender", TX6, 10, rfl, in_X3_queuedWords_X6, by decide, wd_X3_queuedWords_2, Or.inr wd_X3_queuedWords_0⟩
theorem wd_X3_queuedWords_4 : Cond.fieldLink RX3 93 "MainsWords$Sender" "queueLength" "I" ∈ wsX3_queuedWords := by decide +kernel
theorem fd_X3_queuedWords_93_X6 : FD RX3 93 wsX3_queuedWords 6 4 := ⟨RX6, "MainsWords$Sender", TX6, 10, rfl, in_X3_queuedWords_X6, by decide, wd_X3_queuedWords_4, Or.inl rfl⟩
theorem in_X3_queuedWords_X3 : ∀ w ∈ u_ws RX3 TX3 8, w ∈ wsX3_queuedWords := by decide +kernel
theorem wd_X3_queuedWords_7 : Cond.fieldLink RX3 11 "MainsWords$Net" "senders" "[LMainsWords$Sender;" ∈ wsX3_queuedWords := by decide +kernel
theorem fd_X3_queuedWords_11_X3 : FD RX3 11 wsX3_queuedWords 3 0 := ⟨RX3, "MainsWords$Net", TX3, 8, rfl, in_X3_queuedWords_X3, by decide, wd_X3_queuedWords_7, Or.inl rfl⟩
set_option maxRecDepth 100000 in
set_option maxHeartbeats 4000000 in
theorem v_X3_queuedWords_b41 {D : DG} {z0 : Nat} {l : Launch} {rec13 : Int32 → Option Nat → Int32 → Int32 → SG → Option (Int32 × SG)} (hrec13 : ∀ (v1 : Int32) (v2 : Option Nat) (v3 : Int32) (v4 : Int32) (σ : SG), V D z0 l RX3 cX3_queuedWords 6 wsX3_queuedWords (some .int) rmX3_queuedWords false tvI 13 [none, some (.int v1), some (va_rf v2), some (.int v3), some (.int v4), none] [] σ 0 0 (rec13 v1 v2 v3 v4 σ)) : ∀ (v1 : Int32) (v2 : Option Nat) (v3 : Int32) (v4 : Int32) (σ : SG), V D z0 l RX3 cX3_queuedWords 6 wsX3_queuedWords (some .int) rmX3_queuedWords false tvI 41 [none, some (.int v1), some (va_rf v2), some (.int v3), some (.int v4), none] [] σ 0 0 (m_X3_queuedWords_b41 rec13 v1 v2 v3 v4 σ) := by
  intro v1 v2 v3 v4 σ
  unfold m_X3_queuedWords_b41
  refine V_iinc (x := v4) (v := (v4 + 1)) (ls' := [none, some (.int v1), some (va_rf v2), some (.int v3), some (.int (v4 + 1)), none]) dX3_queuedWords_41 rfl rfl (by decide) rfl ?_
  refine V_goto (tgt := 13) dX3_queuedWords_44 (by decide) ?_
  exact hrec13 v1 v2 v3 ((v4 + 1)) σ
set_option maxRecDepth 100000 in
set_option maxHeartbeats 4000000 in
theorem v_X3_queuedWords_B13 {D : DG} {z0 : Nat} {l : Launch} {rec13 : Int32 → Option Nat → Int32 → Int32 → SG → Option (Int32 × SG)} (hrec13 : ∀ (v1 : Int32) (v2 : Option Nat) (v3 : Int32) (v4 : Int32) (σ : SG), V D z0 l RX3 cX3_queuedWords 6 wsX3_queuedWords (some .int) rmX3_queuedWords false tvI 13 [none, some (.int v1), some (va_rf v2), some (.int v3), some (.int v4), none] [] σ 0 0 (rec13 v1 v2 v3 v4 σ)) : ∀ (v1 : Int32) (v2 : Option Nat) (v3 : Int32) (v4 : Int32) (σ : SG), V D z0 l RX3 cX3_queuedWords 6 wsX3_queuedWords (some .int) rmX3_queuedWords false tvI 13 [none, some (.int v1), some (va_rf v2), some (.int v3), some (.int v4), none] [] σ 0 0 (m_X3_queuedWords_B13 rec13 v1 v2 v3 v4 σ) := by
  intro v1 v2 v3 v4 σ
  unfold m_X3_queuedWords_B13
  refine V_iload (x := v4) dX3_queuedWords_13 rfl ?_
  refine V_iload_n (x := v3) dX3_queuedWords_15 rfl ?_
  refine V_icmp_ge (tgt := 47) (x := v4) (y := v3) dX3_queuedWords_16 (by decide) (fun hc1 => ?_) (fun hc1 => ?_)
  · refine V_iload_n (x := v1) dX3_queuedWords_47 rfl ?_
    exact V_iret (fun _ => rfl) rfl (Nat.zero_le _) (Nat.zero_le _) dX3_queuedWords_48
  · refine V_aload_n (x := v2) dX3_queuedWords_19 rfl ?_
    refine V_iload (x := v4) dX3_queuedWords_20 rfl ?_
    refine V_aaload dX3_queuedWords_22 (fun x2 => ?_)
    refine V_astore (x := x2) (ls' := [none, some (.int v1), some (va_rf v2), some (.int v3), some (.int v4), some (va_rf x2)]) dX3_queuedWords_23 (by decide) rfl ?_
    refine V_aload (x := x2) dX3_queuedWords_25 rfl ?_
    refine V_getI fd_X3_queuedWords_89_X6 dX3_queuedWords_27 (fun x3 => ?_)
    refine V_if_eq (tgt := 41) (x := x3) dX3_queuedWords_30 (by decide) (fun hc4 => ?_) (fun hc4 => ?_)
    · exact V_sub (LE.s (LE.s (LE.s (LE.s (LE.s (LE.n LE.e)))))) (v_X3_queuedWords_b41 hrec13 v1 v2 v3 v4 σ)
    · refine V_iload_n (x := v1) dX3_queuedWords_33 rfl ?_
      refine V_aload (x := x2) dX3_queuedWords_34 rfl ?_
      refine V_getI fd_X3_queuedWords_93_X6 dX3_queuedWords_36 (fun x5 => ?_)
      refine V_iadd (x := v1) (y := x5) dX3_queuedWords_39 ?_
      refine V_istore_n (x := (v1 + x5)) (ls' := [none, some (.int (v1 + x5)), some (va_rf v2), some (.int v3), some (.int v4), some (va_rf x2)]) dX3_queuedWords_40 (by decide) rfl ?_
      exact V_sub (LE.s (LE.s (LE.s (LE.s (LE.s (LE.n LE.e)))))) (v_X3_queuedWords_b41 hrec13 ((v1 + x5)) v2 v3 v4 σ)
theorem v_X3_queuedWords_L13 {D : DG} {z0 : Nat} {l : Launch} : ∀ (n : Nat) (v1 : Int32) (v2 : Option Nat) (v3 : Int32) (v4 : Int32) (σ : SG), V D z0 l RX3 cX3_queuedWords 6 wsX3_queuedWords (some .int) rmX3_queuedWords false tvI 13 [none, some (.int v1), some (va_rf v2), some (.int v3), some (.int v4), none] [] σ 0 0 (m_X3_queuedWords_L13 n v1 v2 v3 v4 σ) := by
  intro n
  induction n with
  | zero => intros; exact V_none
  | succ n ih => exact v_X3_queuedWords_B13  ih
set_option maxRecDepth 100000 in
set_option maxHeartbeats 4000000 in
theorem v_X3_queuedWords {D : DG} {z0 : Nat} {l : Launch} : ∀ (a0 : Option Nat) (σ : SG), V D z0 l RX3 cX3_queuedWords 6 wsX3_queuedWords (some .int) rmX3_queuedWords false tvI 0 [some (va_rf a0), none, none, none, none, none] [] σ 0 0 (m_X3_queuedWords a0 σ) := by
  intro a0 σ
  unfold m_X3_queuedWords
  refine V_iconst (v := (0 : Int32)) dX3_queuedWords_0 rfl ?_
  refine V_istore_n (x := (0 : Int32)) (ls' := [some (va_rf a0), some (.int (0 : Int32)), none, none, none, none]) dX3_queuedWords_1 (by decide) rfl ?_
  refine V_aload_n (x := a0) dX3_queuedWords_2 rfl ?_
  refine V_getR fd_X3_queuedWords_11_X3 dX3_queuedWords_3 (fun x6 => ?_)
  refine V_astore_n (x := x6) (ls' := [some (va_rf a0), some (.int (0 : Int32)), some (va_rf x6), none, none, none]) dX3_queuedWords_6 (by decide) rfl ?_
  refine V_aload_n (x := x6) dX3_queuedWords_7 rfl ?_
  refine V_alen dX3_queuedWords_8 (fun x7 => ?_)
  refine V_istore_n (x := x7) (ls' := [some (va_rf a0), some (.int (0 : Int32)), some (va_rf x6), some (.int x7), none, none]) dX3_queuedWords_9 (by decide) rfl ?_
  refine V_iconst (v := (0 : Int32)) dX3_queuedWords_10 rfl ?_
  refine V_istore (x := (0 : Int32)) (ls' := [some (va_rf a0), some (.int (0 : Int32)), some (va_rf x6), some (.int x7), some (.int (0 : Int32)), none]) dX3_queuedWords_11 (by decide) rfl ?_
  exact V_sub (LE.n (LE.s (LE.s (LE.s (LE.s (LE.s LE.e)))))) (v_X3_queuedWords_L13  1000 ((0 : Int32)) x6 x7 ((0 : Int32)) σ)
theorem t_X3_queuedWords {D : DG} {z0 : Nat} {l : Launch} (a : Nat)  (σ : SG) : MT D z0 l yX3_queuedWords wsX3_queuedWords rmX3_queuedWords tvI [.ref a] σ (m_X3_queuedWords (some a) σ) :=
  MT.of (own := RX3) (cc := cX3_queuedWords) (nL := 6) (ret := (some .int)) (ct := false) (by decide) rfl rfl (fun h => by cases h) (Nat.le_of_ble_eq_true rfl) (by intro v hv; simp only [List.mem_cons, List.not_mem_nil, or_false] at hv; first | (rcases hv with rfl <;> first | rfl | exact va_rf_cat _) | exact absurd hv (fun h => h)) (v_X3_queuedWords (some a) σ)
theorem wd_X3_litLamps_0 : Cond.initialized RX8 ∈ wsX3_litLamps := by decide +kernel
theorem wd_X3_litLamps_1 : Cond.static yX8_asNumber ∈ wsX3_litLamps := by decide +kernel
theorem wd_X3_litLamps_2 : Cond.sameField "MainsWords$Lamp" "MainsWords$Thing" "isPresent" "Z" ∈ wsX3_litLamps := by decide +kernel
theorem in_X3_litLamps_X1 : ∀ w ∈ u_ws RX1 TX1 7, w ∈ wsX3_litLamps := by decide +kernel
theorem wd_X3_litLamps_4 : Cond.fieldLink RX3 96 "MainsWords$Lamp" "isPresent" "Z" ∈ wsX3_litLamps := by decide +kernel
theorem fd_X3_litLamps_96_X1 : FD RX3 96 wsX3_litLamps 1 1 := ⟨RX1, "MainsWords$Lamp", TX1, 7, rfl, in_X3_litLamps_X1, by decide, wd_X3_litLamps_4, Or.inr wd_X3_litLamps_2⟩
theorem wd_X3_litLamps_6 : Cond.fieldLink RX3 97 "MainsWords$Lamp" "level" "I" ∈ wsX3_litLamps := by decide +kernel
theorem fd_X3_litLamps_97_X1 : FD RX3 97 wsX3_litLamps 1 5 := ⟨RX1, "MainsWords$Lamp", TX1, 7, rfl, in_X3_litLamps_X1, by decide, wd_X3_litLamps_6, Or.inl rfl⟩
theorem in_X3_litLamps_X3 : ∀ w ∈ u_ws RX3 TX3 8, w ∈ wsX3_litLamps := by decide +kernel
theorem wd_X3_litLamps_9 : Cond.fieldLink RX3 25 "MainsWords$Net" "lamps" "[LMainsWords$Lamp;" ∈ wsX3_litLamps := by decide +kernel
theorem fd_X3_litLamps_25_X3 : FD RX3 25 wsX3_litLamps 3 2 := ⟨RX3, "MainsWords$Net", TX3, 8, rfl, in_X3_litLamps_X3, by decide, wd_X3_litLamps_9, Or.inl rfl⟩
set_option maxRecDepth 100000 in
set_option maxHeartbeats 4000000 in
theorem v_X3_litLamps_b47 {D : DG} {z0 : Nat} {l : Launch} {rec13 : Int32 → Option Nat → Int32 → Int32 → SG → Option (Int32 × SG)} (hrec13 : ∀ (v1 : Int32) (v2 : Option Nat) (v3 : Int32) (v4 : Int32) (σ : SG), V D z0 l RX3 cX3_litLamps 6 wsX3_litLamps (some .int) rmX3_litLamps false tvI 13 [none, some (.int v1), some (va_rf v2), some (.int v3), some (.int v4), none] [] σ 0 0 (rec13 v1 v2 v3 v4 σ)) : ∀ (v2 : Option Nat) (v3 : Int32) (v4 : Int32) (s0 : Int32) (s1 : Int32) (σ : SG), V D z0 l RX3 cX3_litLamps 6 wsX3_litLamps (some .int) rmX3_litLamps false tvI 47 [none, none, some (va_rf v2), some (.int v3), some (.int v4), none] [.int s1, .int s0] σ 0 0 (m_X3_litLamps_b47 rec13 v2 v3 v4 s0 s1 σ) := by
  intro v2 v3 v4 s0 s1 σ
  unfold m_X3_litLamps_b47
  refine V_callSN0 (host := "MainsWords") (As := [.int s1]) (st0 := [.int s0]) (stI := [.int s1, .int s0]) (t_X8_asNumber s1 σ) rfl (Nat.le_of_ble_eq_true rfl) rfl (by decide +kernel) (fun s args hts hnw => ⟨va_cnB 1 hts gX3_litLamps_X8_asNumber_n85 rfl rfl rfl hnw (hts _ wd_X3_litLamps_0) (by decide +kernel) ⟨Nat.le_of_ble_eq_true rfl, Nat.le_of_ble_eq_true rfl⟩, hts _ wd_X3_litLamps_1, trivial⟩) rfl rfl dX3_litLamps_47 (fun r1 σ2 _ => ?_)
  refine V_iadd (x := s0) (y := r1) dX3_litLamps_50 ?_
  refine V_istore_n (x := (s0 + r1)) (ls' := [none, some (.int (s0 + r1)), some (va_rf v2), some (.int v3), some (.int v4), none]) dX3_litLamps_51 (by decide) rfl ?_
  refine V_iinc (x := v4) (v := (v4 + 1)) (ls' := [none, some (.int (s0 + r1)), some (va_rf v2), some (.int v3), some (.int (v4 + 1)), none]) dX3_litLamps_52 rfl rfl (by decide) rfl ?_
  refine V_goto (tgt := 13) dX3_litLamps_55 (by decide) ?_
  exact hrec13 ((s0 + r1)) v2 v3 ((v4 + 1)) σ2
set_option maxRecDepth 100000 in
set_option maxHeartbeats 4000000 in
theorem v_X3_litLamps_b46 {D : DG} {z0 : Nat} {l : Launch} {rec13 : Int32 → Option Nat → Int32 → Int32 → SG → Option (Int32 × SG)} (hrec13 : ∀ (v1 : Int32) (v2 : Option Nat) (v3 : Int32) (v4 : Int32) (σ : SG), V D z0 l RX3 cX3_litLamps 6 wsX3_litLamps (some .int) rmX3_litLamps false tvI 13 [none, some (.int v1), some (va_rf v2), some (.int v3), some (.int v4), none] [] σ 0 0 (rec13 v1 v2 v3 v4 σ)) : ∀ (v2 : Option Nat) (v3 : Int32) (v4 : Int32) (s0 : Int32) (σ : SG), V D z0 l RX3 cX3_litLamps 6 wsX3_litLamps (some .int) rmX3_litLamps false tvI 46 [none, none, some (va_rf v2), some (.int v3), some (.int v4), none] [.int s0] σ 0 0 (m_X3_litLamps_b46 rec13 v2 v3 v4 s0 σ) := by
  intro v2 v3 v4 s0 σ
  unfold m_X3_litLamps_b46
  refine V_iconst (v := (0 : Int32)) dX3_litLamps_46 rfl ?_
  exact v_X3_litLamps_b47 hrec13 v2 v3 v4 s0 ((0 : Int32)) σ
set_option maxRecDepth 100000 in
set_option maxHeartbeats 4000000 in
theorem v_X3_litLamps_B13 {D : DG} {z0 : Nat} {l : Launch} {rec13 : Int32 → Option Nat → Int32 → Int32 → SG → Option (Int32 × SG)} (hrec13 : ∀ (v1 : Int32) (v2 : Option Nat) (v3 : Int32) (v4 : Int32) (σ : SG), V D z0 l RX3 cX3_litLamps 6 wsX3_litLamps (some .int) rmX3_litLamps false tvI 13 [none, some (.int v1), some (va_rf v2), some (.int v3), some (.int v4), none] [] σ 0 0 (rec13 v1 v2 v3 v4 σ)) : ∀ (v1 : Int32) (v2 : Option Nat) (v3 : Int32) (v4 : Int32) (σ : SG), V D z0 l RX3 cX3_litLamps 6 wsX3_litLamps (some .int) rmX3_litLamps false tvI 13 [none, some (.int v1), some (va_rf v2), some (.int v3), some (.int v4), none] [] σ 0 0 (m_X3_litLamps_B13 rec13 v1 v2 v3 v4 σ) := by
  intro v1 v2 v3 v4 σ
  unfold m_X3_litLamps_B13
  refine V_iload (x := v4) dX3_litLamps_13 rfl ?_
  refine V_iload_n (x := v3) dX3_litLamps_15 rfl ?_
  refine V_icmp_ge (tgt := 58) (x := v4) (y := v3) dX3_litLamps_16 (by decide) (fun hc3 => ?_) (fun hc3 => ?_)
  · refine V_iload_n (x := v1) dX3_litLamps_58 rfl ?_
    exact V_iret (fun _ => rfl) rfl (Nat.zero_le _) (Nat.zero_le _) dX3_litLamps_59
  · refine V_aload_n (x := v2) dX3_litLamps_19 rfl ?_
    refine V_iload (x := v4) dX3_litLamps_20 rfl ?_
    refine V_aaload dX3_litLamps_22 (fun x4 => ?_)
    refine V_astore (x := x4) (ls' := [none, some (.int v1), some (va_rf v2), some (.int v3), some (.int v4), some (va_rf x4)]) dX3_litLamps_23 (by decide) rfl ?_
    refine V_iload_n (x := v1) dX3_litLamps_25 rfl ?_
    refine V_aload (x := x4) dX3_litLamps_26 rfl ?_
    refine V_getI fd_X3_litLamps_96_X1 dX3_litLamps_28 (fun x5 => ?_)
    refine V_if_eq (tgt := 46) (x := x5) dX3_litLamps_31 (by decide) (fun hc6 => ?_) (fun hc6 => ?_)
    · exact V_sub (LE.s (LE.n (LE.s (LE.s (LE.s (LE.n LE.e)))))) (v_X3_litLamps_b46 hrec13 v2 v3 v4 v1 σ)
    · refine V_aload (x := x4) dX3_litLamps_34 rfl ?_
      refine V_getI fd_X3_litLamps_97_X1 dX3_litLamps_36 (fun x7 => ?_)
      refine V_if_le (tgt := 46) (x := x7) dX3_litLamps_39 (by decide) (fun hc8 => ?_) (fun hc8 => ?_)
      · exact V_sub (LE.s (LE.n (LE.s (LE.s (LE.s (LE.n LE.e)))))) (v_X3_litLamps_b46 hrec13 v2 v3 v4 v1 σ)
      · refine V_iconst (v := (1 : Int32)) dX3_litLamps_42 rfl ?_
        refine V_goto (tgt := 47) dX3_litLamps_43 (by decide) ?_
        exact V_sub (LE.s (LE.n (LE.s (LE.s (LE.s (LE.n LE.e)))))) (v_X3_litLamps_b47 hrec13 v2 v3 v4 v1 ((1 : Int32)) σ)
theorem v_X3_litLamps_L13 {D : DG} {z0 : Nat} {l : Launch} : ∀ (n : Nat) (v1 : Int32) (v2 : Option Nat) (v3 : Int32) (v4 : Int32) (σ : SG), V D z0 l RX3 cX3_litLamps 6 wsX3_litLamps (some .int) rmX3_litLamps false tvI 13 [none, some (.int v1), some (va_rf v2), some (.int v3), some (.int v4), none] [] σ 0 0 (m_X3_litLamps_L13 n v1 v2 v3 v4 σ) := by
  intro n
  induction n with
  | zero => intros; exact V_none
  | succ n ih => exact v_X3_litLamps_B13  ih
set_option maxRecDepth 100000 in
set_option maxHeartbeats 4000000 in
theorem v_X3_litLamps {D : DG} {z0 : Nat} {l : Launch} : ∀ (a0 : Option Nat) (σ : SG), V D z0 l RX3 cX3_litLamps 6 wsX3_litLamps (some .int) rmX3_litLamps false tvI 0 [some (va_rf a0), none, none, none, none, none] [] σ 0 0 (m_X3_litLamps a0 σ) := by
  intro a0 σ
  unfold m_X3_litLamps
  refine V_iconst (v := (0 : Int32)) dX3_litLamps_0 rfl ?_
  refine V_istore_n (x := (0 : Int32)) (ls' := [some (va_rf a0), some (.int (0 : Int32)), none, none, none, none]) dX3_litLamps_1 (by decide) rfl ?_
  refine V_aload_n (x := a0) dX3_litLamps_2 rfl ?_
  refine V_getR fd_X3_litLamps_25_X3 dX3_litLamps_3 (fun x9 => ?_)
  refine V_astore_n (x := x9) (ls' := [some (va_rf a0), some (.int (0 : Int32)), some (va_rf x9), none, none, none]) dX3_litLamps_6 (by decide) rfl ?_
  refine V_aload_n (x := x9) dX3_litLamps_7 rfl ?_
  refine V_alen dX3_litLamps_8 (fun x10 => ?_)
  refine V_istore_n (x := x10) (ls' := [some (va_rf a0), some (.int (0 : Int32)), some (va_rf x9), some (.int x10), none, none]) dX3_litLamps_9 (by decide) rfl ?_
  refine V_iconst (v := (0 : Int32)) dX3_litLamps_10 rfl ?_
  refine V_istore (x := (0 : Int32)) (ls' := [some (va_rf a0), some (.int (0 : Int32)), some (va_rf x9), some (.int x10), some (.int (0 : Int32)), none]) dX3_litLamps_11 (by decide) rfl ?_
  exact V_sub (LE.n (LE.s (LE.s (LE.s (LE.s (LE.s LE.e)))))) (v_X3_litLamps_L13  1000 ((0 : Int32)) x9 x10 ((0 : Int32)) σ)
theorem t_X3_litLamps {D : DG} {z0 : Nat} {l : Launch} (a : Nat)  (σ : SG) : MT D z0 l yX3_litLamps wsX3_litLamps rmX3_litLamps tvI [.ref a] σ (m_X3_litLamps (some a) σ) :=
  MT.of (own := RX3) (cc := cX3_litLamps) (nL := 6) (ret := (some .int)) (ct := false) (by decide) rfl rfl (fun h => by cases h) (Nat.le_of_ble_eq_true rfl) (by intro v hv; simp only [List.mem_cons, List.not_mem_nil, or_false] at hv; first | (rcases hv with rfl <;> first | rfl | exact va_rf_cat _) | exact absurd hv (fun h => h)) (v_X3_litLamps (some a) σ)
set_option maxRecDepth 100000 in
set_option maxHeartbeats 4000000 in
theorem v_X8_isWord {D : DG} {z0 : Nat} {l : Launch} : ∀ (a0 : Int32) (σ : SG), V D z0 l RX8 cX8_isWord 1 wsX8_isWord (some .boolean) rmX8_isWord false tvI 0 [some (.int a0)] [] σ 0 0 (m_X8_isWord a0 σ) := by
  intro a0 σ
  unfold m_X8_isWord
  refine V_iload_n (x := a0) dX8_isWord_0 rfl ?_
  refine V_if_lt (tgt := 14) (x := a0) dX8_isWord_1 (by decide) (fun hc1 => ?_) (fun hc1 => ?_)
  · refine V_iconst (v := (0 : Int32)) dX8_isWord_14 rfl ?_
    exact V_zret (fun _ => rfl) rfl (Nat.zero_le _) (Nat.zero_le _) dX8_isWord_15
  · refine V_iload_n (x := a0) dX8_isWord_4 rfl ?_
    refine V_bipush (v := (32 : Int32)) dX8_isWord_5 rfl ?_
    refine V_icmp_ge (tgt := 14) (x := a0) (y := (32 : Int32)) dX8_isWord_7 (by decide) (fun hc2 => ?_) (fun hc2 => ?_)
    · refine V_iconst (v := (0 : Int32)) dX8_isWord_14 rfl ?_
      exact V_zret (fun _ => rfl) rfl (Nat.zero_le _) (Nat.zero_le _) dX8_isWord_15
    · refine V_iconst (v := (1 : Int32)) dX8_isWord_10 rfl ?_
      refine V_goto (tgt := 15) dX8_isWord_11 (by decide) ?_
      exact V_zret (fun _ => rfl) rfl (Nat.zero_le _) (Nat.zero_le _) dX8_isWord_15
theorem t_X8_isWord {D : DG} {z0 : Nat} {l : Launch} (a0 : Int32) (σ : SG) : MT D z0 l yX8_isWord wsX8_isWord rmX8_isWord tvI [.int a0] σ (m_X8_isWord a0 σ) :=
  MT.of (own := RX8) (cc := cX8_isWord) (nL := 1) (ret := (some .boolean)) (ct := false) (by decide) rfl rfl (fun h => by cases h) (Nat.le_of_ble_eq_true rfl) (by intro v hv; simp only [List.mem_cons, List.not_mem_nil, or_false] at hv; first | (rcases hv with rfl <;> first | rfl | exact va_rf_cat _) | exact absurd hv (fun h => h)) (v_X8_isWord a0 σ)
theorem in_X6_isQueueFull_X6 : ∀ w ∈ u_ws RX6 TX6 10, w ∈ wsX6_isQueueFull := by decide +kernel
theorem wd_X6_isQueueFull_1 : Cond.fieldLink RX6 15 "MainsWords$Sender" "queueLength" "I" ∈ wsX6_isQueueFull := by decide +kernel
theorem fd_X6_isQueueFull_15_X6 : FD RX6 15 wsX6_isQueueFull 6 4 := ⟨RX6, "MainsWords$Sender", TX6, 10, rfl, in_X6_isQueueFull_X6, by decide, wd_X6_isQueueFull_1, Or.inl rfl⟩
theorem wd_X6_isQueueFull_3 : Cond.fieldLink RX6 9 "MainsWords$Sender" "queue" "[I" ∈ wsX6_isQueueFull := by decide +kernel
theorem fd_X6_isQueueFull_9_X6 : FD RX6 9 wsX6_isQueueFull 6 3 := ⟨RX6, "MainsWords$Sender", TX6, 10, rfl, in_X6_isQueueFull_X6, by decide, wd_X6_isQueueFull_3, Or.inl rfl⟩
set_option maxRecDepth 100000 in
set_option maxHeartbeats 4000000 in
theorem v_X6_isQueueFull {D : DG} {z0 : Nat} {l : Launch} : ∀ (a0 : Option Nat) (σ : SG), V D z0 l RX6 cX6_isQueueFull 1 wsX6_isQueueFull (some .boolean) rmX6_isQueueFull false tvI 0 [some (va_rf a0)] [] σ 0 0 (m_X6_isQueueFull a0 σ) := by
  intro a0 σ
  unfold m_X6_isQueueFull
  refine V_aload_n (x := a0) dX6_isQueueFull_0 rfl ?_
  refine V_getI fd_X6_isQueueFull_15_X6 dX6_isQueueFull_1 (fun x1 => ?_)
  refine V_aload_n (x := a0) dX6_isQueueFull_4 rfl ?_
  refine V_getR fd_X6_isQueueFull_9_X6 dX6_isQueueFull_5 (fun x2 => ?_)
  refine V_alen dX6_isQueueFull_8 (fun x3 => ?_)
  refine V_icmp_lt (tgt := 16) (x := x1) (y := x3) dX6_isQueueFull_9 (by decide) (fun hc4 => ?_) (fun hc4 => ?_)
  · refine V_iconst (v := (0 : Int32)) dX6_isQueueFull_16 rfl ?_
    exact V_zret (fun _ => rfl) rfl (Nat.zero_le _) (Nat.zero_le _) dX6_isQueueFull_17
  · refine V_iconst (v := (1 : Int32)) dX6_isQueueFull_12 rfl ?_
    refine V_goto (tgt := 17) dX6_isQueueFull_13 (by decide) ?_
    exact V_zret (fun _ => rfl) rfl (Nat.zero_le _) (Nat.zero_le _) dX6_isQueueFull_17
theorem t_X6_isQueueFull {D : DG} {z0 : Nat} {l : Launch} (a : Nat)  (σ : SG) : MT D z0 l yX6_isQueueFull wsX6_isQueueFull rmX6_isQueueFull tvI [.ref a] σ (m_X6_isQueueFull (some a) σ) :=
  MT.of (own := RX6) (cc := cX6_isQueueFull) (nL := 1) (ret := (some .boolean)) (ct := false) (by decide) rfl rfl (fun h => by cases h) (Nat.le_of_ble_eq_true rfl) (by intro v hv; simp only [List.mem_cons, List.not_mem_nil, or_false] at hv; first | (rcases hv with rfl <;> first | rfl | exact va_rf_cat _) | exact absurd hv (fun h => h)) (v_X6_isQueueFull (some a) σ)
theorem wd_X3_refusalOfWord_0 : Cond.initialized RX8 ∈ wsX3_refusalOfWord := by decide +kernel
theorem wd_X3_refusalOfWord_1 : Cond.static yX8_isWord ∈ wsX3_refusalOfWord := by decide +kernel
set_option maxRecDepth 100000 in
set_option maxHeartbeats 4000000 in
theorem v_X3_refusalOfWord {D : DG} {z0 : Nat} {l : Launch} : ∀ (a0 : Option Nat) (a1 : Int32) (a2 : Int32) (σ : SG), V D z0 l RX3 cX3_refusalOfWord 4 wsX3_refusalOfWord (some .int) rmX3_refusalOfWord false tvI 0 [some (va_rf a0), some (.int a1), some (.int a2), none] [] σ 0 0 (m_X3_refusalOfWord a0 a1 a2 σ) := by
  intro a0 a1 a2 σ
  unfold m_X3_refusalOfWord
  refine V_aload_n (x := a0) dX3_refusalOfWord_0 rfl ?_
  refine V_iload_n (x := a1) dX3_refusalOfWord_1 rfl ?_
  refine V_callV0 (As := [.int a1]) (st0 := []) (stI := [.int a1, va_rf a0]) (fun _ h => by cases h; exact t_X3_senderAt _ a1 σ) (q := (RX3, TX3, 8)) rfl rfl rfl (Nat.le_of_ble_eq_true rfl) rfl (fun s args hts => cwV 1 hts gX3_refusalOfWord_X3_senderAt rfl rfl rfl (by decide +kernel) ⟨Nat.le_of_ble_eq_true rfl, Nat.le_of_ble_eq_true rfl⟩) rfl rfl dX3_refusalOfWord_2 (fun r1 σ2 _ => ?_)
  refine V_astore_n (x := r1) (ls' := [some (va_rf a0), some (.int a1), some (.int a2), some (va_rf r1)]) dX3_refusalOfWord_5 (by decide) rfl ?_
  refine V_aload_n (x := r1) dX3_refusalOfWord_6 rfl ?_
  refine V_ifnonnull (tgt := 12) (x := r1) dX3_refusalOfWord_7 (by decide) (fun hc3 => ?_) (fun hc3 => ?_)
  · refine V_iconst (v := (-1 : Int32)) dX3_refusalOfWord_10 rfl ?_
    exact V_iret (fun _ => rfl) rfl (Nat.zero_le _) (Nat.zero_le _) dX3_refusalOfWord_11
  · refine V_iload_n (x := a2) dX3_refusalOfWord_12 rfl ?_
    refine V_callSN0 (host := "MainsWords") (As := [.int a2]) (st0 := []) (stI := [.int a2]) (t_X8_isWord a2 σ2) rfl (Nat.le_of_ble_eq_true rfl) rfl (by decide +kernel) (fun s args hts hnw => ⟨va_cnB 1 hts gX3_refusalOfWord_X8_isWord_n104 rfl rfl rfl hnw (hts _ wd_X3_refusalOfWord_0) (by decide +kernel) ⟨Nat.le_of_ble_eq_true rfl, Nat.le_of_ble_eq_true rfl⟩, hts _ wd_X3_refusalOfWord_1, trivial⟩) rfl rfl dX3_refusalOfWord_13 (fun r4 σ5 _ => ?_)
    refine V_if_ne (tgt := 22) (x := r4) dX3_refusalOfWord_16 (by decide) (fun hc6 => ?_) (fun hc6 => ?_)
    · refine V_bipush (v := (-2 : Int32)) dX3_refusalOfWord_19 rfl ?_
      exact V_iret (fun _ => rfl) rfl (Nat.zero_le _) (Nat.zero_le _) dX3_refusalOfWord_21
    · refine V_aload_n (x := r1) dX3_refusalOfWord_22 rfl ?_
      refine V_callV0 (As := []) (st0 := []) (stI := [va_rf r1]) (fun _ h => by cases h; exact t_X6_isQueueFull _ σ5) (q := (RX6, TX6, 10)) rfl rfl rfl (Nat.le_of_ble_eq_true rfl) rfl (fun s args hts => cwV 0 hts gX3_refusalOfWord_X6_isQueueFull rfl rfl rfl (by decide +kernel) ⟨Nat.le_of_ble_eq_true rfl, Nat.le_of_ble_eq_true rfl⟩) rfl rfl dX3_refusalOfWord_23 (fun r7 σ8 _ => ?_)
      refine V_if_eq (tgt := 34) (x := r7) dX3_refusalOfWord_26 (by decide) (fun hc9 => ?_) (fun hc9 => ?_)
      · refine V_iconst (v := (0 : Int32)) dX3_refusalOfWord_34 rfl ?_
        exact V_iret (fun _ => rfl) rfl (Nat.zero_le _) (Nat.zero_le _) dX3_refusalOfWord_35
      · refine V_bipush (v := (-3 : Int32)) dX3_refusalOfWord_29 rfl ?_
        refine V_goto (tgt := 35) dX3_refusalOfWord_31 (by decide) ?_
        exact V_iret (fun _ => rfl) rfl (Nat.zero_le _) (Nat.zero_le _) dX3_refusalOfWord_35
theorem t_X3_refusalOfWord {D : DG} {z0 : Nat} {l : Launch} (a : Nat) (a1 : Int32) (a2 : Int32) (σ : SG) : MT D z0 l yX3_refusalOfWord wsX3_refusalOfWord rmX3_refusalOfWord tvI [.ref a, .int a1, .int a2] σ (m_X3_refusalOfWord (some a) a1 a2 σ) :=
  MT.of (own := RX3) (cc := cX3_refusalOfWord) (nL := 4) (ret := (some .int)) (ct := false) (by decide) rfl rfl (fun h => by cases h) (Nat.le_of_ble_eq_true rfl) (by intro v hv; simp only [List.mem_cons, List.not_mem_nil, or_false] at hv; first | (rcases hv with rfl | rfl | rfl <;> first | rfl | exact va_rf_cat _) | exact absurd hv (fun h => h)) (v_X3_refusalOfWord (some a) a1 a2 σ)
theorem in_X6_addWord_X6 : ∀ w ∈ u_ws RX6 TX6 10, w ∈ wsX6_addWord := by decide +kernel
theorem wd_X6_addWord_1 : Cond.fieldLink RX6 15 "MainsWords$Sender" "queueLength" "I" ∈ wsX6_addWord := by decide +kernel
theorem fd_X6_addWord_15_X6 : FD RX6 15 wsX6_addWord 6 4 := ⟨RX6, "MainsWords$Sender", TX6, 10, rfl, in_X6_addWord_X6, by decide, wd_X6_addWord_1, Or.inl rfl⟩
theorem wd_X6_addWord_3 : Cond.fieldLink RX6 9 "MainsWords$Sender" "queue" "[I" ∈ wsX6_addWord := by decide +kernel
theorem fd_X6_addWord_9_X6 : FD RX6 9 wsX6_addWord 6 3 := ⟨RX6, "MainsWords$Sender", TX6, 10, rfl, in_X6_addWord_X6, by decide, wd_X6_addWord_3, Or.inl rfl⟩
theorem fw_X6_addWord_X6_4 : FW RX6 wsX6_addWord 6 4 .int false := ⟨RX6, TX6, 10, tyX6, rfl, in_X6_addWord_X6, tyX6_ok, nmX6, rfl, (fun h => by cases h), rfl⟩
set_option maxRecDepth 100000 in
set_option maxHeartbeats 4000000 in
theorem v_X6_addWord {D : DG} {z0 : Nat} {l : Launch} : ∀ (a0 : Option Nat) (a1 : Int32) (σ : SG), V D z0 l RX6 cX6_addWord 2 wsX6_addWord none rmX6_addWord false tvU 0 [some (va_rf a0), some (.int a1)] [] σ 0 0 (m_X6_addWord a0 a1 σ) := by
  intro a0 a1 σ
  unfold m_X6_addWord
  refine V_aload_n (x := a0) dX6_addWord_0 rfl ?_
  refine V_getI fd_X6_addWord_15_X6 dX6_addWord_1 (fun x1 => ?_)
  refine V_if_lt (tgt := 39) (x := x1) dX6_addWord_4 (by decide) (fun hc2 => ?_) (fun hc2 => ?_)
  · exact V_vret (fun _ => rfl) rfl (Nat.zero_le _) (Nat.zero_le _) dX6_addWord_39
  · refine V_aload_n (x := a0) dX6_addWord_7 rfl ?_
    refine V_getI fd_X6_addWord_15_X6 dX6_addWord_8 (fun x3 => ?_)
    refine V_aload_n (x := a0) dX6_addWord_11 rfl ?_
    refine V_getR fd_X6_addWord_9_X6 dX6_addWord_12 (fun x4 => ?_)
    refine V_alen dX6_addWord_15 (fun x5 => ?_)
    refine V_icmp_ge (tgt := 39) (x := x3) (y := x5) dX6_addWord_16 (by decide) (fun hc6 => ?_) (fun hc6 => ?_)
    · exact V_vret (fun _ => rfl) rfl (Nat.zero_le _) (Nat.zero_le _) dX6_addWord_39
    · refine V_aload_n (x := a0) dX6_addWord_19 rfl ?_
      refine V_getR fd_X6_addWord_9_X6 dX6_addWord_20 (fun x7 => ?_)
      refine V_aload_n (x := a0) dX6_addWord_23 rfl ?_
      refine V_getI fd_X6_addWord_15_X6 dX6_addWord_24 (fun x8 => ?_)
      refine V_iload_n (x := a1) dX6_addWord_27 rfl ?_
      refine V_iastore dX6_addWord_28 (fun σ9 hσ9 => ?_)
      refine V_aload_n (x := a0) dX6_addWord_29 rfl ?_
      refine V_dup dX6_addWord_30 (va_rf_cat _) ?_
      refine V_getI fd_X6_addWord_15_X6 dX6_addWord_31 (fun x10 => ?_)
      refine V_iconst (v := (1 : Int32)) dX6_addWord_34 rfl ?_
      refine V_iadd (x := x10) (y := (1 : Int32)) dX6_addWord_35 ?_
      refine V_putI fd_X6_addWord_15_X6 fw_X6_addWord_X6_4 (fun h => by cases h) dX6_addWord_36 (fun σ11 hσ11 => ?_)
      exact V_vret (fun _ => rfl) rfl (Nat.zero_le _) (Nat.zero_le _) dX6_addWord_39
theorem t_X6_addWord {D : DG} {z0 : Nat} {l : Launch} (a : Nat) (a1 : Int32) (σ : SG) : MT D z0 l yX6_addWord wsX6_addWord rmX6_addWord tvU [.ref a, .int a1] σ (m_X6_addWord (some a) a1 σ) :=
  MT.of (own := RX6) (cc := cX6_addWord) (nL := 2) (ret := none) (ct := false) (by decide) rfl rfl (fun h => by cases h) (Nat.le_of_ble_eq_true rfl) (by intro v hv; simp only [List.mem_cons, List.not_mem_nil, or_false] at hv; first | (rcases hv with rfl | rfl <;> first | rfl | exact va_rf_cat _) | exact absurd hv (fun h => h)) (v_X6_addWord (some a) a1 σ)
theorem in_X3_giveWord_X6 : ∀ w ∈ u_ws RX6 TX6 10, w ∈ wsX3_giveWord := by decide +kernel
theorem wd_X3_giveWord_1 : Cond.fieldLink RX3 93 "MainsWords$Sender" "queueLength" "I" ∈ wsX3_giveWord := by decide +kernel
theorem fd_X3_giveWord_93_X6 : FD RX3 93 wsX3_giveWord 6 4 := ⟨RX6, "MainsWords$Sender", TX6, 10, rfl, in_X3_giveWord_X6, by decide, wd_X3_giveWord_1, Or.inl rfl⟩
set_option maxRecDepth 100000 in
set_option maxHeartbeats 4000000 in
theorem v_X3_giveWord {D : DG} {z0 : Nat} {l : Launch} : ∀ (a0 : Option Nat) (a1 : Int32) (a2 : Int32) (σ : SG), V D z0 l RX3 cX3_giveWord 4 wsX3_giveWord (some .int) rmX3_giveWord false tvI 0 [some (va_rf a0), some (.int a1), some (.int a2), none] [] σ 0 0 (m_X3_giveWord a0 a1 a2 σ) := by
  intro a0 a1 a2 σ
  unfold m_X3_giveWord
  refine V_aload_n (x := a0) dX3_giveWord_0 rfl ?_
  refine V_iload_n (x := a1) dX3_giveWord_1 rfl ?_
  refine V_callV0 (As := [.int a1]) (st0 := []) (stI := [.int a1, va_rf a0]) (fun _ h => by cases h; exact t_X3_senderAt _ a1 σ) (q := (RX3, TX3, 8)) rfl rfl rfl (Nat.le_of_ble_eq_true rfl) rfl (fun s args hts => cwV 1 hts gX3_giveWord_X3_senderAt rfl rfl rfl (by decide +kernel) ⟨Nat.le_of_ble_eq_true rfl, Nat.le_of_ble_eq_true rfl⟩) rfl rfl dX3_giveWord_2 (fun r1 σ2 _ => ?_)
  refine V_astore_n (x := r1) (ls' := [some (va_rf a0), some (.int a1), some (.int a2), some (va_rf r1)]) dX3_giveWord_5 (by decide) rfl ?_
  refine V_aload_n (x := r1) dX3_giveWord_6 rfl ?_
  refine V_ifnonnull (tgt := 12) (x := r1) dX3_giveWord_7 (by decide) (fun hc3 => ?_) (fun hc3 => ?_)
  · refine V_iconst (v := (-1 : Int32)) dX3_giveWord_10 rfl ?_
    exact V_iret (fun _ => rfl) rfl (Nat.zero_le _) (Nat.zero_le _) dX3_giveWord_11
  · refine V_aload_n (x := r1) dX3_giveWord_12 rfl ?_
    refine V_iload_n (x := a2) dX3_giveWord_13 rfl ?_
    refine V_callV0 (As := [.int a2]) (st0 := []) (stI := [.int a2, va_rf r1]) (fun _ h => by cases h; exact t_X6_addWord _ a2 σ2) (q := (RX6, TX6, 10)) rfl rfl rfl (Nat.le_of_ble_eq_true rfl) rfl (fun s args hts => cwV 1 hts gX3_giveWord_X6_addWord rfl rfl rfl (by decide +kernel) ⟨Nat.le_of_ble_eq_true rfl, Nat.le_of_ble_eq_true rfl⟩) rfl rfl dX3_giveWord_14 (fun _ σ4 _ => ?_)
    refine V_aload_n (x := r1) dX3_giveWord_17 rfl ?_
    refine V_getI fd_X3_giveWord_93_X6 dX3_giveWord_18 (fun x5 => ?_)
    exact V_iret (fun _ => rfl) rfl (Nat.zero_le _) (Nat.zero_le _) dX3_giveWord_21
theorem t_X3_giveWord {D : DG} {z0 : Nat} {l : Launch} (a : Nat) (a1 : Int32) (a2 : Int32) (σ : SG) : MT D z0 l yX3_giveWord wsX3_giveWord rmX3_giveWord tvI [.ref a, .int a1, .int a2] σ (m_X3_giveWord (some a) a1 a2 σ) :=
  MT.of (own := RX3) (cc := cX3_giveWord) (nL := 4) (ret := (some .int)) (ct := false) (by decide) rfl rfl (fun h => by cases h) (Nat.le_of_ble_eq_true rfl) (by intro v hv; simp only [List.mem_cons, List.not_mem_nil, or_false] at hv; first | (rcases hv with rfl | rfl | rfl <;> first | rfl | exact va_rf_cat _) | exact absurd hv (fun h => h)) (v_X3_giveWord (some a) a1 a2 σ)
theorem in_X3_lossBetween_X3 : ∀ w ∈ u_ws RX3 TX3 8, w ∈ wsX3_lossBetween := by decide +kernel
theorem wd_X3_lossBetween_1 : Cond.fieldLink RX3 35 "MainsWords$Net" "settings" "[I" ∈ wsX3_lossBetween := by decide +kernel
theorem fd_X3_lossBetween_35_X3 : FD RX3 35 wsX3_lossBetween 3 4 := ⟨RX3, "MainsWords$Net", TX3, 8, rfl, in_X3_lossBetween_X3, by decide, wd_X3_lossBetween_1, Or.inl rfl⟩
set_option maxRecDepth 100000 in
set_option maxHeartbeats 4000000 in
theorem v_X3_lossBetween_b39 {D : DG} {z0 : Nat} {l : Launch} : ∀ (v3 : Int32) (s0 : Int32) (σ : SG), V D z0 l RX3 cX3_lossBetween 5 wsX3_lossBetween (some .int) rmX3_lossBetween false tvI 39 [none, none, none, some (.int v3), none] [.int s0] σ 0 0 (m_X3_lossBetween_b39 v3 s0 σ) := by
  intro v3 s0 σ
  unfold m_X3_lossBetween_b39
  refine V_istore (x := s0) (ls' := [none, none, none, some (.int v3), some (.int s0)]) dX3_lossBetween_39 (by decide) rfl ?_
  refine V_iload_n (x := v3) dX3_lossBetween_41 rfl ?_
  refine V_iload (x := s0) dX3_lossBetween_42 rfl ?_
  refine V_iadd (x := v3) (y := s0) dX3_lossBetween_44 ?_
  exact V_iret (fun _ => rfl) rfl (Nat.zero_le _) (Nat.zero_le _) dX3_lossBetween_45
set_option maxRecDepth 100000 in
set_option maxHeartbeats 4000000 in
theorem v_X3_lossBetween_b19 {D : DG} {z0 : Nat} {l : Launch} : ∀ (v0 : Option Nat) (v1 : Int32) (v2 : Int32) (s0 : Int32) (σ : SG), V D z0 l RX3 cX3_lossBetween 5 wsX3_lossBetween (some .int) rmX3_lossBetween false tvI 19 [some (va_rf v0), some (.int v1), some (.int v2), none, none] [.int s0] σ 0 0 (m_X3_lossBetween_b19 v0 v1 v2 s0 σ) := by
  intro v0 v1 v2 s0 σ
  unfold m_X3_lossBetween_b19
  refine V_istore_n (x := s0) (ls' := [some (va_rf v0), some (.int v1), some (.int v2), some (.int s0), none]) dX3_lossBetween_19 (by decide) rfl ?_
  refine V_iload_n (x := v1) dX3_lossBetween_20 rfl ?_
  refine V_iconst (v := (3 : Int32)) dX3_lossBetween_21 rfl ?_
  refine V_idiv (x := v1) (y := (3 : Int32)) dX3_lossBetween_22 ?_
  refine V_iload_n (x := v2) dX3_lossBetween_23 rfl ?_
  refine V_iconst (v := (3 : Int32)) dX3_lossBetween_24 rfl ?_
  refine V_idiv (x := v2) (y := (3 : Int32)) dX3_lossBetween_25 ?_
  refine V_icmp_ne (tgt := 33) (x := (v1 / (3 : Int32))) (y := (v2 / (3 : Int32))) dX3_lossBetween_26 (by decide) (fun hc1 => ?_) (fun hc1 => ?_)
  · refine V_iconst (v := (0 : Int32)) dX3_lossBetween_29 rfl ?_
    refine V_goto (tgt := 39) dX3_lossBetween_30 (by decide) ?_
    exact V_sub (LE.n (LE.n (LE.n (LE.s (LE.s LE.e))))) (v_X3_lossBetween_b39  s0 ((0 : Int32)) σ)
  · refine V_aload_n (x := v0) dX3_lossBetween_33 rfl ?_
    refine V_getR fd_X3_lossBetween_35_X3 dX3_lossBetween_34 (fun x2 => ?_)
    refine V_iconst (v := (1 : Int32)) dX3_lossBetween_37 rfl ?_
    refine V_iaload dX3_lossBetween_38 (fun x3 => ?_)
    exact V_sub (LE.n (LE.n (LE.n (LE.s (LE.s LE.e))))) (v_X3_lossBetween_b39  s0 x3 σ)
set_option maxRecDepth 100000 in
set_option maxHeartbeats 4000000 in
theorem v_X3_lossBetween {D : DG} {z0 : Nat} {l : Launch} : ∀ (a0 : Option Nat) (a1 : Int32) (a2 : Int32) (σ : SG), V D z0 l RX3 cX3_lossBetween 5 wsX3_lossBetween (some .int) rmX3_lossBetween false tvI 0 [some (va_rf a0), some (.int a1), some (.int a2), none, none] [] σ 0 0 (m_X3_lossBetween a0 a1 a2 σ) := by
  intro a0 a1 a2 σ
  unfold m_X3_lossBetween
  refine V_iload_n (x := a1) dX3_lossBetween_0 rfl ?_
  refine V_iconst (v := (3 : Int32)) dX3_lossBetween_1 rfl ?_
  refine V_irem (x := a1) (y := (3 : Int32)) dX3_lossBetween_2 ?_
  refine V_iload_n (x := a2) dX3_lossBetween_3 rfl ?_
  refine V_iconst (v := (3 : Int32)) dX3_lossBetween_4 rfl ?_
  refine V_irem (x := a2) (y := (3 : Int32)) dX3_lossBetween_5 ?_
  refine V_icmp_ne (tgt := 13) (x := (a1 - a1 / (3 : Int32) * (3 : Int32))) (y := (a2 - a2 / (3 : Int32) * (3 : Int32))) dX3_lossBetween_6 (by decide) (fun hc4 => ?_) (fun hc4 => ?_)
  · refine V_iconst (v := (0 : Int32)) dX3_lossBetween_9 rfl ?_
    refine V_goto (tgt := 19) dX3_lossBetween_10 (by decide) ?_
    exact v_X3_lossBetween_b19  a0 a1 a2 ((0 : Int32)) σ
  · refine V_aload_n (x := a0) dX3_lossBetween_13 rfl ?_
    refine V_getR fd_X3_lossBetween_35_X3 dX3_lossBetween_14 (fun x5 => ?_)
    refine V_iconst (v := (0 : Int32)) dX3_lossBetween_17 rfl ?_
    refine V_iaload dX3_lossBetween_18 (fun x6 => ?_)
    exact v_X3_lossBetween_b19  a0 a1 a2 x6 σ
theorem t_X3_lossBetween {D : DG} {z0 : Nat} {l : Launch} (a : Nat) (a1 : Int32) (a2 : Int32) (σ : SG) : MT D z0 l yX3_lossBetween wsX3_lossBetween rmX3_lossBetween tvI [.ref a, .int a1, .int a2] σ (m_X3_lossBetween (some a) a1 a2 σ) :=
  MT.of (own := RX3) (cc := cX3_lossBetween) (nL := 5) (ret := (some .int)) (ct := false) (by decide) rfl rfl (fun h => by cases h) (Nat.le_of_ble_eq_true rfl) (by intro v hv; simp only [List.mem_cons, List.not_mem_nil, or_false] at hv; first | (rcases hv with rfl | rfl | rfl <;> first | rfl | exact va_rf_cat _) | exact absurd hv (fun h => h)) (v_X3_lossBetween (some a) a1 a2 σ)
