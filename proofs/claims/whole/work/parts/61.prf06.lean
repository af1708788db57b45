theorem in_X9_send_X9 : ∀ w ∈ u_ws RX9 TX9 15, w ∈ wsX9_send := by decide +kernel
theorem wd_X9_send_1 : Cond.fieldLink RX9 7 "MainsWordsModel" "s" "[I" ∈ wsX9_send := by decide +kernel
theorem fd_X9_send_7_X9 : FD RX9 7 wsX9_send 8 0 := ⟨RX9, "MainsWordsModel", TX9, 15, rfl, in_X9_send_X9, by decide, wd_X9_send_1, Or.inl rfl⟩
theorem wd_X9_send_3 : Cond.fieldLink RX9 28 "MainsWordsModel" "bits" "[I" ∈ wsX9_send := by decide +kernel
theorem fd_X9_send_28_X9 : FD RX9 28 wsX9_send 8 6 := ⟨RX9, "MainsWordsModel", TX9, 15, rfl, in_X9_send_X9, by decide, wd_X9_send_3, Or.inl rfl⟩
theorem wd_X9_send_5 : Cond.fieldLink RX9 25 "MainsWordsModel" "heard" "[I" ∈ wsX9_send := by decide +kernel
theorem fd_X9_send_25_X9 : FD RX9 25 wsX9_send 8 5 := ⟨RX9, "MainsWordsModel", TX9, 15, rfl, in_X9_send_X9, by decide, wd_X9_send_5, Or.inl rfl⟩
set_option maxRecDepth 100000 in
set_option maxHeartbeats 4000000 in
theorem v_X9_send_b188 {D : DG} {z0 : Nat} {l : Launch} {rec120 : Option Nat → Int32 → SG → Option (Unit × SG)} (hrec120 : ∀ (v0 : Option Nat) (v1 : Int32) (σ : SG), V D z0 l RX9 cX9_send 3 wsX9_send none rmX9_send false tvU 120 [some (va_rf v0), some (.int v1), none] [] σ 0 0 (rec120 v0 v1 σ)) : ∀ (v0 : Option Nat) (v1 : Int32) (σ : SG), V D z0 l RX9 cX9_send 3 wsX9_send none rmX9_send false tvU 188 [some (va_rf v0), some (.int v1), none] [] σ 0 0 (m_X9_send_b188 rec120 v0 v1 σ) := by
  intro v0 v1 σ
  unfold m_X9_send_b188
  refine V_iinc (x := v1) (v := (v1 + 1)) (ls' := [some (va_rf v0), some (.int (v1 + 1)), none]) dX9_send_188 rfl rfl (by decide) rfl ?_
  refine V_goto (tgt := 120) dX9_send_191 (by decide) ?_
  exact hrec120 v0 ((v1 + 1)) σ
set_option maxRecDepth 100000 in
set_option maxHeartbeats 4000000 in
theorem v_X9_send_B120 {D : DG} {z0 : Nat} {l : Launch} {rec120 : Option Nat → Int32 → SG → Option (Unit × SG)} (hrec120 : ∀ (v0 : Option Nat) (v1 : Int32) (σ : SG), V D z0 l RX9 cX9_send 3 wsX9_send none rmX9_send false tvU 120 [some (va_rf v0), some (.int v1), none] [] σ 0 0 (rec120 v0 v1 σ)) : ∀ (v0 : Option Nat) (v1 : Int32) (σ : SG), V D z0 l RX9 cX9_send 3 wsX9_send none rmX9_send false tvU 120 [some (va_rf v0), some (.int v1), none] [] σ 0 0 (m_X9_send_B120 rec120 v0 v1 σ) := by
  intro v0 v1 σ
  unfold m_X9_send_B120
  refine V_iload_n (x := v1) dX9_send_120 rfl ?_
  refine V_iconst (v := (4 : Int32)) dX9_send_121 rfl ?_
  refine V_icmp_ge (tgt := 194) (x := v1) (y := (4 : Int32)) dX9_send_122 (by decide) (fun hc1 => ?_) (fun hc1 => ?_)
  · exact V_vret (fun _ => rfl) rfl (Nat.zero_le _) (Nat.zero_le _) dX9_send_194
  · refine V_iload_n (x := v1) dX9_send_125 rfl ?_
    refine V_callS0 (As := [.int v1]) (st0 := []) (stI := [.int v1]) (t_X9_m v1 σ) rfl (Nat.le_of_ble_eq_true rfl) rfl (fun s args hts => va_cwS 1 hts gX9_send_X9_m rfl rfl rfl (by decide +kernel) ⟨Nat.le_of_ble_eq_true rfl, Nat.le_of_ble_eq_true rfl⟩) rfl rfl dX9_send_126 (fun r2 σ3 _ => ?_)
    refine V_istore_n (x := r2) (ls' := [some (va_rf v0), some (.int v1), some (.int r2)]) dX9_send_129 (by decide) rfl ?_
    refine V_aload_n (x := v0) dX9_send_130 rfl ?_
    refine V_iload_n (x := v1) dX9_send_131 rfl ?_
    refine V_callV0 (As := [.int v1]) (st0 := []) (stI := [.int v1, va_rf v0]) (fun _ h => by cases h; exact t_X9_isMachine _ v1 σ3) (q := (RX9, TX9, 15)) rfl rfl rfl (Nat.le_of_ble_eq_true rfl) rfl (fun s args hts => cwV 1 hts gX9_send_X9_isMachine rfl rfl rfl (by decide +kernel) ⟨Nat.le_of_ble_eq_true rfl, Nat.le_of_ble_eq_true rfl⟩) rfl rfl dX9_send_132 (fun r4 σ5 _ => ?_)
    refine V_if_eq (tgt := 188) (x := r4) dX9_send_135 (by decide) (fun hc6 => ?_) (fun hc6 => ?_)
    · exact V_sub (LE.s (LE.s (LE.n LE.e))) (v_X9_send_b188 hrec120 v0 v1 σ5)
    · refine V_aload_n (x := v0) dX9_send_138 rfl ?_
      refine V_getR fd_X9_send_7_X9 dX9_send_139 (fun x7 => ?_)
      refine V_iload_n (x := r2) dX9_send_142 rfl ?_
      refine V_iconst (v := (4 : Int32)) dX9_send_143 rfl ?_
      refine V_iadd (x := r2) (y := (4 : Int32)) dX9_send_144 ?_
      refine V_iaload dX9_send_145 (fun x8 => ?_)
      refine V_iconst (v := (1 : Int32)) dX9_send_146 rfl ?_
      refine V_icmp_ne (tgt := 188) (x := x8) (y := (1 : Int32)) dX9_send_147 (by decide) (fun hc9 => ?_) (fun hc9 => ?_)
      · refine V_aload_n (x := v0) dX9_send_150 rfl ?_
        refine V_getR fd_X9_send_7_X9 dX9_send_151 (fun x10 => ?_)
        refine V_iconst (v := (4 : Int32)) dX9_send_154 rfl ?_
        refine V_iaload dX9_send_155 (fun x11 => ?_)
        refine V_aload_n (x := v0) dX9_send_156 rfl ?_
        refine V_getR fd_X9_send_7_X9 dX9_send_157 (fun x12 => ?_)
        refine V_iload_n (x := r2) dX9_send_160 rfl ?_
        refine V_iconst (v := (3 : Int32)) dX9_send_161 rfl ?_
        refine V_iadd (x := r2) (y := (3 : Int32)) dX9_send_162 ?_
        refine V_iaload dX9_send_163 (fun x13 => ?_)
        refine V_irem (x := x11) (y := x13) dX9_send_164 ?_
        refine V_if_ne (tgt := 188) (x := (x11 - x11 / x13 * x13)) dX9_send_165 (by decide) (fun hc14 => ?_) (fun hc14 => ?_)
        · refine V_aload_n (x := v0) dX9_send_168 rfl ?_
          refine V_aload_n (x := v0) dX9_send_169 rfl ?_
          refine V_getR fd_X9_send_7_X9 dX9_send_170 (fun x15 => ?_)
          refine V_iload_n (x := r2) dX9_send_173 rfl ?_
          refine V_iconst (v := (1 : Int32)) dX9_send_174 rfl ?_
          refine V_iadd (x := r2) (y := (1 : Int32)) dX9_send_175 ?_
          refine V_iaload dX9_send_176 (fun x16 => ?_)
          refine V_aload_n (x := v0) dX9_send_177 rfl ?_
          refine V_getR fd_X9_send_7_X9 dX9_send_178 (fun x17 => ?_)
          refine V_iload_n (x := r2) dX9_send_181 rfl ?_
          refine V_iconst (v := (2 : Int32)) dX9_send_182 rfl ?_
          refine V_iadd (x := r2) (y := (2 : Int32)) dX9_send_183 ?_
          refine V_iaload dX9_send_184 (fun x18 => ?_)
          refine V_callV0 (As := [.int x16, .int x18]) (st0 := []) (stI := [.int x18, .int x16, va_rf v0]) (fun _ h => by cases h; exact t_X9_sound _ x16 x18 σ5) (q := (RX9, TX9, 15)) rfl rfl rfl (Nat.le_of_ble_eq_true rfl) rfl (fun s args hts => cwV 2 hts gX9_send_X9_sound rfl rfl rfl (by decide +kernel) ⟨Nat.le_of_ble_eq_true rfl, Nat.le_of_ble_eq_true rfl⟩) rfl rfl dX9_send_185 (fun _ σ19 _ => ?_)
          exact V_sub (LE.s (LE.s (LE.n LE.e))) (v_X9_send_b188 hrec120 v0 v1 σ19)
        · exact V_sub (LE.s (LE.s (LE.n LE.e))) (v_X9_send_b188 hrec120 v0 v1 σ5)
      · exact V_sub (LE.s (LE.s (LE.n LE.e))) (v_X9_send_b188 hrec120 v0 v1 σ5)
theorem v_X9_send_L120 {D : DG} {z0 : Nat} {l : Launch} : ∀ (n : Nat) (v0 : Option Nat) (v1 : Int32) (σ : SG), V D z0 l RX9 cX9_send 3 wsX9_send none rmX9_send false tvU 120 [some (va_rf v0), some (.int v1), none] [] σ 0 0 (m_X9_send_L120 n v0 v1 σ) := by
  intro n
  induction n with
  | zero => intros; exact V_none
  | succ n ih => exact v_X9_send_B120  ih
set_option maxRecDepth 100000 in
set_option maxHeartbeats 4000000 in
theorem v_X9_send_b112 {D : DG} {z0 : Nat} {l : Launch} {rec23 : Option Nat → Int32 → SG → Option (Unit × SG)} (hrec23 : ∀ (v0 : Option Nat) (v1 : Int32) (σ : SG), V D z0 l RX9 cX9_send 3 wsX9_send none rmX9_send false tvU 23 [some (va_rf v0), some (.int v1), none] [] σ 0 0 (rec23 v0 v1 σ)) : ∀ (v0 : Option Nat) (v1 : Int32) (σ : SG), V D z0 l RX9 cX9_send 3 wsX9_send none rmX9_send false tvU 112 [some (va_rf v0), some (.int v1), none] [] σ 0 0 (m_X9_send_b112 rec23 v0 v1 σ) := by
  intro v0 v1 σ
  unfold m_X9_send_b112
  refine V_iinc (x := v1) (v := (v1 + 1)) (ls' := [some (va_rf v0), some (.int (v1 + 1)), none]) dX9_send_112 rfl rfl (by decide) rfl ?_
  refine V_goto (tgt := 23) dX9_send_115 (by decide) ?_
  exact hrec23 v0 ((v1 + 1)) σ
set_option maxRecDepth 100000 in
set_option maxHeartbeats 4000000 in
theorem v_X9_send_b75 {D : DG} {z0 : Nat} {l : Launch} {rec23 : Option Nat → Int32 → SG → Option (Unit × SG)} (hrec23 : ∀ (v0 : Option Nat) (v1 : Int32) (σ : SG), V D z0 l RX9 cX9_send 3 wsX9_send none rmX9_send false tvU 23 [some (va_rf v0), some (.int v1), none] [] σ 0 0 (rec23 v0 v1 σ)) : ∀ (v0 : Option Nat) (v1 : Int32) (s0 : Option Nat) (s1 : Int32) (s2 : Int32) (σ : SG), V D z0 l RX9 cX9_send 3 wsX9_send none rmX9_send false tvU 75 [some (va_rf v0), some (.int v1), none] [.int s2, .int s1, va_rf s0] σ 0 0 (m_X9_send_b75 rec23 v0 v1 s0 s1 s2 σ) := by
  intro v0 v1 s0 s1 s2 σ
  unfold m_X9_send_b75
  refine V_iastore dX9_send_75 (fun σ20 hσ20 => ?_)
  refine V_aload_n (x := v0) dX9_send_76 rfl ?_
  refine V_getR fd_X9_send_28_X9 dX9_send_77 (fun x21 => ?_)
  refine V_iload_n (x := v1) dX9_send_80 rfl ?_
  refine V_iaload dX9_send_81 (fun x22 => ?_)
  refine V_iconst (v := (1 : Int32)) dX9_send_82 rfl ?_
  refine V_icmp_ne (tgt := 112) (x := x22) (y := (1 : Int32)) dX9_send_83 (by decide) (fun hc23 => ?_) (fun hc23 => ?_)
  · refine V_aload_n (x := v0) dX9_send_86 rfl ?_
    refine V_aload_n (x := v0) dX9_send_87 rfl ?_
    refine V_getR fd_X9_send_7_X9 dX9_send_88 (fun x24 => ?_)
    refine V_iload_n (x := v1) dX9_send_91 rfl ?_
    refine V_callS0 (As := [.int v1]) (st0 := [va_rf x24, va_rf v0]) (stI := [.int v1, va_rf x24, va_rf v0]) (t_X9_n v1 σ20) rfl (by simp only [List.map_cons, List.map_nil, List.sum_cons, List.sum_nil, va_rf_cat, catI, catF]; decide) rfl (fun s args hts => va_cwS 1 hts gX9_send_X9_n rfl rfl rfl (by decide +kernel) ⟨Nat.le_of_ble_eq_true rfl, Nat.le_of_ble_eq_true rfl⟩) rfl rfl dX9_send_92 (fun r25 σ26 _ => ?_)
    refine V_iconst (v := (1 : Int32)) dX9_send_95 rfl ?_
    refine V_iadd (x := r25) (y := (1 : Int32)) dX9_send_96 ?_
    refine V_iaload dX9_send_97 (fun x27 => ?_)
    refine V_aload_n (x := v0) dX9_send_98 rfl ?_
    refine V_getR fd_X9_send_7_X9 dX9_send_99 (fun x28 => ?_)
    refine V_iload_n (x := v1) dX9_send_102 rfl ?_
    refine V_callS0 (As := [.int v1]) (st0 := [va_rf x28, .int x27, va_rf v0]) (stI := [.int v1, va_rf x28, .int x27, va_rf v0]) (t_X9_n v1 σ26) rfl (by simp only [List.map_cons, List.map_nil, List.sum_cons, List.sum_nil, va_rf_cat, catI, catF]; decide) rfl (fun s args hts => va_cwS 1 hts gX9_send_X9_n rfl rfl rfl (by decide +kernel) ⟨Nat.le_of_ble_eq_true rfl, Nat.le_of_ble_eq_true rfl⟩) rfl rfl dX9_send_103 (fun r29 σ30 _ => ?_)
    refine V_iconst (v := (2 : Int32)) dX9_send_106 rfl ?_
    refine V_iadd (x := r29) (y := (2 : Int32)) dX9_send_107 ?_
    refine V_iaload dX9_send_108 (fun x31 => ?_)
    refine V_callV0 (As := [.int x27, .int x31]) (st0 := []) (stI := [.int x31, .int x27, va_rf v0]) (fun _ h => by cases h; exact t_X9_sound _ x27 x31 σ30) (q := (RX9, TX9, 15)) rfl rfl rfl (Nat.le_of_ble_eq_true rfl) rfl (fun s args hts => cwV 2 hts gX9_send_X9_sound rfl rfl rfl (by decide +kernel) ⟨Nat.le_of_ble_eq_true rfl, Nat.le_of_ble_eq_true rfl⟩) rfl rfl dX9_send_109 (fun _ σ32 _ => ?_)
    exact v_X9_send_b112 hrec23 v0 v1 σ32
  · exact v_X9_send_b112 hrec23 v0 v1 σ20
set_option maxRecDepth 100000 in
set_option maxHeartbeats 4000000 in
theorem v_X9_send_b56 {D : DG} {z0 : Nat} {l : Launch} {rec23 : Option Nat → Int32 → SG → Option (Unit × SG)} (hrec23 : ∀ (v0 : Option Nat) (v1 : Int32) (σ : SG), V D z0 l RX9 cX9_send 3 wsX9_send none rmX9_send false tvU 23 [some (va_rf v0), some (.int v1), none] [] σ 0 0 (rec23 v0 v1 σ)) : ∀ (v0 : Option Nat) (v1 : Int32) (s0 : Int32) (σ : SG), V D z0 l RX9 cX9_send 3 wsX9_send none rmX9_send false tvU 56 [some (va_rf v0), some (.int v1), none] [.int s0] σ 0 0 (m_X9_send_b56 rec23 v0 v1 s0 σ) := by
  intro v0 v1 s0 σ
  unfold m_X9_send_b56
  refine V_istore_n (x := s0) (ls' := [some (va_rf v0), some (.int v1), some (.int s0)]) dX9_send_56 (by decide) rfl ?_
  refine V_aload_n (x := v0) dX9_send_57 rfl ?_
  refine V_getR fd_X9_send_28_X9 dX9_send_58 (fun x33 => ?_)
  refine V_iload_n (x := v1) dX9_send_61 rfl ?_
  refine V_iload_n (x := s0) dX9_send_62 rfl ?_
  refine V_if_eq (tgt := 74) (x := s0) dX9_send_63 (by decide) (fun hc34 => ?_) (fun hc34 => ?_)
  · refine V_iconst (v := (0 : Int32)) dX9_send_74 rfl ?_
    exact V_sub (LE.s (LE.s (LE.n LE.e))) (v_X9_send_b75 hrec23 v0 v1 x33 v1 ((0 : Int32)) σ)
  · refine V_aload_n (x := v0) dX9_send_66 rfl ?_
    refine V_iload_n (x := v1) dX9_send_67 rfl ?_
    refine V_callV0 (As := [.int v1]) (st0 := [.int v1, va_rf x33]) (stI := [.int v1, va_rf v0, .int v1, va_rf x33]) (fun _ h => by cases h; exact t_X9_bitOf _ v1 σ) (q := (RX9, TX9, 15)) rfl rfl rfl (by simp only [List.map_cons, List.map_nil, List.sum_cons, List.sum_nil, va_rf_cat, catI, catF]; decide) rfl (fun s args hts => cwV 1 hts gX9_send_X9_bitOf rfl rfl rfl (by decide +kernel) ⟨Nat.le_of_ble_eq_true rfl, Nat.le_of_ble_eq_true rfl⟩) rfl rfl dX9_send_68 (fun r35 σ36 _ => ?_)
    refine V_goto (tgt := 75) dX9_send_71 (by decide) ?_
    exact V_sub (LE.s (LE.s (LE.n LE.e))) (v_X9_send_b75 hrec23 v0 v1 x33 v1 r35 σ36)
set_option maxRecDepth 100000 in
set_option maxHeartbeats 4000000 in
theorem v_X9_send_b55 {D : DG} {z0 : Nat} {l : Launch} {rec23 : Option Nat → Int32 → SG → Option (Unit × SG)} (hrec23 : ∀ (v0 : Option Nat) (v1 : Int32) (σ : SG), V D z0 l RX9 cX9_send 3 wsX9_send none rmX9_send false tvU 23 [some (va_rf v0), some (.int v1), none] [] σ 0 0 (rec23 v0 v1 σ)) : ∀ (v0 : Option Nat) (v1 : Int32) (σ : SG), V D z0 l RX9 cX9_send 3 wsX9_send none rmX9_send false tvU 55 [some (va_rf v0), some (.int v1), none] [] σ 0 0 (m_X9_send_b55 rec23 v0 v1 σ) := by
  intro v0 v1 σ
  unfold m_X9_send_b55
  refine V_iconst (v := (0 : Int32)) dX9_send_55 rfl ?_
  exact v_X9_send_b56 hrec23 v0 v1 ((0 : Int32)) σ
set_option maxRecDepth 100000 in
set_option maxHeartbeats 4000000 in
theorem v_X9_send_B23 {D : DG} {z0 : Nat} {l : Launch} {rec23 : Option Nat → Int32 → SG → Option (Unit × SG)} (hrec23 : ∀ (v0 : Option Nat) (v1 : Int32) (σ : SG), V D z0 l RX9 cX9_send 3 wsX9_send none rmX9_send false tvU 23 [some (va_rf v0), some (.int v1), none] [] σ 0 0 (rec23 v0 v1 σ)) : ∀ (v0 : Option Nat) (v1 : Int32) (σ : SG), V D z0 l RX9 cX9_send 3 wsX9_send none rmX9_send false tvU 23 [some (va_rf v0), some (.int v1), none] [] σ 0 0 (m_X9_send_B23 rec23 v0 v1 σ) := by
  intro v0 v1 σ
  unfold m_X9_send_B23
  refine V_iload_n (x := v1) dX9_send_23 rfl ?_
  refine V_iconst (v := (5 : Int32)) dX9_send_24 rfl ?_
  refine V_icmp_ge (tgt := 118) (x := v1) (y := (5 : Int32)) dX9_send_25 (by decide) (fun hc37 => ?_) (fun hc37 => ?_)
  · refine V_iconst (v := (0 : Int32)) dX9_send_118 rfl ?_
    refine V_istore_n (x := (0 : Int32)) (ls' := [some (va_rf v0), some (.int (0 : Int32)), none]) dX9_send_119 (by decide) rfl ?_
    exact v_X9_send_L120  1000 v0 ((0 : Int32)) σ
  · refine V_aload_n (x := v0) dX9_send_28 rfl ?_
    refine V_iload_n (x := v1) dX9_send_29 rfl ?_
    refine V_callV0 (As := [.int v1]) (st0 := []) (stI := [.int v1, va_rf v0]) (fun _ h => by cases h; exact t_X9_isSender _ v1 σ) (q := (RX9, TX9, 15)) rfl rfl rfl (Nat.le_of_ble_eq_true rfl) rfl (fun s args hts => cwV 1 hts gX9_send_X9_isSender rfl rfl rfl (by decide +kernel) ⟨Nat.le_of_ble_eq_true rfl, Nat.le_of_ble_eq_true rfl⟩) rfl rfl dX9_send_30 (fun r38 σ39 _ => ?_)
    refine V_if_eq (tgt := 55) (x := r38) dX9_send_33 (by decide) (fun hc40 => ?_) (fun hc40 => ?_)
    · exact v_X9_send_b55 hrec23 v0 v1 σ39
    · refine V_aload_n (x := v0) dX9_send_36 rfl ?_
      refine V_getR fd_X9_send_7_X9 dX9_send_37 (fun x41 => ?_)
      refine V_iload_n (x := v1) dX9_send_40 rfl ?_
      refine V_callS0 (As := [.int v1]) (st0 := [va_rf x41]) (stI := [.int v1, va_rf x41]) (t_X9_n v1 σ39) rfl (by simp only [List.map_cons, List.map_nil, List.sum_cons, List.sum_nil, va_rf_cat, catI, catF]; decide) rfl (fun s args hts => va_cwS 1 hts gX9_send_X9_n rfl rfl rfl (by decide +kernel) ⟨Nat.le_of_ble_eq_true rfl, Nat.le_of_ble_eq_true rfl⟩) rfl rfl dX9_send_41 (fun r42 σ43 _ => ?_)
      refine V_iconst (v := (4 : Int32)) dX9_send_44 rfl ?_
      refine V_iadd (x := r42) (y := (4 : Int32)) dX9_send_45 ?_
      refine V_iaload dX9_send_46 (fun x44 => ?_)
      refine V_iconst (v := (1 : Int32)) dX9_send_47 rfl ?_
      refine V_icmp_ne (tgt := 55) (x := x44) (y := (1 : Int32)) dX9_send_48 (by decide) (fun hc45 => ?_) (fun hc45 => ?_)
      · refine V_iconst (v := (1 : Int32)) dX9_send_51 rfl ?_
        refine V_goto (tgt := 56) dX9_send_52 (by decide) ?_
        exact v_X9_send_b56 hrec23 v0 v1 ((1 : Int32)) σ43
      · exact v_X9_send_b55 hrec23 v0 v1 σ43
theorem v_X9_send_L23 {D : DG} {z0 : Nat} {l : Launch} : ∀ (n : Nat) (v0 : Option Nat) (v1 : Int32) (σ : SG), V D z0 l RX9 cX9_send 3 wsX9_send none rmX9_send false tvU 23 [some (va_rf v0), some (.int v1), none] [] σ 0 0 (m_X9_send_L23 n v0 v1 σ) := by
  intro n
  induction n with
  | zero => intros; exact V_none
  | succ n ih => exact v_X9_send_B23  ih
set_option maxRecDepth 100000 in
set_option maxHeartbeats 4000000 in
theorem v_X9_send_B2 {D : DG} {z0 : Nat} {l : Launch} {rec2 : Option Nat → Int32 → SG → Option (Unit × SG)} (hrec2 : ∀ (v0 : Option Nat) (v1 : Int32) (σ : SG), V D z0 l RX9 cX9_send 3 wsX9_send none rmX9_send false tvU 2 [some (va_rf v0), some (.int v1), none] [] σ 0 0 (rec2 v0 v1 σ)) : ∀ (v0 : Option Nat) (v1 : Int32) (σ : SG), V D z0 l RX9 cX9_send 3 wsX9_send none rmX9_send false tvU 2 [some (va_rf v0), some (.int v1), none] [] σ 0 0 (m_X9_send_B2 rec2 v0 v1 σ) := by
  intro v0 v1 σ
  unfold m_X9_send_B2
  refine V_iload_n (x := v1) dX9_send_2 rfl ?_
  refine V_bipush (v := (6 : Int32)) dX9_send_3 rfl ?_
  refine V_icmp_ge (tgt := 21) (x := v1) (y := (6 : Int32)) dX9_send_5 (by decide) (fun hc46 => ?_) (fun hc46 => ?_)
  · refine V_iconst (v := (0 : Int32)) dX9_send_21 rfl ?_
    refine V_istore_n (x := (0 : Int32)) (ls' := [some (va_rf v0), some (.int (0 : Int32)), none]) dX9_send_22 (by decide) rfl ?_
    exact v_X9_send_L23  1000 v0 ((0 : Int32)) σ
  · refine V_aload_n (x := v0) dX9_send_8 rfl ?_
    refine V_getR fd_X9_send_25_X9 dX9_send_9 (fun x47 => ?_)
    refine V_iload_n (x := v1) dX9_send_12 rfl ?_
    refine V_iconst (v := (0 : Int32)) dX9_send_13 rfl ?_
    refine V_iastore dX9_send_14 (fun σ48 hσ48 => ?_)
    refine V_iinc (x := v1) (v := (v1 + 1)) (ls' := [some (va_rf v0), some (.int (v1 + 1)), none]) dX9_send_15 rfl rfl (by decide) rfl ?_
    refine V_goto (tgt := 2) dX9_send_18 (by decide) ?_
    exact hrec2 v0 ((v1 + 1)) σ48
theorem v_X9_send_L2 {D : DG} {z0 : Nat} {l : Launch} : ∀ (n : Nat) (v0 : Option Nat) (v1 : Int32) (σ : SG), V D z0 l RX9 cX9_send 3 wsX9_send none rmX9_send false tvU 2 [some (va_rf v0), some (.int v1), none] [] σ 0 0 (m_X9_send_L2 n v0 v1 σ) := by
  intro n
  induction n with
  | zero => intros; exact V_none
  | succ n ih => exact v_X9_send_B2  ih
set_option maxRecDepth 100000 in
set_option maxHeartbeats 4000000 in
theorem v_X9_send {D : DG} {z0 : Nat} {l : Launch} : ∀ (a0 : Option Nat) (σ : SG), V D z0 l RX9 cX9_send 3 wsX9_send none rmX9_send false tvU 0 [some (va_rf a0), none, none] [] σ 0 0 (m_X9_send a0 σ) := by
  intro a0 σ
  unfold m_X9_send
  refine V_iconst (v := (0 : Int32)) dX9_send_0 rfl ?_
  refine V_istore_n (x := (0 : Int32)) (ls' := [some (va_rf a0), some (.int (0 : Int32)), none]) dX9_send_1 (by decide) rfl ?_
  exact v_X9_send_L2  1000 a0 ((0 : Int32)) σ
theorem t_X9_send {D : DG} {z0 : Nat} {l : Launch} (a : Nat)  (σ : SG) : MT D z0 l yX9_send wsX9_send rmX9_send tvU [.ref a] σ (m_X9_send (some a) σ) :=
  MT.of (own := RX9) (cc := cX9_send) (nL := 3) (ret := none) (ct := false) (by decide) rfl rfl (fun h => by cases h) (Nat.le_of_ble_eq_true rfl) (by intro v hv; simp only [List.mem_cons, List.not_mem_nil, or_false] at hv; first | (rcases hv with rfl <;> first | rfl | exact va_rf_cat _) | exact absurd hv (fun h => h)) (v_X9_send (some a) σ)
theorem in_X9_finish_X9 : ∀ w ∈ u_ws RX9 TX9 15, w ∈ wsX9_finish := by decide +kernel
theorem wd_X9_finish_1 : Cond.fieldLink RX9 7 "MainsWordsModel" "s" "[I" ∈ wsX9_finish := by decide +kernel
theorem fd_X9_finish_7_X9 : FD RX9 7 wsX9_finish 8 0 := ⟨RX9, "MainsWordsModel", TX9, 15, rfl, in_X9_finish_X9, by decide, wd_X9_finish_1, Or.inl rfl⟩
set_option maxRecDepth 100000 in
set_option maxHeartbeats 4000000 in
theorem v_X9_finish_B11 {D : DG} {z0 : Nat} {l : Launch} {rec11 : Option Nat → Int32 → Int32 → SG → Option (Unit × SG)} (hrec11 : ∀ (v0 : Option Nat) (v1 : Int32) (v2 : Int32) (σ : SG), V D z0 l RX9 cX9_finish 3 wsX9_finish none rmX9_finish false tvU 11 [some (va_rf v0), some (.int v1), some (.int v2)] [] σ 0 0 (rec11 v0 v1 v2 σ)) : ∀ (v0 : Option Nat) (v1 : Int32) (v2 : Int32) (σ : SG), V D z0 l RX9 cX9_finish 3 wsX9_finish none rmX9_finish false tvU 11 [some (va_rf v0), some (.int v1), some (.int v2)] [] σ 0 0 (m_X9_finish_B11 rec11 v0 v1 v2 σ) := by
  intro v0 v1 v2 σ
  unfold m_X9_finish_B11
  refine V_iload_n (x := v2) dX9_finish_11 rfl ?_
  refine V_iconst (v := (5 : Int32)) dX9_finish_12 rfl ?_
  refine V_icmp_ge (tgt := 46) (x := v2) (y := (5 : Int32)) dX9_finish_13 (by decide) (fun hc1 => ?_) (fun hc1 => ?_)
  · refine V_aload_n (x := v0) dX9_finish_46 rfl ?_
    refine V_getR fd_X9_finish_7_X9 dX9_finish_47 (fun x2 => ?_)
    refine V_iload_n (x := v1) dX9_finish_50 rfl ?_
    refine V_iconst (v := (3 : Int32)) dX9_finish_51 rfl ?_
    refine V_iadd (x := v1) (y := (3 : Int32)) dX9_finish_52 ?_
    refine V_dup2 dX9_finish_53 rfl (va_rf_cat _) ?_
    refine V_iaload dX9_finish_54 (fun x3 => ?_)
    refine V_iconst (v := (1 : Int32)) dX9_finish_55 rfl ?_
    refine V_isub (x := x3) (y := (1 : Int32)) dX9_finish_56 ?_
    refine V_iastore dX9_finish_57 (fun σ4 hσ4 => ?_)
    refine V_aload_n (x := v0) dX9_finish_58 rfl ?_
    refine V_getR fd_X9_finish_7_X9 dX9_finish_59 (fun x5 => ?_)
    refine V_iconst (v := (5 : Int32)) dX9_finish_62 rfl ?_
    refine V_dup2 dX9_finish_63 rfl (va_rf_cat _) ?_
    refine V_iaload dX9_finish_64 (fun x6 => ?_)
    refine V_iconst (v := (1 : Int32)) dX9_finish_65 rfl ?_
    refine V_iadd (x := x6) (y := (1 : Int32)) dX9_finish_66 ?_
    refine V_iastore dX9_finish_67 (fun σ7 hσ7 => ?_)
    exact V_vret (fun _ => rfl) rfl (Nat.zero_le _) (Nat.zero_le _) dX9_finish_68
  · refine V_aload_n (x := v0) dX9_finish_16 rfl ?_
    refine V_getR fd_X9_finish_7_X9 dX9_finish_17 (fun x8 => ?_)
    refine V_iload_n (x := v1) dX9_finish_20 rfl ?_
    refine V_bipush (v := (8 : Int32)) dX9_finish_21 rfl ?_
    refine V_iadd (x := v1) (y := (8 : Int32)) dX9_finish_23 ?_
    refine V_iload_n (x := v2) dX9_finish_24 rfl ?_
    refine V_iadd (x := (v1 + (8 : Int32))) (y := v2) dX9_finish_25 ?_
    refine V_aload_n (x := v0) dX9_finish_26 rfl ?_
    refine V_getR fd_X9_finish_7_X9 dX9_finish_27 (fun x9 => ?_)
    refine V_iload_n (x := v1) dX9_finish_30 rfl ?_
    refine V_bipush (v := (8 : Int32)) dX9_finish_31 rfl ?_
    refine V_iadd (x := v1) (y := (8 : Int32)) dX9_finish_33 ?_
    refine V_iload_n (x := v2) dX9_finish_34 rfl ?_
    refine V_iadd (x := (v1 + (8 : Int32))) (y := v2) dX9_finish_35 ?_
    refine V_iconst (v := (1 : Int32)) dX9_finish_36 rfl ?_
    refine V_iadd (x := ((v1 + (8 : Int32)) + v2)) (y := (1 : Int32)) dX9_finish_37 ?_
    refine V_iaload dX9_finish_38 (fun x10 => ?_)
    refine V_iastore dX9_finish_39 (fun σ11 hσ11 => ?_)
    refine V_iinc (x := v2) (v := (v2 + 1)) (ls' := [some (va_rf v0), some (.int v1), some (.int (v2 + 1))]) dX9_finish_40 rfl rfl (by decide) rfl ?_
    refine V_goto (tgt := 11) dX9_finish_43 (by decide) ?_
    exact hrec11 v0 v1 ((v2 + 1)) σ11
theorem v_X9_finish_L11 {D : DG} {z0 : Nat} {l : Launch} : ∀ (n : Nat) (v0 : Option Nat) (v1 : Int32) (v2 : Int32) (σ : SG), V D z0 l RX9 cX9_finish 3 wsX9_finish none rmX9_finish false tvU 11 [some (va_rf v0), some (.int v1), some (.int v2)] [] σ 0 0 (m_X9_finish_L11 n v0 v1 v2 σ) := by
  intro n
  induction n with
  | zero => intros; exact V_none
  | succ n ih => exact v_X9_finish_B11  ih
set_option maxRecDepth 100000 in
set_option maxHeartbeats 4000000 in
theorem v_X9_finish {D : DG} {z0 : Nat} {l : Launch} : ∀ (a0 : Option Nat) (a1 : Int32) (σ : SG), V D z0 l RX9 cX9_finish 3 wsX9_finish none rmX9_finish false tvU 0 [some (va_rf a0), some (.int a1), none] [] σ 0 0 (m_X9_finish a0 a1 σ) := by
  intro a0 a1 σ
  unfold m_X9_finish
  refine V_aload_n (x := a0) dX9_finish_0 rfl ?_
  refine V_getR fd_X9_finish_7_X9 dX9_finish_1 (fun x12 => ?_)
  refine V_iload_n (x := a1) dX9_finish_4 rfl ?_
  refine V_iconst (v := (4 : Int32)) dX9_finish_5 rfl ?_
  refine V_iadd (x := a1) (y := (4 : Int32)) dX9_finish_6 ?_
  refine V_iconst (v := (0 : Int32)) dX9_finish_7 rfl ?_
  refine V_iastore dX9_finish_8 (fun σ13 hσ13 => ?_)
  refine V_iconst (v := (0 : Int32)) dX9_finish_9 rfl ?_
  refine V_istore_n (x := (0 : Int32)) (ls' := [some (va_rf a0), some (.int a1), some (.int (0 : Int32))]) dX9_finish_10 (by decide) rfl ?_
  exact v_X9_finish_L11  1000 a0 a1 ((0 : Int32)) σ13
theorem t_X9_finish {D : DG} {z0 : Nat} {l : Launch} (a : Nat) (a1 : Int32) (σ : SG) : MT D z0 l yX9_finish wsX9_finish rmX9_finish tvU [.ref a, .int a1] σ (m_X9_finish (some a) a1 σ) :=
  MT.of (own := RX9) (cc := cX9_finish) (nL := 3) (ret := none) (ct := false) (by decide) rfl rfl (fun h => by cases h) (Nat.le_of_ble_eq_true rfl) (by intro v hv; simp only [List.mem_cons, List.not_mem_nil, or_false] at hv; first | (rcases hv with rfl | rfl <;> first | rfl | exact va_rf_cat _) | exact absurd hv (fun h => h)) (v_X9_finish (some a) a1 σ)
theorem in_X9_goOn_X9 : ∀ w ∈ u_ws RX9 TX9 15, w ∈ wsX9_goOn := by decide +kernel
theorem wd_X9_goOn_1 : Cond.fieldLink RX9 7 "MainsWordsModel" "s" "[I" ∈ wsX9_goOn := by decide +kernel
theorem fd_X9_goOn_7_X9 : FD RX9 7 wsX9_goOn 8 0 := ⟨RX9, "MainsWordsModel", TX9, 15, rfl, in_X9_goOn_X9, by decide, wd_X9_goOn_1, Or.inl rfl⟩
theorem wd_X9_goOn_3 : Cond.fieldLink RX9 28 "MainsWordsModel" "bits" "[I" ∈ wsX9_goOn := by decide +kernel
theorem fd_X9_goOn_28_X9 : FD RX9 28 wsX9_goOn 8 6 := ⟨RX9, "MainsWordsModel", TX9, 15, rfl, in_X9_goOn_X9, by decide, wd_X9_goOn_3, Or.inl rfl⟩
theorem wd_X9_goOn_5 : Cond.fieldLink RX9 25 "MainsWordsModel" "heard" "[I" ∈ wsX9_goOn := by decide +kernel
theorem fd_X9_goOn_25_X9 : FD RX9 25 wsX9_goOn 8 5 := ⟨RX9, "MainsWordsModel", TX9, 15, rfl, in_X9_goOn_X9, by decide, wd_X9_goOn_5, Or.inl rfl⟩
set_option maxRecDepth 100000 in
set_option maxHeartbeats 4000000 in
theorem v_X9_goOn_b80 {D : DG} {z0 : Nat} {l : Launch} : ∀ (v0 : Option Nat) (v2 : Int32) (σ : SG), V D z0 l RX9 cX9_goOn 3 wsX9_goOn none rmX9_goOn false tvU 80 [some (va_rf v0), none, some (.int v2)] [] σ 0 0 (m_X9_goOn_b80 v0 v2 σ) := by
  intro v0 v2 σ
  unfold m_X9_goOn_b80
  refine V_aload_n (x := v0) dX9_goOn_80 rfl ?_
  refine V_getR fd_X9_goOn_7_X9 dX9_goOn_81 (fun x1 => ?_)
  refine V_iload_n (x := v2) dX9_goOn_84 rfl ?_
  refine V_bipush (v := (6 : Int32)) dX9_goOn_85 rfl ?_
  refine V_iadd (x := v2) (y := (6 : Int32)) dX9_goOn_87 ?_
  refine V_dup2 dX9_goOn_88 rfl (va_rf_cat _) ?_
  refine V_iaload dX9_goOn_89 (fun x2 => ?_)
  refine V_iconst (v := (1 : Int32)) dX9_goOn_90 rfl ?_
  refine V_iadd (x := x2) (y := (1 : Int32)) dX9_goOn_91 ?_
  refine V_iastore dX9_goOn_92 (fun σ3 hσ3 => ?_)
  refine V_aload_n (x := v0) dX9_goOn_93 rfl ?_
  refine V_getR fd_X9_goOn_7_X9 dX9_goOn_94 (fun x4 => ?_)
  refine V_iload_n (x := v2) dX9_goOn_97 rfl ?_
  refine V_bipush (v := (6 : Int32)) dX9_goOn_98 rfl ?_
  refine V_iadd (x := v2) (y := (6 : Int32)) dX9_goOn_100 ?_
  refine V_iaload dX9_goOn_101 (fun x5 => ?_)
  refine V_bipush (v := (17 : Int32)) dX9_goOn_102 rfl ?_
  refine V_icmp_ne (tgt := 151) (x := x5) (y := (17 : Int32)) dX9_goOn_104 (by decide) (fun hc6 => ?_) (fun hc6 => ?_)
  · refine V_aload_n (x := v0) dX9_goOn_107 rfl ?_
    refine V_getR fd_X9_goOn_7_X9 dX9_goOn_108 (fun x7 => ?_)
    refine V_iload_n (x := v2) dX9_goOn_111 rfl ?_
    refine V_bipush (v := (6 : Int32)) dX9_goOn_112 rfl ?_
    refine V_iadd (x := v2) (y := (6 : Int32)) dX9_goOn_114 ?_
    refine V_iconst (v := (0 : Int32)) dX9_goOn_115 rfl ?_
    refine V_iastore dX9_goOn_116 (fun σ8 hσ8 => ?_)
    refine V_aload_n (x := v0) dX9_goOn_117 rfl ?_
    refine V_getR fd_X9_goOn_7_X9 dX9_goOn_118 (fun x9 => ?_)
    refine V_iload_n (x := v2) dX9_goOn_121 rfl ?_
    refine V_iconst (v := (5 : Int32)) dX9_goOn_122 rfl ?_
    refine V_iadd (x := v2) (y := (5 : Int32)) dX9_goOn_123 ?_
    refine V_dup2 dX9_goOn_124 rfl (va_rf_cat _) ?_
    refine V_iaload dX9_goOn_125 (fun x10 => ?_)
    refine V_iconst (v := (1 : Int32)) dX9_goOn_126 rfl ?_
    refine V_iadd (x := x10) (y := (1 : Int32)) dX9_goOn_127 ?_
    refine V_iastore dX9_goOn_128 (fun σ11 hσ11 => ?_)
    refine V_aload_n (x := v0) dX9_goOn_129 rfl ?_
    refine V_getR fd_X9_goOn_7_X9 dX9_goOn_130 (fun x12 => ?_)
    refine V_iload_n (x := v2) dX9_goOn_133 rfl ?_
    refine V_iconst (v := (5 : Int32)) dX9_goOn_134 rfl ?_
    refine V_iadd (x := v2) (y := (5 : Int32)) dX9_goOn_135 ?_
    refine V_iaload dX9_goOn_136 (fun x13 => ?_)
    refine V_aload_n (x := v0) dX9_goOn_137 rfl ?_
    refine V_getR fd_X9_goOn_7_X9 dX9_goOn_138 (fun x14 => ?_)
    refine V_iconst (v := (3 : Int32)) dX9_goOn_141 rfl ?_
    refine V_iaload dX9_goOn_142 (fun x15 => ?_)
    refine V_icmp_lt (tgt := 151) (x := x13) (y := x15) dX9_goOn_143 (by decide) (fun hc16 => ?_) (fun hc16 => ?_)
    · exact V_vret (fun _ => rfl) rfl (Nat.zero_le _) (Nat.zero_le _) dX9_goOn_151
    · refine V_aload_n (x := v0) dX9_goOn_146 rfl ?_
      refine V_iload_n (x := v2) dX9_goOn_147 rfl ?_
      refine V_callV0 (As := [.int v2]) (st0 := []) (stI := [.int v2, va_rf v0]) (fun _ h => by cases h; exact t_X9_finish _ v2 σ11) (q := (RX9, TX9, 15)) rfl rfl rfl (Nat.le_of_ble_eq_true rfl) rfl (fun s args hts => cwV 1 hts gX9_goOn_X9_finish rfl rfl rfl (by decide +kernel) ⟨Nat.le_of_ble_eq_true rfl, Nat.le_of_ble_eq_true rfl⟩) rfl rfl dX9_goOn_148 (fun _ σ17 _ => ?_)
      exact V_vret (fun _ => rfl) rfl (Nat.zero_le _) (Nat.zero_le _) dX9_goOn_151
  · exact V_vret (fun _ => rfl) rfl (Nat.zero_le _) (Nat.zero_le _) dX9_goOn_151
set_option maxRecDepth 100000 in
set_option maxHeartbeats 4000000 in
theorem v_X9_goOn {D : DG} {z0 : Nat} {l : Launch} : ∀ (a0 : Option Nat) (a1 : Int32) (σ : SG), V D z0 l RX9 cX9_goOn 3 wsX9_goOn none rmX9_goOn false tvU 0 [some (va_rf a0), some (.int a1), none] [] σ 0 0 (m_X9_goOn a0 a1 σ) := by
  intro a0 a1 σ
  unfold m_X9_goOn
  refine V_iload_n (x := a1) dX9_goOn_0 rfl ?_
  refine V_callS0 (As := [.int a1]) (st0 := []) (stI := [.int a1]) (t_X9_n a1 σ) rfl (Nat.le_of_ble_eq_true rfl) rfl (fun s args hts => va_cwS 1 hts gX9_goOn_X9_n rfl rfl rfl (by decide +kernel) ⟨Nat.le_of_ble_eq_true rfl, Nat.le_of_ble_eq_true rfl⟩) rfl rfl dX9_goOn_1 (fun r18 σ19 _ => ?_)
  refine V_istore_n (x := r18) (ls' := [some (va_rf a0), some (.int a1), some (.int r18)]) dX9_goOn_4 (by decide) rfl ?_
  refine V_aload_n (x := a0) dX9_goOn_5 rfl ?_
  refine V_getR fd_X9_goOn_7_X9 dX9_goOn_6 (fun x20 => ?_)
  refine V_iload_n (x := r18) dX9_goOn_9 rfl ?_
  refine V_bipush (v := (6 : Int32)) dX9_goOn_10 rfl ?_
  refine V_iadd (x := r18) (y := (6 : Int32)) dX9_goOn_12 ?_
  refine V_iaload dX9_goOn_13 (fun x21 => ?_)
  refine V_bipush (v := (14 : Int32)) dX9_goOn_14 rfl ?_
  refine V_icmp_ge (tgt := 80) (x := x21) (y := (14 : Int32)) dX9_goOn_16 (by decide) (fun hc22 => ?_) (fun hc22 => ?_)
  · exact V_sub (LE.s (LE.n (LE.s LE.e))) (v_X9_goOn_b80  a0 r18 σ19)
  · refine V_aload_n (x := a0) dX9_goOn_19 rfl ?_
    refine V_getR fd_X9_goOn_28_X9 dX9_goOn_20 (fun x23 => ?_)
    refine V_iload_n (x := a1) dX9_goOn_23 rfl ?_
    refine V_iaload dX9_goOn_24 (fun x24 => ?_)
    refine V_if_ne (tgt := 80) (x := x24) dX9_goOn_25 (by decide) (fun hc25 => ?_) (fun hc25 => ?_)
    · refine V_aload_n (x := a0) dX9_goOn_28 rfl ?_
      refine V_getR fd_X9_goOn_25_X9 dX9_goOn_29 (fun x26 => ?_)
      refine V_aload_n (x := a0) dX9_goOn_32 rfl ?_
      refine V_getR fd_X9_goOn_7_X9 dX9_goOn_33 (fun x27 => ?_)
      refine V_iload_n (x := r18) dX9_goOn_36 rfl ?_
      refine V_iconst (v := (1 : Int32)) dX9_goOn_37 rfl ?_
      refine V_iadd (x := r18) (y := (1 : Int32)) dX9_goOn_38 ?_
      refine V_iaload dX9_goOn_39 (fun x28 => ?_)
      refine V_iaload dX9_goOn_40 (fun x29 => ?_)
      refine V_iconst (v := (1 : Int32)) dX9_goOn_41 rfl ?_
      refine V_icmp_ne (tgt := 80) (x := x29) (y := (1 : Int32)) dX9_goOn_42 (by decide) (fun hc30 => ?_) (fun hc30 => ?_)
      · refine V_aload_n (x := a0) dX9_goOn_45 rfl ?_
        refine V_getR fd_X9_goOn_7_X9 dX9_goOn_46 (fun x31 => ?_)
        refine V_iload_n (x := r18) dX9_goOn_49 rfl ?_
        refine V_iconst (v := (4 : Int32)) dX9_goOn_50 rfl ?_
        refine V_iadd (x := r18) (y := (4 : Int32)) dX9_goOn_51 ?_
        refine V_iconst (v := (0 : Int32)) dX9_goOn_52 rfl ?_
        refine V_iastore dX9_goOn_53 (fun σ32 hσ32 => ?_)
        refine V_aload_n (x := a0) dX9_goOn_54 rfl ?_
        refine V_getR fd_X9_goOn_7_X9 dX9_goOn_55 (fun x33 => ?_)
        refine V_iload_n (x := r18) dX9_goOn_58 rfl ?_
        refine V_bipush (v := (7 : Int32)) dX9_goOn_59 rfl ?_
        refine V_iadd (x := r18) (y := (7 : Int32)) dX9_goOn_61 ?_
        refine V_iconst (v := (3 : Int32)) dX9_goOn_62 rfl ?_
        refine V_iconst (v := (2 : Int32)) dX9_goOn_63 rfl ?_
        refine V_iload_n (x := a1) dX9_goOn_64 rfl ?_
        refine V_imul (x := (2 : Int32)) (y := a1) dX9_goOn_65 ?_
        refine V_iadd (x := (3 : Int32)) (y := ((2 : Int32) * a1)) dX9_goOn_66 ?_
        refine V_iastore dX9_goOn_67 (fun σ34 hσ34 => ?_)
        refine V_aload_n (x := a0) dX9_goOn_68 rfl ?_
        refine V_getR fd_X9_goOn_7_X9 dX9_goOn_69 (fun x35 => ?_)
        refine V_bipush (v := (6 : Int32)) dX9_goOn_72 rfl ?_
        refine V_dup2 dX9_goOn_74 rfl (va_rf_cat _) ?_
        refine V_iaload dX9_goOn_75 (fun x36 => ?_)
        refine V_iconst (v := (1 : Int32)) dX9_goOn_76 rfl ?_
        refine V_iadd (x := x36) (y := (1 : Int32)) dX9_goOn_77 ?_
        refine V_iastore dX9_goOn_78 (fun σ37 hσ37 => ?_)
        exact V_vret (fun _ => rfl) rfl (Nat.zero_le _) (Nat.zero_le _) dX9_goOn_79
      · exact V_sub (LE.s (LE.n (LE.s LE.e))) (v_X9_goOn_b80  a0 r18 σ19)
    · exact V_sub (LE.s (LE.n (LE.s LE.e))) (v_X9_goOn_b80  a0 r18 σ19)
theorem t_X9_goOn {D : DG} {z0 : Nat} {l : Launch} (a : Nat) (a1 : Int32) (σ : SG) : MT D z0 l yX9_goOn wsX9_goOn rmX9_goOn tvU [.ref a, .int a1] σ (m_X9_goOn (some a) a1 σ) :=
  MT.of (own := RX9) (cc := cX9_goOn) (nL := 3) (ret := none) (ct := false) (by decide) rfl rfl (fun h => by cases h) (Nat.le_of_ble_eq_true rfl) (by intro v hv; simp only [List.mem_cons, List.not_mem_nil, or_false] at hv; first | (rcases hv with rfl | rfl <;> first | rfl | exact va_rf_cat _) | exact absurd hv (fun h => h)) (v_X9_goOn (some a) a1 σ)
theorem in_X9_isOf_X9 : ∀ w ∈ u_ws RX9 TX9 15, w ∈ wsX9_isOf := by decide +kernel
theorem wd_X9_isOf_1 : Cond.fieldLink RX9 7 "MainsWordsModel" "s" "[I" ∈ wsX9_isOf := by decide +kernel
theorem fd_X9_isOf_7_X9 : FD RX9 7 wsX9_isOf 8 0 := ⟨RX9, "MainsWordsModel", TX9, 15, rfl, in_X9_isOf_X9, by decide, wd_X9_isOf_1, Or.inl rfl⟩
set_option maxRecDepth 100000 in
set_option maxHeartbeats 4000000 in
theorem v_X9_isOf {D : DG} {z0 : Nat} {l : Launch} : ∀ (a0 : Option Nat) (a1 : Int32) (a2 : Int32) (a3 : Int32) (σ : SG), V D z0 l RX9 cX9_isOf 4 wsX9_isOf (some .boolean) rmX9_isOf false tvI 0 [some (va_rf a0), some (.int a1), some (.int a2), some (.int a3)] [] σ 0 0 (m_X9_isOf a0 a1 a2 a3 σ) := by
  intro a0 a1 a2 a3 σ
  unfold m_X9_isOf
  refine V_aload_n (x := a0) dX9_isOf_0 rfl ?_
  refine V_iload_n (x := a1) dX9_isOf_1 rfl ?_
  refine V_callV0 (As := [.int a1]) (st0 := []) (stI := [.int a1, va_rf a0]) (fun _ h => by cases h; exact t_X9_isLamp _ a1 σ) (q := (RX9, TX9, 15)) rfl rfl rfl (Nat.le_of_ble_eq_true rfl) rfl (fun s args hts => cwV 1 hts gX9_isOf_X9_isLamp rfl rfl rfl (by decide +kernel) ⟨Nat.le_of_ble_eq_true rfl, Nat.le_of_ble_eq_true rfl⟩) rfl rfl dX9_isOf_2 (fun r1 σ2 _ => ?_)
  refine V_if_eq (tgt := 42) (x := r1) dX9_isOf_5 (by decide) (fun hc3 => ?_) (fun hc3 => ?_)
  · refine V_iconst (v := (0 : Int32)) dX9_isOf_42 rfl ?_
    exact V_zret (fun _ => rfl) rfl (Nat.zero_le _) (Nat.zero_le _) dX9_isOf_43
  · refine V_aload_n (x := a0) dX9_isOf_8 rfl ?_
    refine V_getR fd_X9_isOf_7_X9 dX9_isOf_9 (fun x4 => ?_)
    refine V_iload_n (x := a1) dX9_isOf_12 rfl ?_
    refine V_callS0 (As := [.int a1]) (st0 := [va_rf x4]) (stI := [.int a1, va_rf x4]) (t_X9_l a1 σ2) rfl (by simp only [List.map_cons, List.map_nil, List.sum_cons, List.sum_nil, va_rf_cat, catI, catF]; decide) rfl (fun s args hts => va_cwS 1 hts gX9_isOf_X9_l rfl rfl rfl (by decide +kernel) ⟨Nat.le_of_ble_eq_true rfl, Nat.le_of_ble_eq_true rfl⟩) rfl rfl dX9_isOf_13 (fun r5 σ6 _ => ?_)
    refine V_iconst (v := (1 : Int32)) dX9_isOf_16 rfl ?_
    refine V_iadd (x := r5) (y := (1 : Int32)) dX9_isOf_17 ?_
    refine V_iaload dX9_isOf_18 (fun x7 => ?_)
    refine V_iload_n (x := a2) dX9_isOf_19 rfl ?_
    refine V_icmp_ne (tgt := 42) (x := x7) (y := a2) dX9_isOf_20 (by decide) (fun hc8 => ?_) (fun hc8 => ?_)
    · refine V_aload_n (x := a0) dX9_isOf_23 rfl ?_
      refine V_getR fd_X9_isOf_7_X9 dX9_isOf_24 (fun x9 => ?_)
      refine V_iload_n (x := a1) dX9_isOf_27 rfl ?_
      refine V_callS0 (As := [.int a1]) (st0 := [va_rf x9]) (stI := [.int a1, va_rf x9]) (t_X9_l a1 σ6) rfl (by simp only [List.map_cons, List.map_nil, List.sum_cons, List.sum_nil, va_rf_cat, catI, catF]; decide) rfl (fun s args hts => va_cwS 1 hts gX9_isOf_X9_l rfl rfl rfl (by decide +kernel) ⟨Nat.le_of_ble_eq_true rfl, Nat.le_of_ble_eq_true rfl⟩) rfl rfl dX9_isOf_28 (fun r10 σ11 _ => ?_)
      refine V_iconst (v := (2 : Int32)) dX9_isOf_31 rfl ?_
      refine V_iadd (x := r10) (y := (2 : Int32)) dX9_isOf_32 ?_
      refine V_iaload dX9_isOf_33 (fun x12 => ?_)
      refine V_iload_n (x := a3) dX9_isOf_34 rfl ?_
      refine V_icmp_ne (tgt := 42) (x := x12) (y := a3) dX9_isOf_35 (by decide) (fun hc13 => ?_) (fun hc13 => ?_)
      · refine V_iconst (v := (1 : Int32)) dX9_isOf_38 rfl ?_
        refine V_goto (tgt := 43) dX9_isOf_39 (by decide) ?_
        exact V_zret (fun _ => rfl) rfl (Nat.zero_le _) (Nat.zero_le _) dX9_isOf_43
      · refine V_iconst (v := (0 : Int32)) dX9_isOf_42 rfl ?_
        exact V_zret (fun _ => rfl) rfl (Nat.zero_le _) (Nat.zero_le _) dX9_isOf_43
    · refine V_iconst (v := (0 : Int32)) dX9_isOf_42 rfl ?_
      exact V_zret (fun _ => rfl) rfl (Nat.zero_le _) (Nat.zero_le _) dX9_isOf_43
theorem t_X9_isOf {D : DG} {z0 : Nat} {l : Launch} (a : Nat) (a1 : Int32) (a2 : Int32) (a3 : Int32) (σ : SG) : MT D z0 l yX9_isOf wsX9_isOf rmX9_isOf tvI [.ref a, .int a1, .int a2, .int a3] σ (m_X9_isOf (some a) a1 a2 a3 σ) :=
  MT.of (own := RX9) (cc := cX9_isOf) (nL := 4) (ret := (some .boolean)) (ct := false) (by decide) rfl rfl (fun h => by cases h) (Nat.le_of_ble_eq_true rfl) (by intro v hv; simp only [List.mem_cons, List.not_mem_nil, or_false] at hv; first | (rcases hv with rfl | rfl | rfl | rfl <;> first | rfl | exact va_rf_cat _) | exact absurd hv (fun h => h)) (v_X9_isOf (some a) a1 a2 a3 σ)
theorem in_X9_act_X9 : ∀ w ∈ u_ws RX9 TX9 15, w ∈ wsX9_act := by decide +kernel
theorem wd_X9_act_1 : Cond.fieldLink RX9 7 "MainsWordsModel" "s" "[I" ∈ wsX9_act := by decide +kernel
theorem fd_X9_act_7_X9 : FD RX9 7 wsX9_act 8 0 := ⟨RX9, "MainsWordsModel", TX9, 15, rfl, in_X9_act_X9, by decide, wd_X9_act_1, Or.inl rfl⟩
set_option maxRecDepth 100000 in
set_option maxHeartbeats 4000000 in
theorem v_X9_act_b273 {D : DG} {z0 : Nat} {l : Launch} : ∀ (s0 : Option Nat) (s1 : Int32) (s2 : Int32) (σ : SG), V D z0 l RX9 cX9_act 8 wsX9_act none rmX9_act false tvU 273 [none, none, none, none, none, none, none, none] [.int s2, .int s1, va_rf s0] σ 0 0 (m_X9_act_b273 s0 s1 s2 σ) := by
  intro s0 s1 s2 σ
  unfold m_X9_act_b273
  refine V_iastore dX9_act_273 (fun σ1 hσ1 => ?_)
  exact V_vret (fun _ => rfl) rfl (Nat.zero_le _) (Nat.zero_le _) dX9_act_274
set_option maxRecDepth 100000 in
set_option maxHeartbeats 4000000 in
theorem v_X9_act_b218 {D : DG} {z0 : Nat} {l : Launch} {rec46 : Option Nat → Int32 → Int32 → Int32 → Int32 → Int32 → SG → Option (Unit × SG)} (hrec46 : ∀ (v0 : Option Nat) (v1 : Int32) (v3 : Int32) (v4 : Int32) (v5 : Int32) (v6 : Int32) (σ : SG), V D z0 l RX9 cX9_act 8 wsX9_act none rmX9_act false tvU 46 [some (va_rf v0), some (.int v1), none, some (.int v3), some (.int v4), some (.int v5), some (.int v6), none] [] σ 0 0 (rec46 v0 v1 v3 v4 v5 v6 σ)) : ∀ (v0 : Option Nat) (v1 : Int32) (v3 : Int32) (v4 : Int32) (v5 : Int32) (v6 : Int32) (σ : SG), V D z0 l RX9 cX9_act 8 wsX9_act none rmX9_act false tvU 218 [some (va_rf v0), some (.int v1), none, some (.int v3), some (.int v4), some (.int v5), some (.int v6), none] [] σ 0 0 (m_X9_act_b218 rec46 v0 v1 v3 v4 v5 v6 σ) := by
  intro v0 v1 v3 v4 v5 v6 σ
  unfold m_X9_act_b218
  refine V_iinc (x := v6) (v := (v6 + 1)) (ls' := [some (va_rf v0), some (.int v1), none, some (.int v3), some (.int v4), some (.int v5), some (.int (v6 + 1)), none]) dX9_act_218 rfl rfl (by decide) rfl ?_
  refine V_goto (tgt := 46) dX9_act_221 (by decide) ?_
  exact hrec46 v0 v1 v3 v4 v5 ((v6 + 1)) σ
set_option maxRecDepth 100000 in
set_option maxHeartbeats 4000000 in
theorem v_X9_act_b217 {D : DG} {z0 : Nat} {l : Launch} {rec46 : Option Nat → Int32 → Int32 → Int32 → Int32 → Int32 → SG → Option (Unit × SG)} (hrec46 : ∀ (v0 : Option Nat) (v1 : Int32) (v3 : Int32) (v4 : Int32) (v5 : Int32) (v6 : Int32) (σ : SG), V D z0 l RX9 cX9_act 8 wsX9_act none rmX9_act false tvU 46 [some (va_rf v0), some (.int v1), none, some (.int v3), some (.int v4), some (.int v5), some (.int v6), none] [] σ 0 0 (rec46 v0 v1 v3 v4 v5 v6 σ)) : ∀ (v0 : Option Nat) (v1 : Int32) (v3 : Int32) (v4 : Int32) (v5 : Int32) (v6 : Int32) (s0 : Option Nat) (s1 : Int32) (s2 : Int32) (σ : SG), V D z0 l RX9 cX9_act 8 wsX9_act none rmX9_act false tvU 217 [some (va_rf v0), some (.int v1), none, some (.int v3), some (.int v4), some (.int v5), some (.int v6), none] [.int s2, .int s1, va_rf s0] σ 0 0 (m_X9_act_b217 rec46 v0 v1 v3 v4 v5 v6 s0 s1 s2 σ) := by
  intro v0 v1 v3 v4 v5 v6 s0 s1 s2 σ
  unfold m_X9_act_b217
  refine V_iastore dX9_act_217 (fun σ2 hσ2 => ?_)
  exact v_X9_act_b218 hrec46 v0 v1 v3 v4 v5 v6 σ2
set_option maxRecDepth 100000 in
set_option maxHeartbeats 4000000 in
theorem v_X9_act_b121 {D : DG} {z0 : Nat} {l : Launch} {rec46 : Option Nat → Int32 → Int32 → Int32 → Int32 → Int32 → SG → Option (Unit × SG)} (hrec46 : ∀ (v0 : Option Nat) (v1 : Int32) (v3 : Int32) (v4 : Int32) (v5 : Int32) (v6 : Int32) (σ : SG), V D z0 l RX9 cX9_act 8 wsX9_act none rmX9_act false tvU 46 [some (va_rf v0), some (.int v1), none, some (.int v3), some (.int v4), some (.int v5), some (.int v6), none] [] σ 0 0 (rec46 v0 v1 v3 v4 v5 v6 σ)) : ∀ (v0 : Option Nat) (v1 : Int32) (v3 : Int32) (v4 : Int32) (v5 : Int32) (v6 : Int32) (s0 : Option Nat) (s1 : Int32) (s2 : Int32) (σ : SG), V D z0 l RX9 cX9_act 8 wsX9_act none rmX9_act false tvU 121 [some (va_rf v0), some (.int v1), none, some (.int v3), some (.int v4), some (.int v5), some (.int v6), none] [.int s2, .int s1, va_rf s0] σ 0 0 (m_X9_act_b121 rec46 v0 v1 v3 v4 v5 v6 s0 s1 s2 σ) := by
  intro v0 v1 v3 v4 v5 v6 s0 s1 s2 σ
  unfold m_X9_act_b121
  refine V_iastore dX9_act_121 (fun σ3 hσ3 => ?_)
  refine V_goto (tgt := 218) dX9_act_122 (by decide) ?_
  exact v_X9_act_b218 hrec46 v0 v1 v3 v4 v5 v6 σ3
set_option maxRecDepth 100000 in
set_option maxHeartbeats 4000000 in
theorem v_X9_act_B46 {D : DG} {z0 : Nat} {l : Launch} {rec46 : Option Nat → Int32 → Int32 → Int32 → Int32 → Int32 → SG → Option (Unit × SG)} (hrec46 : ∀ (v0 : Option Nat) (v1 : Int32) (v3 : Int32) (v4 : Int32) (v5 : Int32) (v6 : Int32) (σ : SG), V D z0 l RX9 cX9_act 8 wsX9_act none rmX9_act false tvU 46 [some (va_rf v0), some (.int v1), none, some (.int v3), some (.int v4), some (.int v5), some (.int v6), none] [] σ 0 0 (rec46 v0 v1 v3 v4 v5 v6 σ)) : ∀ (v0 : Option Nat) (v1 : Int32) (v3 : Int32) (v4 : Int32) (v5 : Int32) (v6 : Int32) (σ : SG), V D z0 l RX9 cX9_act 8 wsX9_act none rmX9_act false tvU 46 [some (va_rf v0), some (.int v1), none, some (.int v3), some (.int v4), some (.int v5), some (.int v6), none] [] σ 0 0 (m_X9_act_B46 rec46 v0 v1 v3 v4 v5 v6 σ) := by
  intro v0 v1 v3 v4 v5 v6 σ
  unfold m_X9_act_B46
  refine V_iload (x := v6) dX9_act_46 rfl ?_
  refine V_bipush (v := (8 : Int32)) dX9_act_48 rfl ?_
  refine V_icmp_ge (tgt := 224) (x := v6) (y := (8 : Int32)) dX9_act_50 (by decide) (fun hc4 => ?_) (fun hc4 => ?_)
  · refine V_aload_n (x := v0) dX9_act_224 rfl ?_
    refine V_getR fd_X9_act_7_X9 dX9_act_225 (fun x5 => ?_)
    refine V_iload_n (x := v1) dX9_act_228 rfl ?_
    refine V_callS0 (As := [.int v1]) (st0 := [va_rf x5]) (stI := [.int v1, va_rf x5]) (t_X9_r v1 σ) rfl (by simp only [List.map_cons, List.map_nil, List.sum_cons, List.sum_nil, va_rf_cat, catI, catF]; decide) rfl (fun s args hts => va_cwS 1 hts gX9_act_X9_r rfl rfl rfl (by decide +kernel) ⟨Nat.le_of_ble_eq_true rfl, Nat.le_of_ble_eq_true rfl⟩) rfl rfl dX9_act_229 (fun r6 σ7 _ => ?_)
    refine V_bipush (v := (6 : Int32)) dX9_act_232 rfl ?_
    refine V_iadd (x := r6) (y := (6 : Int32)) dX9_act_234 ?_
    refine V_iaload dX9_act_235 (fun x8 => ?_)
    refine V_bipush (v := (15 : Int32)) dX9_act_236 rfl ?_
    refine V_iconst (v := (1 : Int32)) dX9_act_238 rfl ?_
    refine V_iload_n (x := v3) dX9_act_239 rfl ?_
    refine V_ishl (x := (1 : Int32)) (y := v3) dX9_act_240 ?_
    refine V_isub (x := (15 : Int32)) (y := ((1 : Int32) <<< (v3 &&& 31))) dX9_act_241 ?_
    refine V_iand (x := x8) (y := ((15 : Int32) - ((1 : Int32) <<< (v3 &&& 31)))) dX9_act_242 ?_
    refine V_istore (x := (x8 &&& ((15 : Int32) - ((1 : Int32) <<< (v3 &&& 31))))) (ls' := [some (va_rf v0), some (.int v1), none, some (.int v3), some (.int v4), some (.int v5), some (.int (x8 &&& ((15 : Int32) - ((1 : Int32) <<< (v3 &&& 31))))), none]) dX9_act_243 (by decide) rfl ?_
    refine V_aload_n (x := v0) dX9_act_245 rfl ?_
    refine V_getR fd_X9_act_7_X9 dX9_act_246 (fun x9 => ?_)
    refine V_iload_n (x := v1) dX9_act_249 rfl ?_
    refine V_callS0 (As := [.int v1]) (st0 := [va_rf x9]) (stI := [.int v1, va_rf x9]) (t_X9_r v1 σ7) rfl (by simp only [List.map_cons, List.map_nil, List.sum_cons, List.sum_nil, va_rf_cat, catI, catF]; decide) rfl (fun s args hts => va_cwS 1 hts gX9_act_X9_r rfl rfl rfl (by decide +kernel) ⟨Nat.le_of_ble_eq_true rfl, Nat.le_of_ble_eq_true rfl⟩) rfl rfl dX9_act_250 (fun r10 σ11 _ => ?_)
    refine V_bipush (v := (6 : Int32)) dX9_act_253 rfl ?_
    refine V_iadd (x := r10) (y := (6 : Int32)) dX9_act_255 ?_
    refine V_iload (x := v4) dX9_act_256 rfl ?_
    refine V_iconst (v := (4 : Int32)) dX9_act_258 rfl ?_
    refine V_icmp_ge (tgt := 271) (x := v4) (y := (4 : Int32)) dX9_act_259 (by decide) (fun hc12 => ?_) (fun hc12 => ?_)
    · refine V_iload (x := (x8 &&& ((15 : Int32) - ((1 : Int32) <<< (v3 &&& 31))))) dX9_act_271 rfl ?_
      exact V_sub (LE.n (LE.n (LE.s (LE.n (LE.n (LE.n (LE.n (LE.s LE.e)))))))) (v_X9_act_b273  x9 ((r10 + (6 : Int32))) ((x8 &&& ((15 : Int32) - ((1 : Int32) <<< (v3 &&& 31))))) σ11)
    · refine V_iload (x := (x8 &&& ((15 : Int32) - ((1 : Int32) <<< (v3 &&& 31))))) dX9_act_262 rfl ?_
      refine V_iconst (v := (1 : Int32)) dX9_act_264 rfl ?_
      refine V_iload_n (x := v3) dX9_act_265 rfl ?_
      refine V_ishl (x := (1 : Int32)) (y := v3) dX9_act_266 ?_
      refine V_ior (x := (x8 &&& ((15 : Int32) - ((1 : Int32) <<< (v3 &&& 31))))) (y := ((1 : Int32) <<< (v3 &&& 31))) dX9_act_267 ?_
      refine V_goto (tgt := 273) dX9_act_268 (by decide) ?_
      exact V_sub (LE.n (LE.n (LE.s (LE.n (LE.n (LE.n (LE.n (LE.s LE.e)))))))) (v_X9_act_b273  x9 ((r10 + (6 : Int32))) (((x8 &&& ((15 : Int32) - ((1 : Int32) <<< (v3 &&& 31)))) ||| ((1 : Int32) <<< (v3 &&& 31)))) σ11)
  · refine V_iload (x := v6) dX9_act_53 rfl ?_
    refine V_callS0 (As := [.int v6]) (st0 := []) (stI := [.int v6]) (t_X9_l v6 σ) rfl (Nat.le_of_ble_eq_true rfl) rfl (fun s args hts => va_cwS 1 hts gX9_act_X9_l rfl rfl rfl (by decide +kernel) ⟨Nat.le_of_ble_eq_true rfl, Nat.le_of_ble_eq_true rfl⟩) rfl rfl dX9_act_55 (fun r13 σ14 _ => ?_)
    refine V_istore (x := r13) (ls' := [some (va_rf v0), some (.int v1), none, some (.int v3), some (.int v4), some (.int v5), some (.int v6), some (.int r13)]) dX9_act_58 (by decide) rfl ?_
    refine V_aload_n (x := v0) dX9_act_60 rfl ?_
    refine V_iload (x := v6) dX9_act_61 rfl ?_
    refine V_iload_n (x := v1) dX9_act_63 rfl ?_
    refine V_iload_n (x := v3) dX9_act_64 rfl ?_
    refine V_callV0 (As := [.int v6, .int v1, .int v3]) (st0 := []) (stI := [.int v3, .int v1, .int v6, va_rf v0]) (fun _ h => by cases h; exact t_X9_isOf _ v6 v1 v3 σ14) (q := (RX9, TX9, 15)) rfl rfl rfl (Nat.le_of_ble_eq_true rfl) rfl (fun s args hts => cwV 3 hts gX9_act_X9_isOf rfl rfl rfl (by decide +kernel) ⟨Nat.le_of_ble_eq_true rfl, Nat.le_of_ble_eq_true rfl⟩) rfl rfl dX9_act_65 (fun r15 σ16 _ => ?_)
    refine V_if_eq (tgt := 218) (x := r15) dX9_act_68 (by decide) (fun hc17 => ?_) (fun hc17 => ?_)
    · exact V_sub (LE.s (LE.s (LE.s (LE.s (LE.s (LE.s (LE.s (LE.n LE.e)))))))) (v_X9_act_b218 hrec46 v0 v1 v3 v4 v5 v6 σ16)
    · refine V_iload (x := v4) dX9_act_71 rfl ?_
      refine V_iconst (v := (4 : Int32)) dX9_act_73 rfl ?_
      refine V_icmp_ge (tgt := 125) (x := v4) (y := (4 : Int32)) dX9_act_74 (by decide) (fun hc18 => ?_) (fun hc18 => ?_)
      · refine V_iload (x := v4) dX9_act_125 rfl ?_
        refine V_bipush (v := (7 : Int32)) dX9_act_127 rfl ?_
        refine V_icmp_ne (tgt := 145) (x := v4) (y := (7 : Int32)) dX9_act_129 (by decide) (fun hc19 => ?_) (fun hc19 => ?_)
        · refine V_aload_n (x := v0) dX9_act_132 rfl ?_
          refine V_getR fd_X9_act_7_X9 dX9_act_133 (fun x20 => ?_)
          refine V_iload (x := r13) dX9_act_136 rfl ?_
          refine V_iconst (v := (4 : Int32)) dX9_act_138 rfl ?_
          refine V_iadd (x := r13) (y := (4 : Int32)) dX9_act_139 ?_
          refine V_iconst (v := (0 : Int32)) dX9_act_140 rfl ?_
          refine V_iastore dX9_act_141 (fun σ21 hσ21 => ?_)
          refine V_goto (tgt := 218) dX9_act_142 (by decide) ?_
          exact V_sub (LE.s (LE.s (LE.s (LE.s (LE.s (LE.s (LE.s (LE.n LE.e)))))))) (v_X9_act_b218 hrec46 v0 v1 v3 v4 v5 v6 σ21)
        · refine V_aload_n (x := v0) dX9_act_145 rfl ?_
          refine V_getR fd_X9_act_7_X9 dX9_act_146 (fun x22 => ?_)
          refine V_iload (x := r13) dX9_act_149 rfl ?_
          refine V_iconst (v := (5 : Int32)) dX9_act_151 rfl ?_
          refine V_iadd (x := r13) (y := (5 : Int32)) dX9_act_152 ?_
          refine V_iaload dX9_act_153 (fun x23 => ?_)
          refine V_iconst (v := (1 : Int32)) dX9_act_154 rfl ?_
          refine V_icmp_ne (tgt := 218) (x := x23) (y := (1 : Int32)) dX9_act_155 (by decide) (fun hc24 => ?_) (fun hc24 => ?_)
          · refine V_aload_n (x := v0) dX9_act_158 rfl ?_
            refine V_getR fd_X9_act_7_X9 dX9_act_159 (fun x25 => ?_)
            refine V_iload (x := r13) dX9_act_162 rfl ?_
            refine V_iconst (v := (4 : Int32)) dX9_act_164 rfl ?_
            refine V_iadd (x := r13) (y := (4 : Int32)) dX9_act_165 ?_
            refine V_iload (x := v4) dX9_act_166 rfl ?_
            refine V_iconst (v := (4 : Int32)) dX9_act_168 rfl ?_
            refine V_icmp_ne (tgt := 177) (x := v4) (y := (4 : Int32)) dX9_act_169 (by decide) (fun hc26 => ?_) (fun hc26 => ?_)
            · refine V_bipush (v := (9 : Int32)) dX9_act_172 rfl ?_
              refine V_goto (tgt := 217) dX9_act_174 (by decide) ?_
              exact V_sub (LE.s (LE.s (LE.s (LE.s (LE.s (LE.s (LE.s (LE.n LE.e)))))))) (v_X9_act_b217 hrec46 v0 v1 v3 v4 v5 v6 x25 ((r13 + (4 : Int32))) ((9 : Int32)) σ16)
            · refine V_iload (x := v4) dX9_act_177 rfl ?_
              refine V_iconst (v := (5 : Int32)) dX9_act_179 rfl ?_
              refine V_icmp_ne (tgt := 187) (x := v4) (y := (5 : Int32)) dX9_act_180 (by decide) (fun hc27 => ?_) (fun hc27 => ?_)
              · refine V_iconst (v := (0 : Int32)) dX9_act_183 rfl ?_
                refine V_goto (tgt := 217) dX9_act_184 (by decide) ?_
                exact V_sub (LE.s (LE.s (LE.s (LE.s (LE.s (LE.s (LE.s (LE.n LE.e)))))))) (v_X9_act_b217 hrec46 v0 v1 v3 v4 v5 v6 x25 ((r13 + (4 : Int32))) ((0 : Int32)) σ16)
              · refine V_aload_n (x := v0) dX9_act_187 rfl ?_
                refine V_getR fd_X9_act_7_X9 dX9_act_188 (fun x28 => ?_)
                refine V_iload (x := r13) dX9_act_191 rfl ?_
                refine V_iconst (v := (4 : Int32)) dX9_act_193 rfl ?_
                refine V_iadd (x := r13) (y := (4 : Int32)) dX9_act_194 ?_
                refine V_iaload dX9_act_195 (fun x29 => ?_)
                refine V_bipush (v := (9 : Int32)) dX9_act_196 rfl ?_
                refine V_icmp_ge (tgt := 215) (x := x29) (y := (9 : Int32)) dX9_act_198 (by decide) (fun hc30 => ?_) (fun hc30 => ?_)
                · refine V_bipush (v := (9 : Int32)) dX9_act_215 rfl ?_
                  exact V_sub (LE.s (LE.s (LE.s (LE.s (LE.s (LE.s (LE.s (LE.n LE.e)))))))) (v_X9_act_b217 hrec46 v0 v1 v3 v4 v5 v6 x25 ((r13 + (4 : Int32))) ((9 : Int32)) σ16)
                · refine V_aload_n (x := v0) dX9_act_201 rfl ?_
                  refine V_getR fd_X9_act_7_X9 dX9_act_202 (fun x31 => ?_)
                  refine V_iload (x := r13) dX9_act_205 rfl ?_
                  refine V_iconst (v := (4 : Int32)) dX9_act_207 rfl ?_
                  refine V_iadd (x := r13) (y := (4 : Int32)) dX9_act_208 ?_
                  refine V_iaload dX9_act_209 (fun x32 => ?_)
                  refine V_iconst (v := (1 : Int32)) dX9_act_210 rfl ?_
                  refine V_iadd (x := x32) (y := (1 : Int32)) dX9_act_211 ?_
                  refine V_goto (tgt := 217) dX9_act_212 (by decide) ?_
                  exact V_sub (LE.s (LE.s (LE.s (LE.s (LE.s (LE.s (LE.s (LE.n LE.e)))))))) (v_X9_act_b217 hrec46 v0 v1 v3 v4 v5 v6 x25 ((r13 + (4 : Int32))) ((x32 + (1 : Int32))) σ16)
          · exact V_sub (LE.s (LE.s (LE.s (LE.s (LE.s (LE.s (LE.s (LE.n LE.e)))))))) (v_X9_act_b218 hrec46 v0 v1 v3 v4 v5 v6 σ16)
      · refine V_aload_n (x := v0) dX9_act_77 rfl ?_
        refine V_getR fd_X9_act_7_X9 dX9_act_78 (fun x33 => ?_)
        refine V_iload (x := r13) dX9_act_81 rfl ?_
        refine V_iconst (v := (5 : Int32)) dX9_act_83 rfl ?_
        refine V_iadd (x := r13) (y := (5 : Int32)) dX9_act_84 ?_
        refine V_aload_n (x := v0) dX9_act_85 rfl ?_
        refine V_getR fd_X9_act_7_X9 dX9_act_86 (fun x34 => ?_)
        refine V_iload (x := r13) dX9_act_89 rfl ?_
        refine V_iconst (v := (3 : Int32)) dX9_act_91 rfl ?_
        refine V_iadd (x := r13) (y := (3 : Int32)) dX9_act_92 ?_
        refine V_iaload dX9_act_93 (fun x35 => ?_)
        refine V_iload (x := v4) dX9_act_94 rfl ?_
        refine V_icmp_ne (tgt := 103) (x := x35) (y := v4) dX9_act_96 (by decide) (fun hc36 => ?_) (fun hc36 => ?_)
        · refine V_iconst (v := (1 : Int32)) dX9_act_99 rfl ?_
          refine V_goto (tgt := 121) dX9_act_100 (by decide) ?_
          exact V_sub (LE.s (LE.s (LE.s (LE.s (LE.s (LE.s (LE.s (LE.n LE.e)))))))) (v_X9_act_b121 hrec46 v0 v1 v3 v4 v5 v6 x33 ((r13 + (5 : Int32))) ((1 : Int32)) σ16)
        · refine V_iload (x := v5) dX9_act_103 rfl ?_
          refine V_if_eq (tgt := 112) (x := v5) dX9_act_105 (by decide) (fun hc37 => ?_) (fun hc37 => ?_)
          · refine V_aload_n (x := v0) dX9_act_112 rfl ?_
            refine V_getR fd_X9_act_7_X9 dX9_act_113 (fun x38 => ?_)
            refine V_iload (x := r13) dX9_act_116 rfl ?_
            refine V_iconst (v := (5 : Int32)) dX9_act_118 rfl ?_
            refine V_iadd (x := r13) (y := (5 : Int32)) dX9_act_119 ?_
            refine V_iaload dX9_act_120 (fun x39 => ?_)
            exact V_sub (LE.s (LE.s (LE.s (LE.s (LE.s (LE.s (LE.s (LE.n LE.e)))))))) (v_X9_act_b121 hrec46 v0 v1 v3 v4 v5 v6 x33 ((r13 + (5 : Int32))) x39 σ16)
          · refine V_iconst (v := (0 : Int32)) dX9_act_108 rfl ?_
            refine V_goto (tgt := 121) dX9_act_109 (by decide) ?_
            exact V_sub (LE.s (LE.s (LE.s (LE.s (LE.s (LE.s (LE.s (LE.n LE.e)))))))) (v_X9_act_b121 hrec46 v0 v1 v3 v4 v5 v6 x33 ((r13 + (5 : Int32))) ((0 : Int32)) σ16)
theorem v_X9_act_L46 {D : DG} {z0 : Nat} {l : Launch} : ∀ (n : Nat) (v0 : Option Nat) (v1 : Int32) (v3 : Int32) (v4 : Int32) (v5 : Int32) (v6 : Int32) (σ : SG), V D z0 l RX9 cX9_act 8 wsX9_act none rmX9_act false tvU 46 [some (va_rf v0), some (.int v1), none, some (.int v3), some (.int v4), some (.int v5), some (.int v6), none] [] σ 0 0 (m_X9_act_L46 n v0 v1 v3 v4 v5 v6 σ) := by
  intro n
  induction n with
  | zero => intros; exact V_none
  | succ n ih => exact v_X9_act_B46  ih
set_option maxRecDepth 100000 in
set_option maxHeartbeats 4000000 in
theorem v_X9_act_b41 {D : DG} {z0 : Nat} {l : Launch} : ∀ (v0 : Option Nat) (v1 : Int32) (v3 : Int32) (v4 : Int32) (s0 : Int32) (σ : SG), V D z0 l RX9 cX9_act 8 wsX9_act none rmX9_act false tvU 41 [some (va_rf v0), some (.int v1), none, some (.int v3), some (.int v4), none, none, none] [.int s0] σ 0 0 (m_X9_act_b41 v0 v1 v3 v4 s0 σ) := by
  intro v0 v1 v3 v4 s0 σ
  unfold m_X9_act_b41
  refine V_istore (x := s0) (ls' := [some (va_rf v0), some (.int v1), none, some (.int v3), some (.int v4), some (.int s0), none, none]) dX9_act_41 (by decide) rfl ?_
  refine V_iconst (v := (0 : Int32)) dX9_act_43 rfl ?_
  refine V_istore (x := (0 : Int32)) (ls' := [some (va_rf v0), some (.int v1), none, some (.int v3), some (.int v4), some (.int s0), some (.int (0 : Int32)), none]) dX9_act_44 (by decide) rfl ?_
  exact v_X9_act_L46  1000 v0 v1 v3 v4 s0 ((0 : Int32)) σ
set_option maxRecDepth 100000 in
set_option maxHeartbeats 4000000 in
theorem v_X9_act_b40 {D : DG} {z0 : Nat} {l : Launch} : ∀ (v0 : Option Nat) (v1 : Int32) (v3 : Int32) (v4 : Int32) (σ : SG), V D z0 l RX9 cX9_act 8 wsX9_act none rmX9_act false tvU 40 [some (va_rf v0), some (.int v1), none, some (.int v3), some (.int v4), none, none, none] [] σ 0 0 (m_X9_act_b40 v0 v1 v3 v4 σ) := by
  intro v0 v1 v3 v4 σ
  unfold m_X9_act_b40
  refine V_iconst (v := (0 : Int32)) dX9_act_40 rfl ?_
  exact v_X9_act_b41  v0 v1 v3 v4 ((0 : Int32)) σ
set_option maxRecDepth 100000 in
set_option maxHeartbeats 4000000 in
theorem v_X9_act {D : DG} {z0 : Nat} {l : Launch} : ∀ (a0 : Option Nat) (a1 : Int32) (a2 : Int32) (σ : SG), V D z0 l RX9 cX9_act 8 wsX9_act none rmX9_act false tvU 0 [some (va_rf a0), some (.int a1), some (.int a2), none, none, none, none, none] [] σ 0 0 (m_X9_act a0 a1 a2 σ) := by
  intro a0 a1 a2 σ
  unfold m_X9_act
  refine V_iload_n (x := a2) dX9_act_0 rfl ?_
  refine V_bipush (v := (8 : Int32)) dX9_act_1 rfl ?_
  refine V_idiv (x := a2) (y := (8 : Int32)) dX9_act_3 ?_
  refine V_istore_n (x := (a2 / (8 : Int32))) (ls' := [some (va_rf a0), some (.int a1), some (.int a2), some (.int (a2 / (8 : Int32))), none, none, none, none]) dX9_act_4 (by decide) rfl ?_
  refine V_iload_n (x := a2) dX9_act_5 rfl ?_
  refine V_bipush (v := (8 : Int32)) dX9_act_6 rfl ?_
  refine V_irem (x := a2) (y := (8 : Int32)) dX9_act_8 ?_
  refine V_istore (x := (a2 - a2 / (8 : Int32) * (8 : Int32))) (ls' := [some (va_rf a0), some (.int a1), some (.int a2), some (.int (a2 / (8 : Int32))), some (.int (a2 - a2 / (8 : Int32) * (8 : Int32))), none, none, none]) dX9_act_9 (by decide) rfl ?_
  refine V_iload (x := (a2 - a2 / (8 : Int32) * (8 : Int32))) dX9_act_11 rfl ?_
  refine V_iconst (v := (4 : Int32)) dX9_act_13 rfl ?_
  refine V_icmp_ge (tgt := 40) (x := (a2 - a2 / (8 : Int32) * (8 : Int32))) (y := (4 : Int32)) dX9_act_14 (by decide) (fun hc40 => ?_) (fun hc40 => ?_)
  · exact V_sub (LE.s (LE.s (LE.n (LE.s (LE.s (LE.s (LE.s (LE.s LE.e)))))))) (v_X9_act_b40  a0 a1 ((a2 / (8 : Int32))) ((a2 - a2 / (8 : Int32) * (8 : Int32))) σ)
  · refine V_aload_n (x := a0) dX9_act_17 rfl ?_
    refine V_getR fd_X9_act_7_X9 dX9_act_18 (fun x41 => ?_)
    refine V_iload_n (x := a1) dX9_act_21 rfl ?_
    refine V_callS0 (As := [.int a1]) (st0 := [va_rf x41]) (stI := [.int a1, va_rf x41]) (t_X9_r a1 σ) rfl (by simp only [List.map_cons, List.map_nil, List.sum_cons, List.sum_nil, va_rf_cat, catI, catF]; decide) rfl (fun s args hts => va_cwS 1 hts gX9_act_X9_r rfl rfl rfl (by decide +kernel) ⟨Nat.le_of_ble_eq_true rfl, Nat.le_of_ble_eq_true rfl⟩) rfl rfl dX9_act_22 (fun r42 σ43 _ => ?_)
    refine V_bipush (v := (6 : Int32)) dX9_act_25 rfl ?_
    refine V_iadd (x := r42) (y := (6 : Int32)) dX9_act_27 ?_
    refine V_iaload dX9_act_28 (fun x44 => ?_)
    refine V_iload_n (x := (a2 / (8 : Int32))) dX9_act_29 rfl ?_
    refine V_ishr (x := x44) (y := (a2 / (8 : Int32))) dX9_act_30 ?_
    refine V_iconst (v := (1 : Int32)) dX9_act_31 rfl ?_
    refine V_iand (x := (x44 >>> ((a2 / (8 : Int32)) &&& 31))) (y := (1 : Int32)) dX9_act_32 ?_
    refine V_if_ne (tgt := 40) (x := ((x44 >>> ((a2 / (8 : Int32)) &&& 31)) &&& (1 : Int32))) dX9_act_33 (by decide) (fun hc45 => ?_) (fun hc45 => ?_)
    · refine V_iconst (v := (1 : Int32)) dX9_act_36 rfl ?_
      refine V_goto (tgt := 41) dX9_act_37 (by decide) ?_
      exact V_sub (LE.s (LE.s (LE.n (LE.s (LE.s (LE.s (LE.s (LE.s LE.e)))))))) (v_X9_act_b41  a0 a1 ((a2 / (8 : Int32))) ((a2 - a2 / (8 : Int32) * (8 : Int32))) ((1 : Int32)) σ43)
    · exact V_sub (LE.s (LE.s (LE.n (LE.s (LE.s (LE.s (LE.s (LE.s LE.e)))))))) (v_X9_act_b40  a0 a1 ((a2 / (8 : Int32))) ((a2 - a2 / (8 : Int32) * (8 : Int32))) σ43)
theorem t_X9_act {D : DG} {z0 : Nat} {l : Launch} (a : Nat) (a1 : Int32) (a2 : Int32) (σ : SG) : MT D z0 l yX9_act wsX9_act rmX9_act tvU [.ref a, .int a1, .int a2] σ (m_X9_act (some a) a1 a2 σ) :=
  MT.of (own := RX9) (cc := cX9_act) (nL := 8) (ret := none) (ct := false) (by decide) rfl rfl (fun h => by cases h) (Nat.le_of_ble_eq_true rfl) (by intro v hv; simp only [List.mem_cons, List.not_mem_nil, or_false] at hv; first | (rcases hv with rfl | rfl | rfl <;> first | rfl | exact va_rf_cat _) | exact absurd hv (fun h => h)) (v_X9_act (some a) a1 a2 σ)
theorem in_X9_tell_X9 : ∀ w ∈ u_ws RX9 TX9 15, w ∈ wsX9_tell := by decide +kernel
theorem wd_X9_tell_1 : Cond.fieldLink RX9 7 "MainsWordsModel" "s" "[I" ∈ wsX9_tell := by decide +kernel
theorem fd_X9_tell_7_X9 : FD RX9 7 wsX9_tell 8 0 := ⟨RX9, "MainsWordsModel", TX9, 15, rfl, in_X9_tell_X9, by decide, wd_X9_tell_1, Or.inl rfl⟩
set_option maxRecDepth 100000 in
set_option maxHeartbeats 4000000 in
theorem v_X9_tell_b81 {D : DG} {z0 : Nat} {l : Launch} : ∀ (v0 : Option Nat) (v3 : Int32) (σ : SG), V D z0 l RX9 cX9_tell 4 wsX9_tell none rmX9_tell false tvU 81 [some (va_rf v0), none, none, some (.int v3)] [] σ 0 0 (m_X9_tell_b81 v0 v3 σ) := by
  intro v0 v3 σ
  unfold m_X9_tell_b81
  refine V_aload_n (x := v0) dX9_tell_81 rfl ?_
  refine V_getR fd_X9_tell_7_X9 dX9_tell_82 (fun x1 => ?_)
  refine V_iload_n (x := v3) dX9_tell_85 rfl ?_
  refine V_iconst (v := (5 : Int32)) dX9_tell_86 rfl ?_
  refine V_iadd (x := v3) (y := (5 : Int32)) dX9_tell_87 ?_
  refine V_aload_n (x := v0) dX9_tell_88 rfl ?_
  refine V_getR fd_X9_tell_7_X9 dX9_tell_89 (fun x2 => ?_)
  refine V_iconst (v := (4 : Int32)) dX9_tell_92 rfl ?_
  refine V_iaload dX9_tell_93 (fun x3 => ?_)
  refine V_iastore dX9_tell_94 (fun σ4 hσ4 => ?_)
  exact V_vret (fun _ => rfl) rfl (Nat.zero_le _) (Nat.zero_le _) dX9_tell_95
set_option maxRecDepth 100000 in
set_option maxHeartbeats 4000000 in
theorem v_X9_tell_b53 {D : DG} {z0 : Nat} {l : Launch} : ∀ (v0 : Option Nat) (v1 : Int32) (v2 : Int32) (v3 : Int32) (σ : SG), V D z0 l RX9 cX9_tell 4 wsX9_tell none rmX9_tell false tvU 53 [some (va_rf v0), some (.int v1), some (.int v2), some (.int v3)] [] σ 0 0 (m_X9_tell_b53 v0 v1 v2 v3 σ) := by
  intro v0 v1 v2 v3 σ
  unfold m_X9_tell_b53
  refine V_aload_n (x := v0) dX9_tell_53 rfl ?_
  refine V_getR fd_X9_tell_7_X9 dX9_tell_54 (fun x5 => ?_)
  refine V_bipush (v := (7 : Int32)) dX9_tell_57 rfl ?_
  refine V_dup2 dX9_tell_59 rfl (va_rf_cat _) ?_
  refine V_iaload dX9_tell_60 (fun x6 => ?_)
  refine V_iconst (v := (1 : Int32)) dX9_tell_61 rfl ?_
  refine V_iadd (x := x6) (y := (1 : Int32)) dX9_tell_62 ?_
  refine V_iastore dX9_tell_63 (fun σ7 hσ7 => ?_)
  refine V_aload_n (x := v0) dX9_tell_64 rfl ?_
  refine V_getR fd_X9_tell_7_X9 dX9_tell_65 (fun x8 => ?_)
  refine V_iload_n (x := v3) dX9_tell_68 rfl ?_
  refine V_iconst (v := (4 : Int32)) dX9_tell_69 rfl ?_
  refine V_iadd (x := v3) (y := (4 : Int32)) dX9_tell_70 ?_
  refine V_iload_n (x := v2) dX9_tell_71 rfl ?_
  refine V_iconst (v := (1 : Int32)) dX9_tell_72 rfl ?_
  refine V_iadd (x := v2) (y := (1 : Int32)) dX9_tell_73 ?_
  refine V_iastore dX9_tell_74 (fun σ9 hσ9 => ?_)
  refine V_aload_n (x := v0) dX9_tell_75 rfl ?_
  refine V_iload_n (x := v1) dX9_tell_76 rfl ?_
  refine V_iload_n (x := v2) dX9_tell_77 rfl ?_
  refine V_callV0 (As := [.int v1, .int v2]) (st0 := []) (stI := [.int v2, .int v1, va_rf v0]) (fun _ h => by cases h; exact t_X9_act _ v1 v2 σ9) (q := (RX9, TX9, 15)) rfl rfl rfl (Nat.le_of_ble_eq_true rfl) rfl (fun s args hts => cwV 2 hts gX9_tell_X9_act rfl rfl rfl (by decide +kernel) ⟨Nat.le_of_ble_eq_true rfl, Nat.le_of_ble_eq_true rfl⟩) rfl rfl dX9_tell_78 (fun _ σ10 _ => ?_)
  exact V_sub (LE.s (LE.n (LE.n (LE.s LE.e)))) (v_X9_tell_b81  v0 v3 σ10)
set_option maxRecDepth 100000 in
set_option maxHeartbeats 4000000 in
theorem v_X9_tell {D : DG} {z0 : Nat} {l : Launch} : ∀ (a0 : Option Nat) (a1 : Int32) (a2 : Int32) (σ : SG), V D z0 l RX9 cX9_tell 4 wsX9_tell none rmX9_tell false tvU 0 [some (va_rf a0), some (.int a1), some (.int a2), none] [] σ 0 0 (m_X9_tell a0 a1 a2 σ) := by
  intro a0 a1 a2 σ
  unfold m_X9_tell
  refine V_iload_n (x := a1) dX9_tell_0 rfl ?_
  refine V_callS0 (As := [.int a1]) (st0 := []) (stI := [.int a1]) (t_X9_r a1 σ) rfl (Nat.le_of_ble_eq_true rfl) rfl (fun s args hts => va_cwS 1 hts gX9_tell_X9_r rfl rfl rfl (by decide +kernel) ⟨Nat.le_of_ble_eq_true rfl, Nat.le_of_ble_eq_true rfl⟩) rfl rfl dX9_tell_1 (fun r11 σ12 _ => ?_)
  refine V_istore_n (x := r11) (ls' := [some (va_rf a0), some (.int a1), some (.int a2), some (.int r11)]) dX9_tell_4 (by decide) rfl ?_
  refine V_aload_n (x := a0) dX9_tell_5 rfl ?_
  refine V_getR fd_X9_tell_7_X9 dX9_tell_6 (fun x13 => ?_)
  refine V_iload_n (x := r11) dX9_tell_9 rfl ?_
  refine V_iconst (v := (4 : Int32)) dX9_tell_10 rfl ?_
  refine V_iadd (x := r11) (y := (4 : Int32)) dX9_tell_11 ?_
  refine V_iaload dX9_tell_12 (fun x14 => ?_)
  refine V_iload_n (x := a2) dX9_tell_13 rfl ?_
  refine V_iconst (v := (1 : Int32)) dX9_tell_14 rfl ?_
  refine V_iadd (x := a2) (y := (1 : Int32)) dX9_tell_15 ?_
  refine V_icmp_ne (tgt := 53) (x := x14) (y := (a2 + (1 : Int32))) dX9_tell_16 (by decide) (fun hc15 => ?_) (fun hc15 => ?_)
  · refine V_aload_n (x := a0) dX9_tell_19 rfl ?_
    refine V_getR fd_X9_tell_7_X9 dX9_tell_20 (fun x16 => ?_)
    refine V_iconst (v := (4 : Int32)) dX9_tell_23 rfl ?_
    refine V_iaload dX9_tell_24 (fun x17 => ?_)
    refine V_aload_n (x := a0) dX9_tell_25 rfl ?_
    refine V_getR fd_X9_tell_7_X9 dX9_tell_26 (fun x18 => ?_)
    refine V_iload_n (x := r11) dX9_tell_29 rfl ?_
    refine V_iconst (v := (5 : Int32)) dX9_tell_30 rfl ?_
    refine V_iadd (x := r11) (y := (5 : Int32)) dX9_tell_31 ?_
    refine V_iaload dX9_tell_32 (fun x19 => ?_)
    refine V_isub (x := x17) (y := x19) dX9_tell_33 ?_
    refine V_bipush (v := (17 : Int32)) dX9_tell_34 rfl ?_
    refine V_icmp_gt (tgt := 53) (x := (x17 - x19)) (y := (17 : Int32)) dX9_tell_36 (by decide) (fun hc20 => ?_) (fun hc20 => ?_)
    · exact v_X9_tell_b53  a0 a1 a2 r11 σ12
    · refine V_aload_n (x := a0) dX9_tell_39 rfl ?_
      refine V_getR fd_X9_tell_7_X9 dX9_tell_40 (fun x21 => ?_)
      refine V_bipush (v := (8 : Int32)) dX9_tell_43 rfl ?_
      refine V_dup2 dX9_tell_45 rfl (va_rf_cat _) ?_
      refine V_iaload dX9_tell_46 (fun x22 => ?_)
      refine V_iconst (v := (1 : Int32)) dX9_tell_47 rfl ?_
      refine V_iadd (x := x22) (y := (1 : Int32)) dX9_tell_48 ?_
      refine V_iastore dX9_tell_49 (fun σ23 hσ23 => ?_)
      refine V_goto (tgt := 81) dX9_tell_50 (by decide) ?_
      exact V_sub (LE.s (LE.n (LE.n (LE.s LE.e)))) (v_X9_tell_b81  a0 r11 σ23)
  · exact v_X9_tell_b53  a0 a1 a2 r11 σ12
theorem t_X9_tell {D : DG} {z0 : Nat} {l : Launch} (a : Nat) (a1 : Int32) (a2 : Int32) (σ : SG) : MT D z0 l yX9_tell wsX9_tell rmX9_tell tvU [.ref a, .int a1, .int a2] σ (m_X9_tell (some a) a1 a2 σ) :=
  MT.of (own := RX9) (cc := cX9_tell) (nL := 4) (ret := none) (ct := false) (by decide) rfl rfl (fun h => by cases h) (Nat.le_of_ble_eq_true rfl) (by intro v hv; simp only [List.mem_cons, List.not_mem_nil, or_false] at hv; first | (rcases hv with rfl | rfl | rfl <;> first | rfl | exact va_rf_cat _) | exact absurd hv (fun h => h)) (v_X9_tell (some a) a1 a2 σ)
theorem in_X9_listenAgain_X9 : ∀ w ∈ u_ws RX9 TX9 15, w ∈ wsX9_listenAgain := by decide +kernel
theorem wd_X9_listenAgain_1 : Cond.fieldLink RX9 7 "MainsWordsModel" "s" "[I" ∈ wsX9_listenAgain := by decide +kernel
theorem fd_X9_listenAgain_7_X9 : FD RX9 7 wsX9_listenAgain 8 0 := ⟨RX9, "MainsWordsModel", TX9, 15, rfl, in_X9_listenAgain_X9, by decide, wd_X9_listenAgain_1, Or.inl rfl⟩
set_option maxRecDepth 100000 in
set_option maxHeartbeats 4000000 in
theorem v_X9_listenAgain {D : DG} {z0 : Nat} {l : Launch} : ∀ (a0 : Option Nat) (a1 : Int32) (σ : SG), V D z0 l RX9 cX9_listenAgain 2 wsX9_listenAgain none rmX9_listenAgain false tvU 0 [some (va_rf a0), some (.int a1)] [] σ 0 0 (m_X9_listenAgain a0 a1 σ) := by
  intro a0 a1 σ
  unfold m_X9_listenAgain
  refine V_aload_n (x := a0) dX9_listenAgain_0 rfl ?_
  refine V_getR fd_X9_listenAgain_7_X9 dX9_listenAgain_1 (fun x1 => ?_)
  refine V_iload_n (x := a1) dX9_listenAgain_4 rfl ?_
  refine V_iconst (v := (0 : Int32)) dX9_listenAgain_5 rfl ?_
  refine V_iadd (x := a1) (y := (0 : Int32)) dX9_listenAgain_6 ?_
  refine V_iconst (v := (0 : Int32)) dX9_listenAgain_7 rfl ?_
  refine V_iastore dX9_listenAgain_8 (fun σ2 hσ2 => ?_)
  refine V_aload_n (x := a0) dX9_listenAgain_9 rfl ?_
  refine V_getR fd_X9_listenAgain_7_X9 dX9_listenAgain_10 (fun x3 => ?_)
  refine V_iload_n (x := a1) dX9_listenAgain_13 rfl ?_
  refine V_iconst (v := (1 : Int32)) dX9_listenAgain_14 rfl ?_
  refine V_iadd (x := a1) (y := (1 : Int32)) dX9_listenAgain_15 ?_
  refine V_iconst (v := (0 : Int32)) dX9_listenAgain_16 rfl ?_
  refine V_iastore dX9_listenAgain_17 (fun σ4 hσ4 => ?_)
  refine V_aload_n (x := a0) dX9_listenAgain_18 rfl ?_
  refine V_getR fd_X9_listenAgain_7_X9 dX9_listenAgain_19 (fun x5 => ?_)
  refine V_iload_n (x := a1) dX9_listenAgain_22 rfl ?_
  refine V_iconst (v := (2 : Int32)) dX9_listenAgain_23 rfl ?_
  refine V_iadd (x := a1) (y := (2 : Int32)) dX9_listenAgain_24 ?_
  refine V_iconst (v := (0 : Int32)) dX9_listenAgain_25 rfl ?_
  refine V_iastore dX9_listenAgain_26 (fun σ6 hσ6 => ?_)
  refine V_aload_n (x := a0) dX9_listenAgain_27 rfl ?_
  refine V_getR fd_X9_listenAgain_7_X9 dX9_listenAgain_28 (fun x7 => ?_)
  refine V_iload_n (x := a1) dX9_listenAgain_31 rfl ?_
  refine V_iconst (v := (3 : Int32)) dX9_listenAgain_32 rfl ?_
  refine V_iadd (x := a1) (y := (3 : Int32)) dX9_listenAgain_33 ?_
  refine V_iconst (v := (0 : Int32)) dX9_listenAgain_34 rfl ?_
  refine V_iastore dX9_listenAgain_35 (fun σ8 hσ8 => ?_)
  exact V_vret (fun _ => rfl) rfl (Nat.zero_le _) (Nat.zero_le _) dX9_listenAgain_36
theorem t_X9_listenAgain {D : DG} {z0 : Nat} {l : Launch} (a : Nat) (a1 : Int32) (σ : SG) : MT D z0 l yX9_listenAgain wsX9_listenAgain rmX9_listenAgain tvU [.ref a, .int a1] σ (m_X9_listenAgain (some a) a1 σ) :=
  MT.of (own := RX9) (cc := cX9_listenAgain) (nL := 2) (ret := none) (ct := false) (by decide) rfl rfl (fun h => by cases h) (Nat.le_of_ble_eq_true rfl) (by intro v hv; simp only [List.mem_cons, List.not_mem_nil, or_false] at hv; first | (rcases hv with rfl | rfl <;> first | rfl | exact va_rf_cat _) | exact absurd hv (fun h => h)) (v_X9_listenAgain (some a) a1 σ)
theorem in_X9_take_X9 : ∀ w ∈ u_ws RX9 TX9 15, w ∈ wsX9_take := by decide +kernel
theorem wd_X9_take_1 : Cond.fieldLink RX9 7 "MainsWordsModel" "s" "[I" ∈ wsX9_take := by decide +kernel
theorem fd_X9_take_7_X9 : FD RX9 7 wsX9_take 8 0 := ⟨RX9, "MainsWordsModel", TX9, 15, rfl, in_X9_take_X9, by decide, wd_X9_take_1, Or.inl rfl⟩
theorem wd_X9_take_3 : Cond.fieldLink RX9 25 "MainsWordsModel" "heard" "[I" ∈ wsX9_take := by decide +kernel
theorem fd_X9_take_25_X9 : FD RX9 25 wsX9_take 8 5 := ⟨RX9, "MainsWordsModel", TX9, 15, rfl, in_X9_take_X9, by decide, wd_X9_take_3, Or.inl rfl⟩
set_option maxRecDepth 100000 in
set_option maxHeartbeats 4000000 in
theorem v_X9_take_B179 {D : DG} {z0 : Nat} {l : Launch} {rec179 : Option Nat → Int32 → Int32 → Int32 → Int32 → SG → Option (Unit × SG)} (hrec179 : ∀ (v0 : Option Nat) (v1 : Int32) (v2 : Int32) (v4 : Int32) (v5 : Int32) (σ : SG), V D z0 l RX9 cX9_take 6 wsX9_take none rmX9_take false tvU 179 [some (va_rf v0), some (.int v1), some (.int v2), none, some (.int v4), some (.int v5)] [] σ 0 0 (rec179 v0 v1 v2 v4 v5 σ)) : ∀ (v0 : Option Nat) (v1 : Int32) (v2 : Int32) (v4 : Int32) (v5 : Int32) (σ : SG), V D z0 l RX9 cX9_take 6 wsX9_take none rmX9_take false tvU 179 [some (va_rf v0), some (.int v1), some (.int v2), none, some (.int v4), some (.int v5)] [] σ 0 0 (m_X9_take_B179 rec179 v0 v1 v2 v4 v5 σ) := by
  intro v0 v1 v2 v4 v5 σ
  unfold m_X9_take_B179
  refine V_iload (x := v5) dX9_take_179 rfl ?_
  refine V_iconst (v := (5 : Int32)) dX9_take_181 rfl ?_
  refine V_icmp_ge (tgt := 216) (x := v5) (y := (5 : Int32)) dX9_take_182 (by decide) (fun hc1 => ?_) (fun hc1 => ?_)
  · refine V_aload_n (x := v0) dX9_take_216 rfl ?_
    refine V_iload_n (x := v1) dX9_take_217 rfl ?_
    refine V_iload (x := v4) dX9_take_218 rfl ?_
    refine V_callV0 (As := [.int v1, .int v4]) (st0 := []) (stI := [.int v4, .int v1, va_rf v0]) (fun _ h => by cases h; exact t_X9_tell _ v1 v4 σ) (q := (RX9, TX9, 15)) rfl rfl rfl (Nat.le_of_ble_eq_true rfl) rfl (fun s args hts => cwV 2 hts gX9_take_X9_tell rfl rfl rfl (by decide +kernel) ⟨Nat.le_of_ble_eq_true rfl, Nat.le_of_ble_eq_true rfl⟩) rfl rfl dX9_take_220 (fun _ σ2 _ => ?_)
    refine V_aload_n (x := v0) dX9_take_223 rfl ?_
    refine V_iload_n (x := v2) dX9_take_224 rfl ?_
    refine V_callV0 (As := [.int v2]) (st0 := []) (stI := [.int v2, va_rf v0]) (fun _ h => by cases h; exact t_X9_listenAgain _ v2 σ2) (q := (RX9, TX9, 15)) rfl rfl rfl (Nat.le_of_ble_eq_true rfl) rfl (fun s args hts => cwV 1 hts gX9_take_X9_listenAgain rfl rfl rfl (by decide +kernel) ⟨Nat.le_of_ble_eq_true rfl, Nat.le_of_ble_eq_true rfl⟩) rfl rfl dX9_take_225 (fun _ σ3 _ => ?_)
    exact V_vret (fun _ => rfl) rfl (Nat.zero_le _) (Nat.zero_le _) dX9_take_228
  · refine V_iconst (v := (2 : Int32)) dX9_take_185 rfl ?_
    refine V_iload (x := v4) dX9_take_186 rfl ?_
    refine V_imul (x := (2 : Int32)) (y := v4) dX9_take_188 ?_
    refine V_aload_n (x := v0) dX9_take_189 rfl ?_
    refine V_getR fd_X9_take_7_X9 dX9_take_190 (fun x4 => ?_)
    refine V_iload_n (x := v2) dX9_take_193 rfl ?_
    refine V_iconst (v := (3 : Int32)) dX9_take_194 rfl ?_
    refine V_iadd (x := v2) (y := (3 : Int32)) dX9_take_195 ?_
    refine V_iaload dX9_take_196 (fun x5 => ?_)
    refine V_bipush (v := (9 : Int32)) dX9_take_197 rfl ?_
    refine V_iconst (v := (2 : Int32)) dX9_take_199 rfl ?_
    refine V_iload (x := v5) dX9_take_200 rfl ?_
    refine V_imul (x := (2 : Int32)) (y := v5) dX9_take_202 ?_
    refine V_isub (x := (9 : Int32)) (y := ((2 : Int32) * v5)) dX9_take_203 ?_
    refine V_ishr (x := x5) (y := ((9 : Int32) - ((2 : Int32) * v5))) dX9_take_204 ?_
    refine V_iconst (v := (1 : Int32)) dX9_take_205 rfl ?_
    refine V_iand (x := (x5 >>> (((9 : Int32) - ((2 : Int32) * v5)) &&& 31))) (y := (1 : Int32)) dX9_take_206 ?_
    refine V_iadd (x := ((2 : Int32) * v4)) (y := ((x5 >>> (((9 : Int32) - ((2 : Int32) * v5)) &&& 31)) &&& (1 : Int32))) dX9_take_207 ?_
    refine V_istore (x := (((2 : Int32) * v4) + ((x5 >>> (((9 : Int32) - ((2 : Int32) * v5)) &&& 31)) &&& (1 : Int32)))) (ls' := [some (va_rf v0), some (.int v1), some (.int v2), none, some (.int (((2 : Int32) * v4) + ((x5 >>> (((9 : Int32) - ((2 : Int32) * v5)) &&& 31)) &&& (1 : Int32)))), some (.int v5)]) dX9_take_208 (by decide) rfl ?_
    refine V_iinc (x := v5) (v := (v5 + 1)) (ls' := [some (va_rf v0), some (.int v1), some (.int v2), none, some (.int (((2 : Int32) * v4) + ((x5 >>> (((9 : Int32) - ((2 : Int32) * v5)) &&& 31)) &&& (1 : Int32)))), some (.int (v5 + 1))]) dX9_take_210 rfl rfl (by decide) rfl ?_
    refine V_goto (tgt := 179) dX9_take_213 (by decide) ?_
    exact hrec179 v0 v1 v2 ((((2 : Int32) * v4) + ((x5 >>> (((9 : Int32) - ((2 : Int32) * v5)) &&& 31)) &&& (1 : Int32)))) ((v5 + 1)) σ
theorem v_X9_take_L179 {D : DG} {z0 : Nat} {l : Launch} : ∀ (n : Nat) (v0 : Option Nat) (v1 : Int32) (v2 : Int32) (v4 : Int32) (v5 : Int32) (σ : SG), V D z0 l RX9 cX9_take 6 wsX9_take none rmX9_take false tvU 179 [some (va_rf v0), some (.int v1), some (.int v2), none, some (.int v4), some (.int v5)] [] σ 0 0 (m_X9_take_L179 n v0 v1 v2 v4 v5 σ) := by
  intro n
  induction n with
  | zero => intros; exact V_none
  | succ n ih => exact v_X9_take_B179  ih
set_option maxRecDepth 100000 in
set_option maxHeartbeats 4000000 in
theorem v_X9_take_b160 {D : DG} {z0 : Nat} {l : Launch} : ∀ (v0 : Option Nat) (v1 : Int32) (v2 : Int32) (σ : SG), V D z0 l RX9 cX9_take 6 wsX9_take none rmX9_take false tvU 160 [some (va_rf v0), some (.int v1), some (.int v2), none, none, none] [] σ 0 0 (m_X9_take_b160 v0 v1 v2 σ) := by
  intro v0 v1 v2 σ
  unfold m_X9_take_b160
  refine V_aload_n (x := v0) dX9_take_160 rfl ?_
  refine V_getR fd_X9_take_7_X9 dX9_take_161 (fun x6 => ?_)
  refine V_iload_n (x := v2) dX9_take_164 rfl ?_
  refine V_iconst (v := (2 : Int32)) dX9_take_165 rfl ?_
  refine V_iadd (x := v2) (y := (2 : Int32)) dX9_take_166 ?_
  refine V_iaload dX9_take_167 (fun x7 => ?_)
  refine V_bipush (v := (10 : Int32)) dX9_take_168 rfl ?_
  refine V_icmp_ne (tgt := 228) (x := x7) (y := (10 : Int32)) dX9_take_170 (by decide) (fun hc8 => ?_) (fun hc8 => ?_)
  · refine V_iconst (v := (0 : Int32)) dX9_take_173 rfl ?_
    refine V_istore (x := (0 : Int32)) (ls' := [some (va_rf v0), some (.int v1), some (.int v2), none, some (.int (0 : Int32)), none]) dX9_take_174 (by decide) rfl ?_
    refine V_iconst (v := (0 : Int32)) dX9_take_176 rfl ?_
    refine V_istore (x := (0 : Int32)) (ls' := [some (va_rf v0), some (.int v1), some (.int v2), none, some (.int (0 : Int32)), some (.int (0 : Int32))]) dX9_take_177 (by decide) rfl ?_
    exact v_X9_take_L179  1000 v0 v1 v2 ((0 : Int32)) ((0 : Int32)) σ
  · exact V_vret (fun _ => rfl) rfl (Nat.zero_le _) (Nat.zero_le _) dX9_take_228
set_option maxRecDepth 100000 in
set_option maxHeartbeats 4000000 in
theorem v_X9_take_b141 {D : DG} {z0 : Nat} {l : Launch} : ∀ (v0 : Option Nat) (v2 : Int32) (σ : SG), V D z0 l RX9 cX9_take 6 wsX9_take none rmX9_take false tvU 141 [some (va_rf v0), none, some (.int v2), none, none, none] [] σ 0 0 (m_X9_take_b141 v0 v2 σ) := by
  intro v0 v2 σ
  unfold m_X9_take_b141
  refine V_aload_n (x := v0) dX9_take_141 rfl ?_
  refine V_getR fd_X9_take_7_X9 dX9_take_142 (fun x9 => ?_)
  refine V_bipush (v := (9 : Int32)) dX9_take_145 rfl ?_
  refine V_dup2 dX9_take_147 rfl (va_rf_cat _) ?_
  refine V_iaload dX9_take_148 (fun x10 => ?_)
  refine V_iconst (v := (1 : Int32)) dX9_take_149 rfl ?_
  refine V_iadd (x := x10) (y := (1 : Int32)) dX9_take_150 ?_
  refine V_iastore dX9_take_151 (fun σ11 hσ11 => ?_)
  refine V_aload_n (x := v0) dX9_take_152 rfl ?_
  refine V_iload_n (x := v2) dX9_take_153 rfl ?_
  refine V_callV0 (As := [.int v2]) (st0 := []) (stI := [.int v2, va_rf v0]) (fun _ h => by cases h; exact t_X9_listenAgain _ v2 σ11) (q := (RX9, TX9, 15)) rfl rfl rfl (Nat.le_of_ble_eq_true rfl) rfl (fun s args hts => cwV 1 hts gX9_take_X9_listenAgain rfl rfl rfl (by decide +kernel) ⟨Nat.le_of_ble_eq_true rfl, Nat.le_of_ble_eq_true rfl⟩) rfl rfl dX9_take_154 (fun _ σ12 _ => ?_)
  refine V_goto (tgt := 228) dX9_take_157 (by decide) ?_
  exact V_vret (fun _ => rfl) rfl (Nat.zero_le _) (Nat.zero_le _) dX9_take_228
set_option maxRecDepth 100000 in
set_option maxHeartbeats 4000000 in
theorem v_X9_take_b69 {D : DG} {z0 : Nat} {l : Launch} : ∀ (s0 : Option Nat) (s1 : Int32) (s2 : Int32) (σ : SG), V D z0 l RX9 cX9_take 6 wsX9_take none rmX9_take false tvU 69 [none, none, none, none, none, none] [.int s2, .int s1, va_rf s0] σ 0 0 (m_X9_take_b69 s0 s1 s2 σ) := by
  intro s0 s1 s2 σ
  unfold m_X9_take_b69
  refine V_iastore dX9_take_69 (fun σ13 hσ13 => ?_)
  exact V_vret (fun _ => rfl) rfl (Nat.zero_le _) (Nat.zero_le _) dX9_take_70
set_option maxRecDepth 100000 in
set_option maxHeartbeats 4000000 in
theorem v_X9_take {D : DG} {z0 : Nat} {l : Launch} : ∀ (a0 : Option Nat) (a1 : Int32) (σ : SG), V D z0 l RX9 cX9_take 6 wsX9_take none rmX9_take false tvU 0 [some (va_rf a0), some (.int a1), none, none, none, none] [] σ 0 0 (m_X9_take a0 a1 σ) := by
  intro a0 a1 σ
  unfold m_X9_take
  refine V_iload_n (x := a1) dX9_take_0 rfl ?_
  refine V_callS0 (As := [.int a1]) (st0 := []) (stI := [.int a1]) (t_X9_r a1 σ) rfl (Nat.le_of_ble_eq_true rfl) rfl (fun s args hts => va_cwS 1 hts gX9_take_X9_r rfl rfl rfl (by decide +kernel) ⟨Nat.le_of_ble_eq_true rfl, Nat.le_of_ble_eq_true rfl⟩) rfl rfl dX9_take_1 (fun r14 σ15 _ => ?_)
  refine V_istore_n (x := r14) (ls' := [some (va_rf a0), some (.int a1), some (.int r14), none, none, none]) dX9_take_4 (by decide) rfl ?_
  refine V_aload_n (x := a0) dX9_take_5 rfl ?_
  refine V_getR fd_X9_take_7_X9 dX9_take_6 (fun x16 => ?_)
  refine V_iload_n (x := r14) dX9_take_9 rfl ?_
  refine V_iconst (v := (0 : Int32)) dX9_take_10 rfl ?_
  refine V_iadd (x := r14) (y := (0 : Int32)) dX9_take_11 ?_
  refine V_iaload dX9_take_12 (fun x17 => ?_)
  refine V_if_ne (tgt := 71) (x := x17) dX9_take_13 (by decide) (fun hc18 => ?_) (fun hc18 => ?_)
  · refine V_aload_n (x := a0) dX9_take_16 rfl ?_
    refine V_getR fd_X9_take_7_X9 dX9_take_17 (fun x19 => ?_)
    refine V_iload_n (x := r14) dX9_take_20 rfl ?_
    refine V_iconst (v := (1 : Int32)) dX9_take_21 rfl ?_
    refine V_iadd (x := r14) (y := (1 : Int32)) dX9_take_22 ?_
    refine V_aload_n (x := a0) dX9_take_23 rfl ?_
    refine V_getR fd_X9_take_7_X9 dX9_take_24 (fun x20 => ?_)
    refine V_iload_n (x := r14) dX9_take_27 rfl ?_
    refine V_iconst (v := (1 : Int32)) dX9_take_28 rfl ?_
    refine V_iadd (x := r14) (y := (1 : Int32)) dX9_take_29 ?_
    refine V_iaload dX9_take_30 (fun x21 => ?_)
    refine V_iconst (v := (2 : Int32)) dX9_take_31 rfl ?_
    refine V_imul (x := x21) (y := (2 : Int32)) dX9_take_32 ?_
    refine V_bipush (v := (16 : Int32)) dX9_take_33 rfl ?_
    refine V_irem (x := (x21 * (2 : Int32))) (y := (16 : Int32)) dX9_take_35 ?_
    refine V_aload_n (x := a0) dX9_take_36 rfl ?_
    refine V_getR fd_X9_take_25_X9 dX9_take_37 (fun x22 => ?_)
    refine V_iload_n (x := a1) dX9_take_40 rfl ?_
    refine V_iaload dX9_take_41 (fun x23 => ?_)
    refine V_iadd (x := ((x21 * (2 : Int32)) - (x21 * (2 : Int32)) / (16 : Int32) * (16 : Int32))) (y := x23) dX9_take_42 ?_
    refine V_iastore dX9_take_43 (fun σ24 hσ24 => ?_)
    refine V_aload_n (x := a0) dX9_take_44 rfl ?_
    refine V_getR fd_X9_take_7_X9 dX9_take_45 (fun x25 => ?_)
    refine V_iload_n (x := r14) dX9_take_48 rfl ?_
    refine V_iconst (v := (0 : Int32)) dX9_take_49 rfl ?_
    refine V_iadd (x := r14) (y := (0 : Int32)) dX9_take_50 ?_
    refine V_aload_n (x := a0) dX9_take_51 rfl ?_
    refine V_getR fd_X9_take_7_X9 dX9_take_52 (fun x26 => ?_)
    refine V_iload_n (x := r14) dX9_take_55 rfl ?_
    refine V_iconst (v := (1 : Int32)) dX9_take_56 rfl ?_
    refine V_iadd (x := r14) (y := (1 : Int32)) dX9_take_57 ?_
    refine V_iaload dX9_take_58 (fun x27 => ?_)
    refine V_bipush (v := (14 : Int32)) dX9_take_59 rfl ?_
    refine V_icmp_ne (tgt := 68) (x := x27) (y := (14 : Int32)) dX9_take_61 (by decide) (fun hc28 => ?_) (fun hc28 => ?_)
    · refine V_iconst (v := (1 : Int32)) dX9_take_64 rfl ?_
      refine V_goto (tgt := 69) dX9_take_65 (by decide) ?_
      exact V_sub (LE.n (LE.n (LE.n (LE.s (LE.s (LE.s LE.e)))))) (v_X9_take_b69  x25 ((r14 + (0 : Int32))) ((1 : Int32)) σ24)
    · refine V_iconst (v := (0 : Int32)) dX9_take_68 rfl ?_
      exact V_sub (LE.n (LE.n (LE.n (LE.s (LE.s (LE.s LE.e)))))) (v_X9_take_b69  x25 ((r14 + (0 : Int32))) ((0 : Int32)) σ24)
  · refine V_aload_n (x := a0) dX9_take_71 rfl ?_
    refine V_getR fd_X9_take_7_X9 dX9_take_72 (fun x29 => ?_)
    refine V_iload_n (x := r14) dX9_take_75 rfl ?_
    refine V_iconst (v := (2 : Int32)) dX9_take_76 rfl ?_
    refine V_iadd (x := r14) (y := (2 : Int32)) dX9_take_77 ?_
    refine V_dup2 dX9_take_78 rfl (va_rf_cat _) ?_
    refine V_iaload dX9_take_79 (fun x30 => ?_)
    refine V_iconst (v := (1 : Int32)) dX9_take_80 rfl ?_
    refine V_iadd (x := x30) (y := (1 : Int32)) dX9_take_81 ?_
    refine V_iastore dX9_take_82 (fun σ31 hσ31 => ?_)
    refine V_aload_n (x := a0) dX9_take_83 rfl ?_
    refine V_getR fd_X9_take_7_X9 dX9_take_84 (fun x32 => ?_)
    refine V_iload_n (x := r14) dX9_take_87 rfl ?_
    refine V_iconst (v := (3 : Int32)) dX9_take_88 rfl ?_
    refine V_iadd (x := r14) (y := (3 : Int32)) dX9_take_89 ?_
    refine V_iconst (v := (2 : Int32)) dX9_take_90 rfl ?_
    refine V_aload_n (x := a0) dX9_take_91 rfl ?_
    refine V_getR fd_X9_take_7_X9 dX9_take_92 (fun x33 => ?_)
    refine V_iload_n (x := r14) dX9_take_95 rfl ?_
    refine V_iconst (v := (3 : Int32)) dX9_take_96 rfl ?_
    refine V_iadd (x := r14) (y := (3 : Int32)) dX9_take_97 ?_
    refine V_iaload dX9_take_98 (fun x34 => ?_)
    refine V_imul (x := (2 : Int32)) (y := x34) dX9_take_99 ?_
    refine V_aload_n (x := a0) dX9_take_100 rfl ?_
    refine V_getR fd_X9_take_25_X9 dX9_take_101 (fun x35 => ?_)
    refine V_iload_n (x := a1) dX9_take_104 rfl ?_
    refine V_iaload dX9_take_105 (fun x36 => ?_)
    refine V_iadd (x := ((2 : Int32) * x34)) (y := x36) dX9_take_106 ?_
    refine V_iastore dX9_take_107 (fun σ37 hσ37 => ?_)
    refine V_aload_n (x := a0) dX9_take_108 rfl ?_
    refine V_getR fd_X9_take_7_X9 dX9_take_109 (fun x38 => ?_)
    refine V_iload_n (x := r14) dX9_take_112 rfl ?_
    refine V_iconst (v := (3 : Int32)) dX9_take_113 rfl ?_
    refine V_iadd (x := r14) (y := (3 : Int32)) dX9_take_114 ?_
    refine V_iaload dX9_take_115 (fun x39 => ?_)
    refine V_iconst (v := (4 : Int32)) dX9_take_116 rfl ?_
    refine V_irem (x := x39) (y := (4 : Int32)) dX9_take_117 ?_
    refine V_istore_n (x := (x39 - x39 / (4 : Int32) * (4 : Int32))) (ls' := [some (va_rf a0), some (.int a1), some (.int r14), some (.int (x39 - x39 / (4 : Int32) * (4 : Int32))), none, none]) dX9_take_118 (by decide) rfl ?_
    refine V_aload_n (x := a0) dX9_take_119 rfl ?_
    refine V_getR fd_X9_take_7_X9 dX9_take_120 (fun x40 => ?_)
    refine V_iload_n (x := r14) dX9_take_123 rfl ?_
    refine V_iconst (v := (2 : Int32)) dX9_take_124 rfl ?_
    refine V_iadd (x := r14) (y := (2 : Int32)) dX9_take_125 ?_
    refine V_iaload dX9_take_126 (fun x41 => ?_)
    refine V_iconst (v := (2 : Int32)) dX9_take_127 rfl ?_
    refine V_irem (x := x41) (y := (2 : Int32)) dX9_take_128 ?_
    refine V_if_ne (tgt := 160) (x := (x41 - x41 / (2 : Int32) * (2 : Int32))) dX9_take_129 (by decide) (fun hc42 => ?_) (fun hc42 => ?_)
    · refine V_iload_n (x := (x39 - x39 / (4 : Int32) * (4 : Int32))) dX9_take_132 rfl ?_
      refine V_if_eq (tgt := 141) (x := (x39 - x39 / (4 : Int32) * (4 : Int32))) dX9_take_133 (by decide) (fun hc43 => ?_) (fun hc43 => ?_)
      · exact V_sub (LE.s (LE.n (LE.s (LE.n (LE.s (LE.s LE.e)))))) (v_X9_take_b141  a0 r14 σ37)
      · refine V_iload_n (x := (x39 - x39 / (4 : Int32) * (4 : Int32))) dX9_take_136 rfl ?_
        refine V_iconst (v := (3 : Int32)) dX9_take_137 rfl ?_
        refine V_icmp_ne (tgt := 160) (x := (x39 - x39 / (4 : Int32) * (4 : Int32))) (y := (3 : Int32)) dX9_take_138 (by decide) (fun hc44 => ?_) (fun hc44 => ?_)
        · exact V_sub (LE.s (LE.n (LE.s (LE.n (LE.s (LE.s LE.e)))))) (v_X9_take_b141  a0 r14 σ37)
        · exact V_sub (LE.s (LE.s (LE.s (LE.n (LE.s (LE.s LE.e)))))) (v_X9_take_b160  a0 a1 r14 σ37)
    · exact V_sub (LE.s (LE.s (LE.s (LE.n (LE.s (LE.s LE.e)))))) (v_X9_take_b160  a0 a1 r14 σ37)
theorem t_X9_take {D : DG} {z0 : Nat} {l : Launch} (a : Nat) (a1 : Int32) (σ : SG) : MT D z0 l yX9_take wsX9_take rmX9_take tvU [.ref a, .int a1] σ (m_X9_take (some a) a1 σ) :=
  MT.of (own := RX9) (cc := cX9_take) (nL := 6) (ret := none) (ct := false) (by decide) rfl rfl (fun h => by cases h) (Nat.le_of_ble_eq_true rfl) (by intro v hv; simp only [List.mem_cons, List.not_mem_nil, or_false] at hv; first | (rcases hv with rfl | rfl <;> first | rfl | exact va_rf_cat _) | exact absurd hv (fun h => h)) (v_X9_take (some a) a1 σ)
