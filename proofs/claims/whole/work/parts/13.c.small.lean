-- ===== printed by program (wip/whole/gen12.py): what must hold at a method's entry, at its labels =====
section WALK
variable {g : fs_G}
set_option maxRecDepth 8000 in
set_option maxHeartbeats 4000000 in
theorem E_Token_withLetter {M : fs_M} {K : fs_K} {x0 x1 x2 : Int} 
    (h : ((6 ≤ x1 → K (some (fs_i x0)) M) ∧ (¬ 6 ≤ x1 → K (some (fs_i (fs_or x0 (fs_shl (fs_w32 ((fs_w32 (x2 - 97)) + 1)) (fs_w32 (5 * (fs_w32 (5 - x1)))))))) M))) :
    fs_C2 g m_Token_withLetter 1 [fs_i x0, fs_i x1, fs_i x2] M K := by
  refine b_enter2 (ls := [(0, fs_i x0), (1, fs_i x1), (2, fs_i x2)]) (plainFor_of_name pn_Token) (Nat.le_of_ble_eq_true rfl) rfl ?_
  refine a_iload_n (j := 1) d_Token_withLetter_0 rfl rfl ?_
  refine a_bipush d_Token_withLetter_1 (by decide) ?_
  refine a_icmp_ge (tgt := 23) d_Token_withLetter_3 rfl (fun c1 => ?_) (fun c1 => ?_)
  · have h := h.1 c1
    refine a_iload_n (j := 0) d_Token_withLetter_23 rfl rfl ?_
    exact b_ireturn d_Token_withLetter_24 rfl rfl h
  · have h := h.2 c1
    refine a_iload_n (j := 0) d_Token_withLetter_6 rfl rfl ?_
    refine a_iload_n (j := 2) d_Token_withLetter_7 rfl rfl ?_
    refine a_bipush d_Token_withLetter_8 (by decide) ?_
    refine a_isub d_Token_withLetter_10 ?_
    refine a_iconst d_Token_withLetter_11 (by unfold fs_in32; omega) ?_
    refine a_iadd d_Token_withLetter_12 ?_
    refine a_iconst d_Token_withLetter_13 (by unfold fs_in32; omega) ?_
    refine a_iconst d_Token_withLetter_14 (by unfold fs_in32; omega) ?_
    refine a_iload_n (j := 1) d_Token_withLetter_15 rfl rfl ?_
    refine a_isub d_Token_withLetter_16 ?_
    refine a_imul d_Token_withLetter_17 ?_
    refine a_ishl d_Token_withLetter_18 ?_
    refine a_ior d_Token_withLetter_19 ?_
    refine a_goto (tgt := 24) d_Token_withLetter_20 rfl ?_
    exact b_ireturn d_Token_withLetter_24 rfl rfl h
set_option maxRecDepth 8000 in
set_option maxHeartbeats 4000000 in
theorem E_Plan_clear {M : fs_M} {K : fs_K} {x0 : Int} (h0 : fs_isO 6 x0) 
    (h : fs_A2 g m_Plan_clear 1 2 [(0, fs_r x0), (1, fs_i 0)] [] M K) :
    fs_C2 g m_Plan_clear 1 [fs_r x0] M K := by
  refine b_enter2 (ls := [(0, fs_r x0)]) (plainFor_of_name pn_Plan) (Nat.le_of_ble_eq_true rfl) rfl ?_
  refine a_iconst d_Plan_clear_0 (by unfold fs_in32; omega) ?_
  refine a_istore_n d_Plan_clear_1 rfl (Nat.le_of_ble_eq_true rfl) [1, 0] rfl ?_
  exact h
set_option maxRecDepth 8000 in
set_option maxHeartbeats 4000000 in
theorem L_Plan_clear_2 {M : fs_M} {K : fs_K} {x0 x1 : Int} (h0 : fs_isO 6 x0) 
    (h : ((3 ≤ x1 → K none (fs_st (fs_st M x0 2 0) x0 3 0)) ∧ (¬ 3 ≤ x1 → (0 ≤ x1 ∧ fs_A2 g m_Plan_clear 1 2 [(0, fs_r x0), (1, fs_i (fs_w32 (x1 + 1)))] [] (fs_st M (x0 + 5) x1 0) K)))) :
    fs_A2 g m_Plan_clear 1 2 [(0, fs_r x0), (1, fs_i x1)] [] M K := by
  refine a_iload_n (j := 1) d_Plan_clear_2 rfl rfl ?_
  refine a_iconst d_Plan_clear_3 (by unfold fs_in32; omega) ?_
  refine a_icmp_ge (tgt := 20) d_Plan_clear_4 rfl (fun c1 => ?_) (fun c1 => ?_)
  · have h := h.1 c1
    refine a_aload_n (j := 0) d_Plan_clear_20 rfl rfl ?_
    refine a_iconst d_Plan_clear_21 (by unfold fs_in32; omega) ?_
    refine b_putfield (x := 0) d_Plan_clear_22 fl_Plan_20 h0 rfl rfl fs_nar_int ?_
    refine a_aload_n (j := 0) d_Plan_clear_25 rfl rfl ?_
    refine a_iconst d_Plan_clear_26 (by unfold fs_in32; omega) ?_
    refine b_putfield (x := 0) d_Plan_clear_27 fl_Plan_24 h0 rfl rfl fs_nar_int ?_
    exact b_return d_Plan_clear_30 rfl h
  · have h := h.2 c1
    refine a_aload_n (j := 0) d_Plan_clear_7 rfl rfl ?_
    refine b_getptr (q := x0 + 5) d_Plan_clear_8 fl_Plan_16 h0 rfl rfl rfl ?_
    refine a_iload_n (j := 1) d_Plan_clear_11 rfl rfl ?_
    refine a_iconst d_Plan_clear_12 (by unfold fs_in32; omega) ?_
    obtain ⟨o2, h⟩ := h
    refine b_iastore d_Plan_clear_13 (pk_6_5 h0) o2 (by omega : x1 < 3) ?_
    refine a_iinc (j := 1) d_Plan_clear_14 rfl (Nat.le_of_ble_eq_true rfl) [1, 0] rfl ?_
    refine a_goto (tgt := 2) d_Plan_clear_17 rfl ?_
    exact h
set_option maxRecDepth 8000 in
set_option maxHeartbeats 4000000 in
theorem E_Plan_copyFrom {M : fs_M} {K : fs_K} {x0 x1 : Int} (h0 : fs_isO 6 x0) (h1 : fs_isO 6 x1) 
    (h : fs_A2 g m_Plan_copyFrom 1 2 [(0, fs_r x0), (1, fs_r x1), (2, fs_i 0)] [] M K) :
    fs_C2 g m_Plan_copyFrom 1 [fs_r x0, fs_r x1] M K := by
  refine b_enter2 (ls := [(0, fs_r x0), (1, fs_r x1)]) (plainFor_of_name pn_Plan) (Nat.le_of_ble_eq_true rfl) rfl ?_
  refine a_iconst d_Plan_copyFrom_0 (by unfold fs_in32; omega) ?_
  refine a_istore_n d_Plan_copyFrom_1 rfl (Nat.le_of_ble_eq_true rfl) [1, 2, 0] rfl ?_
  exact h
set_option maxRecDepth 8000 in
set_option maxHeartbeats 4000000 in
theorem L_Plan_copyFrom_2 {M : fs_M} {K : fs_K} {x0 x1 x2 : Int} (h0 : fs_isO 6 x0) (h1 : fs_isO 6 x1) 
    (h : ((3 ≤ x2 → K none (fs_st (fs_st M x0 2 (M x1 2)) x0 3 (M x1 3))) ∧ (¬ 3 ≤ x2 → (0 ≤ x2 ∧ fs_A2 g m_Plan_copyFrom 1 2 [(0, fs_r x0), (1, fs_r x1), (2, fs_i (fs_w32 (x2 + 1)))] [] (fs_st (fs_cpy M (x1 + 2 + x2) 0 (x0 + 2 + x2) 0 9) (x0 + 5) x2 ((fs_cpy M (x1 + 2 + x2) 0 (x0 + 2 + x2) 0 9) (x1 + 5) x2)) K)))) :
    fs_A2 g m_Plan_copyFrom 1 2 [(0, fs_r x0), (1, fs_r x1), (2, fs_i x2)] [] M K := by
  refine a_iload_n (j := 2) d_Plan_copyFrom_2 rfl rfl ?_
  refine a_iconst d_Plan_copyFrom_3 (by unfold fs_in32; omega) ?_
  refine a_icmp_ge (tgt := 44) d_Plan_copyFrom_4 rfl (fun c1 => ?_) (fun c1 => ?_)
  · have h := h.1 c1
    refine a_aload_n (j := 0) d_Plan_copyFrom_44 rfl rfl ?_
    refine a_aload_n (j := 1) d_Plan_copyFrom_45 rfl rfl ?_
    refine b_getfield (v := fs_i (M x1 2)) d_Plan_copyFrom_46 fl_Plan_20 h1 rfl ?_
    refine b_putfield (x := (M x1 2)) d_Plan_copyFrom_49 fl_Plan_20 h0 rfl rfl fs_nar_int ?_
    refine a_aload_n (j := 0) d_Plan_copyFrom_52 rfl rfl ?_
    refine a_aload_n (j := 1) d_Plan_copyFrom_53 rfl rfl ?_
    refine b_getfield (v := fs_i (M x1 3)) d_Plan_copyFrom_54 fl_Plan_24 h1 (congrArg fs_i ((fs_st_k (by decide)).trans (rfl))) ?_
    refine b_putfield (x := (M x1 3)) d_Plan_copyFrom_57 fl_Plan_24 h0 rfl rfl fs_nar_int ?_
    exact b_return d_Plan_copyFrom_60 rfl h
  · have h := h.2 c1
    refine a_aload_n (j := 1) d_Plan_copyFrom_7 rfl rfl ?_
    refine b_getptr (q := x1 + 1) d_Plan_copyFrom_8 fl_Plan_11 h1 rfl rfl rfl ?_
    refine a_iload_n (j := 2) d_Plan_copyFrom_11 rfl rfl ?_
    obtain ⟨o2, h⟩ := h
    refine b_aaptr (q := x1 + 2 + x2) d_Plan_copyFrom_12 (pk_6_1 h1) (by decide) o2 (by omega : x2 < 3) (aq_plan h1 x2) ?_
    refine a_iconst d_Plan_copyFrom_13 (by unfold fs_in32; omega) ?_
    refine a_aload_n (j := 0) d_Plan_copyFrom_14 rfl rfl ?_
    refine b_getptr (q := x0 + 1) d_Plan_copyFrom_15 fl_Plan_11 h0 rfl rfl rfl ?_
    refine a_iload_n (j := 2) d_Plan_copyFrom_18 rfl rfl ?_
    refine b_aaptr (q := x0 + 2 + x2) d_Plan_copyFrom_19 (pk_6_1 h0) (by decide) o2 (by omega : x2 < 3) (aq_plan h0 x2) ?_
    refine a_iconst d_Plan_copyFrom_20 (by unfold fs_in32; omega) ?_
    refine a_bipush d_Plan_copyFrom_21 (by decide) ?_
    refine b_arraycopy d_Plan_copyFrom_23 sy_Plan_27 (ae_plan h1 o2 (by omega : x2 < 3)) (ae_plan h0 o2 (by omega : x2 < 3)) (by decide) (by decide) (by decide) (by decide) (by decide) (Nat.le_of_ble_eq_true rfl) (Nat.le_of_ble_eq_true rfl) ?_
    refine a_aload_n (j := 0) d_Plan_copyFrom_26 rfl rfl ?_
    refine b_getptr (q := x0 + 5) d_Plan_copyFrom_27 fl_Plan_16 h0 rfl rfl rfl ?_
    refine a_iload_n (j := 2) d_Plan_copyFrom_30 rfl rfl ?_
    refine a_aload_n (j := 1) d_Plan_copyFrom_31 rfl rfl ?_
    refine b_getptr (q := x1 + 5) d_Plan_copyFrom_32 fl_Plan_16 h1 rfl rfl rfl ?_
    refine a_iload_n (j := 2) d_Plan_copyFrom_35 rfl rfl ?_
    refine b_iaload (v := (fs_cpy M (x1 + 2 + x2) 0 (x0 + 2 + x2) 0 9) (x1 + 5) x2) d_Plan_copyFrom_36 (pk_6_5 h1) o2 (by omega : x2 < 3) rfl ?_
    refine b_iastore d_Plan_copyFrom_37 (pk_6_5 h0) o2 (by omega : x2 < 3) ?_
    refine a_iinc (j := 2) d_Plan_copyFrom_38 rfl (Nat.le_of_ble_eq_true rfl) [1, 2, 0] rfl ?_
    refine a_goto (tgt := 2) d_Plan_copyFrom_41 rfl ?_
    exact h
set_option maxRecDepth 8000 in
set_option maxHeartbeats 4000000 in
theorem E_Plan_houseOf {M : fs_M} {K : fs_K} {x0 x1 x2 : Int} (h0 : fs_isO 6 x0) 
    (h : (0 ≤ x1 ∧ x1 < 3 ∧ ((M (x0 + 5) x1 ≤ x2 → K (some (fs_i (-1))) M) ∧ (¬ M (x0 + 5) x1 ≤ x2 → (0 ≤ x2 ∧ x2 < 9 ∧ K (some (fs_i (M (x0 + 2 + x1) x2))) M))))) :
    fs_C2 g m_Plan_houseOf 1 [fs_r x0, fs_i x1, fs_i x2] M K := by
  refine b_enter2 (ls := [(0, fs_r x0), (1, fs_i x1), (2, fs_i x2)]) (plainFor_of_name pn_Plan) (Nat.le_of_ble_eq_true rfl) rfl ?_
  refine a_iload_n (j := 2) d_Plan_houseOf_0 rfl rfl ?_
  refine a_aload_n (j := 0) d_Plan_houseOf_1 rfl rfl ?_
  refine b_getptr (q := x0 + 5) d_Plan_houseOf_2 fl_Plan_16 h0 rfl rfl rfl ?_
  refine a_iload_n (j := 1) d_Plan_houseOf_5 rfl rfl ?_
  obtain ⟨o1, o2, h⟩ := h
  refine b_iaload (v := M (x0 + 5) x1) d_Plan_houseOf_6 (pk_6_5 h0) o1 o2 rfl ?_
  refine a_icmp_ge (tgt := 21) d_Plan_houseOf_7 rfl (fun c3 => ?_) (fun c3 => ?_)
  · have h := h.1 c3
    refine a_iconst d_Plan_houseOf_21 (by unfold fs_in32; omega) ?_
    exact b_ireturn d_Plan_houseOf_22 rfl rfl h
  · have h := h.2 c3
    refine a_aload_n (j := 0) d_Plan_houseOf_10 rfl rfl ?_
    refine b_getptr (q := x0 + 1) d_Plan_houseOf_11 fl_Plan_11 h0 rfl rfl rfl ?_
    refine a_iload_n (j := 1) d_Plan_houseOf_14 rfl rfl ?_
    refine b_aaptr (q := x0 + 2 + x1) d_Plan_houseOf_15 (pk_6_1 h0) (by decide) o1 o2 (aq_plan h0 x1) ?_
    refine a_iload_n (j := 2) d_Plan_houseOf_16 rfl rfl ?_
    obtain ⟨o4, o5, h⟩ := h
    refine b_iaload (v := M (x0 + 2 + x1) x2) d_Plan_houseOf_17 (ae_plan h0 o1 o2) o4 o5 rfl ?_
    refine a_goto (tgt := 22) d_Plan_houseOf_18 rfl ?_
    exact b_ireturn d_Plan_houseOf_22 rfl rfl h
set_option maxRecDepth 8000 in
set_option maxHeartbeats 4000000 in
theorem E_Plan_areUnlike {M : fs_M} {K : fs_K} {x0 x1 x2 : Int} (h0 : fs_isO 6 x0) 
    (h : fs_C2 g m_Plan_houseAt 2 [fs_r x0, fs_i x1] M (fun v M1 => ∃ r1, v = some (fs_i r1) ∧ fs_C2 g m_Plan_houseAt 2 [fs_r x0, fs_i x2] M1 (fun v M2 => ∃ r2, v = some (fs_i r2) ∧ ((r1 = (-1) → K (some (fs_i 0)) M2) ∧ (¬ r1 = (-1) → ((r2 = (-1) → K (some (fs_i 0)) M2) ∧ (¬ r2 = (-1) → ((r1 = r2 → K (some (fs_i 0)) M2) ∧ (¬ r1 = r2 → K (some (fs_i 1)) M2))))))))) :
    fs_C2 g m_Plan_areUnlike 3 [fs_r x0, fs_i x1, fs_i x2] M K := by
  refine b_enter2 (ls := [(0, fs_r x0), (1, fs_i x1), (2, fs_i x2)]) (plainFor_of_name pn_Plan) (Nat.le_of_ble_eq_true rfl) rfl ?_
  refine a_aload_n (j := 0) d_Plan_areUnlike_0 rfl rfl ?_
  refine a_iload_n (j := 1) d_Plan_areUnlike_1 rfl rfl ?_
  refine b_virtual (dc := 2) (ci := 6) (T := fs_T6) (N := 4) [fs_i x1] [] d_Plan_areUnlike_2 ml_Plan_33 k_Plan_houseAt v_Plan_houseAt rfl h0 rfl (Nat.le_of_ble_eq_true rfl) rfl (Nat.le_of_ble_eq_true rfl) ?_
  refine fs_Call.mono (fun v M1 hv => ?_) h
  obtain ⟨r1, rfl, h⟩ := hv
  show fs_A2 g m_Plan_areUnlike 3 5 [(0, fs_r x0), (1, fs_i x1), (2, fs_i x2)] [fs_i r1] M1 K
  refine a_istore_n d_Plan_areUnlike_5 rfl (Nat.le_of_ble_eq_true rfl) [1, 2, 3, 0] rfl ?_
  refine a_aload_n (j := 0) d_Plan_areUnlike_6 rfl rfl ?_
  refine a_iload_n (j := 2) d_Plan_areUnlike_7 rfl rfl ?_
  refine b_virtual (dc := 2) (ci := 6) (T := fs_T6) (N := 4) [fs_i x2] [] d_Plan_areUnlike_8 ml_Plan_33 k_Plan_houseAt v_Plan_houseAt rfl h0 rfl (Nat.le_of_ble_eq_true rfl) rfl (Nat.le_of_ble_eq_true rfl) ?_
  refine fs_Call.mono (fun v M2 hv => ?_) h
  obtain ⟨r2, rfl, h⟩ := hv
  show fs_A2 g m_Plan_areUnlike 3 11 [(0, fs_r x0), (1, fs_i x1), (2, fs_i x2), (3, fs_i r1)] [fs_i r2] M2 K
  refine a_istore d_Plan_areUnlike_11 (Nat.le_of_ble_eq_true rfl) [1, 2, 3, 4, 0] rfl ?_
  refine a_iload_n (j := 3) d_Plan_areUnlike_13 rfl rfl ?_
  refine a_iconst d_Plan_areUnlike_14 (by unfold fs_in32; omega) ?_
  refine a_icmp_eq (tgt := 34) d_Plan_areUnlike_15 rfl (fun c1 => ?_) (fun c1 => ?_)
  · have h := h.1 c1
    refine a_iconst d_Plan_areUnlike_34 (by unfold fs_in32; omega) ?_
    exact b_ireturn d_Plan_areUnlike_35 rfl (fs_nar01 (Or.inl rfl)) h
  · have h := h.2 c1
    refine a_iload (j := 4) d_Plan_areUnlike_18 rfl ?_
    refine a_iconst d_Plan_areUnlike_20 (by unfold fs_in32; omega) ?_
    refine a_icmp_eq (tgt := 34) d_Plan_areUnlike_21 rfl (fun c2 => ?_) (fun c2 => ?_)
    · have h := h.1 c2
      refine a_iconst d_Plan_areUnlike_34 (by unfold fs_in32; omega) ?_
      exact b_ireturn d_Plan_areUnlike_35 rfl (fs_nar01 (Or.inl rfl)) h
    · have h := h.2 c2
      refine a_iload_n (j := 3) d_Plan_areUnlike_24 rfl rfl ?_
      refine a_iload (j := 4) d_Plan_areUnlike_25 rfl ?_
      refine a_icmp_eq (tgt := 34) d_Plan_areUnlike_27 rfl (fun c3 => ?_) (fun c3 => ?_)
      · have h := h.1 c3
        refine a_iconst d_Plan_areUnlike_34 (by unfold fs_in32; omega) ?_
        exact b_ireturn d_Plan_areUnlike_35 rfl (fs_nar01 (Or.inl rfl)) h
      · have h := h.2 c3
        refine a_iconst d_Plan_areUnlike_30 (by unfold fs_in32; omega) ?_
        refine a_goto (tgt := 35) d_Plan_areUnlike_31 rfl ?_
        exact b_ireturn d_Plan_areUnlike_35 rfl (fs_nar01 (Or.inr rfl)) h
set_option maxRecDepth 8000 in
set_option maxHeartbeats 4000000 in
theorem E_Plan_houseAt {M : fs_M} {K : fs_K} {x0 x1 : Int} (h0 : fs_isO 6 x0) 
    (h : fs_C2 g m_Plan_houseOf 1 [fs_r x0, fs_i (fs_div x1 9), fs_i (fs_rem x1 9)] M (fun v M1 => ∃ r1, v = some (fs_i r1) ∧ K (some (fs_i r1)) M1)) :
    fs_C2 g m_Plan_houseAt 2 [fs_r x0, fs_i x1] M K := by
  refine b_enter2 (ls := [(0, fs_r x0), (1, fs_i x1)]) (plainFor_of_name pn_Plan) (Nat.le_of_ble_eq_true rfl) rfl ?_
  refine a_aload_n (j := 0) d_Plan_houseAt_0 rfl rfl ?_
  refine a_iload_n (j := 1) d_Plan_houseAt_1 rfl rfl ?_
  refine a_bipush d_Plan_houseAt_2 (by decide) ?_
  refine a_idiv d_Plan_houseAt_4 (by decide) ?_
  refine a_iload_n (j := 1) d_Plan_houseAt_5 rfl rfl ?_
  refine a_bipush d_Plan_houseAt_6 (by decide) ?_
  refine a_irem d_Plan_houseAt_8 (by decide) ?_
  refine b_virtual (dc := 1) (ci := 6) (T := fs_T6) (N := 4) [fs_i (fs_div x1 9), fs_i (fs_rem x1 9)] [] d_Plan_houseAt_9 ml_Plan_37 k_Plan_houseOf v_Plan_houseOf rfl h0 rfl (Nat.le_of_ble_eq_true rfl) rfl (Nat.le_of_ble_eq_true rfl) ?_
  refine fs_Call.mono (fun v M1 hv => ?_) h
  obtain ⟨r1, rfl, h⟩ := hv
  show fs_A2 g m_Plan_houseAt 2 12 [(0, fs_r x0), (1, fs_i x1)] [fs_i r1] M1 K
  exact b_ireturn d_Plan_houseAt_12 rfl rfl h
set_option maxRecDepth 8000 in
set_option maxHeartbeats 4000000 in
theorem E_Plan_swap {M : fs_M} {K : fs_K} {x0 x1 x2 : Int} (h0 : fs_isO 6 x0) 
    (h : (0 ≤ fs_div x1 9 ∧ fs_div x1 9 < 3 ∧ (0 ≤ fs_rem x1 9 ∧ fs_rem x1 9 < 9 ∧ (0 ≤ fs_div x2 9 ∧ fs_div x2 9 < 3 ∧ (0 ≤ fs_rem x2 9 ∧ fs_rem x2 9 < 9 ∧ K none (fs_st (fs_st M (x0 + 2 + (fs_div x1 9)) (fs_rem x1 9) (M (x0 + 2 + (fs_div x2 9)) (fs_rem x2 9))) (x0 + 2 + (fs_div x2 9)) (fs_rem x2 9) (M (x0 + 2 + (fs_div x1 9)) (fs_rem x1 9)))))))) :
    fs_C2 g m_Plan_swap 1 [fs_r x0, fs_i x1, fs_i x2] M K := by
  refine b_enter2 (ls := [(0, fs_r x0), (1, fs_i x1), (2, fs_i x2)]) (plainFor_of_name pn_Plan) (Nat.le_of_ble_eq_true rfl) rfl ?_
  refine a_aload_n (j := 0) d_Plan_swap_0 rfl rfl ?_
  refine b_getptr (q := x0 + 1) d_Plan_swap_1 fl_Plan_11 h0 rfl rfl rfl ?_
  refine a_iload_n (j := 1) d_Plan_swap_4 rfl rfl ?_
  refine a_bipush d_Plan_swap_5 (by decide) ?_
  refine a_idiv d_Plan_swap_7 (by decide) ?_
  obtain ⟨o1, o2, h⟩ := h
  refine b_aaptr (q := x0 + 2 + (fs_div x1 9)) d_Plan_swap_8 (pk_6_1 h0) (by decide) o1 o2 (aq_plan h0 (fs_div x1 9)) ?_
  refine a_iload_n (j := 1) d_Plan_swap_9 rfl rfl ?_
  refine a_bipush d_Plan_swap_10 (by decide) ?_
  refine a_irem d_Plan_swap_12 (by decide) ?_
  obtain ⟨o3, o4, h⟩ := h
  refine b_iaload (v := M (x0 + 2 + (fs_div x1 9)) (fs_rem x1 9)) d_Plan_swap_13 (ae_plan h0 o1 o2) o3 o4 rfl ?_
  refine a_istore_n d_Plan_swap_14 rfl (Nat.le_of_ble_eq_true rfl) [1, 2, 3, 0] rfl ?_
  refine a_aload_n (j := 0) d_Plan_swap_15 rfl rfl ?_
  refine b_getptr (q := x0 + 1) d_Plan_swap_16 fl_Plan_11 h0 rfl rfl rfl ?_
  refine a_iload_n (j := 1) d_Plan_swap_19 rfl rfl ?_
  refine a_bipush d_Plan_swap_20 (by decide) ?_
  refine a_idiv d_Plan_swap_22 (by decide) ?_
  refine b_aaptr (q := x0 + 2 + (fs_div x1 9)) d_Plan_swap_23 (pk_6_1 h0) (by decide) o1 o2 (aq_plan h0 (fs_div x1 9)) ?_
  refine a_iload_n (j := 1) d_Plan_swap_24 rfl rfl ?_
  refine a_bipush d_Plan_swap_25 (by decide) ?_
  refine a_irem d_Plan_swap_27 (by decide) ?_
  refine a_aload_n (j := 0) d_Plan_swap_28 rfl rfl ?_
  refine b_getptr (q := x0 + 1) d_Plan_swap_29 fl_Plan_11 h0 rfl rfl rfl ?_
  refine a_iload_n (j := 2) d_Plan_swap_32 rfl rfl ?_
  refine a_bipush d_Plan_swap_33 (by decide) ?_
  refine a_idiv d_Plan_swap_35 (by decide) ?_
  obtain ⟨o5, o6, h⟩ := h
  refine b_aaptr (q := x0 + 2 + (fs_div x2 9)) d_Plan_swap_36 (pk_6_1 h0) (by decide) o5 o6 (aq_plan h0 (fs_div x2 9)) ?_
  refine a_iload_n (j := 2) d_Plan_swap_37 rfl rfl ?_
  refine a_bipush d_Plan_swap_38 (by decide) ?_
  refine a_irem d_Plan_swap_40 (by decide) ?_
  obtain ⟨o7, o8, h⟩ := h
  refine b_iaload (v := M (x0 + 2 + (fs_div x2 9)) (fs_rem x2 9)) d_Plan_swap_41 (ae_plan h0 o5 o6) o7 o8 rfl ?_
  refine b_iastore d_Plan_swap_42 (ae_plan h0 o1 o2) o3 o4 ?_
  refine a_aload_n (j := 0) d_Plan_swap_43 rfl rfl ?_
  refine b_getptr (q := x0 + 1) d_Plan_swap_44 fl_Plan_11 h0 rfl rfl rfl ?_
  refine a_iload_n (j := 2) d_Plan_swap_47 rfl rfl ?_
  refine a_bipush d_Plan_swap_48 (by decide) ?_
  refine a_idiv d_Plan_swap_50 (by decide) ?_
  refine b_aaptr (q := x0 + 2 + (fs_div x2 9)) d_Plan_swap_51 (pk_6_1 h0) (by decide) o5 o6 (aq_plan h0 (fs_div x2 9)) ?_
  refine a_iload_n (j := 2) d_Plan_swap_52 rfl rfl ?_
  refine a_bipush d_Plan_swap_53 (by decide) ?_
  refine a_irem d_Plan_swap_55 (by decide) ?_
  refine a_iload_n (j := 3) d_Plan_swap_56 rfl rfl ?_
  refine b_iastore d_Plan_swap_57 (ae_plan h0 o5 o6) o7 o8 ?_
  exact b_return d_Plan_swap_58 rfl h
set_option maxRecDepth 8000 in
set_option maxHeartbeats 4000000 in
theorem E_Plan_removeHouse {M : fs_M} {K : fs_K} {x0 x1 : Int} (h0 : fs_isO 6 x0) 
    (h : fs_A2 g m_Plan_removeHouse 1 2 [(0, fs_r x0), (1, fs_i x1), (2, fs_i 0)] [] M K) :
    fs_C2 g m_Plan_removeHouse 1 [fs_r x0, fs_i x1] M K := by
  refine b_enter2 (ls := [(0, fs_r x0), (1, fs_i x1)]) (plainFor_of_name pn_Plan) (Nat.le_of_ble_eq_true rfl) rfl ?_
  refine a_iconst d_Plan_removeHouse_0 (by unfold fs_in32; omega) ?_
  refine a_istore_n d_Plan_removeHouse_1 rfl (Nat.le_of_ble_eq_true rfl) [1, 2, 0] rfl ?_
  exact h
set_option maxRecDepth 8000 in
set_option maxHeartbeats 4000000 in
theorem L_Plan_removeHouse_2 {M : fs_M} {K : fs_K} {x0 x1 x2 : Int} (h0 : fs_isO 6 x0) 
    (h : ((3 ≤ x2 → K none (fs_st M x0 3 (fs_and (M x0 3) (fs_xor (fs_shl 1 x1) (-1))))) ∧ (¬ 3 ≤ x2 → fs_A2 g m_Plan_removeHouse 1 12 [(0, fs_r x0), (1, fs_i x1), (2, fs_i x2), (3, fs_i 0), (4, fs_i 0)] [] M K))) :
    fs_A2 g m_Plan_removeHouse 1 2 [(0, fs_r x0), (1, fs_i x1), (2, fs_i x2)] [] M K := by
  refine a_iload_n (j := 2) d_Plan_removeHouse_2 rfl rfl ?_
  refine a_iconst d_Plan_removeHouse_3 (by unfold fs_in32; omega) ?_
  refine a_icmp_ge (tgt := 75) d_Plan_removeHouse_4 rfl (fun c1 => ?_) (fun c1 => ?_)
  · have h := h.1 c1
    refine a_aload_n (j := 0) d_Plan_removeHouse_75 rfl rfl ?_
    refine a_dup d_Plan_removeHouse_76 rfl ?_
    refine b_getfield (v := fs_i (M x0 3)) d_Plan_removeHouse_77 fl_Plan_24 h0 rfl ?_
    refine a_iconst d_Plan_removeHouse_80 (by unfold fs_in32; omega) ?_
    refine a_iload_n (j := 1) d_Plan_removeHouse_81 rfl rfl ?_
    refine a_ishl d_Plan_removeHouse_82 ?_
    refine a_iconst d_Plan_removeHouse_83 (by unfold fs_in32; omega) ?_
    refine a_ixor d_Plan_removeHouse_84 ?_
    refine a_iand d_Plan_removeHouse_85 ?_
    refine b_putfield (x := (fs_and (M x0 3) (fs_xor (fs_shl 1 x1) (-1)))) d_Plan_removeHouse_86 fl_Plan_24 h0 rfl rfl fs_nar_int ?_
    exact b_return d_Plan_removeHouse_89 rfl h
  · have h := h.2 c1
    refine a_iconst d_Plan_removeHouse_7 (by unfold fs_in32; omega) ?_
    refine a_istore_n d_Plan_removeHouse_8 rfl (Nat.le_of_ble_eq_true rfl) [1, 2, 3, 0] rfl ?_
    refine a_iconst d_Plan_removeHouse_9 (by unfold fs_in32; omega) ?_
    refine a_istore d_Plan_removeHouse_10 (Nat.le_of_ble_eq_true rfl) [1, 2, 3, 4, 0] rfl ?_
    exact h
set_option maxRecDepth 8000 in
set_option maxHeartbeats 4000000 in
theorem L_Plan_removeHouse_12 {M : fs_M} {K : fs_K} {x0 x1 x2 x3 x4 : Int} (h0 : fs_isO 6 x0) 
    (h : (0 ≤ x2 ∧ x2 < 3 ∧ ((M (x0 + 5) x2 ≤ x4 → fs_A2 g m_Plan_removeHouse 1 2 [(0, fs_r x0), (1, fs_i x1), (2, fs_i (fs_w32 (x2 + 1)))] [] (fs_st M (x0 + 5) x2 x3) K) ∧ (¬ M (x0 + 5) x2 ≤ x4 → (0 ≤ x4 ∧ x4 < 9 ∧ ((M (x0 + 2 + x2) x4 = x1 → fs_A2 g m_Plan_removeHouse 1 12 [(0, fs_r x0), (1, fs_i x1), (2, fs_i x2), (3, fs_i x3), (4, fs_i (fs_w32 (x4 + 1)))] [] M K) ∧ (¬ M (x0 + 2 + x2) x4 = x1 → (0 ≤ x3 ∧ x3 < 9 ∧ fs_A2 g m_Plan_removeHouse 1 12 [(0, fs_r x0), (1, fs_i x1), (2, fs_i x2), (3, fs_i (fs_w32 (x3 + 1))), (4, fs_i (fs_w32 (x4 + 1)))] [] (fs_st M (x0 + 2 + x2) x3 (M (x0 + 2 + x2) x4)) K)))))))) :
    fs_A2 g m_Plan_removeHouse 1 12 [(0, fs_r x0), (1, fs_i x1), (2, fs_i x2), (3, fs_i x3), (4, fs_i x4)] [] M K := by
  refine a_iload (j := 4) d_Plan_removeHouse_12 rfl ?_
  refine a_aload_n (j := 0) d_Plan_removeHouse_14 rfl rfl ?_
  refine b_getptr (q := x0 + 5) d_Plan_removeHouse_15 fl_Plan_16 h0 rfl rfl rfl ?_
  refine a_iload_n (j := 2) d_Plan_removeHouse_18 rfl rfl ?_
  obtain ⟨o2, o3, h⟩ := h
  refine b_iaload (v := M (x0 + 5) x2) d_Plan_removeHouse_19 (pk_6_5 h0) o2 o3 rfl ?_
  refine a_icmp_ge (tgt := 62) d_Plan_removeHouse_20 rfl (fun c4 => ?_) (fun c4 => ?_)
  · have h := h.1 c4
    refine a_aload_n (j := 0) d_Plan_removeHouse_62 rfl rfl ?_
    refine b_getptr (q := x0 + 5) d_Plan_removeHouse_63 fl_Plan_16 h0 rfl rfl rfl ?_
    refine a_iload_n (j := 2) d_Plan_removeHouse_66 rfl rfl ?_
    refine a_iload_n (j := 3) d_Plan_removeHouse_67 rfl rfl ?_
    refine b_iastore d_Plan_removeHouse_68 (pk_6_5 h0) o2 o3 ?_
    refine a_iinc (j := 2) d_Plan_removeHouse_69 rfl (Nat.le_of_ble_eq_true rfl) [1, 2, 0, 3, 4] rfl ?_
    refine a_goto (tgt := 2) d_Plan_removeHouse_72 rfl ?_
    refine a_sub [0, 1, 2] rfl ?_
    exact h
  · have h := h.2 c4
    refine a_aload_n (j := 0) d_Plan_removeHouse_23 rfl rfl ?_
    refine b_getptr (q := x0 + 1) d_Plan_removeHouse_24 fl_Plan_11 h0 rfl rfl rfl ?_
    refine a_iload_n (j := 2) d_Plan_removeHouse_27 rfl rfl ?_
    refine b_aaptr (q := x0 + 2 + x2) d_Plan_removeHouse_28 (pk_6_1 h0) (by decide) o2 o3 (aq_plan h0 x2) ?_
    refine a_iload (j := 4) d_Plan_removeHouse_29 rfl ?_
    obtain ⟨o5, o6, h⟩ := h
    refine b_iaload (v := M (x0 + 2 + x2) x4) d_Plan_removeHouse_31 (ae_plan h0 o2 o3) o5 o6 rfl ?_
    refine a_iload_n (j := 1) d_Plan_removeHouse_32 rfl rfl ?_
    refine a_icmp_eq (tgt := 56) d_Plan_removeHouse_33 rfl (fun c7 => ?_) (fun c7 => ?_)
    · have h := h.1 c7
      refine a_iinc (j := 4) d_Plan_removeHouse_56 rfl (Nat.le_of_ble_eq_true rfl) [1, 2, 3, 4, 0] rfl ?_
      refine a_goto (tgt := 12) d_Plan_removeHouse_59 rfl ?_
      exact h
    · have h := h.2 c7
      refine a_aload_n (j := 0) d_Plan_removeHouse_36 rfl rfl ?_
      refine b_getptr (q := x0 + 1) d_Plan_removeHouse_37 fl_Plan_11 h0 rfl rfl rfl ?_
      refine a_iload_n (j := 2) d_Plan_removeHouse_40 rfl rfl ?_
      refine b_aaptr (q := x0 + 2 + x2) d_Plan_removeHouse_41 (pk_6_1 h0) (by decide) o2 o3 (aq_plan h0 x2) ?_
      refine a_iload_n (j := 3) d_Plan_removeHouse_42 rfl rfl ?_
      refine a_aload_n (j := 0) d_Plan_removeHouse_43 rfl rfl ?_
      refine b_getptr (q := x0 + 1) d_Plan_removeHouse_44 fl_Plan_11 h0 rfl rfl rfl ?_
      refine a_iload_n (j := 2) d_Plan_removeHouse_47 rfl rfl ?_
      refine b_aaptr (q := x0 + 2 + x2) d_Plan_removeHouse_48 (pk_6_1 h0) (by decide) o2 o3 (aq_plan h0 x2) ?_
      refine a_iload (j := 4) d_Plan_removeHouse_49 rfl ?_
      refine b_iaload (v := M (x0 + 2 + x2) x4) d_Plan_removeHouse_51 (ae_plan h0 o2 o3) o5 o6 rfl ?_
      obtain ⟨o8, o9, h⟩ := h
      refine b_iastore d_Plan_removeHouse_52 (ae_plan h0 o2 o3) o8 o9 ?_
      refine a_iinc (j := 3) d_Plan_removeHouse_53 rfl (Nat.le_of_ble_eq_true rfl) [1, 2, 3, 0, 4] rfl ?_
      refine a_iinc (j := 4) d_Plan_removeHouse_56 rfl (Nat.le_of_ble_eq_true rfl) [1, 2, 3, 4, 0] rfl ?_
      refine a_goto (tgt := 12) d_Plan_removeHouse_59 rfl ?_
      exact h
set_option maxRecDepth 8000 in
set_option maxHeartbeats 4000000 in
theorem E_Goer_begin {M : fs_M} {K : fs_K} {x0 x1 x2 : Int} (h0 : fs_isO 2 x0) 
    (h : K none (fs_st (fs_st (fs_st (fs_st (fs_st (fs_st (fs_st M x0 0 x1) x0 3 x2) x0 1 1) x0 2 0) x0 4 0) x0 5 0) x0 6 0)) :
    fs_C2 g m_Goer_begin 1 [fs_r x0, fs_i x1, fs_i x2] M K := by
  refine b_enter2 (ls := [(0, fs_r x0), (1, fs_i x1), (2, fs_i x2)]) (plainFor_of_name pn_Goer) (Nat.le_of_ble_eq_true rfl) rfl ?_
  refine a_aload_n (j := 0) d_Goer_begin_0 rfl rfl ?_
  refine a_iload_n (j := 1) d_Goer_begin_1 rfl rfl ?_
  refine b_putfield (x := x1) d_Goer_begin_2 fl_Goer_7 h0 rfl rfl fs_nar_int ?_
  refine a_aload_n (j := 0) d_Goer_begin_5 rfl rfl ?_
  refine a_iload_n (j := 2) d_Goer_begin_6 rfl rfl ?_
  refine b_putfield (x := x2) d_Goer_begin_7 fl_Goer_19 h0 rfl rfl fs_nar_int ?_
  refine a_aload_n (j := 0) d_Goer_begin_10 rfl rfl ?_
  refine a_iconst d_Goer_begin_11 (by unfold fs_in32; omega) ?_
  refine b_putfield (x := 1) d_Goer_begin_12 fl_Goer_13 h0 rfl rfl fs_nar_int ?_
  refine a_aload_n (j := 0) d_Goer_begin_15 rfl rfl ?_
  refine a_iconst d_Goer_begin_16 (by unfold fs_in32; omega) ?_
  refine b_putfield (x := 0) d_Goer_begin_17 fl_Goer_16 h0 rfl rfl fs_nar_int ?_
  refine a_aload_n (j := 0) d_Goer_begin_20 rfl rfl ?_
  refine a_iconst d_Goer_begin_21 (by unfold fs_in32; omega) ?_
  refine b_putfield (x := 0) d_Goer_begin_22 fl_Goer_22 h0 rfl rfl fs_nar_int ?_
  refine a_aload_n (j := 0) d_Goer_begin_25 rfl rfl ?_
  refine a_iconst d_Goer_begin_26 (by unfold fs_in32; omega) ?_
  refine b_putfield (x := 0) d_Goer_begin_27 fl_Goer_25 h0 rfl rfl fs_nar_int ?_
  refine a_aload_n (j := 0) d_Goer_begin_30 rfl rfl ?_
  refine a_iconst d_Goer_begin_31 (by unfold fs_in32; omega) ?_
  refine b_putfield (x := 0) d_Goer_begin_32 fl_Goer_28 h0 rfl rfl fs_nar_int ?_
  exact b_return d_Goer_begin_35 rfl h
set_option maxRecDepth 8000 in
set_option maxHeartbeats 4000000 in
theorem E_Goer_copyFrom {M : fs_M} {K : fs_K} {x0 x1 : Int} (h0 : fs_isO 2 x0) (h1 : fs_isO 2 x1) 
    (h : K none (fs_st (fs_st (fs_st (fs_st (fs_st (fs_st (fs_st M x0 0 (M x1 0)) x0 1 (M x1 1)) x0 2 (M x1 2)) x0 3 (M x1 3)) x0 4 (M x1 4)) x0 5 (M x1 5)) x0 6 (M x1 6))) :
    fs_C2 g m_Goer_copyFrom 1 [fs_r x0, fs_r x1] M K := by
  refine b_enter2 (ls := [(0, fs_r x0), (1, fs_r x1)]) (plainFor_of_name pn_Goer) (Nat.le_of_ble_eq_true rfl) rfl ?_
  refine a_aload_n (j := 0) d_Goer_copyFrom_0 rfl rfl ?_
  refine a_aload_n (j := 1) d_Goer_copyFrom_1 rfl rfl ?_
  refine b_getfield (v := fs_i (M x1 0)) d_Goer_copyFrom_2 fl_Goer_7 h1 rfl ?_
  refine b_putfield (x := (M x1 0)) d_Goer_copyFrom_5 fl_Goer_7 h0 rfl rfl fs_nar_int ?_
  refine a_aload_n (j := 0) d_Goer_copyFrom_8 rfl rfl ?_
  refine a_aload_n (j := 1) d_Goer_copyFrom_9 rfl rfl ?_
  refine b_getfield (v := fs_i (M x1 1)) d_Goer_copyFrom_10 fl_Goer_13 h1 (congrArg fs_i ((fs_st_k (by decide)).trans (rfl))) ?_
  refine b_putfield (x := (M x1 1)) d_Goer_copyFrom_13 fl_Goer_13 h0 rfl rfl fs_nar_int ?_
  refine a_aload_n (j := 0) d_Goer_copyFrom_16 rfl rfl ?_
  refine a_aload_n (j := 1) d_Goer_copyFrom_17 rfl rfl ?_
  refine b_getfield (v := fs_i (M x1 2)) d_Goer_copyFrom_18 fl_Goer_16 h1 (congrArg fs_i ((fs_st_k (by decide)).trans ((fs_st_k (by decide)).trans (rfl)))) ?_
  refine b_putfield (x := (M x1 2)) d_Goer_copyFrom_21 fl_Goer_16 h0 rfl rfl fs_nar_int ?_
  refine a_aload_n (j := 0) d_Goer_copyFrom_24 rfl rfl ?_
  refine a_aload_n (j := 1) d_Goer_copyFrom_25 rfl rfl ?_
  refine b_getfield (v := fs_i (M x1 3)) d_Goer_copyFrom_26 fl_Goer_19 h1 (congrArg fs_i ((fs_st_k (by decide)).trans ((fs_st_k (by decide)).trans ((fs_st_k (by decide)).trans (rfl))))) ?_
  refine b_putfield (x := (M x1 3)) d_Goer_copyFrom_29 fl_Goer_19 h0 rfl rfl fs_nar_int ?_
  refine a_aload_n (j := 0) d_Goer_copyFrom_32 rfl rfl ?_
  refine a_aload_n (j := 1) d_Goer_copyFrom_33 rfl rfl ?_
  refine b_getfield (v := fs_i (M x1 4)) d_Goer_copyFrom_34 fl_Goer_22 h1 (congrArg fs_i ((fs_st_k (by decide)).trans ((fs_st_k (by decide)).trans ((fs_st_k (by decide)).trans ((fs_st_k (by decide)).trans (rfl)))))) ?_
  refine b_putfield (x := (M x1 4)) d_Goer_copyFrom_37 fl_Goer_22 h0 rfl rfl fs_nar_int ?_
  refine a_aload_n (j := 0) d_Goer_copyFrom_40 rfl rfl ?_
  refine a_aload_n (j := 1) d_Goer_copyFrom_41 rfl rfl ?_
  refine b_getfield (v := fs_i (M x1 5)) d_Goer_copyFrom_42 fl_Goer_25 h1 (congrArg fs_i ((fs_st_k (by decide)).trans ((fs_st_k (by decide)).trans ((fs_st_k (by decide)).trans ((fs_st_k (by decide)).trans ((fs_st_k (by decide)).trans (rfl))))))) ?_
  refine b_putfield (x := (M x1 5)) d_Goer_copyFrom_45 fl_Goer_25 h0 rfl rfl fs_nar_int ?_
  refine a_aload_n (j := 0) d_Goer_copyFrom_48 rfl rfl ?_
  refine a_aload_n (j := 1) d_Goer_copyFrom_49 rfl rfl ?_
  refine b_getfield (v := fs_i (M x1 6)) d_Goer_copyFrom_50 fl_Goer_28 h1 (congrArg fs_i ((fs_st_k (by decide)).trans ((fs_st_k (by decide)).trans ((fs_st_k (by decide)).trans ((fs_st_k (by decide)).trans ((fs_st_k (by decide)).trans ((fs_st_k (by decide)).trans (rfl)))))))) ?_
  refine b_putfield (x := (M x1 6)) d_Goer_copyFrom_53 fl_Goer_28 h0 rfl rfl fs_nar_int ?_
  exact b_return d_Goer_copyFrom_56 rfl h
set_option maxRecDepth 8000 in
set_option maxHeartbeats 4000000 in
theorem E_Past_clear {M : fs_M} {K : fs_K} 
    (h : K none (fs_st M 95 2 0)) :
    fs_C2 g m_Past_clear 1 [fs_r 95] M K := by
  refine b_enter2 (ls := [(0, fs_r 95)]) (plainFor_of_name pn_Past) (Nat.le_of_ble_eq_true rfl) rfl ?_
  refine a_aload_n (j := 0) d_Past_clear_0 rfl rfl ?_
  refine a_iconst d_Past_clear_1 (by unfold fs_in32; omega) ?_
  refine b_putfield (x := 0) d_Past_clear_2 fl_Past_21 io_95 rfl rfl fs_nar_int ?_
  exact b_return d_Past_clear_5 rfl h
set_option maxRecDepth 8000 in
set_option maxHeartbeats 4000000 in
theorem E_Past_remember {M : fs_M} {K : fs_K} {x1 : Int} (h1 : fs_isO 6 x1) 
    (h : ((¬ M 95 2 = 20 → fs_A2 g m_Past_remember 2 32 [(0, fs_r 95), (1, fs_r x1)] [] M K) ∧ (M 95 2 = 20 → fs_A2 g m_Past_remember 2 32 [(0, fs_r 95), (1, fs_r x1)] [] (fs_st (fs_st M 95 1 (fs_rem (fs_w32 ((M 95 1) + 1)) 20)) 95 2 (fs_w32 ((M 95 2) - 1))) K))) :
    fs_C2 g m_Past_remember 2 [fs_r 95, fs_r x1] M K := by
  refine b_enter2 (ls := [(0, fs_r 95), (1, fs_r x1)]) (plainFor_of_name pn_Past) (Nat.le_of_ble_eq_true rfl) rfl ?_
  refine a_aload_n (j := 0) d_Past_remember_0 rfl rfl ?_
  refine b_getfield (v := fs_i (M 95 2)) d_Past_remember_1 fl_Past_21 io_95 rfl ?_
  refine a_bipush d_Past_remember_4 (by decide) ?_
  refine a_icmp_ne (tgt := 32) d_Past_remember_6 rfl (fun c1 => ?_) (fun c1 => ?_)
  · have h := h.1 c1
    exact h
  · have h := h.2 c1
    refine a_aload_n (j := 0) d_Past_remember_9 rfl rfl ?_
    refine a_aload_n (j := 0) d_Past_remember_10 rfl rfl ?_
    refine b_getfield (v := fs_i (M 95 1)) d_Past_remember_11 fl_Past_17 io_95 rfl ?_
    refine a_iconst d_Past_remember_14 (by unfold fs_in32; omega) ?_
    refine a_iadd d_Past_remember_15 ?_
    refine a_bipush d_Past_remember_16 (by decide) ?_
    refine a_irem d_Past_remember_18 (by decide) ?_
    refine b_putfield (x := (fs_rem (fs_w32 ((M 95 1) + 1)) 20)) d_Past_remember_19 fl_Past_17 io_95 rfl rfl fs_nar_int ?_
    refine a_aload_n (j := 0) d_Past_remember_22 rfl rfl ?_
    refine a_dup d_Past_remember_23 rfl ?_
    refine b_getfield (v := fs_i (M 95 2)) d_Past_remember_24 fl_Past_21 io_95 rfl ?_
    refine a_iconst d_Past_remember_27 (by unfold fs_in32; omega) ?_
    refine a_isub d_Past_remember_28 ?_
    refine b_putfield (x := (fs_w32 ((M 95 2) - 1))) d_Past_remember_29 fl_Past_21 io_95 rfl rfl fs_nar_int ?_
    exact h
set_option maxRecDepth 8000 in
set_option maxHeartbeats 4000000 in
theorem L_Past_remember_32 {M : fs_M} {K : fs_K} {x1 : Int} (h1 : fs_isO 6 x1) 
    (h : (0 ≤ fs_rem (fs_w32 ((M 95 1) + (M 95 2))) 20 ∧ fs_rem (fs_w32 ((M 95 1) + (M 95 2))) 20 < 20 ∧ fs_C2 g m_Plan_copyFrom 1 [fs_r (97 + 6 * (fs_rem (fs_w32 ((M 95 1) + (M 95 2))) 20)), fs_r x1] M (fun v M1 => v = none ∧ K none (fs_st M1 95 2 (fs_w32 ((M1 95 2) + 1)))))) :
    fs_A2 g m_Past_remember 2 32 [(0, fs_r 95), (1, fs_r x1)] [] M K := by
  refine a_aload_n (j := 0) d_Past_remember_32 rfl rfl ?_
  refine b_getptr (q := 96) d_Past_remember_33 fl_Past_11 io_95 rfl rfl rfl ?_
  refine a_aload_n (j := 0) d_Past_remember_36 rfl rfl ?_
  refine b_getfield (v := fs_i (M 95 1)) d_Past_remember_37 fl_Past_17 io_95 rfl ?_
  refine a_aload_n (j := 0) d_Past_remember_40 rfl rfl ?_
  refine b_getfield (v := fs_i (M 95 2)) d_Past_remember_41 fl_Past_21 io_95 rfl ?_
  refine a_iadd d_Past_remember_44 ?_
  refine a_bipush d_Past_remember_45 (by decide) ?_
  refine a_irem d_Past_remember_47 (by decide) ?_
  obtain ⟨o2, o3, h⟩ := h
  refine b_aaptr (q := 97 + 6 * (fs_rem (fs_w32 ((M 95 1) + (M 95 2))) 20)) d_Past_remember_48 ia_96 (by decide) o2 o3 (aq_96 (fs_rem (fs_w32 ((M 95 1) + (M 95 2))) 20)) ?_
  refine a_aload_n (j := 1) d_Past_remember_49 rfl rfl ?_
  refine b_virtual (dc := 1) (ci := 6) (T := fs_T6) (N := 4) [fs_r x1] [] d_Past_remember_50 ml_Past_25 k_Plan_copyFrom v_Plan_copyFrom rfl (ae_96 o2 o3) rfl (Nat.le_of_ble_eq_true rfl) rfl (Nat.le_of_ble_eq_true rfl) ?_
  refine fs_Call.mono (fun v M1 hv => ?_) h
  obtain ⟨rfl, h⟩ := hv
  show fs_A2 g m_Past_remember 2 53 [(0, fs_r 95), (1, fs_r x1)] [] M1 K
  refine a_aload_n (j := 0) d_Past_remember_53 rfl rfl ?_
  refine a_dup d_Past_remember_54 rfl ?_
  refine b_getfield (v := fs_i (M1 95 2)) d_Past_remember_55 fl_Past_21 io_95 rfl ?_
  refine a_iconst d_Past_remember_58 (by unfold fs_in32; omega) ?_
  refine a_iadd d_Past_remember_59 ?_
  refine b_putfield (x := (fs_w32 ((M1 95 2) + 1))) d_Past_remember_60 fl_Past_21 io_95 rfl rfl fs_nar_int ?_
  exact b_return d_Past_remember_63 rfl h
set_option maxRecDepth 8000 in
set_option maxHeartbeats 4000000 in
theorem E_Past_recall {M : fs_M} {K : fs_K} {x1 : Int} (h1 : fs_isO 6 x1) 
    (h : ((M 95 2 ≤ 0 → K none M) ∧ (¬ M 95 2 ≤ 0 → (0 ≤ fs_rem (fs_w32 ((M 95 1) + (fs_w32 ((M 95 2) - 1)))) 20 ∧ fs_rem (fs_w32 ((M 95 1) + (fs_w32 ((M 95 2) - 1)))) 20 < 20 ∧ fs_C2 g m_Plan_copyFrom 1 [fs_r x1, fs_r (97 + 6 * (fs_rem (fs_w32 ((M 95 1) + (fs_w32 ((M 95 2) - 1)))) 20))] (fs_st M 95 2 (fs_w32 ((M 95 2) - 1))) (fun v M1 => v = none ∧ K none M1))))) :
    fs_C2 g m_Past_recall 2 [fs_r 95, fs_r x1] M K := by
  refine b_enter2 (ls := [(0, fs_r 95), (1, fs_r x1)]) (plainFor_of_name pn_Past) (Nat.le_of_ble_eq_true rfl) rfl ?_
  refine a_aload_n (j := 0) d_Past_recall_0 rfl rfl ?_
  refine b_getfield (v := fs_i (M 95 2)) d_Past_recall_1 fl_Past_21 io_95 rfl ?_
  refine a_if_le (tgt := 38) d_Past_recall_4 rfl (fun c1 => ?_) (fun c1 => ?_)
  · have h := h.1 c1
    exact b_return d_Past_recall_38 rfl h
  · have h := h.2 c1
    refine a_aload_n (j := 0) d_Past_recall_7 rfl rfl ?_
    refine a_dup d_Past_recall_8 rfl ?_
    refine b_getfield (v := fs_i (M 95 2)) d_Past_recall_9 fl_Past_21 io_95 rfl ?_
    refine a_iconst d_Past_recall_12 (by unfold fs_in32; omega) ?_
    refine a_isub d_Past_recall_13 ?_
    refine b_putfield (x := (fs_w32 ((M 95 2) - 1))) d_Past_recall_14 fl_Past_21 io_95 rfl rfl fs_nar_int ?_
    refine a_aload_n (j := 1) d_Past_recall_17 rfl rfl ?_
    refine a_aload_n (j := 0) d_Past_recall_18 rfl rfl ?_
    refine b_getptr (q := 96) d_Past_recall_19 fl_Past_11 io_95 rfl rfl rfl ?_
    refine a_aload_n (j := 0) d_Past_recall_22 rfl rfl ?_
    refine b_getfield (v := fs_i (M 95 1)) d_Past_recall_23 fl_Past_17 io_95 rfl ?_
    refine a_aload_n (j := 0) d_Past_recall_26 rfl rfl ?_
    refine b_getfield (v := fs_i (fs_w32 ((M 95 2) - 1))) d_Past_recall_27 fl_Past_21 io_95 rfl ?_
    refine a_iadd d_Past_recall_30 ?_
    refine a_bipush d_Past_recall_31 (by decide) ?_
    refine a_irem d_Past_recall_33 (by decide) ?_
    obtain ⟨o2, o3, h⟩ := h
    refine b_aaptr (q := 97 + 6 * (fs_rem (fs_w32 ((M 95 1) + (fs_w32 ((M 95 2) - 1)))) 20)) d_Past_recall_34 ia_96 (by decide) o2 o3 (aq_96 (fs_rem (fs_w32 ((M 95 1) + (fs_w32 ((M 95 2) - 1)))) 20)) ?_
    refine b_virtual (dc := 1) (ci := 6) (T := fs_T6) (N := 4) [fs_r (97 + 6 * (fs_rem (fs_w32 ((M 95 1) + (fs_w32 ((M 95 2) - 1)))) 20))] [] d_Past_recall_35 ml_Past_25 k_Plan_copyFrom v_Plan_copyFrom rfl h1 rfl (Nat.le_of_ble_eq_true rfl) rfl (Nat.le_of_ble_eq_true rfl) ?_
    refine fs_Call.mono (fun v M1 hv => ?_) h
    obtain ⟨rfl, h⟩ := hv
    show fs_A2 g m_Past_recall 2 38 [(0, fs_r 95), (1, fs_r x1)] [] M1 K
    exact b_return d_Past_recall_38 rfl h
set_option maxRecDepth 8000 in
set_option maxHeartbeats 4000000 in
theorem E_Night_clear {M : fs_M} {K : fs_K} {x0 x1 : Int} (h0 : fs_isO 4 x0) 
    (h : K none (fs_st (fs_st M x0 2 0) x0 3 x1)) :
    fs_C2 g m_Night_clear 1 [fs_r x0, fs_i x1] M K := by
  refine b_enter2 (ls := [(0, fs_r x0), (1, fs_i x1)]) (plainFor_of_name pn_Night) (Nat.le_of_ble_eq_true rfl) rfl ?_
  refine a_aload_n (j := 0) d_Night_clear_0 rfl rfl ?_
  refine a_iconst d_Night_clear_1 (by unfold fs_in32; omega) ?_
  refine b_putfield (x := 0) d_Night_clear_2 fl_Night_18 h0 rfl rfl fs_nar_int ?_
  refine a_aload_n (j := 0) d_Night_clear_5 rfl rfl ?_
  refine a_iload_n (j := 1) d_Night_clear_6 rfl rfl ?_
  refine b_putfield (x := x1) d_Night_clear_7 fl_Night_22 h0 rfl rfl fs_nar_int ?_
  exact b_return d_Night_clear_10 rfl h
set_option maxRecDepth 8000 in
set_option maxHeartbeats 4000000 in
theorem E_Night_pass {M : fs_M} {K : fs_K} {x0 : Int} (h0 : fs_isO 4 x0) 
    (h : fs_A2 g m_Night_pass 7 2 [(0, fs_r x0), (1, fs_r 43), (2, fs_i 1)] [] M K) :
    fs_C2 g m_Night_pass 7 [fs_r x0, fs_r 43] M K := by
  refine b_enter2 (ls := [(0, fs_r x0), (1, fs_r 43)]) (plainFor_of_name pn_Night) (Nat.le_of_ble_eq_true rfl) rfl ?_
  refine a_iconst d_Night_pass_0 (by unfold fs_in32; omega) ?_
  refine a_istore_n d_Night_pass_1 rfl (Nat.le_of_ble_eq_true rfl) [1, 2, 0] rfl ?_
  exact h
set_option maxRecDepth 8000 in
set_option maxHeartbeats 4000000 in
theorem L_Night_pass_2 {M : fs_M} {K : fs_K} {x0 x2 : Int} (h0 : fs_isO 4 x0) 
    (h : ((240 < x2 → K none (fs_st (fs_cpy (fs_cpy M 49 0 (x0 + 1) 0 6) 50 0 (x0 + 2) 0 6) x0 2 (fs_w32 (((fs_cpy (fs_cpy M 49 0 (x0 + 1) 0 6) 50 0 (x0 + 2) 0 6) x0 2) + 1)))) ∧ (¬ 240 < x2 → fs_C2 g m_Course_comeUntil 6 [fs_r 43, fs_i x2] M (fun v M1 => v = none ∧ fs_C2 g m_Night_letCats 5 [fs_r x0, fs_r 43, fs_i x2] M1 (fun v M2 => v = none ∧ fs_A2 g m_Night_pass 7 2 [(0, fs_r x0), (1, fs_r 43), (2, fs_i (fs_w32 (x2 + 1)))] [] M2 K))))) :
    fs_A2 g m_Night_pass 7 2 [(0, fs_r x0), (1, fs_r 43), (2, fs_i x2)] [] M K := by
  refine a_iload_n (j := 2) d_Night_pass_2 rfl rfl ?_
  refine a_sipush d_Night_pass_3 (by decide) ?_
  refine a_icmp_gt (tgt := 26) d_Night_pass_6 rfl (fun c1 => ?_) (fun c1 => ?_)
  · have h := h.1 c1
    refine a_aload_n (j := 1) d_Night_pass_26 rfl rfl ?_
    refine b_getptr (q := 49) d_Night_pass_27 fl_Night_41 io_43 rfl rfl rfl ?_
    refine a_iconst d_Night_pass_30 (by unfold fs_in32; omega) ?_
    refine a_aload_n (j := 0) d_Night_pass_31 rfl rfl ?_
    refine b_getptr (q := x0 + 1) d_Night_pass_32 fl_Night_9 h0 rfl rfl rfl ?_
    refine a_iconst d_Night_pass_35 (by unfold fs_in32; omega) ?_
    refine a_bipush d_Night_pass_36 (by decide) ?_
    refine b_arraycopy d_Night_pass_38 sy_Night_25 ia_49 (pk_4_1 h0) (by decide) (by decide) (by decide) (by decide) (by decide) (Nat.le_of_ble_eq_true rfl) (Nat.le_of_ble_eq_true rfl) ?_
    refine a_aload_n (j := 1) d_Night_pass_41 rfl rfl ?_
    refine b_getptr (q := 50) d_Night_pass_42 fl_Night_42 io_43 rfl rfl rfl ?_
    refine a_iconst d_Night_pass_45 (by unfold fs_in32; omega) ?_
    refine a_aload_n (j := 0) d_Night_pass_46 rfl rfl ?_
    refine b_getptr (q := x0 + 2) d_Night_pass_47 fl_Night_15 h0 rfl rfl rfl ?_
    refine a_iconst d_Night_pass_50 (by unfold fs_in32; omega) ?_
    refine a_bipush d_Night_pass_51 (by decide) ?_
    refine b_arraycopy d_Night_pass_53 sy_Night_25 ia_50 (pk_4_2 h0) (by decide) (by decide) (by decide) (by decide) (by decide) (Nat.le_of_ble_eq_true rfl) (Nat.le_of_ble_eq_true rfl) ?_
    refine a_aload_n (j := 0) d_Night_pass_56 rfl rfl ?_
    refine a_dup d_Night_pass_57 rfl ?_
    refine b_getfield (v := fs_i ((fs_cpy (fs_cpy M 49 0 (x0 + 1) 0 6) 50 0 (x0 + 2) 0 6) x0 2)) d_Night_pass_58 fl_Night_18 h0 rfl ?_
    refine a_iconst d_Night_pass_61 (by unfold fs_in32; omega) ?_
    refine a_iadd d_Night_pass_62 ?_
    refine b_putfield (x := (fs_w32 (((fs_cpy (fs_cpy M 49 0 (x0 + 1) 0 6) 50 0 (x0 + 2) 0 6) x0 2) + 1))) d_Night_pass_63 fl_Night_18 h0 rfl rfl fs_nar_int ?_
    exact b_return d_Night_pass_66 rfl h
  · have h := h.2 c1
    refine a_aload_n (j := 1) d_Night_pass_9 rfl rfl ?_
    refine a_iload_n (j := 2) d_Night_pass_10 rfl rfl ?_
    refine b_virtual (dc := 6) (ci := 1) (T := fs_T1) (N := 8) [fs_i x2] [] d_Night_pass_11 ml_Night_31 k_Course_comeUntil v_Course_comeUntil rfl io_43 rfl (Nat.le_of_ble_eq_true rfl) rfl (Nat.le_of_ble_eq_true rfl) ?_
    refine fs_Call.mono (fun v M1 hv => ?_) h
    obtain ⟨rfl, h⟩ := hv
    show fs_A2 g m_Night_pass 7 14 [(0, fs_r x0), (1, fs_r 43), (2, fs_i x2)] [] M1 K
    refine a_aload_n (j := 0) d_Night_pass_14 rfl rfl ?_
    refine a_aload_n (j := 1) d_Night_pass_15 rfl rfl ?_
    refine a_iload_n (j := 2) d_Night_pass_16 rfl rfl ?_
    refine b_virtual (dc := 5) (ci := 4) (T := fs_T4) (N := 4) [fs_r 43, fs_i x2] [] d_Night_pass_17 ml_Night_37 k_Night_letCats v_Night_letCats rfl h0 rfl (Nat.le_of_ble_eq_true rfl) rfl (Nat.le_of_ble_eq_true rfl) ?_
    refine fs_Call.mono (fun v M2 hv => ?_) h
    obtain ⟨rfl, h⟩ := hv
    show fs_A2 g m_Night_pass 7 20 [(0, fs_r x0), (1, fs_r 43), (2, fs_i x2)] [] M2 K
    refine a_iinc (j := 2) d_Night_pass_20 rfl (Nat.le_of_ble_eq_true rfl) [1, 2, 0] rfl ?_
    refine a_goto (tgt := 2) d_Night_pass_23 rfl ?_
    exact h
set_option maxRecDepth 8000 in
set_option maxHeartbeats 4000000 in
theorem E_Night_letCats {M : fs_M} {K : fs_K} {x0 x2 : Int} (h0 : fs_isO 4 x0) 
    (h : fs_A2 g m_Night_letCats 5 8 [(0, fs_r x0), (1, fs_r 43), (2, fs_i x2), (3, fs_r 1), (4, fs_i 0)] [] M K) :
    fs_C2 g m_Night_letCats 5 [fs_r x0, fs_r 43, fs_i x2] M K := by
  refine b_enter2 (ls := [(0, fs_r x0), (1, fs_r 43), (2, fs_i x2)]) (plainFor_of_name pn_Night) (Nat.le_of_ble_eq_true rfl) rfl ?_
  refine a_aload_n (j := 1) d_Night_letCats_0 rfl rfl ?_
  refine b_getptr (q := 1) d_Night_letCats_1 fl_Night_43 io_43 rfl rfl rfl ?_
  refine a_astore_n d_Night_letCats_4 rfl (Nat.le_of_ble_eq_true rfl) (by decide) [1, 2, 3, 0] rfl ?_
  refine a_iconst d_Night_letCats_5 (by unfold fs_in32; omega) ?_
  refine a_istore d_Night_letCats_6 (Nat.le_of_ble_eq_true rfl) [1, 2, 3, 4, 0] rfl ?_
  exact h
set_option maxRecDepth 8000 in
set_option maxHeartbeats 4000000 in
theorem L_Night_letCats_8 {M : fs_M} {K : fs_K} {x0 x2 x4 : Int} (h0 : fs_isO 4 x0) 
    (h : ((M 1 5 ≤ x4 → K none M) ∧ (¬ M 1 5 ≤ x4 → (0 ≤ x4 ∧ x4 < 6 ∧ ((¬ M 49 x4 = (-1) → fs_A2 g m_Night_letCats 5 8 [(0, fs_r x0), (1, fs_r 43), (2, fs_i x2), (3, fs_r 1), (4, fs_i (fs_w32 (x4 + 1)))] [] M K) ∧ (M 49 x4 = (-1) → fs_C2 g m_Laws_catChance 4 [fs_r 9, fs_i x2, fs_i (M 4 x4)] M (fun v M1 => ∃ r1, v = some (fs_i r1) ∧ ((r1 ≤ 0 → fs_A2 g m_Night_letCats 5 8 [(0, fs_r x0), (1, fs_r 43), (2, fs_i x2), (3, fs_r 1), (4, fs_i (fs_w32 (x4 + 1)))] [] M1 K) ∧ (¬ r1 ≤ 0 → fs_C2 g m_Night_draw 1 [fs_r x0] M1 (fun v M2 => ∃ r2, v = some (fs_i r2) ∧ ((r1 ≤ fs_rem r2 1000 → fs_A2 g m_Night_letCats 5 8 [(0, fs_r x0), (1, fs_r 43), (2, fs_i x2), (3, fs_r 1), (4, fs_i (fs_w32 (x4 + 1)))] [] M2 K) ∧ (¬ r1 ≤ fs_rem r2 1000 → fs_A2 g m_Night_letCats 5 8 [(0, fs_r x0), (1, fs_r 43), (2, fs_i x2), (3, fs_r 1), (4, fs_i (fs_w32 (x4 + 1)))] [] (fs_st (fs_st M2 49 x4 (-3)) 50 x4 x2) K)))))))))))) :
    fs_A2 g m_Night_letCats 5 8 [(0, fs_r x0), (1, fs_r 43), (2, fs_i x2), (3, fs_r 1), (4, fs_i x4)] [] M K := by
  refine a_iload (j := 4) d_Night_letCats_8 rfl ?_
  refine a_aload_n (j := 3) d_Night_letCats_10 rfl rfl ?_
  refine b_getfield (v := fs_i (M 1 5)) d_Night_letCats_11 fl_Night_47 io_1 rfl ?_
  refine a_icmp_ge (tgt := 86) d_Night_letCats_14 rfl (fun c1 => ?_) (fun c1 => ?_)
  · have h := h.1 c1
    exact b_return d_Night_letCats_86 rfl h
  · have h := h.2 c1
    refine a_aload_n (j := 1) d_Night_letCats_17 rfl rfl ?_
    refine b_getptr (q := 49) d_Night_letCats_18 fl_Night_41 io_43 rfl rfl rfl ?_
    refine a_iload (j := 4) d_Night_letCats_21 rfl ?_
    obtain ⟨o2, o3, h⟩ := h
    refine b_iaload (v := M 49 x4) d_Night_letCats_23 ia_49 o2 o3 rfl ?_
    refine a_iconst d_Night_letCats_24 (by unfold fs_in32; omega) ?_
    refine a_icmp_ne (tgt := 80) d_Night_letCats_25 rfl (fun c4 => ?_) (fun c4 => ?_)
    · have h := h.1 c4
      refine a_iinc (j := 4) d_Night_letCats_80 rfl (Nat.le_of_ble_eq_true rfl) [1, 2, 3, 4, 0] rfl ?_
      refine a_goto (tgt := 8) d_Night_letCats_83 rfl ?_
      exact h
    · have h := h.2 c4
      refine a_aload_n (j := 3) d_Night_letCats_28 rfl rfl ?_
      refine b_getptr (q := 9) d_Night_letCats_29 fl_Night_52 io_1 rfl rfl rfl ?_
      refine a_iload_n (j := 2) d_Night_letCats_32 rfl rfl ?_
      refine a_aload_n (j := 3) d_Night_letCats_33 rfl rfl ?_
      refine b_getptr (q := 4) d_Night_letCats_34 fl_Night_56 io_1 rfl rfl rfl ?_
      refine a_iload (j := 4) d_Night_letCats_37 rfl ?_
      refine b_iaload (v := M 4 x4) d_Night_letCats_39 ia_4 o2 o3 rfl ?_
      refine b_virtual (dc := 4) (ci := 3) (T := fs_T3) (N := 14) [fs_i x2, fs_i (M 4 x4)] [] d_Night_letCats_40 ml_Night_59 k_Laws_catChance v_Laws_catChance rfl io_9 rfl (Nat.le_of_ble_eq_true rfl) rfl (Nat.le_of_ble_eq_true rfl) ?_
      refine fs_Call.mono (fun v M1 hv => ?_) h
      obtain ⟨r1, rfl, h⟩ := hv
      show fs_A2 g m_Night_letCats 5 43 [(0, fs_r x0), (1, fs_r 43), (2, fs_i x2), (3, fs_r 1), (4, fs_i x4)] [fs_i r1] M1 K
      refine a_istore d_Night_letCats_43 (Nat.le_of_ble_eq_true rfl) [1, 2, 3, 4, 5, 0] rfl ?_
      refine a_iload (j := 5) d_Night_letCats_45 rfl ?_
      refine a_if_le (tgt := 80) d_Night_letCats_47 rfl (fun c5 => ?_) (fun c5 => ?_)
      · have h := h.1 c5
        refine a_iinc (j := 4) d_Night_letCats_80 rfl (Nat.le_of_ble_eq_true rfl) [1, 2, 3, 4, 0, 5] rfl ?_
        refine a_goto (tgt := 8) d_Night_letCats_83 rfl ?_
        refine a_sub [0, 1, 2, 3, 4] rfl ?_
        exact h
      · have h := h.2 c5
        refine a_aload_n (j := 0) d_Night_letCats_50 rfl rfl ?_
        refine b_virtual (dc := 1) (ci := 4) (T := fs_T4) (N := 4) [] [] d_Night_letCats_51 ml_Night_65 k_Night_draw v_Night_draw rfl h0 rfl (Nat.le_of_ble_eq_true rfl) rfl (Nat.le_of_ble_eq_true rfl) ?_
        refine fs_Call.mono (fun v M2 hv => ?_) h
        obtain ⟨r2, rfl, h⟩ := hv
        show fs_A2 g m_Night_letCats 5 54 [(0, fs_r x0), (1, fs_r 43), (2, fs_i x2), (3, fs_r 1), (4, fs_i x4), (5, fs_i r1)] [fs_i r2] M2 K
        refine a_sipush d_Night_letCats_54 (by decide) ?_
        refine a_irem d_Night_letCats_57 (by decide) ?_
        refine a_iload (j := 5) d_Night_letCats_58 rfl ?_
        refine a_icmp_ge (tgt := 80) d_Night_letCats_60 rfl (fun c6 => ?_) (fun c6 => ?_)
        · have h := h.1 c6
          refine a_iinc (j := 4) d_Night_letCats_80 rfl (Nat.le_of_ble_eq_true rfl) [1, 2, 3, 4, 0, 5] rfl ?_
          refine a_goto (tgt := 8) d_Night_letCats_83 rfl ?_
          refine a_sub [0, 1, 2, 3, 4] rfl ?_
          exact h
        · have h := h.2 c6
          refine a_aload_n (j := 1) d_Night_letCats_63 rfl rfl ?_
          refine b_getptr (q := 49) d_Night_letCats_64 fl_Night_41 io_43 rfl rfl rfl ?_
          refine a_iload (j := 4) d_Night_letCats_67 rfl ?_
          refine a_bipush d_Night_letCats_69 (by decide) ?_
          refine b_iastore d_Night_letCats_71 ia_49 o2 o3 ?_
          refine a_aload_n (j := 1) d_Night_letCats_72 rfl rfl ?_
          refine b_getptr (q := 50) d_Night_letCats_73 fl_Night_42 io_43 rfl rfl rfl ?_
          refine a_iload (j := 4) d_Night_letCats_76 rfl ?_
          refine a_iload_n (j := 2) d_Night_letCats_78 rfl rfl ?_
          refine b_iastore d_Night_letCats_79 ia_50 o2 o3 ?_
          refine a_iinc (j := 4) d_Night_letCats_80 rfl (Nat.le_of_ble_eq_true rfl) [1, 2, 3, 4, 0, 5] rfl ?_
          refine a_goto (tgt := 8) d_Night_letCats_83 rfl ?_
          refine a_sub [0, 1, 2, 3, 4] rfl ?_
          exact h
set_option maxRecDepth 8000 in
set_option maxHeartbeats 4000000 in
theorem E_Night_draw {M : fs_M} {K : fs_K} {x0 : Int} (h0 : fs_isO 4 x0) 
    (h : K (some (fs_i (fs_div (fs_w32 (fs_land (fs_w64 ((fs_w64 ((M x0 3) * 1103515245)) + 12345)) 2147483647)) 65536))) (fs_st M x0 3 (fs_w32 (fs_land (fs_w64 ((fs_w64 ((M x0 3) * 1103515245)) + 12345)) 2147483647)))) :
    fs_C2 g m_Night_draw 1 [fs_r x0] M K := by
  refine b_enter2 (ls := [(0, fs_r x0)]) (plainFor_of_name pn_Night) (Nat.le_of_ble_eq_true rfl) rfl ?_
  refine a_aload_n (j := 0) d_Night_draw_0 rfl rfl ?_
  refine a_aload_n (j := 0) d_Night_draw_1 rfl rfl ?_
  refine b_getfield (v := fs_i (M x0 3)) d_Night_draw_2 fl_Night_22 h0 rfl ?_
  refine a_i2l d_Night_draw_5 ?_
  refine a_ldc2 d_Night_draw_6 cn_Night_69 (by unfold fs_in64; omega) ?_
  refine a_lmul d_Night_draw_9 ?_
  refine a_ldc2 d_Night_draw_10 cn_Night_71 (by unfold fs_in64; omega) ?_
  refine a_ladd d_Night_draw_13 ?_
  refine a_ldc2 d_Night_draw_14 cn_Night_73 (by unfold fs_in64; omega) ?_
  refine a_land d_Night_draw_17 ?_
  refine a_l2i d_Night_draw_18 ?_
  refine b_putfield (x := (fs_w32 (fs_land (fs_w64 ((fs_w64 ((M x0 3) * 1103515245)) + 12345)) 2147483647))) d_Night_draw_19 fl_Night_22 h0 rfl rfl fs_nar_int ?_
  refine a_aload_n (j := 0) d_Night_draw_22 rfl rfl ?_
  refine b_getfield (v := fs_i (fs_w32 (fs_land (fs_w64 ((fs_w64 ((M x0 3) * 1103515245)) + 12345)) 2147483647))) d_Night_draw_23 fl_Night_22 h0 (congrArg fs_i (fs_st_s)) ?_
  refine a_ldc d_Night_draw_26 cn_Night_75 (by unfold fs_in32; omega) ?_
  refine a_idiv d_Night_draw_28 (by decide) ?_
  exact b_ireturn d_Night_draw_29 rfl rfl h
set_option maxRecDepth 8000 in
set_option maxHeartbeats 4000000 in
theorem E_Night_copyFrom {M : fs_M} {K : fs_K} {x0 x1 : Int} (h0 : fs_isO 4 x0) (h1 : fs_isO 4 x1) 
    (h : K none (fs_st (fs_st (fs_cpy (fs_cpy M (x1 + 1) 0 (x0 + 1) 0 6) (x1 + 2) 0 (x0 + 2) 0 6) x0 2 ((fs_cpy (fs_cpy M (x1 + 1) 0 (x0 + 1) 0 6) (x1 + 2) 0 (x0 + 2) 0 6) x1 2)) x0 3 ((fs_cpy (fs_cpy M (x1 + 1) 0 (x0 + 1) 0 6) (x1 + 2) 0 (x0 + 2) 0 6) x1 3))) :
    fs_C2 g m_Night_copyFrom 1 [fs_r x0, fs_r x1] M K := by
  refine b_enter2 (ls := [(0, fs_r x0), (1, fs_r x1)]) (plainFor_of_name pn_Night) (Nat.le_of_ble_eq_true rfl) rfl ?_
  refine a_aload_n (j := 1) d_Night_copyFrom_0 rfl rfl ?_
  refine b_getptr (q := x1 + 1) d_Night_copyFrom_1 fl_Night_9 h1 rfl rfl rfl ?_
  refine a_iconst d_Night_copyFrom_4 (by unfold fs_in32; omega) ?_
  refine a_aload_n (j := 0) d_Night_copyFrom_5 rfl rfl ?_
  refine b_getptr (q := x0 + 1) d_Night_copyFrom_6 fl_Night_9 h0 rfl rfl rfl ?_
  refine a_iconst d_Night_copyFrom_9 (by unfold fs_in32; omega) ?_
  refine a_bipush d_Night_copyFrom_10 (by decide) ?_
  refine b_arraycopy d_Night_copyFrom_12 sy_Night_25 (pk_4_1 h1) (pk_4_1 h0) (by decide) (by decide) (by decide) (by decide) (by decide) (Nat.le_of_ble_eq_true rfl) (Nat.le_of_ble_eq_true rfl) ?_
  refine a_aload_n (j := 1) d_Night_copyFrom_15 rfl rfl ?_
  refine b_getptr (q := x1 + 2) d_Night_copyFrom_16 fl_Night_15 h1 rfl rfl rfl ?_
  refine a_iconst d_Night_copyFrom_19 (by unfold fs_in32; omega) ?_
  refine a_aload_n (j := 0) d_Night_copyFrom_20 rfl rfl ?_
  refine b_getptr (q := x0 + 2) d_Night_copyFrom_21 fl_Night_15 h0 rfl rfl rfl ?_
  refine a_iconst d_Night_copyFrom_24 (by unfold fs_in32; omega) ?_
  refine a_bipush d_Night_copyFrom_25 (by decide) ?_
  refine b_arraycopy d_Night_copyFrom_27 sy_Night_25 (pk_4_2 h1) (pk_4_2 h0) (by decide) (by decide) (by decide) (by decide) (by decide) (Nat.le_of_ble_eq_true rfl) (Nat.le_of_ble_eq_true rfl) ?_
  refine a_aload_n (j := 0) d_Night_copyFrom_30 rfl rfl ?_
  refine a_aload_n (j := 1) d_Night_copyFrom_31 rfl rfl ?_
  refine b_getfield (v := fs_i ((fs_cpy (fs_cpy M (x1 + 1) 0 (x0 + 1) 0 6) (x1 + 2) 0 (x0 + 2) 0 6) x1 2)) d_Night_copyFrom_32 fl_Night_18 h1 rfl ?_
  refine b_putfield (x := ((fs_cpy (fs_cpy M (x1 + 1) 0 (x0 + 1) 0 6) (x1 + 2) 0 (x0 + 2) 0 6) x1 2)) d_Night_copyFrom_35 fl_Night_18 h0 rfl rfl fs_nar_int ?_
  refine a_aload_n (j := 0) d_Night_copyFrom_38 rfl rfl ?_
  refine a_aload_n (j := 1) d_Night_copyFrom_39 rfl rfl ?_
  refine b_getfield (v := fs_i ((fs_cpy (fs_cpy M (x1 + 1) 0 (x0 + 1) 0 6) (x1 + 2) 0 (x0 + 2) 0 6) x1 3)) d_Night_copyFrom_40 fl_Night_22 h1 (congrArg fs_i ((fs_st_k (by decide)).trans (rfl))) ?_
  refine b_putfield (x := ((fs_cpy (fs_cpy M (x1 + 1) 0 (x0 + 1) 0 6) (x1 + 2) 0 (x0 + 2) 0 6) x1 3)) d_Night_copyFrom_43 fl_Night_22 h0 rfl rfl fs_nar_int ?_
  exact b_return d_Night_copyFrom_46 rfl h
set_option maxRecDepth 8000 in
set_option maxHeartbeats 4000000 in
theorem E_Script_clear {M : fs_M} {K : fs_K} {x0 : Int} (h0 : fs_isO 8 x0) 
    (h : fs_C2 g m_Laws_clear 1 [fs_r (x0 + 8)] (fs_st (fs_st (fs_st (fs_st (fs_st M x0 4 0) x0 5 0) x0 9 0) x0 10 0) x0 11 0) (fun v M1 => v = none ∧ K none M1)) :
    fs_C2 g m_Script_clear 2 [fs_r x0] M K := by
  refine b_enter2 (ls := [(0, fs_r x0)]) (plainFor_of_name pn_Script) (Nat.le_of_ble_eq_true rfl) rfl ?_
  refine a_aload_n (j := 0) d_Script_clear_0 rfl rfl ?_
  refine a_iconst d_Script_clear_1 (by unfold fs_in32; omega) ?_
  refine b_putfield (x := 0) d_Script_clear_2 fl_Script_24 h0 rfl rfl fs_nar_int ?_
  refine a_aload_n (j := 0) d_Script_clear_5 rfl rfl ?_
  refine a_iconst d_Script_clear_6 (by unfold fs_in32; omega) ?_
  refine b_putfield (x := 0) d_Script_clear_7 fl_Script_28 h0 rfl rfl fs_nar_int ?_
  refine a_aload_n (j := 0) d_Script_clear_10 rfl rfl ?_
  refine a_iconst d_Script_clear_11 (by unfold fs_in32; omega) ?_
  refine b_putfield (x := 0) d_Script_clear_12 fl_Script_40 h0 rfl rfl fs_nar_int ?_
  refine a_aload_n (j := 0) d_Script_clear_15 rfl rfl ?_
  refine a_iconst d_Script_clear_16 (by unfold fs_in32; omega) ?_
  refine b_putfield (x := 0) d_Script_clear_17 fl_Script_43 h0 rfl rfl fs_nar_int ?_
  refine a_aload_n (j := 0) d_Script_clear_20 rfl rfl ?_
  refine a_iconst d_Script_clear_21 (by unfold fs_in32; omega) ?_
  refine b_putfield (x := 0) d_Script_clear_22 fl_Script_46 h0 rfl rfl (fs_nar_bool (Or.inl rfl)) ?_
  refine a_aload_n (j := 0) d_Script_clear_25 rfl rfl ?_
  refine b_getptr (q := x0 + 8) d_Script_clear_26 fl_Script_53 h0 rfl rfl rfl ?_
  refine b_virtual (dc := 1) (ci := 3) (T := fs_T3) (N := 14) [] [] d_Script_clear_29 ml_Script_57 k_Laws_clear v_Laws_clear rfl (pk_8_8 h0) rfl (Nat.le_of_ble_eq_true rfl) rfl (Nat.le_of_ble_eq_true rfl) ?_
  refine fs_Call.mono (fun v M1 hv => ?_) h
  obtain ⟨rfl, h⟩ := hv
  show fs_A2 g m_Script_clear 2 32 [(0, fs_r x0)] [] M1 K
  exact b_return d_Script_clear_32 rfl h
set_option maxRecDepth 8000 in
set_option maxHeartbeats 4000000 in
theorem E_Script_copyFrom {M : fs_M} {K : fs_K} {x0 x1 : Int} (h0 : fs_isO 8 x0) (h1 : fs_isO 8 x1) 
    (h : (((fs_cpy (fs_cpy (fs_cpy (fs_st (fs_st (fs_cpy (fs_cpy (fs_cpy (fs_cpy M (x1 + 1) 0 (x0 + 1) 0 6) (x1 + 2) 0 (x0 + 2) 0 6) (x1 + 3) 0 (x0 + 3) 0 6) (x1 + 4) 0 (x0 + 4) 0 6) x0 4 ((fs_cpy (fs_cpy (fs_cpy (fs_cpy M (x1 + 1) 0 (x0 + 1) 0 6) (x1 + 2) 0 (x0 + 2) 0 6) (x1 + 3) 0 (x0 + 3) 0 6) (x1 + 4) 0 (x0 + 4) 0 6) x1 4)) x0 5 ((fs_cpy (fs_cpy (fs_cpy (fs_cpy M (x1 + 1) 0 (x0 + 1) 0 6) (x1 + 2) 0 (x0 + 2) 0 6) (x1 + 3) 0 (x0 + 3) 0 6) (x1 + 4) 0 (x0 + 4) 0 6) x1 5)) (x1 + 5) 0 (x0 + 5) 0 3) (x1 + 6) 0 (x0 + 6) 0 3) (x1 + 7) 0 (x0 + 7) 0 3) x1 11 = 0 ∨ (fs_cpy (fs_cpy (fs_cpy (fs_st (fs_st (fs_cpy (fs_cpy (fs_cpy (fs_cpy M (x1 + 1) 0 (x0 + 1) 0 6) (x1 + 2) 0 (x0 + 2) 0 6) (x1 + 3) 0 (x0 + 3) 0 6) (x1 + 4) 0 (x0 + 4) 0 6) x0 4 ((fs_cpy (fs_cpy (fs_cpy (fs_cpy M (x1 + 1) 0 (x0 + 1) 0 6) (x1 + 2) 0 (x0 + 2) 0 6) (x1 + 3) 0 (x0 + 3) 0 6) (x1 + 4) 0 (x0 + 4) 0 6) x1 4)) x0 5 ((fs_cpy (fs_cpy (fs_cpy (fs_cpy M (x1 + 1) 0 (x0 + 1) 0 6) (x1 + 2) 0 (x0 + 2) 0 6) (x1 + 3) 0 (x0 + 3) 0 6) (x1 + 4) 0 (x0 + 4) 0 6) x1 5)) (x1 + 5) 0 (x0 + 5) 0 3) (x1 + 6) 0 (x0 + 6) 0 3) (x1 + 7) 0 (x0 + 7) 0 3) x1 11 = 1) ∧ fs_C2 g m_Laws_copyFrom 1 [fs_r (x0 + 8), fs_r (x1 + 8)] (fs_st (fs_st (fs_st (fs_cpy (fs_cpy (fs_cpy (fs_st (fs_st (fs_cpy (fs_cpy (fs_cpy (fs_cpy M (x1 + 1) 0 (x0 + 1) 0 6) (x1 + 2) 0 (x0 + 2) 0 6) (x1 + 3) 0 (x0 + 3) 0 6) (x1 + 4) 0 (x0 + 4) 0 6) x0 4 ((fs_cpy (fs_cpy (fs_cpy (fs_cpy M (x1 + 1) 0 (x0 + 1) 0 6) (x1 + 2) 0 (x0 + 2) 0 6) (x1 + 3) 0 (x0 + 3) 0 6) (x1 + 4) 0 (x0 + 4) 0 6) x1 4)) x0 5 ((fs_cpy (fs_cpy (fs_cpy (fs_cpy M (x1 + 1) 0 (x0 + 1) 0 6) (x1 + 2) 0 (x0 + 2) 0 6) (x1 + 3) 0 (x0 + 3) 0 6) (x1 + 4) 0 (x0 + 4) 0 6) x1 5)) (x1 + 5) 0 (x0 + 5) 0 3) (x1 + 6) 0 (x0 + 6) 0 3) (x1 + 7) 0 (x0 + 7) 0 3) x0 9 ((fs_cpy (fs_cpy (fs_cpy (fs_st (fs_st (fs_cpy (fs_cpy (fs_cpy (fs_cpy M (x1 + 1) 0 (x0 + 1) 0 6) (x1 + 2) 0 (x0 + 2) 0 6) (x1 + 3) 0 (x0 + 3) 0 6) (x1 + 4) 0 (x0 + 4) 0 6) x0 4 ((fs_cpy (fs_cpy (fs_cpy (fs_cpy M (x1 + 1) 0 (x0 + 1) 0 6) (x1 + 2) 0 (x0 + 2) 0 6) (x1 + 3) 0 (x0 + 3) 0 6) (x1 + 4) 0 (x0 + 4) 0 6) x1 4)) x0 5 ((fs_cpy (fs_cpy (fs_cpy (fs_cpy M (x1 + 1) 0 (x0 + 1) 0 6) (x1 + 2) 0 (x0 + 2) 0 6) (x1 + 3) 0 (x0 + 3) 0 6) (x1 + 4) 0 (x0 + 4) 0 6) x1 5)) (x1 + 5) 0 (x0 + 5) 0 3) (x1 + 6) 0 (x0 + 6) 0 3) (x1 + 7) 0 (x0 + 7) 0 3) x1 9)) x0 10 ((fs_cpy (fs_cpy (fs_cpy (fs_st (fs_st (fs_cpy (fs_cpy (fs_cpy (fs_cpy M (x1 + 1) 0 (x0 + 1) 0 6) (x1 + 2) 0 (x0 + 2) 0 6) (x1 + 3) 0 (x0 + 3) 0 6) (x1 + 4) 0 (x0 + 4) 0 6) x0 4 ((fs_cpy (fs_cpy (fs_cpy (fs_cpy M (x1 + 1) 0 (x0 + 1) 0 6) (x1 + 2) 0 (x0 + 2) 0 6) (x1 + 3) 0 (x0 + 3) 0 6) (x1 + 4) 0 (x0 + 4) 0 6) x1 4)) x0 5 ((fs_cpy (fs_cpy (fs_cpy (fs_cpy M (x1 + 1) 0 (x0 + 1) 0 6) (x1 + 2) 0 (x0 + 2) 0 6) (x1 + 3) 0 (x0 + 3) 0 6) (x1 + 4) 0 (x0 + 4) 0 6) x1 5)) (x1 + 5) 0 (x0 + 5) 0 3) (x1 + 6) 0 (x0 + 6) 0 3) (x1 + 7) 0 (x0 + 7) 0 3) x1 10)) x0 11 ((fs_cpy (fs_cpy (fs_cpy (fs_st (fs_st (fs_cpy (fs_cpy (fs_cpy (fs_cpy M (x1 + 1) 0 (x0 + 1) 0 6) (x1 + 2) 0 (x0 + 2) 0 6) (x1 + 3) 0 (x0 + 3) 0 6) (x1 + 4) 0 (x0 + 4) 0 6) x0 4 ((fs_cpy (fs_cpy (fs_cpy (fs_cpy M (x1 + 1) 0 (x0 + 1) 0 6) (x1 + 2) 0 (x0 + 2) 0 6) (x1 + 3) 0 (x0 + 3) 0 6) (x1 + 4) 0 (x0 + 4) 0 6) x1 4)) x0 5 ((fs_cpy (fs_cpy (fs_cpy (fs_cpy M (x1 + 1) 0 (x0 + 1) 0 6) (x1 + 2) 0 (x0 + 2) 0 6) (x1 + 3) 0 (x0 + 3) 0 6) (x1 + 4) 0 (x0 + 4) 0 6) x1 5)) (x1 + 5) 0 (x0 + 5) 0 3) (x1 + 6) 0 (x0 + 6) 0 3) (x1 + 7) 0 (x0 + 7) 0 3) x1 11)) (fun v M1 => v = none ∧ K none M1))) :
    fs_C2 g m_Script_copyFrom 2 [fs_r x0, fs_r x1] M K := by
  refine b_enter2 (ls := [(0, fs_r x0), (1, fs_r x1)]) (plainFor_of_name pn_Script) (Nat.le_of_ble_eq_true rfl) rfl ?_
  refine a_aload_n (j := 1) d_Script_copyFrom_0 rfl rfl ?_
  refine b_getptr (q := x1 + 1) d_Script_copyFrom_1 fl_Script_9 h1 rfl rfl rfl ?_
  refine a_iconst d_Script_copyFrom_4 (by unfold fs_in32; omega) ?_
  refine a_aload_n (j := 0) d_Script_copyFrom_5 rfl rfl ?_
  refine b_getptr (q := x0 + 1) d_Script_copyFrom_6 fl_Script_9 h0 rfl rfl rfl ?_
  refine a_iconst d_Script_copyFrom_9 (by unfold fs_in32; omega) ?_
  refine a_bipush d_Script_copyFrom_10 (by decide) ?_
  refine b_arraycopy d_Script_copyFrom_12 sy_Script_60 (pk_8_1 h1) (pk_8_1 h0) (by decide) (by decide) (by decide) (by decide) (by decide) (Nat.le_of_ble_eq_true rfl) (Nat.le_of_ble_eq_true rfl) ?_
  refine a_aload_n (j := 1) d_Script_copyFrom_15 rfl rfl ?_
  refine b_getptr (q := x1 + 2) d_Script_copyFrom_16 fl_Script_15 h1 rfl rfl rfl ?_
  refine a_iconst d_Script_copyFrom_19 (by unfold fs_in32; omega) ?_
  refine a_aload_n (j := 0) d_Script_copyFrom_20 rfl rfl ?_
  refine b_getptr (q := x0 + 2) d_Script_copyFrom_21 fl_Script_15 h0 rfl rfl rfl ?_
  refine a_iconst d_Script_copyFrom_24 (by unfold fs_in32; omega) ?_
  refine a_bipush d_Script_copyFrom_25 (by decide) ?_
  refine b_arraycopy d_Script_copyFrom_27 sy_Script_60 (pk_8_2 h1) (pk_8_2 h0) (by decide) (by decide) (by decide) (by decide) (by decide) (Nat.le_of_ble_eq_true rfl) (Nat.le_of_ble_eq_true rfl) ?_
  refine a_aload_n (j := 1) d_Script_copyFrom_30 rfl rfl ?_
  refine b_getptr (q := x1 + 3) d_Script_copyFrom_31 fl_Script_18 h1 rfl rfl rfl ?_
  refine a_iconst d_Script_copyFrom_34 (by unfold fs_in32; omega) ?_
  refine a_aload_n (j := 0) d_Script_copyFrom_35 rfl rfl ?_
  refine b_getptr (q := x0 + 3) d_Script_copyFrom_36 fl_Script_18 h0 rfl rfl rfl ?_
  refine a_iconst d_Script_copyFrom_39 (by unfold fs_in32; omega) ?_
  refine a_bipush d_Script_copyFrom_40 (by decide) ?_
  refine b_arraycopy d_Script_copyFrom_42 sy_Script_60 (pk_8_3 h1) (pk_8_3 h0) (by decide) (by decide) (by decide) (by decide) (by decide) (Nat.le_of_ble_eq_true rfl) (Nat.le_of_ble_eq_true rfl) ?_
  refine a_aload_n (j := 1) d_Script_copyFrom_45 rfl rfl ?_
  refine b_getptr (q := x1 + 4) d_Script_copyFrom_46 fl_Script_21 h1 rfl rfl rfl ?_
  refine a_iconst d_Script_copyFrom_49 (by unfold fs_in32; omega) ?_
  refine a_aload_n (j := 0) d_Script_copyFrom_50 rfl rfl ?_
  refine b_getptr (q := x0 + 4) d_Script_copyFrom_51 fl_Script_21 h0 rfl rfl rfl ?_
  refine a_iconst d_Script_copyFrom_54 (by unfold fs_in32; omega) ?_
  refine a_bipush d_Script_copyFrom_55 (by decide) ?_
  refine b_arraycopy d_Script_copyFrom_57 sy_Script_60 (pk_8_4 h1) (pk_8_4 h0) (by decide) (by decide) (by decide) (by decide) (by decide) (Nat.le_of_ble_eq_true rfl) (Nat.le_of_ble_eq_true rfl) ?_
  refine a_aload_n (j := 0) d_Script_copyFrom_60 rfl rfl ?_
  refine a_aload_n (j := 1) d_Script_copyFrom_61 rfl rfl ?_
  refine b_getfield (v := fs_i ((fs_cpy (fs_cpy (fs_cpy (fs_cpy M (x1 + 1) 0 (x0 + 1) 0 6) (x1 + 2) 0 (x0 + 2) 0 6) (x1 + 3) 0 (x0 + 3) 0 6) (x1 + 4) 0 (x0 + 4) 0 6) x1 4)) d_Script_copyFrom_62 fl_Script_24 h1 rfl ?_
  refine b_putfield (x := ((fs_cpy (fs_cpy (fs_cpy (fs_cpy M (x1 + 1) 0 (x0 + 1) 0 6) (x1 + 2) 0 (x0 + 2) 0 6) (x1 + 3) 0 (x0 + 3) 0 6) (x1 + 4) 0 (x0 + 4) 0 6) x1 4)) d_Script_copyFrom_65 fl_Script_24 h0 rfl rfl fs_nar_int ?_
  refine a_aload_n (j := 0) d_Script_copyFrom_68 rfl rfl ?_
  refine a_aload_n (j := 1) d_Script_copyFrom_69 rfl rfl ?_
  refine b_getfield (v := fs_i ((fs_cpy (fs_cpy (fs_cpy (fs_cpy M (x1 + 1) 0 (x0 + 1) 0 6) (x1 + 2) 0 (x0 + 2) 0 6) (x1 + 3) 0 (x0 + 3) 0 6) (x1 + 4) 0 (x0 + 4) 0 6) x1 5)) d_Script_copyFrom_70 fl_Script_28 h1 (congrArg fs_i ((fs_st_k (by decide)).trans (rfl))) ?_
  refine b_putfield (x := ((fs_cpy (fs_cpy (fs_cpy (fs_cpy M (x1 + 1) 0 (x0 + 1) 0 6) (x1 + 2) 0 (x0 + 2) 0 6) (x1 + 3) 0 (x0 + 3) 0 6) (x1 + 4) 0 (x0 + 4) 0 6) x1 5)) d_Script_copyFrom_73 fl_Script_28 h0 rfl rfl fs_nar_int ?_
  refine a_aload_n (j := 1) d_Script_copyFrom_76 rfl rfl ?_
  refine b_getptr (q := x1 + 5) d_Script_copyFrom_77 fl_Script_31 h1 rfl rfl rfl ?_
  refine a_iconst d_Script_copyFrom_80 (by unfold fs_in32; omega) ?_
  refine a_aload_n (j := 0) d_Script_copyFrom_81 rfl rfl ?_
  refine b_getptr (q := x0 + 5) d_Script_copyFrom_82 fl_Script_31 h0 rfl rfl rfl ?_
  refine a_iconst d_Script_copyFrom_85 (by unfold fs_in32; omega) ?_
  refine a_iconst d_Script_copyFrom_86 (by unfold fs_in32; omega) ?_
  refine b_arraycopy d_Script_copyFrom_87 sy_Script_60 (pk_8_5 h1) (pk_8_5 h0) (by decide) (by decide) (by decide) (by decide) (by decide) (Nat.le_of_ble_eq_true rfl) (Nat.le_of_ble_eq_true rfl) ?_
  refine a_aload_n (j := 1) d_Script_copyFrom_90 rfl rfl ?_
  refine b_getptr (q := x1 + 6) d_Script_copyFrom_91 fl_Script_34 h1 rfl rfl rfl ?_
  refine a_iconst d_Script_copyFrom_94 (by unfold fs_in32; omega) ?_
  refine a_aload_n (j := 0) d_Script_copyFrom_95 rfl rfl ?_
  refine b_getptr (q := x0 + 6) d_Script_copyFrom_96 fl_Script_34 h0 rfl rfl rfl ?_
  refine a_iconst d_Script_copyFrom_99 (by unfold fs_in32; omega) ?_
  refine a_iconst d_Script_copyFrom_100 (by unfold fs_in32; omega) ?_
  refine b_arraycopy d_Script_copyFrom_101 sy_Script_60 (pk_8_6 h1) (pk_8_6 h0) (by decide) (by decide) (by decide) (by decide) (by decide) (Nat.le_of_ble_eq_true rfl) (Nat.le_of_ble_eq_true rfl) ?_
  refine a_aload_n (j := 1) d_Script_copyFrom_104 rfl rfl ?_
  refine b_getptr (q := x1 + 7) d_Script_copyFrom_105 fl_Script_37 h1 rfl rfl rfl ?_
  refine a_iconst d_Script_copyFrom_108 (by unfold fs_in32; omega) ?_
  refine a_aload_n (j := 0) d_Script_copyFrom_109 rfl rfl ?_
  refine b_getptr (q := x0 + 7) d_Script_copyFrom_110 fl_Script_37 h0 rfl rfl rfl ?_
  refine a_iconst d_Script_copyFrom_113 (by unfold fs_in32; omega) ?_
  refine a_iconst d_Script_copyFrom_114 (by unfold fs_in32; omega) ?_
  refine b_arraycopy d_Script_copyFrom_115 sy_Script_60 (pk_8_7 h1) (pk_8_7 h0) (by decide) (by decide) (by decide) (by decide) (by decide) (Nat.le_of_ble_eq_true rfl) (Nat.le_of_ble_eq_true rfl) ?_
  refine a_aload_n (j := 0) d_Script_copyFrom_118 rfl rfl ?_
  refine a_aload_n (j := 1) d_Script_copyFrom_119 rfl rfl ?_
  refine b_getfield (v := fs_i ((fs_cpy (fs_cpy (fs_cpy (fs_st (fs_st (fs_cpy (fs_cpy (fs_cpy (fs_cpy M (x1 + 1) 0 (x0 + 1) 0 6) (x1 + 2) 0 (x0 + 2) 0 6) (x1 + 3) 0 (x0 + 3) 0 6) (x1 + 4) 0 (x0 + 4) 0 6) x0 4 ((fs_cpy (fs_cpy (fs_cpy (fs_cpy M (x1 + 1) 0 (x0 + 1) 0 6) (x1 + 2) 0 (x0 + 2) 0 6) (x1 + 3) 0 (x0 + 3) 0 6) (x1 + 4) 0 (x0 + 4) 0 6) x1 4)) x0 5 ((fs_cpy (fs_cpy (fs_cpy (fs_cpy M (x1 + 1) 0 (x0 + 1) 0 6) (x1 + 2) 0 (x0 + 2) 0 6) (x1 + 3) 0 (x0 + 3) 0 6) (x1 + 4) 0 (x0 + 4) 0 6) x1 5)) (x1 + 5) 0 (x0 + 5) 0 3) (x1 + 6) 0 (x0 + 6) 0 3) (x1 + 7) 0 (x0 + 7) 0 3) x1 9)) d_Script_copyFrom_120 fl_Script_40 h1 rfl ?_
  refine b_putfield (x := ((fs_cpy (fs_cpy (fs_cpy (fs_st (fs_st (fs_cpy (fs_cpy (fs_cpy (fs_cpy M (x1 + 1) 0 (x0 + 1) 0 6) (x1 + 2) 0 (x0 + 2) 0 6) (x1 + 3) 0 (x0 + 3) 0 6) (x1 + 4) 0 (x0 + 4) 0 6) x0 4 ((fs_cpy (fs_cpy (fs_cpy (fs_cpy M (x1 + 1) 0 (x0 + 1) 0 6) (x1 + 2) 0 (x0 + 2) 0 6) (x1 + 3) 0 (x0 + 3) 0 6) (x1 + 4) 0 (x0 + 4) 0 6) x1 4)) x0 5 ((fs_cpy (fs_cpy (fs_cpy (fs_cpy M (x1 + 1) 0 (x0 + 1) 0 6) (x1 + 2) 0 (x0 + 2) 0 6) (x1 + 3) 0 (x0 + 3) 0 6) (x1 + 4) 0 (x0 + 4) 0 6) x1 5)) (x1 + 5) 0 (x0 + 5) 0 3) (x1 + 6) 0 (x0 + 6) 0 3) (x1 + 7) 0 (x0 + 7) 0 3) x1 9)) d_Script_copyFrom_123 fl_Script_40 h0 rfl rfl fs_nar_int ?_
  refine a_aload_n (j := 0) d_Script_copyFrom_126 rfl rfl ?_
  refine a_aload_n (j := 1) d_Script_copyFrom_127 rfl rfl ?_
  refine b_getfield (v := fs_i ((fs_cpy (fs_cpy (fs_cpy (fs_st (fs_st (fs_cpy (fs_cpy (fs_cpy (fs_cpy M (x1 + 1) 0 (x0 + 1) 0 6) (x1 + 2) 0 (x0 + 2) 0 6) (x1 + 3) 0 (x0 + 3) 0 6) (x1 + 4) 0 (x0 + 4) 0 6) x0 4 ((fs_cpy (fs_cpy (fs_cpy (fs_cpy M (x1 + 1) 0 (x0 + 1) 0 6) (x1 + 2) 0 (x0 + 2) 0 6) (x1 + 3) 0 (x0 + 3) 0 6) (x1 + 4) 0 (x0 + 4) 0 6) x1 4)) x0 5 ((fs_cpy (fs_cpy (fs_cpy (fs_cpy M (x1 + 1) 0 (x0 + 1) 0 6) (x1 + 2) 0 (x0 + 2) 0 6) (x1 + 3) 0 (x0 + 3) 0 6) (x1 + 4) 0 (x0 + 4) 0 6) x1 5)) (x1 + 5) 0 (x0 + 5) 0 3) (x1 + 6) 0 (x0 + 6) 0 3) (x1 + 7) 0 (x0 + 7) 0 3) x1 10)) d_Script_copyFrom_128 fl_Script_43 h1 (congrArg fs_i ((fs_st_k (by decide)).trans (rfl))) ?_
  refine b_putfield (x := ((fs_cpy (fs_cpy (fs_cpy (fs_st (fs_st (fs_cpy (fs_cpy (fs_cpy (fs_cpy M (x1 + 1) 0 (x0 + 1) 0 6) (x1 + 2) 0 (x0 + 2) 0 6) (x1 + 3) 0 (x0 + 3) 0 6) (x1 + 4) 0 (x0 + 4) 0 6) x0 4 ((fs_cpy (fs_cpy (fs_cpy (fs_cpy M (x1 + 1) 0 (x0 + 1) 0 6) (x1 + 2) 0 (x0 + 2) 0 6) (x1 + 3) 0 (x0 + 3) 0 6) (x1 + 4) 0 (x0 + 4) 0 6) x1 4)) x0 5 ((fs_cpy (fs_cpy (fs_cpy (fs_cpy M (x1 + 1) 0 (x0 + 1) 0 6) (x1 + 2) 0 (x0 + 2) 0 6) (x1 + 3) 0 (x0 + 3) 0 6) (x1 + 4) 0 (x0 + 4) 0 6) x1 5)) (x1 + 5) 0 (x0 + 5) 0 3) (x1 + 6) 0 (x0 + 6) 0 3) (x1 + 7) 0 (x0 + 7) 0 3) x1 10)) d_Script_copyFrom_131 fl_Script_43 h0 rfl rfl fs_nar_int ?_
  refine a_aload_n (j := 0) d_Script_copyFrom_134 rfl rfl ?_
  refine a_aload_n (j := 1) d_Script_copyFrom_135 rfl rfl ?_
  refine b_getfield (v := fs_i ((fs_cpy (fs_cpy (fs_cpy (fs_st (fs_st (fs_cpy (fs_cpy (fs_cpy (fs_cpy M (x1 + 1) 0 (x0 + 1) 0 6) (x1 + 2) 0 (x0 + 2) 0 6) (x1 + 3) 0 (x0 + 3) 0 6) (x1 + 4) 0 (x0 + 4) 0 6) x0 4 ((fs_cpy (fs_cpy (fs_cpy (fs_cpy M (x1 + 1) 0 (x0 + 1) 0 6) (x1 + 2) 0 (x0 + 2) 0 6) (x1 + 3) 0 (x0 + 3) 0 6) (x1 + 4) 0 (x0 + 4) 0 6) x1 4)) x0 5 ((fs_cpy (fs_cpy (fs_cpy (fs_cpy M (x1 + 1) 0 (x0 + 1) 0 6) (x1 + 2) 0 (x0 + 2) 0 6) (x1 + 3) 0 (x0 + 3) 0 6) (x1 + 4) 0 (x0 + 4) 0 6) x1 5)) (x1 + 5) 0 (x0 + 5) 0 3) (x1 + 6) 0 (x0 + 6) 0 3) (x1 + 7) 0 (x0 + 7) 0 3) x1 11)) d_Script_copyFrom_136 fl_Script_46 h1 (congrArg fs_i ((fs_st_k (by decide)).trans ((fs_st_k (by decide)).trans (rfl)))) ?_
  obtain ⟨o1, h⟩ := h
  refine b_putfield (x := ((fs_cpy (fs_cpy (fs_cpy (fs_st (fs_st (fs_cpy (fs_cpy (fs_cpy (fs_cpy M (x1 + 1) 0 (x0 + 1) 0 6) (x1 + 2) 0 (x0 + 2) 0 6) (x1 + 3) 0 (x0 + 3) 0 6) (x1 + 4) 0 (x0 + 4) 0 6) x0 4 ((fs_cpy (fs_cpy (fs_cpy (fs_cpy M (x1 + 1) 0 (x0 + 1) 0 6) (x1 + 2) 0 (x0 + 2) 0 6) (x1 + 3) 0 (x0 + 3) 0 6) (x1 + 4) 0 (x0 + 4) 0 6) x1 4)) x0 5 ((fs_cpy (fs_cpy (fs_cpy (fs_cpy M (x1 + 1) 0 (x0 + 1) 0 6) (x1 + 2) 0 (x0 + 2) 0 6) (x1 + 3) 0 (x0 + 3) 0 6) (x1 + 4) 0 (x0 + 4) 0 6) x1 5)) (x1 + 5) 0 (x0 + 5) 0 3) (x1 + 6) 0 (x0 + 6) 0 3) (x1 + 7) 0 (x0 + 7) 0 3) x1 11)) d_Script_copyFrom_139 fl_Script_46 h0 rfl rfl (fs_nar_bool o1) ?_
  refine a_aload_n (j := 0) d_Script_copyFrom_142 rfl rfl ?_
  refine b_getptr (q := x0 + 8) d_Script_copyFrom_143 fl_Script_53 h0 rfl rfl rfl ?_
  refine a_aload_n (j := 1) d_Script_copyFrom_146 rfl rfl ?_
  refine b_getptr (q := x1 + 8) d_Script_copyFrom_147 fl_Script_53 h1 rfl rfl rfl ?_
  refine b_virtual (dc := 1) (ci := 3) (T := fs_T3) (N := 14) [fs_r (x1 + 8)] [] d_Script_copyFrom_150 ml_Script_66 k_Laws_copyFrom v_Laws_copyFrom rfl (pk_8_8 h0) rfl (Nat.le_of_ble_eq_true rfl) rfl (Nat.le_of_ble_eq_true rfl) ?_
  refine fs_Call.mono (fun v M1 hv => ?_) h
  obtain ⟨rfl, h⟩ := hv
  show fs_A2 g m_Script_copyFrom 2 153 [(0, fs_r x0), (1, fs_r x1)] [] M1 K
  exact b_return d_Script_copyFrom_153 rfl h
set_option maxRecDepth 8000 in
set_option maxHeartbeats 4000000 in
theorem E_Script_hasDark {M : fs_M} {K : fs_K} {x0 x1 : Int} (h0 : fs_isO 8 x0) 
    (h : ((x1 < 0 → K (some (fs_i 0)) M) ∧ (¬ x1 < 0 → ((M x0 9 ≤ x1 → K (some (fs_i 0)) M) ∧ (¬ M x0 9 ≤ x1 → K (some (fs_i 1)) M))))) :
    fs_C2 g m_Script_hasDark 1 [fs_r x0, fs_i x1] M K := by
  refine b_enter2 (ls := [(0, fs_r x0), (1, fs_i x1)]) (plainFor_of_name pn_Script) (Nat.le_of_ble_eq_true rfl) rfl ?_
  refine a_iload_n (j := 1) d_Script_hasDark_0 rfl rfl ?_
  refine a_if_lt (tgt := 16) d_Script_hasDark_1 rfl (fun c1 => ?_) (fun c1 => ?_)
  · have h := h.1 c1
    refine a_iconst d_Script_hasDark_16 (by unfold fs_in32; omega) ?_
    exact b_ireturn d_Script_hasDark_17 rfl (fs_nar01 (Or.inl rfl)) h
  · have h := h.2 c1
    refine a_iload_n (j := 1) d_Script_hasDark_4 rfl rfl ?_
    refine a_aload_n (j := 0) d_Script_hasDark_5 rfl rfl ?_
    refine b_getfield (v := fs_i (M x0 9)) d_Script_hasDark_6 fl_Script_40 h0 rfl ?_
    refine a_icmp_ge (tgt := 16) d_Script_hasDark_9 rfl (fun c2 => ?_) (fun c2 => ?_)
    · have h := h.1 c2
      refine a_iconst d_Script_hasDark_16 (by unfold fs_in32; omega) ?_
      exact b_ireturn d_Script_hasDark_17 rfl (fs_nar01 (Or.inl rfl)) h
    · have h := h.2 c2
      refine a_iconst d_Script_hasDark_12 (by unfold fs_in32; omega) ?_
      refine a_goto (tgt := 17) d_Script_hasDark_13 rfl ?_
      exact b_ireturn d_Script_hasDark_17 rfl (fs_nar01 (Or.inr rfl)) h
set_option maxRecDepth 8000 in
set_option maxHeartbeats 4000000 in
theorem E_Script_hasHouse {M : fs_M} {K : fs_K} {x0 x1 : Int} (h0 : fs_isO 8 x0) 
    (h : ((x1 < 0 → K (some (fs_i 0)) M) ∧ (¬ x1 < 0 → ((M x0 5 ≤ x1 → K (some (fs_i 0)) M) ∧ (¬ M x0 5 ≤ x1 → K (some (fs_i 1)) M))))) :
    fs_C2 g m_Script_hasHouse 1 [fs_r x0, fs_i x1] M K := by
  refine b_enter2 (ls := [(0, fs_r x0), (1, fs_i x1)]) (plainFor_of_name pn_Script) (Nat.le_of_ble_eq_true rfl) rfl ?_
  refine a_iload_n (j := 1) d_Script_hasHouse_0 rfl rfl ?_
  refine a_if_lt (tgt := 16) d_Script_hasHouse_1 rfl (fun c1 => ?_) (fun c1 => ?_)
  · have h := h.1 c1
    refine a_iconst d_Script_hasHouse_16 (by unfold fs_in32; omega) ?_
    exact b_ireturn d_Script_hasHouse_17 rfl (fs_nar01 (Or.inl rfl)) h
  · have h := h.2 c1
    refine a_iload_n (j := 1) d_Script_hasHouse_4 rfl rfl ?_
    refine a_aload_n (j := 0) d_Script_hasHouse_5 rfl rfl ?_
    refine b_getfield (v := fs_i (M x0 5)) d_Script_hasHouse_6 fl_Script_28 h0 rfl ?_
    refine a_icmp_ge (tgt := 16) d_Script_hasHouse_9 rfl (fun c2 => ?_) (fun c2 => ?_)
    · have h := h.1 c2
      refine a_iconst d_Script_hasHouse_16 (by unfold fs_in32; omega) ?_
      exact b_ireturn d_Script_hasHouse_17 rfl (fs_nar01 (Or.inl rfl)) h
    · have h := h.2 c2
      refine a_iconst d_Script_hasHouse_12 (by unfold fs_in32; omega) ?_
      refine a_goto (tgt := 17) d_Script_hasHouse_13 rfl ?_
      exact b_ireturn d_Script_hasHouse_17 rfl (fs_nar01 (Or.inr rfl)) h
set_option maxRecDepth 8000 in
set_option maxHeartbeats 4000000 in
theorem E_Tracks_clear {M : fs_M} {K : fs_K} 
    (h : K none (fs_st (fs_st M 90 4 0) 90 5 (-1))) :
    fs_C2 g m_Tracks_clear 1 [fs_r 90] M K := by
  refine b_enter2 (ls := [(0, fs_r 90)]) (plainFor_of_name pn_Tracks) (Nat.le_of_ble_eq_true rfl) rfl ?_
  refine a_aload_n (j := 0) d_Tracks_clear_0 rfl rfl ?_
  refine a_iconst d_Tracks_clear_1 (by unfold fs_in32; omega) ?_
  refine b_putfield (x := 0) d_Tracks_clear_2 fl_Tracks_24 io_90 rfl rfl fs_nar_int ?_
  refine a_aload_n (j := 0) d_Tracks_clear_5 rfl rfl ?_
  refine a_iconst d_Tracks_clear_6 (by unfold fs_in32; omega) ?_
  refine b_putfield (x := (-1)) d_Tracks_clear_7 fl_Tracks_28 io_90 rfl rfl fs_nar_int ?_
  exact b_return d_Tracks_clear_10 rfl h
set_option maxRecDepth 8000 in
set_option maxHeartbeats 4000000 in
theorem E_Tracks_add {M : fs_M} {K : fs_K} {x1 x2 x3 x4 : Int} 
    (h : ((M 90 4 < 24 → (0 ≤ M 90 4 ∧ K (some (fs_i (fs_w32 ((fs_w32 ((M 90 4) + 1)) - 1)))) (fs_st (fs_st (fs_st (fs_st (fs_st M 91 (M 90 4) x1) 92 (M 90 4) x2) 93 (M 90 4) x3) 94 (M 90 4) x4) 90 4 (fs_w32 ((M 90 4) + 1))))) ∧ (¬ M 90 4 < 24 → K (some (fs_i (-1))) M))) :
    fs_C2 g m_Tracks_add 1 [fs_r 90, fs_i x1, fs_i x2, fs_i x3, fs_i x4] M K := by
  refine b_enter2 (ls := [(0, fs_r 90), (1, fs_i x1), (2, fs_i x2), (3, fs_i x3), (4, fs_i x4)]) (plainFor_of_name pn_Tracks) (Nat.le_of_ble_eq_true rfl) rfl ?_
  refine a_aload_n (j := 0) d_Tracks_add_0 rfl rfl ?_
  refine b_getfield (v := fs_i (M 90 4)) d_Tracks_add_1 fl_Tracks_24 io_90 rfl ?_
  refine a_bipush d_Tracks_add_4 (by decide) ?_
  refine a_icmp_lt (tgt := 11) d_Tracks_add_6 rfl (fun c1 => ?_) (fun c1 => ?_)
  · have h := h.1 c1
    refine a_aload_n (j := 0) d_Tracks_add_11 rfl rfl ?_
    refine b_getptr (q := 91) d_Tracks_add_12 fl_Tracks_9 io_90 rfl rfl rfl ?_
    refine a_aload_n (j := 0) d_Tracks_add_15 rfl rfl ?_
    refine b_getfield (v := fs_i (M 90 4)) d_Tracks_add_16 fl_Tracks_24 io_90 rfl ?_
    refine a_iload_n (j := 1) d_Tracks_add_19 rfl rfl ?_
    obtain ⟨o2, h⟩ := h
    refine b_iastore d_Tracks_add_20 ia_91 o2 c1 ?_
    refine a_aload_n (j := 0) d_Tracks_add_21 rfl rfl ?_
    refine b_getptr (q := 92) d_Tracks_add_22 fl_Tracks_15 io_90 rfl rfl rfl ?_
    refine a_aload_n (j := 0) d_Tracks_add_25 rfl rfl ?_
    refine b_getfield (v := fs_i (M 90 4)) d_Tracks_add_26 fl_Tracks_24 io_90 rfl ?_
    refine a_iload_n (j := 2) d_Tracks_add_29 rfl rfl ?_
    refine b_iastore d_Tracks_add_30 ia_92 o2 c1 ?_
    refine a_aload_n (j := 0) d_Tracks_add_31 rfl rfl ?_
    refine b_getptr (q := 93) d_Tracks_add_32 fl_Tracks_18 io_90 rfl rfl rfl ?_
    refine a_aload_n (j := 0) d_Tracks_add_35 rfl rfl ?_
    refine b_getfield (v := fs_i (M 90 4)) d_Tracks_add_36 fl_Tracks_24 io_90 rfl ?_
    refine a_iload_n (j := 3) d_Tracks_add_39 rfl rfl ?_
    refine b_iastore d_Tracks_add_40 ia_93 o2 c1 ?_
    refine a_aload_n (j := 0) d_Tracks_add_41 rfl rfl ?_
    refine b_getptr (q := 94) d_Tracks_add_42 fl_Tracks_21 io_90 rfl rfl rfl ?_
    refine a_aload_n (j := 0) d_Tracks_add_45 rfl rfl ?_
    refine b_getfield (v := fs_i (M 90 4)) d_Tracks_add_46 fl_Tracks_24 io_90 rfl ?_
    refine a_iload (j := 4) d_Tracks_add_49 rfl ?_
    refine b_iastore d_Tracks_add_51 ia_94 o2 c1 ?_
    refine a_aload_n (j := 0) d_Tracks_add_52 rfl rfl ?_
    refine a_dup d_Tracks_add_53 rfl ?_
    refine b_getfield (v := fs_i (M 90 4)) d_Tracks_add_54 fl_Tracks_24 io_90 rfl ?_
    refine a_iconst d_Tracks_add_57 (by unfold fs_in32; omega) ?_
    refine a_iadd d_Tracks_add_58 ?_
    refine b_putfield (x := (fs_w32 ((M 90 4) + 1))) d_Tracks_add_59 fl_Tracks_24 io_90 rfl rfl fs_nar_int ?_
    refine a_aload_n (j := 0) d_Tracks_add_62 rfl rfl ?_
    refine b_getfield (v := fs_i (fs_w32 ((M 90 4) + 1))) d_Tracks_add_63 fl_Tracks_24 io_90 rfl ?_
    refine a_iconst d_Tracks_add_66 (by unfold fs_in32; omega) ?_
    refine a_isub d_Tracks_add_67 ?_
    exact b_ireturn d_Tracks_add_68 rfl rfl h
  · have h := h.2 c1
    refine a_iconst d_Tracks_add_9 (by unfold fs_in32; omega) ?_
    exact b_ireturn d_Tracks_add_10 rfl rfl h
set_option maxRecDepth 8000 in
set_option maxHeartbeats 4000000 in
theorem E_Tracks_standing {M : fs_M} {K : fs_K} 
    (h : fs_C2 g m_Tracks_knownLength 1 [fs_r 90] M (fun v M1 => ∃ r1, v = some (fs_i r1) ∧ fs_C2 g m_Tracks_knownLength 1 [fs_r 90] M1 (fun v M2 => ∃ r2, v = some (fs_i r2) ∧ fs_A2 g m_Tracks_standing 2 16 [(0, fs_r 90), (1, fs_i (fs_w32 ((fs_shl 1 r1) - 1))), (2, fs_i (fs_w32 (r2 - 1)))] [] M2 K))) :
    fs_C2 g m_Tracks_standing 2 [fs_r 90] M K := by
  refine b_enter2 (ls := [(0, fs_r 90)]) (plainFor_of_name pn_Tracks) (Nat.le_of_ble_eq_true rfl) rfl ?_
  refine a_iconst d_Tracks_standing_0 (by unfold fs_in32; omega) ?_
  refine a_aload_n (j := 0) d_Tracks_standing_1 rfl rfl ?_
  refine b_virtual (dc := 1) (ci := 9) (T := fs_T9) (N := 6) [] [fs_i 1] d_Tracks_standing_2 ml_Tracks_31 k_Tracks_knownLength v_Tracks_knownLength rfl io_90 rfl (Nat.le_of_ble_eq_true rfl) rfl (Nat.le_of_ble_eq_true rfl) ?_
  refine fs_Call.mono (fun v M1 hv => ?_) h
  obtain ⟨r1, rfl, h⟩ := hv
  show fs_A2 g m_Tracks_standing 2 5 [(0, fs_r 90)] [fs_i r1, fs_i 1] M1 K
  refine a_ishl d_Tracks_standing_5 ?_
  refine a_iconst d_Tracks_standing_6 (by unfold fs_in32; omega) ?_
  refine a_isub d_Tracks_standing_7 ?_
  refine a_istore_n d_Tracks_standing_8 rfl (Nat.le_of_ble_eq_true rfl) [1, 0] rfl ?_
  refine a_aload_n (j := 0) d_Tracks_standing_9 rfl rfl ?_
  refine b_virtual (dc := 1) (ci := 9) (T := fs_T9) (N := 6) [] [] d_Tracks_standing_10 ml_Tracks_31 k_Tracks_knownLength v_Tracks_knownLength rfl io_90 rfl (Nat.le_of_ble_eq_true rfl) rfl (Nat.le_of_ble_eq_true rfl) ?_
  refine fs_Call.mono (fun v M2 hv => ?_) h
  obtain ⟨r2, rfl, h⟩ := hv
  show fs_A2 g m_Tracks_standing 2 13 [(0, fs_r 90), (1, fs_i (fs_w32 ((fs_shl 1 r1) - 1)))] [fs_i r2] M2 K
  refine a_iconst d_Tracks_standing_13 (by unfold fs_in32; omega) ?_
  refine a_isub d_Tracks_standing_14 ?_
  refine a_istore_n d_Tracks_standing_15 rfl (Nat.le_of_ble_eq_true rfl) [1, 2, 0] rfl ?_
  exact h
set_option maxRecDepth 8000 in
set_option maxHeartbeats 4000000 in
theorem L_Tracks_standing_16 {M : fs_M} {K : fs_K} {x1 x2 : Int} 
    (h : ((x2 < 0 → K (some (fs_i x1)) M) ∧ (¬ x2 < 0 → fs_C2 g m_Fs_bit 1 [fs_i x1, fs_i x2] M (fun v M3 => ∃ r3, v = some (fs_i r3) ∧ ((¬ r3 = 1 → fs_A2 g m_Tracks_standing 2 16 [(0, fs_r 90), (1, fs_i x1), (2, fs_i (fs_w32 (x2 + (-1))))] [] M3 K) ∧ (r3 = 1 → (x2 < 24 ∧ ((M3 94 x2 = (-1) → fs_A2 g m_Tracks_standing 2 16 [(0, fs_r 90), (1, fs_i x1), (2, fs_i (fs_w32 (x2 + (-1))))] [] M3 K) ∧ (¬ M3 94 x2 = (-1) → fs_A2 g m_Tracks_standing 2 16 [(0, fs_r 90), (1, fs_i (fs_and x1 (fs_xor (fs_shl 1 (M3 94 x2)) (-1)))), (2, fs_i (fs_w32 (x2 + (-1))))] [] M3 K))))))))) :
    fs_A2 g m_Tracks_standing 2 16 [(0, fs_r 90), (1, fs_i x1), (2, fs_i x2)] [] M K := by
  refine a_iload_n (j := 2) d_Tracks_standing_16 rfl rfl ?_
  refine a_if_lt (tgt := 58) d_Tracks_standing_17 rfl (fun c1 => ?_) (fun c1 => ?_)
  · have h := h.1 c1
    refine a_iload_n (j := 1) d_Tracks_standing_58 rfl rfl ?_
    exact b_ireturn d_Tracks_standing_59 rfl rfl h
  · have h := h.2 c1
    refine a_iload_n (j := 1) d_Tracks_standing_20 rfl rfl ?_
    refine a_iload_n (j := 2) d_Tracks_standing_21 rfl rfl ?_
    refine b_static (dc := 1) [fs_i x1, fs_i x2] [] d_Tracks_standing_22 ml_Tracks_35 k_Fs_bit s_Fs_bit rfl (Nat.le_of_ble_eq_true rfl) rfl (Nat.le_of_ble_eq_true rfl) ?_
    refine fs_Call.mono (fun v M3 hv => ?_) h
    obtain ⟨r3, rfl, h⟩ := hv
    show fs_A2 g m_Tracks_standing 2 25 [(0, fs_r 90), (1, fs_i x1), (2, fs_i x2)] [fs_i r3] M3 K
    refine a_iconst d_Tracks_standing_25 (by unfold fs_in32; omega) ?_
    refine a_icmp_ne (tgt := 52) d_Tracks_standing_26 rfl (fun c2 => ?_) (fun c2 => ?_)
    · have h := h.1 c2
      refine a_iinc (j := 2) d_Tracks_standing_52 rfl (Nat.le_of_ble_eq_true rfl) [1, 2, 0] rfl ?_
      refine a_goto (tgt := 16) d_Tracks_standing_55 rfl ?_
      exact h
    · have h := h.2 c2
      refine a_aload_n (j := 0) d_Tracks_standing_29 rfl rfl ?_
      refine b_getptr (q := 94) d_Tracks_standing_30 fl_Tracks_21 io_90 rfl rfl rfl ?_
      refine a_iload_n (j := 2) d_Tracks_standing_33 rfl rfl ?_
      obtain ⟨o3, h⟩ := h
      refine b_iaload (v := M3 94 x2) d_Tracks_standing_34 ia_94 (by omega) o3 rfl ?_
      refine a_iconst d_Tracks_standing_35 (by unfold fs_in32; omega) ?_
      refine a_icmp_eq (tgt := 52) d_Tracks_standing_36 rfl (fun c4 => ?_) (fun c4 => ?_)
      · have h := h.1 c4
        refine a_iinc (j := 2) d_Tracks_standing_52 rfl (Nat.le_of_ble_eq_true rfl) [1, 2, 0] rfl ?_
        refine a_goto (tgt := 16) d_Tracks_standing_55 rfl ?_
        exact h
      · have h := h.2 c4
        refine a_iload_n (j := 1) d_Tracks_standing_39 rfl rfl ?_
        refine a_iconst d_Tracks_standing_40 (by unfold fs_in32; omega) ?_
        refine a_aload_n (j := 0) d_Tracks_standing_41 rfl rfl ?_
        refine b_getptr (q := 94) d_Tracks_standing_42 fl_Tracks_21 io_90 rfl rfl rfl ?_
        refine a_iload_n (j := 2) d_Tracks_standing_45 rfl rfl ?_
        refine b_iaload (v := M3 94 x2) d_Tracks_standing_46 ia_94 (by omega) o3 rfl ?_
        refine a_ishl d_Tracks_standing_47 ?_
        refine a_iconst d_Tracks_standing_48 (by unfold fs_in32; omega) ?_
        refine a_ixor d_Tracks_standing_49 ?_
        refine a_iand d_Tracks_standing_50 ?_
        refine a_istore_n d_Tracks_standing_51 rfl (Nat.le_of_ble_eq_true rfl) [1, 0, 2] rfl ?_
        refine a_iinc (j := 2) d_Tracks_standing_52 rfl (Nat.le_of_ble_eq_true rfl) [1, 2, 0] rfl ?_
        refine a_goto (tgt := 16) d_Tracks_standing_55 rfl ?_
        exact h
set_option maxRecDepth 8000 in
set_option maxHeartbeats 4000000 in
theorem E_Tracks_knownLength {M : fs_M} {K : fs_K} 
    (h : ((¬ M 90 5 = (-1) → K (some (fs_i (M 90 5))) M) ∧ (M 90 5 = (-1) → K (some (fs_i (M 90 4))) M))) :
    fs_C2 g m_Tracks_knownLength 1 [fs_r 90] M K := by
  refine b_enter2 (ls := [(0, fs_r 90)]) (plainFor_of_name pn_Tracks) (Nat.le_of_ble_eq_true rfl) rfl ?_
  refine a_aload_n (j := 0) d_Tracks_knownLength_0 rfl rfl ?_
  refine b_getfield (v := fs_i (M 90 5)) d_Tracks_knownLength_1 fl_Tracks_28 io_90 rfl ?_
  refine a_iconst d_Tracks_knownLength_4 (by unfold fs_in32; omega) ?_
  refine a_icmp_ne (tgt := 15) d_Tracks_knownLength_5 rfl (fun c1 => ?_) (fun c1 => ?_)
  · have h := h.1 c1
    refine a_aload_n (j := 0) d_Tracks_knownLength_15 rfl rfl ?_
    refine b_getfield (v := fs_i (M 90 5)) d_Tracks_knownLength_16 fl_Tracks_28 io_90 rfl ?_
    exact b_ireturn d_Tracks_knownLength_19 rfl rfl h
  · have h := h.2 c1
    refine a_aload_n (j := 0) d_Tracks_knownLength_8 rfl rfl ?_
    refine b_getfield (v := fs_i (M 90 4)) d_Tracks_knownLength_9 fl_Tracks_24 io_90 rfl ?_
    refine a_goto (tgt := 19) d_Tracks_knownLength_12 rfl ?_
    exact b_ireturn d_Tracks_knownLength_19 rfl rfl h
set_option maxRecDepth 8000 in
set_option maxHeartbeats 4000000 in
theorem E_Tracks_agree {M : fs_M} {K : fs_K} {x1 x2 x3 : Int} 
    (h : fs_A2 g m_Tracks_agree 2 3 [(0, fs_r 90), (1, fs_i x1), (2, fs_i x2), (3, fs_l x3), (5, fs_i 0)] [] M K) :
    fs_C2 g m_Tracks_agree 2 [fs_r 90, fs_i x1, fs_i x2, fs_l x3] M K := by
  refine b_enter2 (ls := [(0, fs_r 90), (1, fs_i x1), (2, fs_i x2), (3, fs_l x3)]) (plainFor_of_name pn_Tracks) (Nat.le_of_ble_eq_true rfl) rfl ?_
  refine a_iconst d_Tracks_agree_0 (by unfold fs_in32; omega) ?_
  refine a_istore d_Tracks_agree_1 (Nat.le_of_ble_eq_true rfl) [1, 2, 3, 4, 0] rfl ?_
  exact h
set_option maxRecDepth 8000 in
set_option maxHeartbeats 4000000 in
theorem L_Tracks_agree_3 {M : fs_M} {K : fs_K} {x1 x2 x3 x5 : Int} 
    (h : ((M 90 4 ≤ x5 → K (some (fs_i 1)) M) ∧ (¬ M 90 4 ≤ x5 → fs_C2 g m_Fs_bit 1 [fs_i x1, fs_i x5] M (fun v M1 => ∃ r1, v = some (fs_i r1) ∧ ((¬ r1 = 1 → fs_A2 g m_Tracks_agree 2 3 [(0, fs_r 90), (1, fs_i x1), (2, fs_i x2), (3, fs_l x3), (5, fs_i (fs_w32 (x5 + 1)))] [] M1 K) ∧ (r1 = 1 → (0 ≤ x5 ∧ x5 < 24 ∧ ((¬ M1 94 x5 = (-1) → fs_A2 g m_Tracks_agree 2 3 [(0, fs_r 90), (1, fs_i x1), (2, fs_i x2), (3, fs_l x3), (5, fs_i (fs_w32 (x5 + 1)))] [] M1 K) ∧ (M1 94 x5 = (-1) → ((¬ M1 91 x5 = x2 → fs_A2 g m_Tracks_agree 2 3 [(0, fs_r 90), (1, fs_i x1), (2, fs_i x2), (3, fs_l x3), (5, fs_i (fs_w32 (x5 + 1)))] [] M1 K) ∧ (M1 91 x5 = x2 → fs_C2 g m_Book_minuteOf 1 [fs_l x3, fs_i (M1 92 x5)] M1 (fun v M2 => ∃ r2, v = some (fs_i r2) ∧ ((r2 = M2 93 x5 → fs_A2 g m_Tracks_agree 2 3 [(0, fs_r 90), (1, fs_i x1), (2, fs_i x2), (3, fs_l x3), (5, fs_i (fs_w32 (x5 + 1)))] [] M2 K) ∧ (¬ r2 = M2 93 x5 → K (some (fs_i 0)) M2)))))))))))))) :
    fs_A2 g m_Tracks_agree 2 3 [(0, fs_r 90), (1, fs_i x1), (2, fs_i x2), (3, fs_l x3), (5, fs_i x5)] [] M K := by
  refine a_iload (j := 4) d_Tracks_agree_3 rfl ?_
  refine a_aload_n (j := 0) d_Tracks_agree_5 rfl rfl ?_
  refine b_getfield (v := fs_i (M 90 4)) d_Tracks_agree_6 fl_Tracks_24 io_90 rfl ?_
  refine a_icmp_ge (tgt := 73) d_Tracks_agree_9 rfl (fun c1 => ?_) (fun c1 => ?_)
  · have h := h.1 c1
    refine a_iconst d_Tracks_agree_73 (by unfold fs_in32; omega) ?_
    exact b_ireturn d_Tracks_agree_74 rfl (fs_nar01 (Or.inr rfl)) h
  · have h := h.2 c1
    refine a_iload_n (j := 1) d_Tracks_agree_12 rfl rfl ?_
    refine a_iload (j := 4) d_Tracks_agree_13 rfl ?_
    refine b_static (dc := 1) [fs_i x1, fs_i x5] [] d_Tracks_agree_15 ml_Tracks_35 k_Fs_bit s_Fs_bit rfl (Nat.le_of_ble_eq_true rfl) rfl (Nat.le_of_ble_eq_true rfl) ?_
    refine fs_Call.mono (fun v M1 hv => ?_) h
    obtain ⟨r1, rfl, h⟩ := hv
    show fs_A2 g m_Tracks_agree 2 18 [(0, fs_r 90), (1, fs_i x1), (2, fs_i x2), (3, fs_l x3), (5, fs_i x5)] [fs_i r1] M1 K
    refine a_iconst d_Tracks_agree_18 (by unfold fs_in32; omega) ?_
    refine a_icmp_ne (tgt := 67) d_Tracks_agree_19 rfl (fun c2 => ?_) (fun c2 => ?_)
    · have h := h.1 c2
      refine a_iinc (j := 4) d_Tracks_agree_67 rfl (Nat.le_of_ble_eq_true rfl) [1, 2, 3, 4, 0] rfl ?_
      refine a_goto (tgt := 3) d_Tracks_agree_70 rfl ?_
      exact h
    · have h := h.2 c2
      refine a_aload_n (j := 0) d_Tracks_agree_22 rfl rfl ?_
      refine b_getptr (q := 94) d_Tracks_agree_23 fl_Tracks_21 io_90 rfl rfl rfl ?_
      refine a_iload (j := 4) d_Tracks_agree_26 rfl ?_
      obtain ⟨o3, o4, h⟩ := h
      refine b_iaload (v := M1 94 x5) d_Tracks_agree_28 ia_94 o3 o4 rfl ?_
      refine a_iconst d_Tracks_agree_29 (by unfold fs_in32; omega) ?_
      refine a_icmp_ne (tgt := 67) d_Tracks_agree_30 rfl (fun c5 => ?_) (fun c5 => ?_)
      · have h := h.1 c5
        refine a_iinc (j := 4) d_Tracks_agree_67 rfl (Nat.le_of_ble_eq_true rfl) [1, 2, 3, 4, 0] rfl ?_
        refine a_goto (tgt := 3) d_Tracks_agree_70 rfl ?_
        exact h
      · have h := h.2 c5
        refine a_aload_n (j := 0) d_Tracks_agree_33 rfl rfl ?_
        refine b_getptr (q := 91) d_Tracks_agree_34 fl_Tracks_9 io_90 rfl rfl rfl ?_
        refine a_iload (j := 4) d_Tracks_agree_37 rfl ?_
        refine b_iaload (v := M1 91 x5) d_Tracks_agree_39 ia_91 o3 o4 rfl ?_
        refine a_iload_n (j := 2) d_Tracks_agree_40 rfl rfl ?_
        refine a_icmp_ne (tgt := 67) d_Tracks_agree_41 rfl (fun c6 => ?_) (fun c6 => ?_)
        · have h := h.1 c6
          refine a_iinc (j := 4) d_Tracks_agree_67 rfl (Nat.le_of_ble_eq_true rfl) [1, 2, 3, 4, 0] rfl ?_
          refine a_goto (tgt := 3) d_Tracks_agree_70 rfl ?_
          exact h
        · have h := h.2 c6
          refine a_lload_n (j := 3) d_Tracks_agree_44 rfl rfl ?_
          refine a_aload_n (j := 0) d_Tracks_agree_45 rfl rfl ?_
          refine b_getptr (q := 92) d_Tracks_agree_46 fl_Tracks_15 io_90 rfl rfl rfl ?_
          refine a_iload (j := 4) d_Tracks_agree_49 rfl ?_
          refine b_iaload (v := M1 92 x5) d_Tracks_agree_51 ia_92 o3 o4 rfl ?_
          refine b_static (dc := 1) [fs_l x3, fs_i (M1 92 x5)] [] d_Tracks_agree_52 ml_Tracks_39 k_Book_minuteOf s_Book_minuteOf rfl (Nat.le_of_ble_eq_true rfl) rfl (Nat.le_of_ble_eq_true rfl) ?_
          refine fs_Call.mono (fun v M2 hv => ?_) h
          obtain ⟨r2, rfl, h⟩ := hv
          show fs_A2 g m_Tracks_agree 2 55 [(0, fs_r 90), (1, fs_i x1), (2, fs_i x2), (3, fs_l x3), (5, fs_i x5)] [fs_i r2] M2 K
          refine a_aload_n (j := 0) d_Tracks_agree_55 rfl rfl ?_
          refine b_getptr (q := 93) d_Tracks_agree_56 fl_Tracks_18 io_90 rfl rfl rfl ?_
          refine a_iload (j := 4) d_Tracks_agree_59 rfl ?_
          refine b_iaload (v := M2 93 x5) d_Tracks_agree_61 ia_93 o3 o4 rfl ?_
          refine a_icmp_eq (tgt := 67) d_Tracks_agree_62 rfl (fun c7 => ?_) (fun c7 => ?_)
          · have h := h.1 c7
            refine a_iinc (j := 4) d_Tracks_agree_67 rfl (Nat.le_of_ble_eq_true rfl) [1, 2, 3, 4, 0] rfl ?_
            refine a_goto (tgt := 3) d_Tracks_agree_70 rfl ?_
            exact h
          · have h := h.2 c7
            refine a_iconst d_Tracks_agree_65 (by unfold fs_in32; omega) ?_
            exact b_ireturn d_Tracks_agree_66 rfl (fs_nar01 (Or.inl rfl)) h
end WALK
