-- ===== printed by program (wip/whole/gen12.py): what must hold at a method's entry, at its labels =====
section WALK
variable {g : fs_G}
set_option maxRecDepth 8000 in
set_option maxHeartbeats 4000000 in
theorem E_Mo_knot {M : fs_M} {K : fs_K} 
    (h : ((M 226 23 = 0 → ((¬ M 226 28 = 64 → K none (fs_st M 226 28 (fs_w32 ((M 226 28) + 1)))) ∧ (M 226 28 = 64 → fs_C2 g m_Mo_wrong 1 [fs_r 226, fs_i 2] M (fun v M1 => v = none ∧ K none M1)))) ∧ (¬ M 226 23 = 0 → K none M))) :
    fs_C2 g m_Mo_knot 2 [fs_r 226] M K := by
  refine b_enter2 (ls := [(0, fs_r 226)]) (plainFor_of_name pn_Mo) (Nat.le_of_ble_eq_true rfl) rfl ?_
  refine a_aload_n (j := 0) d_Mo_knot_0 rfl rfl ?_
  refine b_getfield (v := fs_i (M 226 23)) d_Mo_knot_1 fl_Mo_214 io_226 rfl ?_
  refine a_if_eq (tgt := 8) d_Mo_knot_4 rfl (fun c1 => ?_) (fun c1 => ?_)
  · have h := h.1 c1
    refine a_aload_n (j := 0) d_Mo_knot_8 rfl rfl ?_
    refine b_getfield (v := fs_i (M 226 28)) d_Mo_knot_9 fl_Mo_263 io_226 rfl ?_
    refine a_bipush d_Mo_knot_12 (by decide) ?_
    refine a_icmp_ne (tgt := 25) d_Mo_knot_14 rfl (fun c2 => ?_) (fun c2 => ?_)
    · have h := h.1 c2
      refine a_aload_n (j := 0) d_Mo_knot_25 rfl rfl ?_
      refine a_dup d_Mo_knot_26 rfl ?_
      refine b_getfield (v := fs_i (M 226 28)) d_Mo_knot_27 fl_Mo_263 io_226 rfl ?_
      refine a_iconst d_Mo_knot_30 (by unfold fs_in32; omega) ?_
      refine a_iadd d_Mo_knot_31 ?_
      refine b_putfield (x := (fs_w32 ((M 226 28) + 1))) d_Mo_knot_32 fl_Mo_263 io_226 rfl rfl fs_nar_int ?_
      exact b_return d_Mo_knot_35 rfl h
    · have h := h.2 c2
      refine a_aload_n (j := 0) d_Mo_knot_17 rfl rfl ?_
      refine a_iconst d_Mo_knot_18 (by unfold fs_in32; omega) ?_
      refine b_virtual (dc := 1) (ci := 11) (T := fs_T11) (N := 78) [fs_i 2] [] d_Mo_knot_19 ml_Mo_223 k_Mo_wrong v_Mo_wrong rfl io_226 rfl (Nat.le_of_ble_eq_true rfl) rfl (Nat.le_of_ble_eq_true rfl) ?_
      refine fs_Call.mono (fun v M1 hv => ?_) h
      obtain ⟨rfl, h⟩ := hv
      show fs_A2 g m_Mo_knot 2 22 [(0, fs_r 226)] [] M1 K
      refine a_goto (tgt := 35) d_Mo_knot_22 rfl ?_
      exact b_return d_Mo_knot_35 rfl h
  · have h := h.2 c1
    exact b_return d_Mo_knot_7 rfl h
set_option maxRecDepth 8000 in
set_option maxHeartbeats 4000000 in
theorem E_Mo_goOn {M : fs_M} {K : fs_K} 
    (h : ((¬ M 226 23 = 0 → K none M) ∧ (M 226 23 = 0 → fs_C2 g m_Mo_token 6 [fs_r 226] M (fun v M1 => v = none ∧ K none M1)))) :
    fs_C2 g m_Mo_goOn 7 [fs_r 226] M K := by
  refine b_enter2 (ls := [(0, fs_r 226)]) (plainFor_of_name pn_Mo) (Nat.le_of_ble_eq_true rfl) rfl ?_
  refine a_aload_n (j := 0) d_Mo_goOn_0 rfl rfl ?_
  refine b_getfield (v := fs_i (M 226 23)) d_Mo_goOn_1 fl_Mo_214 io_226 rfl ?_
  refine a_if_ne (tgt := 11) d_Mo_goOn_4 rfl (fun c1 => ?_) (fun c1 => ?_)
  · have h := h.1 c1
    exact b_return d_Mo_goOn_11 rfl h
  · have h := h.2 c1
    refine a_aload_n (j := 0) d_Mo_goOn_7 rfl rfl ?_
    refine b_virtual (dc := 6) (ci := 11) (T := fs_T11) (N := 78) [] [] d_Mo_goOn_8 ml_Mo_220 k_Mo_token v_Mo_token rfl io_226 rfl (Nat.le_of_ble_eq_true rfl) rfl (Nat.le_of_ble_eq_true rfl) ?_
    refine fs_Call.mono (fun v M1 hv => ?_) h
    obtain ⟨rfl, h⟩ := hv
    show fs_A2 g m_Mo_goOn 7 11 [(0, fs_r 226)] [] M1 K
    exact b_return d_Mo_goOn_11 rfl h
set_option maxRecDepth 8000 in
set_option maxHeartbeats 4000000 in
theorem E_Mo_puts {M : fs_M} {K : fs_K} {x1 x2 : Int} 
    (h : ((M 226 23 = 0 → fs_C2 g m_Mo_fresher 1 [fs_r 226, fs_i 3] M (fun v M1 => ∃ r1, v = some (fs_i r1) ∧ (0 ≤ fs_w32 (64 + r1) ∧ fs_w32 (64 + r1) < 128 ∧ fs_C2 g m_Mo_fresher 1 [fs_r 226, fs_i 3] (fs_st M1 239 (fs_w32 (64 + r1)) x1) (fun v M2 => ∃ r2, v = some (fs_i r2) ∧ (0 ≤ fs_w32 (64 + r2) ∧ fs_w32 (64 + r2) < 128 ∧ K none (fs_st (fs_st M2 240 (fs_w32 (64 + r2)) x2) 228 7 (fs_w32 ((M2 228 7) + 1)))))))) ∧ (¬ M 226 23 = 0 → K none M))) :
    fs_C2 g m_Mo_puts 2 [fs_r 226, fs_i x1, fs_i x2] M K := by
  refine b_enter2 (ls := [(0, fs_r 226), (1, fs_i x1), (2, fs_i x2)]) (plainFor_of_name pn_Mo) (Nat.le_of_ble_eq_true rfl) rfl ?_
  refine a_aload_n (j := 0) d_Mo_puts_0 rfl rfl ?_
  refine b_getfield (v := fs_i (M 226 23)) d_Mo_puts_1 fl_Mo_214 io_226 rfl ?_
  refine a_if_eq (tgt := 8) d_Mo_puts_4 rfl (fun c1 => ?_) (fun c1 => ?_)
  · have h := h.1 c1
    refine a_aload_n (j := 0) d_Mo_puts_8 rfl rfl ?_
    refine b_getptr (q := 239) d_Mo_puts_9 fl_Mo_47 io_226 rfl rfl rfl ?_
    refine a_bipush d_Mo_puts_12 (by decide) ?_
    refine a_aload_n (j := 0) d_Mo_puts_14 rfl rfl ?_
    refine a_iconst d_Mo_puts_15 (by unfold fs_in32; omega) ?_
    refine b_virtual (dc := 1) (ci := 11) (T := fs_T11) (N := 78) [fs_i 3] [fs_i 64, fs_r 239] d_Mo_puts_16 ml_Mo_230 k_Mo_fresher v_Mo_fresher rfl io_226 rfl (Nat.le_of_ble_eq_true rfl) rfl (Nat.le_of_ble_eq_true rfl) ?_
    refine fs_Call.mono (fun v M1 hv => ?_) h
    obtain ⟨r1, rfl, h⟩ := hv
    show fs_A2 g m_Mo_puts 2 19 [(0, fs_r 226), (1, fs_i x1), (2, fs_i x2)] [fs_i r1, fs_i 64, fs_r 239] M1 K
    refine a_iadd d_Mo_puts_19 ?_
    refine a_iload_n (j := 1) d_Mo_puts_20 rfl rfl ?_
    obtain ⟨o2, o3, h⟩ := h
    refine b_iastore d_Mo_puts_21 ia_239 o2 o3 ?_
    refine a_aload_n (j := 0) d_Mo_puts_22 rfl rfl ?_
    refine b_getptr (q := 240) d_Mo_puts_23 fl_Mo_50 io_226 rfl rfl rfl ?_
    refine a_bipush d_Mo_puts_26 (by decide) ?_
    refine a_aload_n (j := 0) d_Mo_puts_28 rfl rfl ?_
    refine a_iconst d_Mo_puts_29 (by unfold fs_in32; omega) ?_
    refine b_virtual (dc := 1) (ci := 11) (T := fs_T11) (N := 78) [fs_i 3] [fs_i 64, fs_r 240] d_Mo_puts_30 ml_Mo_230 k_Mo_fresher v_Mo_fresher rfl io_226 rfl (Nat.le_of_ble_eq_true rfl) rfl (Nat.le_of_ble_eq_true rfl) ?_
    refine fs_Call.mono (fun v M2 hv => ?_) h
    obtain ⟨r2, rfl, h⟩ := hv
    show fs_A2 g m_Mo_puts 2 33 [(0, fs_r 226), (1, fs_i x1), (2, fs_i x2)] [fs_i r2, fs_i 64, fs_r 240] M2 K
    refine a_iadd d_Mo_puts_33 ?_
    refine a_iload_n (j := 2) d_Mo_puts_34 rfl rfl ?_
    obtain ⟨o4, o5, h⟩ := h
    refine b_iastore d_Mo_puts_35 ia_240 o4 o5 ?_
    refine a_aload_n (j := 0) d_Mo_puts_36 rfl rfl ?_
    refine b_getptr (q := 228) d_Mo_puts_37 fl_Mo_13 io_226 rfl rfl rfl ?_
    refine a_bipush d_Mo_puts_40 (by decide) ?_
    refine a_dup2 d_Mo_puts_42 rfl rfl ?_
    refine b_iaload (v := M2 228 7) d_Mo_puts_43 ia_228 (by decide) (by decide) rfl ?_
    refine a_iconst d_Mo_puts_44 (by unfold fs_in32; omega) ?_
    refine a_iadd d_Mo_puts_45 ?_
    refine b_iastore d_Mo_puts_46 ia_228 (by decide) (by decide) ?_
    exact b_return d_Mo_puts_47 rfl h
  · have h := h.2 c1
    exact b_return d_Mo_puts_7 rfl h
set_option maxRecDepth 8000 in
set_option maxHeartbeats 4000000 in
theorem E_Mo_sum {d : Nat} (hd : 7 ≤ d) {M : fs_M} {K : fs_K} 
    (h : fs_C2 g m_Mo_product d [fs_r 226] M (fun v M1 => v = none ∧ fs_A2 g m_Mo_sum (d + 1) 4 [(0, fs_r 226)] [] M1 K)) :
    fs_C2 g m_Mo_sum (d + 1) [fs_r 226] M K := by
  refine b_enter2 (ls := [(0, fs_r 226)]) (plainFor_of_name pn_Mo) (Nat.le_of_ble_eq_true rfl) rfl ?_
  refine a_aload_n (j := 0) d_Mo_sum_0 rfl rfl ?_
  refine b_virtual (dc := d) (ci := 11) (T := fs_T11) (N := 78) [] [] d_Mo_sum_1 ml_Mo_285 k_Mo_product v_Mo_product rfl io_226 rfl (Nat.le_refl _) rfl (Nat.le_of_ble_eq_true rfl) ?_
  refine fs_Call.mono (fun v M1 hv => ?_) h
  obtain ⟨rfl, h⟩ := hv
  show fs_A2 g m_Mo_sum (d + 1) 4 [(0, fs_r 226)] [] M1 K
  exact h
set_option maxRecDepth 8000 in
set_option maxHeartbeats 4000000 in
theorem L_Mo_sum_4 {d : Nat} (hd : 7 ≤ d) {M : fs_M} {K : fs_K} 
    (h : fs_C2 g m_Mo_isSign 1 [fs_r 226, fs_i 43] M (fun v M2 => ∃ r2, v = some (fs_i r2) ∧ ((¬ r2 = 0 → fs_A2 g m_Mo_sum (d + 1) 22 [(0, fs_r 226)] [] M2 K) ∧ (r2 = 0 → fs_C2 g m_Mo_isSign 1 [fs_r 226, fs_i 45] M2 (fun v M3 => ∃ r3, v = some (fs_i r3) ∧ ((r3 = 0 → K none M3) ∧ (¬ r3 = 0 → fs_A2 g m_Mo_sum (d + 1) 22 [(0, fs_r 226)] [] M3 K))))))) :
    fs_A2 g m_Mo_sum (d + 1) 4 [(0, fs_r 226)] [] M K := by
  refine a_aload_n (j := 0) d_Mo_sum_4 rfl rfl ?_
  refine a_bipush d_Mo_sum_5 (by decide) ?_
  refine b_virtual (dc := 1) (ci := 11) (T := fs_T11) (N := 78) [fs_i 43] [] d_Mo_sum_7 ml_Mo_251 k_Mo_isSign v_Mo_isSign rfl io_226 rfl (by omega) rfl (Nat.le_of_ble_eq_true rfl) ?_
  refine fs_Call.mono (fun v M2 hv => ?_) h
  obtain ⟨r2, rfl, h⟩ := hv
  show fs_A2 g m_Mo_sum (d + 1) 10 [(0, fs_r 226)] [fs_i r2] M2 K
  refine a_if_ne (tgt := 22) d_Mo_sum_10 rfl (fun c1 => ?_) (fun c1 => ?_)
  · have h := h.1 c1
    exact h
  · have h := h.2 c1
    refine a_aload_n (j := 0) d_Mo_sum_13 rfl rfl ?_
    refine a_bipush d_Mo_sum_14 (by decide) ?_
    refine b_virtual (dc := 1) (ci := 11) (T := fs_T11) (N := 78) [fs_i 45] [] d_Mo_sum_16 ml_Mo_251 k_Mo_isSign v_Mo_isSign rfl io_226 rfl (by omega) rfl (Nat.le_of_ble_eq_true rfl) ?_
    refine fs_Call.mono (fun v M3 hv => ?_) h
    obtain ⟨r3, rfl, h⟩ := hv
    show fs_A2 g m_Mo_sum (d + 1) 19 [(0, fs_r 226)] [fs_i r3] M3 K
    refine a_if_eq (tgt := 48) d_Mo_sum_19 rfl (fun c2 => ?_) (fun c2 => ?_)
    · have h := h.1 c2
      exact b_return d_Mo_sum_48 rfl h
    · have h := h.2 c2
      exact h
set_option maxRecDepth 8000 in
set_option maxHeartbeats 4000000 in
theorem L_Mo_sum_22 {d : Nat} (hd : 7 ≤ d) {M : fs_M} {K : fs_K} 
    (h : fs_C2 g m_Mo_knot 2 [fs_r 226] M (fun v M4 => v = none ∧ fs_C2 g m_Mo_goOn 7 [fs_r 226] M4 (fun v M5 => v = none ∧ fs_C2 g m_Mo_product d [fs_r 226] M5 (fun v M6 => v = none ∧ fs_C2 g m_Mo_puts 2 [fs_r 226, fs_i 2, fs_i (M 226 22)] M6 (fun v M7 => v = none ∧ fs_A2 g m_Mo_sum (d + 1) 4 [(0, fs_r 226)] [] M7 K))))) :
    fs_A2 g m_Mo_sum (d + 1) 22 [(0, fs_r 226)] [] M K := by
  refine a_aload_n (j := 0) d_Mo_sum_22 rfl rfl ?_
  refine b_getfield (v := fs_i (M 226 22)) d_Mo_sum_23 fl_Mo_189 io_226 rfl ?_
  refine a_istore_n d_Mo_sum_26 rfl (Nat.le_of_ble_eq_true rfl) [1, 0] rfl ?_
  refine a_aload_n (j := 0) d_Mo_sum_27 rfl rfl ?_
  refine b_virtual (dc := 2) (ci := 11) (T := fs_T11) (N := 78) [] [] d_Mo_sum_28 ml_Mo_269 k_Mo_knot v_Mo_knot rfl io_226 rfl (by omega) rfl (Nat.le_of_ble_eq_true rfl) ?_
  refine fs_Call.mono (fun v M4 hv => ?_) h
  obtain ⟨rfl, h⟩ := hv
  show fs_A2 g m_Mo_sum (d + 1) 31 [(0, fs_r 226), (1, fs_i (M 226 22))] [] M4 K
  refine a_aload_n (j := 0) d_Mo_sum_31 rfl rfl ?_
  refine b_virtual (dc := 7) (ci := 11) (T := fs_T11) (N := 78) [] [] d_Mo_sum_32 ml_Mo_272 k_Mo_goOn v_Mo_goOn rfl io_226 rfl (by omega) rfl (Nat.le_of_ble_eq_true rfl) ?_
  refine fs_Call.mono (fun v M5 hv => ?_) h
  obtain ⟨rfl, h⟩ := hv
  show fs_A2 g m_Mo_sum (d + 1) 35 [(0, fs_r 226), (1, fs_i (M 226 22))] [] M5 K
  refine a_aload_n (j := 0) d_Mo_sum_35 rfl rfl ?_
  refine b_virtual (dc := d) (ci := 11) (T := fs_T11) (N := 78) [] [] d_Mo_sum_36 ml_Mo_285 k_Mo_product v_Mo_product rfl io_226 rfl (Nat.le_refl _) rfl (Nat.le_of_ble_eq_true rfl) ?_
  refine fs_Call.mono (fun v M6 hv => ?_) h
  obtain ⟨rfl, h⟩ := hv
  show fs_A2 g m_Mo_sum (d + 1) 39 [(0, fs_r 226), (1, fs_i (M 226 22))] [] M6 K
  refine a_aload_n (j := 0) d_Mo_sum_39 rfl rfl ?_
  refine a_iconst d_Mo_sum_40 (by unfold fs_in32; omega) ?_
  refine a_iload_n (j := 1) d_Mo_sum_41 rfl rfl ?_
  refine b_virtual (dc := 2) (ci := 11) (T := fs_T11) (N := 78) [fs_i 2, fs_i (M 226 22)] [] d_Mo_sum_42 ml_Mo_275 k_Mo_puts v_Mo_puts rfl io_226 rfl (by omega) rfl (Nat.le_of_ble_eq_true rfl) ?_
  refine fs_Call.mono (fun v M7 hv => ?_) h
  obtain ⟨rfl, h⟩ := hv
  show fs_A2 g m_Mo_sum (d + 1) 45 [(0, fs_r 226), (1, fs_i (M 226 22))] [] M7 K
  refine a_goto (tgt := 4) d_Mo_sum_45 rfl ?_
  refine a_sub [0] rfl ?_
  exact h
set_option maxRecDepth 8000 in
set_option maxHeartbeats 4000000 in
theorem E_Mo_product {d : Nat} (hd : 7 ≤ d) {M : fs_M} {K : fs_K} 
    (h : fs_C2 g m_Mo_primary d [fs_r 226] M (fun v M1 => v = none ∧ fs_A2 g m_Mo_product (d + 1) 4 [(0, fs_r 226)] [] M1 K)) :
    fs_C2 g m_Mo_product (d + 1) [fs_r 226] M K := by
  refine b_enter2 (ls := [(0, fs_r 226)]) (plainFor_of_name pn_Mo) (Nat.le_of_ble_eq_true rfl) rfl ?_
  refine a_aload_n (j := 0) d_Mo_product_0 rfl rfl ?_
  refine b_virtual (dc := d) (ci := 11) (T := fs_T11) (N := 78) [] [] d_Mo_product_1 ml_Mo_288 k_Mo_primary v_Mo_primary rfl io_226 rfl (Nat.le_refl _) rfl (Nat.le_of_ble_eq_true rfl) ?_
  refine fs_Call.mono (fun v M1 hv => ?_) h
  obtain ⟨rfl, h⟩ := hv
  show fs_A2 g m_Mo_product (d + 1) 4 [(0, fs_r 226)] [] M1 K
  exact h
set_option maxRecDepth 8000 in
set_option maxHeartbeats 4000000 in
theorem L_Mo_product_4 {d : Nat} (hd : 7 ≤ d) {M : fs_M} {K : fs_K} 
    (h : fs_C2 g m_Mo_isSign 1 [fs_r 226, fs_i 42] M (fun v M2 => ∃ r2, v = some (fs_i r2) ∧ ((¬ r2 = 0 → fs_A2 g m_Mo_product (d + 1) 22 [(0, fs_r 226)] [] M2 K) ∧ (r2 = 0 → fs_C2 g m_Mo_isSign 1 [fs_r 226, fs_i 47] M2 (fun v M3 => ∃ r3, v = some (fs_i r3) ∧ ((r3 = 0 → K none M3) ∧ (¬ r3 = 0 → fs_A2 g m_Mo_product (d + 1) 22 [(0, fs_r 226)] [] M3 K))))))) :
    fs_A2 g m_Mo_product (d + 1) 4 [(0, fs_r 226)] [] M K := by
  refine a_aload_n (j := 0) d_Mo_product_4 rfl rfl ?_
  refine a_bipush d_Mo_product_5 (by decide) ?_
  refine b_virtual (dc := 1) (ci := 11) (T := fs_T11) (N := 78) [fs_i 42] [] d_Mo_product_7 ml_Mo_251 k_Mo_isSign v_Mo_isSign rfl io_226 rfl (by omega) rfl (Nat.le_of_ble_eq_true rfl) ?_
  refine fs_Call.mono (fun v M2 hv => ?_) h
  obtain ⟨r2, rfl, h⟩ := hv
  show fs_A2 g m_Mo_product (d + 1) 10 [(0, fs_r 226)] [fs_i r2] M2 K
  refine a_if_ne (tgt := 22) d_Mo_product_10 rfl (fun c1 => ?_) (fun c1 => ?_)
  · have h := h.1 c1
    exact h
  · have h := h.2 c1
    refine a_aload_n (j := 0) d_Mo_product_13 rfl rfl ?_
    refine a_bipush d_Mo_product_14 (by decide) ?_
    refine b_virtual (dc := 1) (ci := 11) (T := fs_T11) (N := 78) [fs_i 47] [] d_Mo_product_16 ml_Mo_251 k_Mo_isSign v_Mo_isSign rfl io_226 rfl (by omega) rfl (Nat.le_of_ble_eq_true rfl) ?_
    refine fs_Call.mono (fun v M3 hv => ?_) h
    obtain ⟨r3, rfl, h⟩ := hv
    show fs_A2 g m_Mo_product (d + 1) 19 [(0, fs_r 226)] [fs_i r3] M3 K
    refine a_if_eq (tgt := 48) d_Mo_product_19 rfl (fun c2 => ?_) (fun c2 => ?_)
    · have h := h.1 c2
      exact b_return d_Mo_product_48 rfl h
    · have h := h.2 c2
      exact h
set_option maxRecDepth 8000 in
set_option maxHeartbeats 4000000 in
theorem L_Mo_product_22 {d : Nat} (hd : 7 ≤ d) {M : fs_M} {K : fs_K} 
    (h : fs_C2 g m_Mo_knot 2 [fs_r 226] M (fun v M4 => v = none ∧ fs_C2 g m_Mo_goOn 7 [fs_r 226] M4 (fun v M5 => v = none ∧ fs_C2 g m_Mo_primary d [fs_r 226] M5 (fun v M6 => v = none ∧ fs_C2 g m_Mo_puts 2 [fs_r 226, fs_i 2, fs_i (M 226 22)] M6 (fun v M7 => v = none ∧ fs_A2 g m_Mo_product (d + 1) 4 [(0, fs_r 226)] [] M7 K))))) :
    fs_A2 g m_Mo_product (d + 1) 22 [(0, fs_r 226)] [] M K := by
  refine a_aload_n (j := 0) d_Mo_product_22 rfl rfl ?_
  refine b_getfield (v := fs_i (M 226 22)) d_Mo_product_23 fl_Mo_189 io_226 rfl ?_
  refine a_istore_n d_Mo_product_26 rfl (Nat.le_of_ble_eq_true rfl) [1, 0] rfl ?_
  refine a_aload_n (j := 0) d_Mo_product_27 rfl rfl ?_
  refine b_virtual (dc := 2) (ci := 11) (T := fs_T11) (N := 78) [] [] d_Mo_product_28 ml_Mo_269 k_Mo_knot v_Mo_knot rfl io_226 rfl (by omega) rfl (Nat.le_of_ble_eq_true rfl) ?_
  refine fs_Call.mono (fun v M4 hv => ?_) h
  obtain ⟨rfl, h⟩ := hv
  show fs_A2 g m_Mo_product (d + 1) 31 [(0, fs_r 226), (1, fs_i (M 226 22))] [] M4 K
  refine a_aload_n (j := 0) d_Mo_product_31 rfl rfl ?_
  refine b_virtual (dc := 7) (ci := 11) (T := fs_T11) (N := 78) [] [] d_Mo_product_32 ml_Mo_272 k_Mo_goOn v_Mo_goOn rfl io_226 rfl (by omega) rfl (Nat.le_of_ble_eq_true rfl) ?_
  refine fs_Call.mono (fun v M5 hv => ?_) h
  obtain ⟨rfl, h⟩ := hv
  show fs_A2 g m_Mo_product (d + 1) 35 [(0, fs_r 226), (1, fs_i (M 226 22))] [] M5 K
  refine a_aload_n (j := 0) d_Mo_product_35 rfl rfl ?_
  refine b_virtual (dc := d) (ci := 11) (T := fs_T11) (N := 78) [] [] d_Mo_product_36 ml_Mo_288 k_Mo_primary v_Mo_primary rfl io_226 rfl (Nat.le_refl _) rfl (Nat.le_of_ble_eq_true rfl) ?_
  refine fs_Call.mono (fun v M6 hv => ?_) h
  obtain ⟨rfl, h⟩ := hv
  show fs_A2 g m_Mo_product (d + 1) 39 [(0, fs_r 226), (1, fs_i (M 226 22))] [] M6 K
  refine a_aload_n (j := 0) d_Mo_product_39 rfl rfl ?_
  refine a_iconst d_Mo_product_40 (by unfold fs_in32; omega) ?_
  refine a_iload_n (j := 1) d_Mo_product_41 rfl rfl ?_
  refine b_virtual (dc := 2) (ci := 11) (T := fs_T11) (N := 78) [fs_i 2, fs_i (M 226 22)] [] d_Mo_product_42 ml_Mo_275 k_Mo_puts v_Mo_puts rfl io_226 rfl (by omega) rfl (Nat.le_of_ble_eq_true rfl) ?_
  refine fs_Call.mono (fun v M7 hv => ?_) h
  obtain ⟨rfl, h⟩ := hv
  show fs_A2 g m_Mo_product (d + 1) 45 [(0, fs_r 226), (1, fs_i (M 226 22))] [] M7 K
  refine a_goto (tgt := 4) d_Mo_product_45 rfl ?_
  refine a_sub [0] rfl ?_
  exact h
set_option maxRecDepth 8000 in
set_option maxHeartbeats 4000000 in
theorem E_Mo_primary {d : Nat} (hd : 7 ≤ d) {M : fs_M} {K : fs_K} 
    (h : ((M 226 23 = 0 → fs_C2 g m_Mo_isSign 1 [fs_r 226, fs_i 40] M (fun v M1 => ∃ r1, v = some (fs_i r1) ∧ ((r1 = 0 → ((¬ M1 226 21 = 2 → fs_A2 g m_Mo_primary (d + 1) 114 [(0, fs_r 226)] [fs_i 0] M1 K) ∧ (M1 226 21 = 2 → fs_A2 g m_Mo_primary (d + 1) 114 [(0, fs_r 226)] [fs_i 1] M1 K))) ∧ (¬ r1 = 0 → ((¬ M1 226 27 = 8 → fs_A2 g m_Mo_primary (d + 1) 31 [(0, fs_r 226)] [] M1 K) ∧ (M1 226 27 = 8 → fs_C2 g m_Mo_wrong 1 [fs_r 226, fs_i 2] M1 (fun v M2 => v = none ∧ fs_A2 g m_Mo_primary (d + 1) 31 [(0, fs_r 226)] [] M2 K))))))) ∧ (¬ M 226 23 = 0 → K none M))) :
    fs_C2 g m_Mo_primary (d + 1) [fs_r 226] M K := by
  refine b_enter2 (ls := [(0, fs_r 226)]) (plainFor_of_name pn_Mo) (Nat.le_of_ble_eq_true rfl) rfl ?_
  refine a_aload_n (j := 0) d_Mo_primary_0 rfl rfl ?_
  refine b_getfield (v := fs_i (M 226 23)) d_Mo_primary_1 fl_Mo_214 io_226 rfl ?_
  refine a_if_eq (tgt := 8) d_Mo_primary_4 rfl (fun c1 => ?_) (fun c1 => ?_)
  · have h := h.1 c1
    refine a_aload_n (j := 0) d_Mo_primary_8 rfl rfl ?_
    refine a_bipush d_Mo_primary_9 (by decide) ?_
    refine b_virtual (dc := 1) (ci := 11) (T := fs_T11) (N := 78) [fs_i 40] [] d_Mo_primary_11 ml_Mo_251 k_Mo_isSign v_Mo_isSign rfl io_226 rfl (by omega) rfl (Nat.le_of_ble_eq_true rfl) ?_
    refine fs_Call.mono (fun v M1 hv => ?_) h
    obtain ⟨r1, rfl, h⟩ := hv
    show fs_A2 g m_Mo_primary (d + 1) 14 [(0, fs_r 226)] [fs_i r1] M1 K
    refine a_if_eq (tgt := 101) d_Mo_primary_14 rfl (fun c2 => ?_) (fun c2 => ?_)
    · have h := h.1 c2
      refine a_aload_n (j := 0) d_Mo_primary_101 rfl rfl ?_
      refine b_getfield (v := fs_i (M1 226 21)) d_Mo_primary_102 fl_Mo_179 io_226 rfl ?_
      refine a_iconst d_Mo_primary_105 (by unfold fs_in32; omega) ?_
      refine a_icmp_ne (tgt := 113) d_Mo_primary_106 rfl (fun c3 => ?_) (fun c3 => ?_)
      · have h := h.1 c3
        refine a_iconst d_Mo_primary_113 (by unfold fs_in32; omega) ?_
        exact h
      · have h := h.2 c3
        refine a_iconst d_Mo_primary_109 (by unfold fs_in32; omega) ?_
        refine a_goto (tgt := 114) d_Mo_primary_110 rfl ?_
        exact h
    · have h := h.2 c2
      refine a_aload_n (j := 0) d_Mo_primary_17 rfl rfl ?_
      refine b_getfield (v := fs_i (M1 226 27)) d_Mo_primary_18 fl_Mo_291 io_226 rfl ?_
      refine a_bipush d_Mo_primary_21 (by decide) ?_
      refine a_icmp_ne (tgt := 31) d_Mo_primary_23 rfl (fun c4 => ?_) (fun c4 => ?_)
      · have h := h.1 c4
        exact h
      · have h := h.2 c4
        refine a_aload_n (j := 0) d_Mo_primary_26 rfl rfl ?_
        refine a_iconst d_Mo_primary_27 (by unfold fs_in32; omega) ?_
        refine b_virtual (dc := 1) (ci := 11) (T := fs_T11) (N := 78) [fs_i 2] [] d_Mo_primary_28 ml_Mo_223 k_Mo_wrong v_Mo_wrong rfl io_226 rfl (by omega) rfl (Nat.le_of_ble_eq_true rfl) ?_
        refine fs_Call.mono (fun v M2 hv => ?_) h
        obtain ⟨rfl, h⟩ := hv
        show fs_A2 g m_Mo_primary (d + 1) 31 [(0, fs_r 226)] [] M2 K
        exact h
  · have h := h.2 c1
    exact b_return d_Mo_primary_7 rfl h
set_option maxRecDepth 8000 in
set_option maxHeartbeats 4000000 in
theorem L_Mo_primary_31 {d : Nat} (hd : 7 ≤ d) {M : fs_M} {K : fs_K} 
    (h : ((M 226 23 = 0 → fs_C2 g m_Mo_token 6 [fs_r 226] (fs_st M 226 27 (fs_w32 ((M 226 27) + 1))) (fun v M3 => v = none ∧ fs_C2 g m_Mo_expression d [fs_r 226] M3 (fun v M4 => v = none ∧ ((¬ M4 226 23 = 0 → fs_A2 g m_Mo_primary (d + 1) 78 [(0, fs_r 226)] [] M4 K) ∧ (M4 226 23 = 0 → fs_C2 g m_Mo_isSign 1 [fs_r 226, fs_i 41] M4 (fun v M5 => ∃ r5, v = some (fs_i r5) ∧ ((¬ r5 = 0 → fs_A2 g m_Mo_primary (d + 1) 78 [(0, fs_r 226)] [] M5 K) ∧ (r5 = 0 → fs_C2 g m_Mo_wrong 1 [fs_r 226, fs_i 1] M5 (fun v M6 => v = none ∧ fs_A2 g m_Mo_primary (d + 1) 78 [(0, fs_r 226)] [] M6 K))))))))) ∧ (¬ M 226 23 = 0 → K none M))) :
    fs_A2 g m_Mo_primary (d + 1) 31 [(0, fs_r 226)] [] M K := by
  refine a_aload_n (j := 0) d_Mo_primary_31 rfl rfl ?_
  refine b_getfield (v := fs_i (M 226 23)) d_Mo_primary_32 fl_Mo_214 io_226 rfl ?_
  refine a_if_eq (tgt := 39) d_Mo_primary_35 rfl (fun c5 => ?_) (fun c5 => ?_)
  · have h := h.1 c5
    refine a_aload_n (j := 0) d_Mo_primary_39 rfl rfl ?_
    refine a_dup d_Mo_primary_40 rfl ?_
    refine b_getfield (v := fs_i (M 226 27)) d_Mo_primary_41 fl_Mo_291 io_226 rfl ?_
    refine a_iconst d_Mo_primary_44 (by unfold fs_in32; omega) ?_
    refine a_iadd d_Mo_primary_45 ?_
    refine b_putfield (x := (fs_w32 ((M 226 27) + 1))) d_Mo_primary_46 fl_Mo_291 io_226 rfl rfl fs_nar_int ?_
    refine a_aload_n (j := 0) d_Mo_primary_49 rfl rfl ?_
    refine b_virtual (dc := 6) (ci := 11) (T := fs_T11) (N := 78) [] [] d_Mo_primary_50 ml_Mo_220 k_Mo_token v_Mo_token rfl io_226 rfl (by omega) rfl (Nat.le_of_ble_eq_true rfl) ?_
    refine fs_Call.mono (fun v M3 hv => ?_) h
    obtain ⟨rfl, h⟩ := hv
    show fs_A2 g m_Mo_primary (d + 1) 53 [(0, fs_r 226)] [] M3 K
    refine a_aload_n (j := 0) d_Mo_primary_53 rfl rfl ?_
    refine b_virtual (dc := d) (ci := 11) (T := fs_T11) (N := 78) [] [] d_Mo_primary_54 ml_Mo_260 k_Mo_expression v_Mo_expression rfl io_226 rfl (Nat.le_refl _) rfl (Nat.le_of_ble_eq_true rfl) ?_
    refine fs_Call.mono (fun v M4 hv => ?_) h
    obtain ⟨rfl, h⟩ := hv
    show fs_A2 g m_Mo_primary (d + 1) 57 [(0, fs_r 226)] [] M4 K
    refine a_aload_n (j := 0) d_Mo_primary_57 rfl rfl ?_
    refine b_getfield (v := fs_i (M4 226 23)) d_Mo_primary_58 fl_Mo_214 io_226 rfl ?_
    refine a_if_ne (tgt := 78) d_Mo_primary_61 rfl (fun c6 => ?_) (fun c6 => ?_)
    · have h := h.1 c6
      exact h
    · have h := h.2 c6
      refine a_aload_n (j := 0) d_Mo_primary_64 rfl rfl ?_
      refine a_bipush d_Mo_primary_65 (by decide) ?_
      refine b_virtual (dc := 1) (ci := 11) (T := fs_T11) (N := 78) [fs_i 41] [] d_Mo_primary_67 ml_Mo_251 k_Mo_isSign v_Mo_isSign rfl io_226 rfl (by omega) rfl (Nat.le_of_ble_eq_true rfl) ?_
      refine fs_Call.mono (fun v M5 hv => ?_) h
      obtain ⟨r5, rfl, h⟩ := hv
      show fs_A2 g m_Mo_primary (d + 1) 70 [(0, fs_r 226)] [fs_i r5] M5 K
      refine a_if_ne (tgt := 78) d_Mo_primary_70 rfl (fun c7 => ?_) (fun c7 => ?_)
      · have h := h.1 c7
        exact h
      · have h := h.2 c7
        refine a_aload_n (j := 0) d_Mo_primary_73 rfl rfl ?_
        refine a_iconst d_Mo_primary_74 (by unfold fs_in32; omega) ?_
        refine b_virtual (dc := 1) (ci := 11) (T := fs_T11) (N := 78) [fs_i 1] [] d_Mo_primary_75 ml_Mo_223 k_Mo_wrong v_Mo_wrong rfl io_226 rfl (by omega) rfl (Nat.le_of_ble_eq_true rfl) ?_
        refine fs_Call.mono (fun v M6 hv => ?_) h
        obtain ⟨rfl, h⟩ := hv
        show fs_A2 g m_Mo_primary (d + 1) 78 [(0, fs_r 226)] [] M6 K
        exact h
  · have h := h.2 c5
    exact b_return d_Mo_primary_38 rfl h
set_option maxRecDepth 8000 in
set_option maxHeartbeats 4000000 in
theorem L_Mo_primary_78 {d : Nat} (hd : 7 ≤ d) {M : fs_M} {K : fs_K} 
    (h : ((M 226 23 = 0 → fs_C2 g m_Mo_token 6 [fs_r 226] (fs_st M 226 27 (fs_w32 ((M 226 27) - 1))) (fun v M7 => v = none ∧ K none M7)) ∧ (¬ M 226 23 = 0 → K none M))) :
    fs_A2 g m_Mo_primary (d + 1) 78 [(0, fs_r 226)] [] M K := by
  refine a_aload_n (j := 0) d_Mo_primary_78 rfl rfl ?_
  refine b_getfield (v := fs_i (M 226 23)) d_Mo_primary_79 fl_Mo_214 io_226 rfl ?_
  refine a_if_eq (tgt := 86) d_Mo_primary_82 rfl (fun c8 => ?_) (fun c8 => ?_)
  · have h := h.1 c8
    refine a_aload_n (j := 0) d_Mo_primary_86 rfl rfl ?_
    refine a_dup d_Mo_primary_87 rfl ?_
    refine b_getfield (v := fs_i (M 226 27)) d_Mo_primary_88 fl_Mo_291 io_226 rfl ?_
    refine a_iconst d_Mo_primary_91 (by unfold fs_in32; omega) ?_
    refine a_isub d_Mo_primary_92 ?_
    refine b_putfield (x := (fs_w32 ((M 226 27) - 1))) d_Mo_primary_93 fl_Mo_291 io_226 rfl rfl fs_nar_int ?_
    refine a_aload_n (j := 0) d_Mo_primary_96 rfl rfl ?_
    refine b_virtual (dc := 6) (ci := 11) (T := fs_T11) (N := 78) [] [] d_Mo_primary_97 ml_Mo_220 k_Mo_token v_Mo_token rfl io_226 rfl (by omega) rfl (Nat.le_of_ble_eq_true rfl) ?_
    refine fs_Call.mono (fun v M7 hv => ?_) h
    obtain ⟨rfl, h⟩ := hv
    show fs_A2 g m_Mo_primary (d + 1) 100 [(0, fs_r 226)] [] M7 K
    exact b_return d_Mo_primary_100 rfl h
  · have h := h.2 c8
    exact b_return d_Mo_primary_85 rfl h
set_option maxRecDepth 8000 in
set_option maxHeartbeats 4000000 in
theorem L_Mo_primary_114 {d : Nat} (hd : 7 ≤ d) {M : fs_M} {K : fs_K} {x100 : Int} 
    (h : ((x100 = 0 → fs_A2 g m_Mo_primary (d + 1) 137 [(0, fs_r 226), (1, fs_i x100)] [] M K) ∧ (¬ x100 = 0 → ((M 226 22 ≤ 9999 → fs_A2 g m_Mo_primary (d + 1) 137 [(0, fs_r 226), (1, fs_i x100)] [] M K) ∧ (¬ M 226 22 ≤ 9999 → fs_C2 g m_Mo_wrong 1 [fs_r 226, fs_i 2] M (fun v M8 => v = none ∧ fs_A2 g m_Mo_primary (d + 1) 162 [(0, fs_r 226), (1, fs_i x100)] [] M8 K)))))) :
    fs_A2 g m_Mo_primary (d + 1) 114 [(0, fs_r 226)] [fs_i x100] M K := by
  refine a_istore_n d_Mo_primary_114 rfl (Nat.le_of_ble_eq_true rfl) [1, 0] rfl ?_
  refine a_iload_n (j := 1) d_Mo_primary_115 rfl rfl ?_
  refine a_if_eq (tgt := 137) d_Mo_primary_116 rfl (fun c9 => ?_) (fun c9 => ?_)
  · have h := h.1 c9
    exact h
  · have h := h.2 c9
    refine a_aload_n (j := 0) d_Mo_primary_119 rfl rfl ?_
    refine b_getfield (v := fs_i (M 226 22)) d_Mo_primary_120 fl_Mo_189 io_226 rfl ?_
    refine a_sipush d_Mo_primary_123 (by decide) ?_
    refine a_icmp_le (tgt := 137) d_Mo_primary_126 rfl (fun c10 => ?_) (fun c10 => ?_)
    · have h := h.1 c10
      exact h
    · have h := h.2 c10
      refine a_aload_n (j := 0) d_Mo_primary_129 rfl rfl ?_
      refine a_iconst d_Mo_primary_130 (by unfold fs_in32; omega) ?_
      refine b_virtual (dc := 1) (ci := 11) (T := fs_T11) (N := 78) [fs_i 2] [] d_Mo_primary_131 ml_Mo_223 k_Mo_wrong v_Mo_wrong rfl io_226 rfl (by omega) rfl (Nat.le_of_ble_eq_true rfl) ?_
      refine fs_Call.mono (fun v M8 hv => ?_) h
      obtain ⟨rfl, h⟩ := hv
      show fs_A2 g m_Mo_primary (d + 1) 134 [(0, fs_r 226), (1, fs_i x100)] [] M8 K
      refine a_goto (tgt := 162) d_Mo_primary_134 rfl ?_
      exact h
set_option maxRecDepth 8000 in
set_option maxHeartbeats 4000000 in
theorem L_Mo_primary_162 {d : Nat} (hd : 7 ≤ d) {M : fs_M} {K : fs_K} {x1 : Int} 
    (h : fs_C2 g m_Mo_knot 2 [fs_r 226] M (fun v M9 => v = none ∧ ((x1 = 0 → fs_A2 g m_Mo_primary (d + 1) 176 [(0, fs_r 226), (1, fs_i x1)] [fs_i 1, fs_r 226] M9 K) ∧ (¬ x1 = 0 → fs_A2 g m_Mo_primary (d + 1) 176 [(0, fs_r 226), (1, fs_i x1)] [fs_i 0, fs_r 226] M9 K)))) :
    fs_A2 g m_Mo_primary (d + 1) 162 [(0, fs_r 226), (1, fs_i x1)] [] M K := by
  refine a_aload_n (j := 0) d_Mo_primary_162 rfl rfl ?_
  refine b_virtual (dc := 2) (ci := 11) (T := fs_T11) (N := 78) [] [] d_Mo_primary_163 ml_Mo_269 k_Mo_knot v_Mo_knot rfl io_226 rfl (by omega) rfl (Nat.le_of_ble_eq_true rfl) ?_
  refine fs_Call.mono (fun v M9 hv => ?_) h
  obtain ⟨rfl, h⟩ := hv
  show fs_A2 g m_Mo_primary (d + 1) 166 [(0, fs_r 226), (1, fs_i x1)] [] M9 K
  refine a_aload_n (j := 0) d_Mo_primary_166 rfl rfl ?_
  refine a_iload_n (j := 1) d_Mo_primary_167 rfl rfl ?_
  refine a_if_eq (tgt := 175) d_Mo_primary_168 rfl (fun c11 => ?_) (fun c11 => ?_)
  · have h := h.1 c11
    refine a_iconst d_Mo_primary_175 (by unfold fs_in32; omega) ?_
    exact h
  · have h := h.2 c11
    refine a_iconst d_Mo_primary_171 (by unfold fs_in32; omega) ?_
    refine a_goto (tgt := 176) d_Mo_primary_172 rfl ?_
    exact h
set_option maxRecDepth 8000 in
set_option maxHeartbeats 4000000 in
theorem L_Mo_primary_176 {d : Nat} (hd : 7 ≤ d) {M : fs_M} {K : fs_K} {x1 x101 : Int} 
    (h : ((x1 = 0 → fs_C2 g m_Mo_puts 2 [fs_r 226, fs_i x101, fs_i (fs_w32 ((M 226 22) - 13))] M (fun v M10 => v = none ∧ fs_C2 g m_Mo_goOn 7 [fs_r 226] M10 (fun v M11 => v = none ∧ K none M11))) ∧ (¬ x1 = 0 → fs_C2 g m_Mo_puts 2 [fs_r 226, fs_i x101, fs_i (M 226 22)] M (fun v M12 => v = none ∧ fs_C2 g m_Mo_goOn 7 [fs_r 226] M12 (fun v M13 => v = none ∧ K none M13))))) :
    fs_A2 g m_Mo_primary (d + 1) 176 [(0, fs_r 226), (1, fs_i x1)] [fs_i x101, fs_r 226] M K := by
  refine a_iload_n (j := 1) d_Mo_primary_176 rfl rfl ?_
  refine a_if_eq (tgt := 187) d_Mo_primary_177 rfl (fun c12 => ?_) (fun c12 => ?_)
  · have h := h.1 c12
    refine a_aload_n (j := 0) d_Mo_primary_187 rfl rfl ?_
    refine b_getfield (v := fs_i (M 226 22)) d_Mo_primary_188 fl_Mo_189 io_226 rfl ?_
    refine a_bipush d_Mo_primary_191 (by decide) ?_
    refine a_isub d_Mo_primary_193 ?_
    refine b_virtual (dc := 2) (ci := 11) (T := fs_T11) (N := 78) [fs_i x101, fs_i (fs_w32 ((M 226 22) - 13))] [] d_Mo_primary_194 ml_Mo_275 k_Mo_puts v_Mo_puts rfl io_226 rfl (by omega) rfl (Nat.le_of_ble_eq_true rfl) ?_
    refine fs_Call.mono (fun v M10 hv => ?_) h
    obtain ⟨rfl, h⟩ := hv
    show fs_A2 g m_Mo_primary (d + 1) 197 [(0, fs_r 226), (1, fs_i x1)] [] M10 K
    refine a_aload_n (j := 0) d_Mo_primary_197 rfl rfl ?_
    refine b_virtual (dc := 7) (ci := 11) (T := fs_T11) (N := 78) [] [] d_Mo_primary_198 ml_Mo_272 k_Mo_goOn v_Mo_goOn rfl io_226 rfl (by omega) rfl (Nat.le_of_ble_eq_true rfl) ?_
    refine fs_Call.mono (fun v M11 hv => ?_) h
    obtain ⟨rfl, h⟩ := hv
    show fs_A2 g m_Mo_primary (d + 1) 201 [(0, fs_r 226), (1, fs_i x1)] [] M11 K
    exact b_return d_Mo_primary_201 rfl h
  · have h := h.2 c12
    refine a_aload_n (j := 0) d_Mo_primary_180 rfl rfl ?_
    refine b_getfield (v := fs_i (M 226 22)) d_Mo_primary_181 fl_Mo_189 io_226 rfl ?_
    refine a_goto (tgt := 194) d_Mo_primary_184 rfl ?_
    refine b_virtual (dc := 2) (ci := 11) (T := fs_T11) (N := 78) [fs_i x101, fs_i (M 226 22)] [] d_Mo_primary_194 ml_Mo_275 k_Mo_puts v_Mo_puts rfl io_226 rfl (by omega) rfl (Nat.le_of_ble_eq_true rfl) ?_
    refine fs_Call.mono (fun v M12 hv => ?_) h
    obtain ⟨rfl, h⟩ := hv
    show fs_A2 g m_Mo_primary (d + 1) 197 [(0, fs_r 226), (1, fs_i x1)] [] M12 K
    refine a_aload_n (j := 0) d_Mo_primary_197 rfl rfl ?_
    refine b_virtual (dc := 7) (ci := 11) (T := fs_T11) (N := 78) [] [] d_Mo_primary_198 ml_Mo_272 k_Mo_goOn v_Mo_goOn rfl io_226 rfl (by omega) rfl (Nat.le_of_ble_eq_true rfl) ?_
    refine fs_Call.mono (fun v M13 hv => ?_) h
    obtain ⟨rfl, h⟩ := hv
    show fs_A2 g m_Mo_primary (d + 1) 201 [(0, fs_r 226), (1, fs_i x1)] [] M13 K
    exact b_return d_Mo_primary_201 rfl h
set_option maxRecDepth 8000 in
set_option maxHeartbeats 4000000 in
theorem L_Mo_primary_137 {d : Nat} (hd : 7 ≤ d) {M : fs_M} {K : fs_K} {x1 : Int} 
    (h : ((¬ x1 = 0 → fs_A2 g m_Mo_primary (d + 1) 162 [(0, fs_r 226), (1, fs_i x1)] [] M K) ∧ (x1 = 0 → ((¬ M 226 21 = 0 → fs_C2 g m_Mo_wrong 1 [fs_r 226, fs_i 1] M (fun v M14 => v = none ∧ fs_A2 g m_Mo_primary (d + 1) 162 [(0, fs_r 226), (1, fs_i x1)] [] M14 K)) ∧ (M 226 21 = 0 → ((13 ≤ M 226 22 → fs_A2 g m_Mo_primary (d + 1) 162 [(0, fs_r 226), (1, fs_i x1)] [] M K) ∧ (¬ 13 ≤ M 226 22 → fs_C2 g m_Mo_wrong 1 [fs_r 226, fs_i 1] M (fun v M15 => v = none ∧ fs_A2 g m_Mo_primary (d + 1) 162 [(0, fs_r 226), (1, fs_i x1)] [] M15 K)))))))) :
    fs_A2 g m_Mo_primary (d + 1) 137 [(0, fs_r 226), (1, fs_i x1)] [] M K := by
  refine a_iload_n (j := 1) d_Mo_primary_137 rfl rfl ?_
  refine a_if_ne (tgt := 162) d_Mo_primary_138 rfl (fun c13 => ?_) (fun c13 => ?_)
  · have h := h.1 c13
    exact h
  · have h := h.2 c13
    refine a_aload_n (j := 0) d_Mo_primary_141 rfl rfl ?_
    refine b_getfield (v := fs_i (M 226 21)) d_Mo_primary_142 fl_Mo_179 io_226 rfl ?_
    refine a_if_ne (tgt := 157) d_Mo_primary_145 rfl (fun c14 => ?_) (fun c14 => ?_)
    · have h := h.1 c14
      refine a_aload_n (j := 0) d_Mo_primary_157 rfl rfl ?_
      refine a_iconst d_Mo_primary_158 (by unfold fs_in32; omega) ?_
      refine b_virtual (dc := 1) (ci := 11) (T := fs_T11) (N := 78) [fs_i 1] [] d_Mo_primary_159 ml_Mo_223 k_Mo_wrong v_Mo_wrong rfl io_226 rfl (by omega) rfl (Nat.le_of_ble_eq_true rfl) ?_
      refine fs_Call.mono (fun v M14 hv => ?_) h
      obtain ⟨rfl, h⟩ := hv
      show fs_A2 g m_Mo_primary (d + 1) 162 [(0, fs_r 226), (1, fs_i x1)] [] M14 K
      exact h
    · have h := h.2 c14
      refine a_aload_n (j := 0) d_Mo_primary_148 rfl rfl ?_
      refine b_getfield (v := fs_i (M 226 22)) d_Mo_primary_149 fl_Mo_189 io_226 rfl ?_
      refine a_bipush d_Mo_primary_152 (by decide) ?_
      refine a_icmp_ge (tgt := 162) d_Mo_primary_154 rfl (fun c15 => ?_) (fun c15 => ?_)
      · have h := h.1 c15
        exact h
      · have h := h.2 c15
        refine a_aload_n (j := 0) d_Mo_primary_157 rfl rfl ?_
        refine a_iconst d_Mo_primary_158 (by unfold fs_in32; omega) ?_
        refine b_virtual (dc := 1) (ci := 11) (T := fs_T11) (N := 78) [fs_i 1] [] d_Mo_primary_159 ml_Mo_223 k_Mo_wrong v_Mo_wrong rfl io_226 rfl (by omega) rfl (Nat.le_of_ble_eq_true rfl) ?_
        refine fs_Call.mono (fun v M15 hv => ?_) h
        obtain ⟨rfl, h⟩ := hv
        show fs_A2 g m_Mo_primary (d + 1) 162 [(0, fs_r 226), (1, fs_i x1)] [] M15 K
        exact h
set_option maxRecDepth 8000 in
set_option maxHeartbeats 4000000 in
theorem E_Mo_isSign {M : fs_M} {K : fs_K} {x1 : Int} 
    (h : ((¬ M 226 23 = 0 → K (some (fs_i 0)) M) ∧ (M 226 23 = 0 → ((¬ M 226 21 = 3 → K (some (fs_i 0)) M) ∧ (M 226 21 = 3 → ((¬ M 226 22 = x1 → K (some (fs_i 0)) M) ∧ (M 226 22 = x1 → K (some (fs_i 1)) M))))))) :
    fs_C2 g m_Mo_isSign 1 [fs_r 226, fs_i x1] M K := by
  refine b_enter2 (ls := [(0, fs_r 226), (1, fs_i x1)]) (plainFor_of_name pn_Mo) (Nat.le_of_ble_eq_true rfl) rfl ?_
  refine a_aload_n (j := 0) d_Mo_isSign_0 rfl rfl ?_
  refine b_getfield (v := fs_i (M 226 23)) d_Mo_isSign_1 fl_Mo_214 io_226 rfl ?_
  refine a_if_ne (tgt := 27) d_Mo_isSign_4 rfl (fun c1 => ?_) (fun c1 => ?_)
  · have h := h.1 c1
    refine a_iconst d_Mo_isSign_27 (by unfold fs_in32; omega) ?_
    exact b_ireturn d_Mo_isSign_28 rfl (fs_nar01 (Or.inl rfl)) h
  · have h := h.2 c1
    refine a_aload_n (j := 0) d_Mo_isSign_7 rfl rfl ?_
    refine b_getfield (v := fs_i (M 226 21)) d_Mo_isSign_8 fl_Mo_179 io_226 rfl ?_
    refine a_iconst d_Mo_isSign_11 (by unfold fs_in32; omega) ?_
    refine a_icmp_ne (tgt := 27) d_Mo_isSign_12 rfl (fun c2 => ?_) (fun c2 => ?_)
    · have h := h.1 c2
      refine a_iconst d_Mo_isSign_27 (by unfold fs_in32; omega) ?_
      exact b_ireturn d_Mo_isSign_28 rfl (fs_nar01 (Or.inl rfl)) h
    · have h := h.2 c2
      refine a_aload_n (j := 0) d_Mo_isSign_15 rfl rfl ?_
      refine b_getfield (v := fs_i (M 226 22)) d_Mo_isSign_16 fl_Mo_189 io_226 rfl ?_
      refine a_iload_n (j := 1) d_Mo_isSign_19 rfl rfl ?_
      refine a_icmp_ne (tgt := 27) d_Mo_isSign_20 rfl (fun c3 => ?_) (fun c3 => ?_)
      · have h := h.1 c3
        refine a_iconst d_Mo_isSign_27 (by unfold fs_in32; omega) ?_
        exact b_ireturn d_Mo_isSign_28 rfl (fs_nar01 (Or.inl rfl)) h
      · have h := h.2 c3
        refine a_iconst d_Mo_isSign_23 (by unfold fs_in32; omega) ?_
        refine a_goto (tgt := 28) d_Mo_isSign_24 rfl ?_
        exact b_ireturn d_Mo_isSign_28 rfl (fs_nar01 (Or.inr rfl)) h
set_option maxRecDepth 8000 in
set_option maxHeartbeats 4000000 in
theorem E_Mo_half {M : fs_M} {K : fs_K} {x0 : Int} {n0 : Nat} (h0 : fs_isA 0 n0 x0) 
    (h : (n0 < 2147483648 ∧ fs_A2 g m_Mo_half 1 7 [(0, fs_r x0), (1, fs_i (fs_div (n0 : Int) 2)), (2, fs_i 0)] [] M K)) :
    fs_C2 g m_Mo_half 1 [fs_r x0] M K := by
  refine b_enter2 (ls := [(0, fs_r x0)]) (plainFor_of_name pn_Mo) (Nat.le_of_ble_eq_true rfl) rfl ?_
  refine a_aload_n (j := 0) d_Mo_half_0 rfl rfl ?_
  obtain ⟨o1, h⟩ := h
  refine b_arraylength d_Mo_half_1 h0 (by decide) o1 ?_
  refine a_iconst d_Mo_half_2 (by unfold fs_in32; omega) ?_
  refine a_idiv d_Mo_half_3 (by decide) ?_
  refine a_istore_n d_Mo_half_4 rfl (Nat.le_of_ble_eq_true rfl) [1, 0] rfl ?_
  refine a_iconst d_Mo_half_5 (by unfold fs_in32; omega) ?_
  refine a_istore_n d_Mo_half_6 rfl (Nat.le_of_ble_eq_true rfl) [1, 2, 0] rfl ?_
  exact h
set_option maxRecDepth 8000 in
set_option maxHeartbeats 4000000 in
theorem L_Mo_half_7 {M : fs_M} {K : fs_K} {x0 x1 x2 : Int} {n0 : Nat} (h0 : fs_isA 0 n0 x0) 
    (h : ((x1 ≤ x2 → K none M) ∧ (¬ x1 ≤ x2 → (0 ≤ fs_w32 (x1 + x2) ∧ fs_w32 (x1 + x2) < n0 ∧ (0 ≤ x2 ∧ x2 < n0 ∧ fs_A2 g m_Mo_half 1 7 [(0, fs_r x0), (1, fs_i x1), (2, fs_i (fs_w32 (x2 + 1)))] [] (fs_st M x0 x2 (M x0 (fs_w32 (x1 + x2)))) K))))) :
    fs_A2 g m_Mo_half 1 7 [(0, fs_r x0), (1, fs_i x1), (2, fs_i x2)] [] M K := by
  refine a_iload_n (j := 2) d_Mo_half_7 rfl rfl ?_
  refine a_iload_n (j := 1) d_Mo_half_8 rfl rfl ?_
  refine a_icmp_ge (tgt := 26) d_Mo_half_9 rfl (fun c2 => ?_) (fun c2 => ?_)
  · have h := h.1 c2
    exact b_return d_Mo_half_26 rfl h
  · have h := h.2 c2
    refine a_aload_n (j := 0) d_Mo_half_12 rfl rfl ?_
    refine a_iload_n (j := 2) d_Mo_half_13 rfl rfl ?_
    refine a_aload_n (j := 0) d_Mo_half_14 rfl rfl ?_
    refine a_iload_n (j := 1) d_Mo_half_15 rfl rfl ?_
    refine a_iload_n (j := 2) d_Mo_half_16 rfl rfl ?_
    refine a_iadd d_Mo_half_17 ?_
    obtain ⟨o3, o4, h⟩ := h
    refine b_iaload (v := M x0 (fs_w32 (x1 + x2))) d_Mo_half_18 h0 o3 o4 rfl ?_
    obtain ⟨o5, o6, h⟩ := h
    refine b_iastore d_Mo_half_19 h0 o5 o6 ?_
    refine a_iinc (j := 2) d_Mo_half_20 rfl (Nat.le_of_ble_eq_true rfl) [1, 2, 0] rfl ?_
    refine a_goto (tgt := 7) d_Mo_half_23 rfl ?_
    exact h
set_option maxRecDepth 8000 in
set_option maxHeartbeats 4000000 in
theorem E_Mo_fault {M : fs_M} {K : fs_K} {x1 : Int} 
    (h : ((¬ x1 = 0 → ((¬ x1 = 1 → K (some (fs_i (-1))) (fs_st M 226 0 0)) ∧ (x1 = 1 → K (some (fs_i (M 226 26))) (fs_st M 226 0 0)))) ∧ (x1 = 0 → K (some (fs_i (M 226 25))) (fs_st M 226 0 0)))) :
    fs_C2 g m_Mo_fault 1 [fs_r 226, fs_i x1] M K := by
  refine b_enter2 (ls := [(0, fs_r 226), (1, fs_i x1)]) (plainFor_of_name pn_Mo) (Nat.le_of_ble_eq_true rfl) rfl ?_
  refine a_aload_n (j := 0) d_Mo_fault_0 rfl rfl ?_
  refine a_iconst d_Mo_fault_1 (by unfold fs_in32; omega) ?_
  refine b_putfield (x := 0) d_Mo_fault_2 fl_Mo_160 io_226 rfl rfl fs_nar_int ?_
  refine a_iload_n (j := 1) d_Mo_fault_5 rfl rfl ?_
  refine a_if_ne (tgt := 16) d_Mo_fault_6 rfl (fun c1 => ?_) (fun c1 => ?_)
  · have h := h.1 c1
    refine a_iload_n (j := 1) d_Mo_fault_16 rfl rfl ?_
    refine a_iconst d_Mo_fault_17 (by unfold fs_in32; omega) ?_
    refine a_icmp_ne (tgt := 28) d_Mo_fault_18 rfl (fun c2 => ?_) (fun c2 => ?_)
    · have h := h.1 c2
      refine a_iconst d_Mo_fault_28 (by unfold fs_in32; omega) ?_
      exact b_ireturn d_Mo_fault_29 rfl rfl h
    · have h := h.2 c2
      refine a_aload_n (j := 0) d_Mo_fault_21 rfl rfl ?_
      refine b_getfield (v := fs_i (M 226 26)) d_Mo_fault_22 fl_Mo_53 io_226 rfl ?_
      refine a_goto (tgt := 29) d_Mo_fault_25 rfl ?_
      exact b_ireturn d_Mo_fault_29 rfl rfl h
  · have h := h.2 c1
    refine a_aload_n (j := 0) d_Mo_fault_9 rfl rfl ?_
    refine b_getfield (v := fs_i (M 226 25)) d_Mo_fault_10 fl_Mo_297 io_226 rfl ?_
    refine a_goto (tgt := 29) d_Mo_fault_13 rfl ?_
    exact b_ireturn d_Mo_fault_29 rfl rfl h
set_option maxRecDepth 8000 in
set_option maxHeartbeats 4000000 in
theorem E_Mo_named {M : fs_M} {K : fs_K} {x1 x2 : Int} 
    (h : ((¬ x1 = 0 → ((¬ x1 = 1 → K (some (fs_i (-1))) (fs_st M 226 0 0)) ∧ (x1 = 1 → fs_C2 g m_Mo_found 1 [fs_r 234, fs_i 0, fs_i (M 228 1), fs_i x2] (fs_st M 226 0 0) (fun v M1 => ∃ r1, v = some (fs_i r1) ∧ K (some (fs_i r1)) M1)))) ∧ (x1 = 0 → fs_C2 g m_Mo_found 1 [fs_r 229, fs_i 0, fs_i (M 228 0), fs_i x2] (fs_st M 226 0 0) (fun v M2 => ∃ r2, v = some (fs_i r2) ∧ K (some (fs_i r2)) M2)))) :
    fs_C2 g m_Mo_named 2 [fs_r 226, fs_i x1, fs_i x2] M K := by
  refine b_enter2 (ls := [(0, fs_r 226), (1, fs_i x1), (2, fs_i x2)]) (plainFor_of_name pn_Mo) (Nat.le_of_ble_eq_true rfl) rfl ?_
  refine a_aload_n (j := 0) d_Mo_named_0 rfl rfl ?_
  refine a_iconst d_Mo_named_1 (by unfold fs_in32; omega) ?_
  refine b_putfield (x := 0) d_Mo_named_2 fl_Mo_160 io_226 rfl rfl fs_nar_int ?_
  refine a_iload_n (j := 1) d_Mo_named_5 rfl rfl ?_
  refine a_if_ne (tgt := 27) d_Mo_named_6 rfl (fun c1 => ?_) (fun c1 => ?_)
  · have h := h.1 c1
    refine a_iload_n (j := 1) d_Mo_named_27 rfl rfl ?_
    refine a_iconst d_Mo_named_28 (by unfold fs_in32; omega) ?_
    refine a_icmp_ne (tgt := 50) d_Mo_named_29 rfl (fun c2 => ?_) (fun c2 => ?_)
    · have h := h.1 c2
      refine a_iconst d_Mo_named_50 (by unfold fs_in32; omega) ?_
      exact b_ireturn d_Mo_named_51 rfl rfl h
    · have h := h.2 c2
      refine a_aload_n (j := 0) d_Mo_named_32 rfl rfl ?_
      refine b_getptr (q := 234) d_Mo_named_33 fl_Mo_32 io_226 rfl rfl rfl ?_
      refine a_iconst d_Mo_named_36 (by unfold fs_in32; omega) ?_
      refine a_aload_n (j := 0) d_Mo_named_37 rfl rfl ?_
      refine b_getptr (q := 228) d_Mo_named_38 fl_Mo_13 io_226 rfl rfl rfl ?_
      refine a_iconst d_Mo_named_41 (by unfold fs_in32; omega) ?_
      refine b_iaload (v := M 228 1) d_Mo_named_42 ia_228 (by decide) (by decide) rfl ?_
      refine a_iload_n (j := 2) d_Mo_named_43 rfl rfl ?_
      refine b_static (dc := 1) [fs_r 234, fs_i 0, fs_i (M 228 1), fs_i x2] [] d_Mo_named_44 ml_Mo_226 k_Mo_found s_Mo_found rfl (Nat.le_of_ble_eq_true rfl) rfl (Nat.le_of_ble_eq_true rfl) ?_
      refine fs_Call.mono (fun v M1 hv => ?_) h
      obtain ⟨r1, rfl, h⟩ := hv
      show fs_A2 g m_Mo_named 2 47 [(0, fs_r 226), (1, fs_i x1), (2, fs_i x2)] [fs_i r1] M1 K
      refine a_goto (tgt := 51) d_Mo_named_47 rfl ?_
      exact b_ireturn d_Mo_named_51 rfl rfl h
  · have h := h.2 c1
    refine a_aload_n (j := 0) d_Mo_named_9 rfl rfl ?_
    refine b_getptr (q := 229) d_Mo_named_10 fl_Mo_16 io_226 rfl rfl rfl ?_
    refine a_iconst d_Mo_named_13 (by unfold fs_in32; omega) ?_
    refine a_aload_n (j := 0) d_Mo_named_14 rfl rfl ?_
    refine b_getptr (q := 228) d_Mo_named_15 fl_Mo_13 io_226 rfl rfl rfl ?_
    refine a_iconst d_Mo_named_18 (by unfold fs_in32; omega) ?_
    refine b_iaload (v := M 228 0) d_Mo_named_19 ia_228 (by decide) (by decide) rfl ?_
    refine a_iload_n (j := 2) d_Mo_named_20 rfl rfl ?_
    refine b_static (dc := 1) [fs_r 229, fs_i 0, fs_i (M 228 0), fs_i x2] [] d_Mo_named_21 ml_Mo_226 k_Mo_found s_Mo_found rfl (Nat.le_of_ble_eq_true rfl) rfl (Nat.le_of_ble_eq_true rfl) ?_
    refine fs_Call.mono (fun v M2 hv => ?_) h
    obtain ⟨r2, rfl, h⟩ := hv
    show fs_A2 g m_Mo_named 2 24 [(0, fs_r 226), (1, fs_i x1), (2, fs_i x2)] [fs_i r2] M2 K
    refine a_goto (tgt := 51) d_Mo_named_24 rfl ?_
    exact b_ireturn d_Mo_named_51 rfl rfl h
set_option maxRecDepth 8000 in
set_option maxHeartbeats 4000000 in
theorem E_Mo_look {M : fs_M} {K : fs_K} {x1 x2 : Int} 
    (h : fs_C2 g m_Mo_isHouse 1 [fs_r 226, fs_i x1] M (fun v M1 => ∃ r1, v = some (fs_i r1) ∧ ((¬ r1 = 0 → ((x2 < 0 → fs_A2 g m_Mo_look 2 27 [(0, fs_r 226), (1, fs_i x1), (2, fs_i x2)] [fs_i 2, fs_r 226] M1 K) ∧ (¬ x2 < 0 → ((x2 ≤ 5 → fs_A2 g m_Mo_look 2 27 [(0, fs_r 226), (1, fs_i x1), (2, fs_i x2)] [fs_i 0, fs_r 226] M1 K) ∧ (¬ x2 ≤ 5 → fs_A2 g m_Mo_look 2 27 [(0, fs_r 226), (1, fs_i x1), (2, fs_i x2)] [fs_i 2, fs_r 226] M1 K))))) ∧ (r1 = 0 → fs_A2 g m_Mo_look 2 27 [(0, fs_r 226), (1, fs_i x1), (2, fs_i x2)] [fs_i 1, fs_r 226] M1 K)))) :
    fs_C2 g m_Mo_look 2 [fs_r 226, fs_i x1, fs_i x2] M K := by
  refine b_enter2 (ls := [(0, fs_r 226), (1, fs_i x1), (2, fs_i x2)]) (plainFor_of_name pn_Mo) (Nat.le_of_ble_eq_true rfl) rfl ?_
  refine a_aload_n (j := 0) d_Mo_look_0 rfl rfl ?_
  refine a_aload_n (j := 0) d_Mo_look_1 rfl rfl ?_
  refine a_iload_n (j := 1) d_Mo_look_2 rfl rfl ?_
  refine b_virtual (dc := 1) (ci := 11) (T := fs_T11) (N := 78) [fs_i x1] [fs_r 226] d_Mo_look_3 ml_Mo_314 k_Mo_isHouse v_Mo_isHouse rfl io_226 rfl (Nat.le_of_ble_eq_true rfl) rfl (Nat.le_of_ble_eq_true rfl) ?_
  refine fs_Call.mono (fun v M1 hv => ?_) h
  obtain ⟨r1, rfl, h⟩ := hv
  show fs_A2 g m_Mo_look 2 6 [(0, fs_r 226), (1, fs_i x1), (2, fs_i x2)] [fs_i r1, fs_r 226] M1 K
  refine a_if_ne (tgt := 13) d_Mo_look_6 rfl (fun c1 => ?_) (fun c1 => ?_)
  · have h := h.1 c1
    refine a_iload_n (j := 2) d_Mo_look_13 rfl rfl ?_
    refine a_if_lt (tgt := 22) d_Mo_look_14 rfl (fun c2 => ?_) (fun c2 => ?_)
    · have h := h.1 c2
      refine a_iconst d_Mo_look_22 (by unfold fs_in32; omega) ?_
      refine a_goto (tgt := 27) d_Mo_look_23 rfl ?_
      exact h
    · have h := h.2 c2
      refine a_iload_n (j := 2) d_Mo_look_17 rfl rfl ?_
      refine a_iconst d_Mo_look_18 (by unfold fs_in32; omega) ?_
      refine a_icmp_le (tgt := 26) d_Mo_look_19 rfl (fun c3 => ?_) (fun c3 => ?_)
      · have h := h.1 c3
        refine a_iconst d_Mo_look_26 (by unfold fs_in32; omega) ?_
        exact h
      · have h := h.2 c3
        refine a_iconst d_Mo_look_22 (by unfold fs_in32; omega) ?_
        refine a_goto (tgt := 27) d_Mo_look_23 rfl ?_
        exact h
  · have h := h.2 c1
    refine a_iconst d_Mo_look_9 (by unfold fs_in32; omega) ?_
    refine a_goto (tgt := 27) d_Mo_look_10 rfl ?_
    exact h
set_option maxRecDepth 8000 in
set_option maxHeartbeats 4000000 in
theorem L_Mo_look_27 {M : fs_M} {K : fs_K} {x1 x2 x101 : Int} 
    (h : ((x101 = 0 → ((x2 = 0 → (0 ≤ x1 ∧ x1 < 12 ∧ K (some (fs_i (M 230 x1))) (fs_st M 226 0 x101))) ∧ (x2 = 1 → (0 ≤ x1 ∧ x1 < 12 ∧ K (some (fs_i (M 231 x1))) (fs_st M 226 0 x101))) ∧ (x2 = 2 → (0 ≤ x1 ∧ x1 < 12 ∧ K (some (fs_i (M 232 x1))) (fs_st M 226 0 x101))) ∧ (x2 = 3 → (0 ≤ x1 ∧ x1 < 12 ∧ ((M 233 x1 = 0 → K (some (fs_i 0)) (fs_st M 226 0 x101)) ∧ (¬ M 233 x1 = 0 → K (some (fs_i 1)) (fs_st M 226 0 x101))))) ∧ (x2 = 4 → K (some (fs_i (fs_and (fs_shr (M 243 0) x1) 1))) (fs_st M 226 0 x101)) ∧ (¬ x2 = 0 ∧ ¬ x2 = 1 ∧ ¬ x2 = 2 ∧ ¬ x2 = 3 ∧ ¬ x2 = 4 → K (some (fs_i (fs_and (fs_shr (M 244 0) x1) 1))) (fs_st M 226 0 x101)))) ∧ (¬ x101 = 0 → K (some (fs_i 0)) (fs_st M 226 0 x101)))) :
    fs_A2 g m_Mo_look 2 27 [(0, fs_r 226), (1, fs_i x1), (2, fs_i x2)] [fs_i x101, fs_r 226] M K := by
  refine b_putfield (x := x101) d_Mo_look_27 fl_Mo_160 io_226 rfl rfl fs_nar_int ?_
  refine a_aload_n (j := 0) d_Mo_look_30 rfl rfl ?_
  refine b_getfield (v := fs_i x101) d_Mo_look_31 fl_Mo_160 io_226 rfl ?_
  refine a_if_eq (tgt := 39) d_Mo_look_34 rfl (fun c4 => ?_) (fun c4 => ?_)
  · have h := h.1 c4
    refine a_iload_n (j := 2) d_Mo_look_39 rfl rfl ?_
    obtain ⟨hs40_0, hs40_1, hs40_2, hs40_3, hs40_4, hs40_5⟩ := h
    by_cases q40_0 : x2 = 0
    · have h := hs40_0 q40_0
      refine a_tableIn (tgt := 76) d_Mo_look_40 (by omega) (by omega) (by rw [q40_0]; rfl) rfl ?_
      refine a_aload_n (j := 0) d_Mo_look_76 rfl rfl ?_
      refine b_getptr (q := 230) d_Mo_look_77 fl_Mo_19 io_226 rfl rfl rfl ?_
      refine a_iload_n (j := 1) d_Mo_look_80 rfl rfl ?_
      obtain ⟨o5, o6, h⟩ := h
      refine b_iaload (v := M 230 x1) d_Mo_look_81 ia_230 o5 o6 rfl ?_
      exact b_ireturn d_Mo_look_82 rfl rfl h
    ·
      by_cases q40_1 : x2 = 1
      · have h := hs40_1 q40_1
        refine a_tableIn (tgt := 83) d_Mo_look_40 (by omega) (by omega) (by rw [q40_1]; rfl) rfl ?_
        refine a_aload_n (j := 0) d_Mo_look_83 rfl rfl ?_
        refine b_getptr (q := 231) d_Mo_look_84 fl_Mo_22 io_226 rfl rfl rfl ?_
        refine a_iload_n (j := 1) d_Mo_look_87 rfl rfl ?_
        obtain ⟨o7, o8, h⟩ := h
        refine b_iaload (v := M 231 x1) d_Mo_look_88 ia_231 o7 o8 rfl ?_
        exact b_ireturn d_Mo_look_89 rfl rfl h
      ·
        by_cases q40_2 : x2 = 2
        · have h := hs40_2 q40_2
          refine a_tableIn (tgt := 90) d_Mo_look_40 (by omega) (by omega) (by rw [q40_2]; rfl) rfl ?_
          refine a_aload_n (j := 0) d_Mo_look_90 rfl rfl ?_
          refine b_getptr (q := 232) d_Mo_look_91 fl_Mo_25 io_226 rfl rfl rfl ?_
          refine a_iload_n (j := 1) d_Mo_look_94 rfl rfl ?_
          obtain ⟨o9, o10, h⟩ := h
          refine b_iaload (v := M 232 x1) d_Mo_look_95 ia_232 o9 o10 rfl ?_
          exact b_ireturn d_Mo_look_96 rfl rfl h
        ·
          by_cases q40_3 : x2 = 3
          · have h := hs40_3 q40_3
            refine a_tableIn (tgt := 97) d_Mo_look_40 (by omega) (by omega) (by rw [q40_3]; rfl) rfl ?_
            refine a_aload_n (j := 0) d_Mo_look_97 rfl rfl ?_
            refine b_getptr (q := 233) d_Mo_look_98 fl_Mo_28 io_226 rfl rfl rfl ?_
            refine a_iload_n (j := 1) d_Mo_look_101 rfl rfl ?_
            obtain ⟨o11, o12, h⟩ := h
            refine b_baload (v := M 233 x1) d_Mo_look_102 ia_233 o11 o12 rfl ?_
            refine a_if_eq (tgt := 110) d_Mo_look_103 rfl (fun c13 => ?_) (fun c13 => ?_)
            · have h := h.1 c13
              refine a_iconst d_Mo_look_110 (by unfold fs_in32; omega) ?_
              exact b_ireturn d_Mo_look_111 rfl rfl h
            · have h := h.2 c13
              refine a_iconst d_Mo_look_106 (by unfold fs_in32; omega) ?_
              refine a_goto (tgt := 111) d_Mo_look_107 rfl ?_
              exact b_ireturn d_Mo_look_111 rfl rfl h
          ·
            by_cases q40_4 : x2 = 4
            · have h := hs40_4 q40_4
              refine a_tableIn (tgt := 112) d_Mo_look_40 (by omega) (by omega) (by rw [q40_4]; rfl) rfl ?_
              refine a_aload_n (j := 0) d_Mo_look_112 rfl rfl ?_
              refine b_getptr (q := 243) d_Mo_look_113 fl_Mo_63 io_226 rfl rfl rfl ?_
              refine a_iconst d_Mo_look_116 (by unfold fs_in32; omega) ?_
              refine b_iaload (v := M 243 0) d_Mo_look_117 ia_243 (by decide) (by decide) rfl ?_
              refine a_iload_n (j := 1) d_Mo_look_118 rfl rfl ?_
              refine a_ishr d_Mo_look_119 ?_
              refine a_iconst d_Mo_look_120 (by unfold fs_in32; omega) ?_
              refine a_iand d_Mo_look_121 ?_
              exact b_ireturn d_Mo_look_122 rfl rfl h
            ·
              have h := hs40_5 ⟨q40_0, q40_1, q40_2, q40_3, q40_4⟩
              refine a_tableOut (tgt := 123) d_Mo_look_40 (by omega) rfl ?_
              refine a_aload_n (j := 0) d_Mo_look_123 rfl rfl ?_
              refine b_getptr (q := 244) d_Mo_look_124 fl_Mo_66 io_226 rfl rfl rfl ?_
              refine a_iconst d_Mo_look_127 (by unfold fs_in32; omega) ?_
              refine b_iaload (v := M 244 0) d_Mo_look_128 ia_244 (by decide) (by decide) rfl ?_
              refine a_iload_n (j := 1) d_Mo_look_129 rfl rfl ?_
              refine a_ishr d_Mo_look_130 ?_
              refine a_iconst d_Mo_look_131 (by unfold fs_in32; omega) ?_
              refine a_iand d_Mo_look_132 ?_
              exact b_ireturn d_Mo_look_133 rfl rfl h
  · have h := h.2 c4
    refine a_iconst d_Mo_look_37 (by unfold fs_in32; omega) ?_
    exact b_ireturn d_Mo_look_38 rfl rfl h
set_option maxRecDepth 8000 in
set_option maxHeartbeats 4000000 in
theorem E_Mo_isHouse {M : fs_M} {K : fs_K} {x1 : Int} 
    (h : ((x1 < 0 → K (some (fs_i 0)) M) ∧ (¬ x1 < 0 → ((M 228 0 ≤ x1 → K (some (fs_i 0)) M) ∧ (¬ M 228 0 ≤ x1 → K (some (fs_i 1)) M))))) :
    fs_C2 g m_Mo_isHouse 1 [fs_r 226, fs_i x1] M K := by
  refine b_enter2 (ls := [(0, fs_r 226), (1, fs_i x1)]) (plainFor_of_name pn_Mo) (Nat.le_of_ble_eq_true rfl) rfl ?_
  refine a_iload_n (j := 1) d_Mo_isHouse_0 rfl rfl ?_
  refine a_if_lt (tgt := 18) d_Mo_isHouse_1 rfl (fun c1 => ?_) (fun c1 => ?_)
  · have h := h.1 c1
    refine a_iconst d_Mo_isHouse_18 (by unfold fs_in32; omega) ?_
    exact b_ireturn d_Mo_isHouse_19 rfl (fs_nar01 (Or.inl rfl)) h
  · have h := h.2 c1
    refine a_iload_n (j := 1) d_Mo_isHouse_4 rfl rfl ?_
    refine a_aload_n (j := 0) d_Mo_isHouse_5 rfl rfl ?_
    refine b_getptr (q := 228) d_Mo_isHouse_6 fl_Mo_13 io_226 rfl rfl rfl ?_
    refine a_iconst d_Mo_isHouse_9 (by unfold fs_in32; omega) ?_
    refine b_iaload (v := M 228 0) d_Mo_isHouse_10 ia_228 (by decide) (by decide) rfl ?_
    refine a_icmp_ge (tgt := 18) d_Mo_isHouse_11 rfl (fun c2 => ?_) (fun c2 => ?_)
    · have h := h.1 c2
      refine a_iconst d_Mo_isHouse_18 (by unfold fs_in32; omega) ?_
      exact b_ireturn d_Mo_isHouse_19 rfl (fs_nar01 (Or.inl rfl)) h
    · have h := h.2 c2
      refine a_iconst d_Mo_isHouse_14 (by unfold fs_in32; omega) ?_
      refine a_goto (tgt := 19) d_Mo_isHouse_15 rfl ?_
      exact b_ireturn d_Mo_isHouse_19 rfl (fs_nar01 (Or.inr rfl)) h
set_option maxRecDepth 8000 in
set_option maxHeartbeats 4000000 in
theorem E_Mo_dark {M : fs_M} {K : fs_K} {x1 x2 : Int} 
    (h : fs_C2 g m_Mo_isDark 1 [fs_r 226, fs_i x1] (fs_st M 226 0 0) (fun v M1 => ∃ r1, v = some (fs_i r1) ∧ ((r1 = 0 → K (some (fs_i (-1))) M1) ∧ (¬ r1 = 0 → ((0 ≤ x2 → ((3 ≤ x2 → (0 ≤ x1 ∧ x1 < 66 ∧ ((M1 242 x1 ≤ fs_w32 (x2 - 3) → K (some (fs_i (-1))) M1) ∧ (¬ M1 242 x1 ≤ fs_w32 (x2 - 3) → (0 ≤ fs_w32 ((fs_w32 ((fs_w32 (9 * x1)) + x2)) - 3) ∧ fs_w32 ((fs_w32 ((fs_w32 (9 * x1)) + x2)) - 3) < 594 ∧ K (some (fs_i (M1 241 (fs_w32 ((fs_w32 ((fs_w32 (9 * x1)) + x2)) - 3))))) M1))))) ∧ (¬ 3 ≤ x2 → ((¬ x2 = 0 → ((¬ x2 = 1 → (0 ≤ x1 ∧ x1 < 66 ∧ K (some (fs_i (M1 242 x1))) M1)) ∧ (x2 = 1 → (0 ≤ x1 ∧ x1 < 6 ∧ K (some (fs_i (M1 236 x1))) M1)))) ∧ (x2 = 0 → (0 ≤ x1 ∧ x1 < 6 ∧ K (some (fs_i (M1 235 x1))) M1)))))) ∧ (¬ 0 ≤ x2 → K (some (fs_i (-1))) M1)))))) :
    fs_C2 g m_Mo_dark 2 [fs_r 226, fs_i x1, fs_i x2] M K := by
  refine b_enter2 (ls := [(0, fs_r 226), (1, fs_i x1), (2, fs_i x2)]) (plainFor_of_name pn_Mo) (Nat.le_of_ble_eq_true rfl) rfl ?_
  refine a_aload_n (j := 0) d_Mo_dark_0 rfl rfl ?_
  refine a_iconst d_Mo_dark_1 (by unfold fs_in32; omega) ?_
  refine b_putfield (x := 0) d_Mo_dark_2 fl_Mo_160 io_226 rfl rfl fs_nar_int ?_
  refine a_aload_n (j := 0) d_Mo_dark_5 rfl rfl ?_
  refine a_iload_n (j := 1) d_Mo_dark_6 rfl rfl ?_
  refine b_virtual (dc := 1) (ci := 11) (T := fs_T11) (N := 78) [fs_i x1] [] d_Mo_dark_7 ml_Mo_317 k_Mo_isDark v_Mo_isDark rfl io_226 rfl (Nat.le_of_ble_eq_true rfl) rfl (Nat.le_of_ble_eq_true rfl) ?_
  refine fs_Call.mono (fun v M1 hv => ?_) h
  obtain ⟨r1, rfl, h⟩ := hv
  show fs_A2 g m_Mo_dark 2 10 [(0, fs_r 226), (1, fs_i x1), (2, fs_i x2)] [fs_i r1] M1 K
  refine a_if_eq (tgt := 17) d_Mo_dark_10 rfl (fun c1 => ?_) (fun c1 => ?_)
  · have h := h.1 c1
    refine a_iconst d_Mo_dark_17 (by unfold fs_in32; omega) ?_
    exact b_ireturn d_Mo_dark_18 rfl rfl h
  · have h := h.2 c1
    refine a_iload_n (j := 2) d_Mo_dark_13 rfl rfl ?_
    refine a_if_ge (tgt := 19) d_Mo_dark_14 rfl (fun c2 => ?_) (fun c2 => ?_)
    · have h := h.1 c2
      refine a_iload_n (j := 2) d_Mo_dark_19 rfl rfl ?_
      refine a_iconst d_Mo_dark_20 (by unfold fs_in32; omega) ?_
      refine a_icmp_ge (tgt := 58) d_Mo_dark_21 rfl (fun c3 => ?_) (fun c3 => ?_)
      · have h := h.1 c3
        refine a_iload_n (j := 2) d_Mo_dark_58 rfl rfl ?_
        refine a_iconst d_Mo_dark_59 (by unfold fs_in32; omega) ?_
        refine a_isub d_Mo_dark_60 ?_
        refine a_aload_n (j := 0) d_Mo_dark_61 rfl rfl ?_
        refine b_getptr (q := 242) d_Mo_dark_62 fl_Mo_60 io_226 rfl rfl rfl ?_
        refine a_iload_n (j := 1) d_Mo_dark_65 rfl rfl ?_
        obtain ⟨o4, o5, h⟩ := h
        refine b_iaload (v := M1 242 x1) d_Mo_dark_66 ia_242 o4 o5 rfl ?_
        refine a_icmp_ge (tgt := 86) d_Mo_dark_67 rfl (fun c6 => ?_) (fun c6 => ?_)
        · have h := h.1 c6
          refine a_iconst d_Mo_dark_86 (by unfold fs_in32; omega) ?_
          exact b_ireturn d_Mo_dark_87 rfl rfl h
        · have h := h.2 c6
          refine a_aload_n (j := 0) d_Mo_dark_70 rfl rfl ?_
          refine b_getptr (q := 241) d_Mo_dark_71 fl_Mo_57 io_226 rfl rfl rfl ?_
          refine a_bipush d_Mo_dark_74 (by decide) ?_
          refine a_iload_n (j := 1) d_Mo_dark_76 rfl rfl ?_
          refine a_imul d_Mo_dark_77 ?_
          refine a_iload_n (j := 2) d_Mo_dark_78 rfl rfl ?_
          refine a_iadd d_Mo_dark_79 ?_
          refine a_iconst d_Mo_dark_80 (by unfold fs_in32; omega) ?_
          refine a_isub d_Mo_dark_81 ?_
          obtain ⟨o7, o8, h⟩ := h
          refine b_iaload (v := M1 241 (fs_w32 ((fs_w32 ((fs_w32 (9 * x1)) + x2)) - 3))) d_Mo_dark_82 ia_241 o7 o8 rfl ?_
          refine a_goto (tgt := 87) d_Mo_dark_83 rfl ?_
          exact b_ireturn d_Mo_dark_87 rfl rfl h
      · have h := h.2 c3
        refine a_iload_n (j := 2) d_Mo_dark_24 rfl rfl ?_
        refine a_if_ne (tgt := 37) d_Mo_dark_25 rfl (fun c9 => ?_) (fun c9 => ?_)
        · have h := h.1 c9
          refine a_iload_n (j := 2) d_Mo_dark_37 rfl rfl ?_
          refine a_iconst d_Mo_dark_38 (by unfold fs_in32; omega) ?_
          refine a_icmp_ne (tgt := 51) d_Mo_dark_39 rfl (fun c10 => ?_) (fun c10 => ?_)
          · have h := h.1 c10
            refine a_aload_n (j := 0) d_Mo_dark_51 rfl rfl ?_
            refine b_getptr (q := 242) d_Mo_dark_52 fl_Mo_60 io_226 rfl rfl rfl ?_
            refine a_iload_n (j := 1) d_Mo_dark_55 rfl rfl ?_
            obtain ⟨o11, o12, h⟩ := h
            refine b_iaload (v := M1 242 x1) d_Mo_dark_56 ia_242 o11 o12 rfl ?_
            exact b_ireturn d_Mo_dark_57 rfl rfl h
          · have h := h.2 c10
            refine a_aload_n (j := 0) d_Mo_dark_42 rfl rfl ?_
            refine b_getptr (q := 236) d_Mo_dark_43 fl_Mo_38 io_226 rfl rfl rfl ?_
            refine a_iload_n (j := 1) d_Mo_dark_46 rfl rfl ?_
            obtain ⟨o13, o14, h⟩ := h
            refine b_iaload (v := M1 236 x1) d_Mo_dark_47 ia_236 o13 o14 rfl ?_
            refine a_goto (tgt := 57) d_Mo_dark_48 rfl ?_
            exact b_ireturn d_Mo_dark_57 rfl rfl h
        · have h := h.2 c9
          refine a_aload_n (j := 0) d_Mo_dark_28 rfl rfl ?_
          refine b_getptr (q := 235) d_Mo_dark_29 fl_Mo_35 io_226 rfl rfl rfl ?_
          refine a_iload_n (j := 1) d_Mo_dark_32 rfl rfl ?_
          obtain ⟨o15, o16, h⟩ := h
          refine b_iaload (v := M1 235 x1) d_Mo_dark_33 ia_235 o15 o16 rfl ?_
          refine a_goto (tgt := 57) d_Mo_dark_34 rfl ?_
          exact b_ireturn d_Mo_dark_57 rfl rfl h
    · have h := h.2 c2
      refine a_iconst d_Mo_dark_17 (by unfold fs_in32; omega) ?_
      exact b_ireturn d_Mo_dark_18 rfl rfl h
set_option maxRecDepth 8000 in
set_option maxHeartbeats 4000000 in
theorem E_Mo_isDark {M : fs_M} {K : fs_K} {x1 : Int} 
    (h : ((x1 < 0 → K (some (fs_i 0)) M) ∧ (¬ x1 < 0 → ((M 228 1 ≤ x1 → K (some (fs_i 0)) M) ∧ (¬ M 228 1 ≤ x1 → K (some (fs_i 1)) M))))) :
    fs_C2 g m_Mo_isDark 1 [fs_r 226, fs_i x1] M K := by
  refine b_enter2 (ls := [(0, fs_r 226), (1, fs_i x1)]) (plainFor_of_name pn_Mo) (Nat.le_of_ble_eq_true rfl) rfl ?_
  refine a_iload_n (j := 1) d_Mo_isDark_0 rfl rfl ?_
  refine a_if_lt (tgt := 18) d_Mo_isDark_1 rfl (fun c1 => ?_) (fun c1 => ?_)
  · have h := h.1 c1
    refine a_iconst d_Mo_isDark_18 (by unfold fs_in32; omega) ?_
    exact b_ireturn d_Mo_isDark_19 rfl (fs_nar01 (Or.inl rfl)) h
  · have h := h.2 c1
    refine a_iload_n (j := 1) d_Mo_isDark_4 rfl rfl ?_
    refine a_aload_n (j := 0) d_Mo_isDark_5 rfl rfl ?_
    refine b_getptr (q := 228) d_Mo_isDark_6 fl_Mo_13 io_226 rfl rfl rfl ?_
    refine a_iconst d_Mo_isDark_9 (by unfold fs_in32; omega) ?_
    refine b_iaload (v := M 228 1) d_Mo_isDark_10 ia_228 (by decide) (by decide) rfl ?_
    refine a_icmp_ge (tgt := 18) d_Mo_isDark_11 rfl (fun c2 => ?_) (fun c2 => ?_)
    · have h := h.1 c2
      refine a_iconst d_Mo_isDark_18 (by unfold fs_in32; omega) ?_
      exact b_ireturn d_Mo_isDark_19 rfl (fs_nar01 (Or.inl rfl)) h
    · have h := h.2 c2
      refine a_iconst d_Mo_isDark_14 (by unfold fs_in32; omega) ?_
      refine a_goto (tgt := 19) d_Mo_isDark_15 rfl ?_
      exact b_ireturn d_Mo_isDark_19 rfl (fs_nar01 (Or.inr rfl)) h
set_option maxRecDepth 8000 in
set_option maxHeartbeats 4000000 in
theorem E_Mo_walk {M : fs_M} {K : fs_K} {x1 x2 x3 x4 x5 : Int} 
    (h : fs_C2 g m_Mo_isDark 1 [fs_r 226, fs_i x1] (fs_st M 226 0 0) (fun v M1 => ∃ r1, v = some (fs_i r1) ∧ ((r1 = 0 → K (some (fs_i (-1))) M1) ∧ (¬ r1 = 0 → ((x2 = (-1) → fs_A2 g m_Mo_walk 6 26 [(0, fs_r 226), (1, fs_i x1), (2, fs_i x2), (3, fs_i x3), (4, fs_i x4), (5, fs_i x5)] [] M1 K) ∧ (¬ x2 = (-1) → fs_C2 g m_Mo_isHouse 1 [fs_r 226, fs_i x2] M1 (fun v M2 => ∃ r2, v = some (fs_i r2) ∧ ((r2 = 0 → K (some (fs_i (-1))) M2) ∧ (¬ r2 = 0 → fs_A2 g m_Mo_walk 6 26 [(0, fs_r 226), (1, fs_i x1), (2, fs_i x2), (3, fs_i x3), (4, fs_i x4), (5, fs_i x5)] [] M2 K))))))))) :
    fs_C2 g m_Mo_walk 6 [fs_r 226, fs_i x1, fs_i x2, fs_i x3, fs_i x4, fs_i x5] M K := by
  refine b_enter2 (ls := [(0, fs_r 226), (1, fs_i x1), (2, fs_i x2), (3, fs_i x3), (4, fs_i x4), (5, fs_i x5)]) (plainFor_of_name pn_Mo) (Nat.le_of_ble_eq_true rfl) rfl ?_
  refine a_aload_n (j := 0) d_Mo_walk_0 rfl rfl ?_
  refine a_iconst d_Mo_walk_1 (by unfold fs_in32; omega) ?_
  refine b_putfield (x := 0) d_Mo_walk_2 fl_Mo_160 io_226 rfl rfl fs_nar_int ?_
  refine a_aload_n (j := 0) d_Mo_walk_5 rfl rfl ?_
  refine a_iload_n (j := 1) d_Mo_walk_6 rfl rfl ?_
  refine b_virtual (dc := 1) (ci := 11) (T := fs_T11) (N := 78) [fs_i x1] [] d_Mo_walk_7 ml_Mo_317 k_Mo_isDark v_Mo_isDark rfl io_226 rfl (Nat.le_of_ble_eq_true rfl) rfl (Nat.le_of_ble_eq_true rfl) ?_
  refine fs_Call.mono (fun v M1 hv => ?_) h
  obtain ⟨r1, rfl, h⟩ := hv
  show fs_A2 g m_Mo_walk 6 10 [(0, fs_r 226), (1, fs_i x1), (2, fs_i x2), (3, fs_i x3), (4, fs_i x4), (5, fs_i x5)] [fs_i r1] M1 K
  refine a_if_eq (tgt := 54) d_Mo_walk_10 rfl (fun c1 => ?_) (fun c1 => ?_)
  · have h := h.1 c1
    refine a_iconst d_Mo_walk_54 (by unfold fs_in32; omega) ?_
    exact b_ireturn d_Mo_walk_55 rfl rfl h
  · have h := h.2 c1
    refine a_iload_n (j := 2) d_Mo_walk_13 rfl rfl ?_
    refine a_iconst d_Mo_walk_14 (by unfold fs_in32; omega) ?_
    refine a_icmp_eq (tgt := 26) d_Mo_walk_15 rfl (fun c2 => ?_) (fun c2 => ?_)
    · have h := h.1 c2
      exact h
    · have h := h.2 c2
      refine a_aload_n (j := 0) d_Mo_walk_18 rfl rfl ?_
      refine a_iload_n (j := 2) d_Mo_walk_19 rfl rfl ?_
      refine b_virtual (dc := 1) (ci := 11) (T := fs_T11) (N := 78) [fs_i x2] [] d_Mo_walk_20 ml_Mo_314 k_Mo_isHouse v_Mo_isHouse rfl io_226 rfl (Nat.le_of_ble_eq_true rfl) rfl (Nat.le_of_ble_eq_true rfl) ?_
      refine fs_Call.mono (fun v M2 hv => ?_) h
      obtain ⟨r2, rfl, h⟩ := hv
      show fs_A2 g m_Mo_walk 6 23 [(0, fs_r 226), (1, fs_i x1), (2, fs_i x2), (3, fs_i x3), (4, fs_i x4), (5, fs_i x5)] [fs_i r2] M2 K
      refine a_if_eq (tgt := 54) d_Mo_walk_23 rfl (fun c3 => ?_) (fun c3 => ?_)
      · have h := h.1 c3
        refine a_iconst d_Mo_walk_54 (by unfold fs_in32; omega) ?_
        exact b_ireturn d_Mo_walk_55 rfl rfl h
      · have h := h.2 c3
        exact h
set_option maxRecDepth 8000 in
set_option maxHeartbeats 4000000 in
theorem L_Mo_walk_26 {M : fs_M} {K : fs_K} {x1 x2 x3 x4 x5 : Int} 
    (h : fs_C2 g m_Mo_isHouse 1 [fs_r 226, fs_i x3] M (fun v M3 => ∃ r3, v = some (fs_i r3) ∧ ((r3 = 0 → K (some (fs_i (-1))) M3) ∧ (¬ r3 = 0 → fs_C2 g m_Mo_isMinute 1 [fs_i x4] M3 (fun v M4 => ∃ r4, v = some (fs_i r4) ∧ ((r4 = 0 → K (some (fs_i (-1))) M4) ∧ (¬ r4 = 0 → ((x5 < 0 → K (some (fs_i (-1))) M4) ∧ (¬ x5 < 0 → ((x5 ≤ 9 → fs_C2 g m_Mo_plain 1 [fs_r 226] M4 (fun v M5 => v = none ∧ ((¬ x2 = (-1) → (0 ≤ x2 ∧ x2 < 12 ∧ fs_A2 g m_Mo_walk 6 81 [(0, fs_r 226), (1, fs_i x1), (3, fs_i x3), (4, fs_i x4), (5, fs_i x5)] [fs_i (M5 230 x2), fs_r 226] M5 K)) ∧ (x2 = (-1) → (0 ≤ x1 ∧ x1 < 6 ∧ fs_A2 g m_Mo_walk 6 81 [(0, fs_r 226), (1, fs_i x1), (3, fs_i x3), (4, fs_i x4), (5, fs_i x5)] [fs_i (M5 235 x1), fs_r 226] M5 K))))) ∧ (¬ x5 ≤ 9 → K (some (fs_i (-1))) M4))))))))))) :
    fs_A2 g m_Mo_walk 6 26 [(0, fs_r 226), (1, fs_i x1), (2, fs_i x2), (3, fs_i x3), (4, fs_i x4), (5, fs_i x5)] [] M K := by
  refine a_aload_n (j := 0) d_Mo_walk_26 rfl rfl ?_
  refine a_iload_n (j := 3) d_Mo_walk_27 rfl rfl ?_
  refine b_virtual (dc := 1) (ci := 11) (T := fs_T11) (N := 78) [fs_i x3] [] d_Mo_walk_28 ml_Mo_314 k_Mo_isHouse v_Mo_isHouse rfl io_226 rfl (Nat.le_of_ble_eq_true rfl) rfl (Nat.le_of_ble_eq_true rfl) ?_
  refine fs_Call.mono (fun v M3 hv => ?_) h
  obtain ⟨r3, rfl, h⟩ := hv
  show fs_A2 g m_Mo_walk 6 31 [(0, fs_r 226), (1, fs_i x1), (2, fs_i x2), (3, fs_i x3), (4, fs_i x4), (5, fs_i x5)] [fs_i r3] M3 K
  refine a_if_eq (tgt := 54) d_Mo_walk_31 rfl (fun c4 => ?_) (fun c4 => ?_)
  · have h := h.1 c4
    refine a_iconst d_Mo_walk_54 (by unfold fs_in32; omega) ?_
    exact b_ireturn d_Mo_walk_55 rfl rfl h
  · have h := h.2 c4
    refine a_iload (j := 4) d_Mo_walk_34 rfl ?_
    refine b_static (dc := 1) [fs_i x4] [] d_Mo_walk_36 ml_Mo_363 k_Mo_isMinute s_Mo_isMinute rfl (Nat.le_of_ble_eq_true rfl) rfl (Nat.le_of_ble_eq_true rfl) ?_
    refine fs_Call.mono (fun v M4 hv => ?_) h
    obtain ⟨r4, rfl, h⟩ := hv
    show fs_A2 g m_Mo_walk 6 39 [(0, fs_r 226), (1, fs_i x1), (2, fs_i x2), (3, fs_i x3), (4, fs_i x4), (5, fs_i x5)] [fs_i r4] M4 K
    refine a_if_eq (tgt := 54) d_Mo_walk_39 rfl (fun c5 => ?_) (fun c5 => ?_)
    · have h := h.1 c5
      refine a_iconst d_Mo_walk_54 (by unfold fs_in32; omega) ?_
      exact b_ireturn d_Mo_walk_55 rfl rfl h
    · have h := h.2 c5
      refine a_iload (j := 5) d_Mo_walk_42 rfl ?_
      refine a_if_lt (tgt := 54) d_Mo_walk_44 rfl (fun c6 => ?_) (fun c6 => ?_)
      · have h := h.1 c6
        refine a_iconst d_Mo_walk_54 (by unfold fs_in32; omega) ?_
        exact b_ireturn d_Mo_walk_55 rfl rfl h
      · have h := h.2 c6
        refine a_iload (j := 5) d_Mo_walk_47 rfl ?_
        refine a_bipush d_Mo_walk_49 (by decide) ?_
        refine a_icmp_le (tgt := 56) d_Mo_walk_51 rfl (fun c7 => ?_) (fun c7 => ?_)
        · have h := h.1 c7
          refine a_aload_n (j := 0) d_Mo_walk_56 rfl rfl ?_
          refine b_virtual (dc := 1) (ci := 11) (T := fs_T11) (N := 78) [] [] d_Mo_walk_57 ml_Mo_366 k_Mo_plain v_Mo_plain rfl io_226 rfl (Nat.le_of_ble_eq_true rfl) rfl (Nat.le_of_ble_eq_true rfl) ?_
          refine fs_Call.mono (fun v M5 hv => ?_) h
          obtain ⟨rfl, h⟩ := hv
          show fs_A2 g m_Mo_walk 6 60 [(0, fs_r 226), (1, fs_i x1), (2, fs_i x2), (3, fs_i x3), (4, fs_i x4), (5, fs_i x5)] [] M5 K
          refine a_aload_n (j := 0) d_Mo_walk_60 rfl rfl ?_
          refine a_iload_n (j := 2) d_Mo_walk_61 rfl rfl ?_
          refine a_iconst d_Mo_walk_62 (by unfold fs_in32; omega) ?_
          refine a_icmp_ne (tgt := 75) d_Mo_walk_63 rfl (fun c8 => ?_) (fun c8 => ?_)
          · have h := h.1 c8
            refine a_aload_n (j := 0) d_Mo_walk_75 rfl rfl ?_
            refine b_getptr (q := 230) d_Mo_walk_76 fl_Mo_19 io_226 rfl rfl rfl ?_
            refine a_iload_n (j := 2) d_Mo_walk_79 rfl rfl ?_
            obtain ⟨o9, o10, h⟩ := h
            refine b_iaload (v := M5 230 x2) d_Mo_walk_80 ia_230 o9 o10 rfl ?_
            refine a_sub [0, 1, 3, 4, 5] rfl ?_
            exact h
          · have h := h.2 c8
            refine a_aload_n (j := 0) d_Mo_walk_66 rfl rfl ?_
            refine b_getptr (q := 235) d_Mo_walk_67 fl_Mo_35 io_226 rfl rfl rfl ?_
            refine a_iload_n (j := 1) d_Mo_walk_70 rfl rfl ?_
            obtain ⟨o11, o12, h⟩ := h
            refine b_iaload (v := M5 235 x1) d_Mo_walk_71 ia_235 o11 o12 rfl ?_
            refine a_goto (tgt := 81) d_Mo_walk_72 rfl ?_
            refine a_sub [0, 1, 3, 4, 5] rfl ?_
            exact h
        · have h := h.2 c7
          refine a_iconst d_Mo_walk_54 (by unfold fs_in32; omega) ?_
          exact b_ireturn d_Mo_walk_55 rfl rfl h
set_option maxRecDepth 8000 in
set_option maxHeartbeats 4000000 in
theorem L_Mo_walk_81 {M : fs_M} {K : fs_K} {x1 x3 x4 x5 x101 : Int} 
    (h : (0 ≤ x1 ∧ x1 < 6 ∧ fs_C2 g m_Mo_walkOf 5 [fs_r 226, fs_i x101, fs_i x3, fs_i x4, fs_i x5, fs_i (M 236 x1)] M (fun v M6 => ∃ r6, v = some (fs_i r6) ∧ K (some (fs_i r6)) M6))) :
    fs_A2 g m_Mo_walk 6 81 [(0, fs_r 226), (1, fs_i x1), (3, fs_i x3), (4, fs_i x4), (5, fs_i x5)] [fs_i x101, fs_r 226] M K := by
  refine a_iload_n (j := 2) d_Mo_walk_81 rfl rfl ?_
  refine a_iload (j := 3) d_Mo_walk_82 rfl ?_
  refine a_iload (j := 4) d_Mo_walk_84 rfl ?_
  refine a_aload_n (j := 0) d_Mo_walk_86 rfl rfl ?_
  refine b_getptr (q := 236) d_Mo_walk_87 fl_Mo_38 io_226 rfl rfl rfl ?_
  refine a_iload_n (j := 1) d_Mo_walk_90 rfl rfl ?_
  obtain ⟨o13, o14, h⟩ := h
  refine b_iaload (v := M 236 x1) d_Mo_walk_91 ia_236 o13 o14 rfl ?_
  refine b_virtual (dc := 5) (ci := 11) (T := fs_T11) (N := 78) [fs_i x101, fs_i x3, fs_i x4, fs_i x5, fs_i (M 236 x1)] [] d_Mo_walk_92 ml_Mo_369 k_Mo_walkOf v_Mo_walkOf rfl io_226 rfl (Nat.le_of_ble_eq_true rfl) rfl (Nat.le_of_ble_eq_true rfl) ?_
  refine fs_Call.mono (fun v M6 hv => ?_) h
  obtain ⟨r6, rfl, h⟩ := hv
  show fs_A2 g m_Mo_walk 6 95 [(0, fs_r 226), (1, fs_i x1), (3, fs_i x3), (4, fs_i x4), (5, fs_i x5)] [fs_i r6] M6 K
  exact b_ireturn d_Mo_walk_95 rfl rfl h
set_option maxRecDepth 8000 in
set_option maxHeartbeats 4000000 in
theorem E_Mo_isMinute {M : fs_M} {K : fs_K} {x0 : Int} 
    (h : ((x0 < 1 → K (some (fs_i 0)) M) ∧ (¬ x0 < 1 → ((240 < x0 → K (some (fs_i 0)) M) ∧ (¬ 240 < x0 → K (some (fs_i 1)) M))))) :
    fs_C2 g m_Mo_isMinute 1 [fs_i x0] M K := by
  refine b_enter2 (ls := [(0, fs_i x0)]) (plainFor_of_name pn_Mo) (Nat.le_of_ble_eq_true rfl) rfl ?_
  refine a_iload_n (j := 0) d_Mo_isMinute_0 rfl rfl ?_
  refine a_iconst d_Mo_isMinute_1 (by unfold fs_in32; omega) ?_
  refine a_icmp_lt (tgt := 16) d_Mo_isMinute_2 rfl (fun c1 => ?_) (fun c1 => ?_)
  · have h := h.1 c1
    refine a_iconst d_Mo_isMinute_16 (by unfold fs_in32; omega) ?_
    exact b_ireturn d_Mo_isMinute_17 rfl (fs_nar01 (Or.inl rfl)) h
  · have h := h.2 c1
    refine a_iload_n (j := 0) d_Mo_isMinute_5 rfl rfl ?_
    refine a_sipush d_Mo_isMinute_6 (by decide) ?_
    refine a_icmp_gt (tgt := 16) d_Mo_isMinute_9 rfl (fun c2 => ?_) (fun c2 => ?_)
    · have h := h.1 c2
      refine a_iconst d_Mo_isMinute_16 (by unfold fs_in32; omega) ?_
      exact b_ireturn d_Mo_isMinute_17 rfl (fs_nar01 (Or.inl rfl)) h
    · have h := h.2 c2
      refine a_iconst d_Mo_isMinute_12 (by unfold fs_in32; omega) ?_
      refine a_goto (tgt := 17) d_Mo_isMinute_13 rfl ?_
      exact b_ireturn d_Mo_isMinute_17 rfl (fs_nar01 (Or.inr rfl)) h
set_option maxRecDepth 8000 in
set_option maxHeartbeats 4000000 in
theorem E_Mo_plain {M : fs_M} {K : fs_K} 
    (h : K none (fs_st (fs_st (fs_st M 226 42 (-1)) 226 43 (-1)) 226 44 (-1))) :
    fs_C2 g m_Mo_plain 1 [fs_r 226] M K := by
  refine b_enter2 (ls := [(0, fs_r 226)]) (plainFor_of_name pn_Mo) (Nat.le_of_ble_eq_true rfl) rfl ?_
  refine a_aload_n (j := 0) d_Mo_plain_0 rfl rfl ?_
  refine a_iconst d_Mo_plain_1 (by unfold fs_in32; omega) ?_
  refine b_putfield (x := (-1)) d_Mo_plain_2 fl_Mo_88 io_226 rfl rfl fs_nar_int ?_
  refine a_aload_n (j := 0) d_Mo_plain_5 rfl rfl ?_
  refine a_iconst d_Mo_plain_6 (by unfold fs_in32; omega) ?_
  refine b_putfield (x := (-1)) d_Mo_plain_7 fl_Mo_91 io_226 rfl rfl fs_nar_int ?_
  refine a_aload_n (j := 0) d_Mo_plain_10 rfl rfl ?_
  refine a_iconst d_Mo_plain_11 (by unfold fs_in32; omega) ?_
  refine b_putfield (x := (-1)) d_Mo_plain_12 fl_Mo_94 io_226 rfl rfl fs_nar_int ?_
  exact b_return d_Mo_plain_15 rfl h
set_option maxRecDepth 8000 in
set_option maxHeartbeats 4000000 in
theorem E_Mo_walkOf {M : fs_M} {K : fs_K} {x1 x2 x3 x4 x5 : Int} 
    (h : fs_C2 g m_Mo_calls 1 [fs_r 226, fs_i x2, fs_i x3, fs_i x4, fs_i x5] M (fun v M1 => v = none ∧ ((¬ M1 226 42 = 2 → (0 ≤ x2 ∧ x2 < 12 ∧ fs_C2 g m_Math_abs_I 1 [fs_i (fs_w32 ((M1 230 x2) - x1))] M1 (fun v M2 => ∃ r2, v = some (fs_i r2) ∧ fs_A2 g m_Mo_walkOf 5 33 [(0, fs_r 226), (1, fs_i x1), (2, fs_i x2)] [fs_i r2] M2 K))) ∧ (M1 226 42 = 2 → fs_A2 g m_Mo_walkOf 5 33 [(0, fs_r 226), (1, fs_i x1), (2, fs_i x2)] [fs_i 0] M1 K)))) :
    fs_C2 g m_Mo_walkOf 5 [fs_r 226, fs_i x1, fs_i x2, fs_i x3, fs_i x4, fs_i x5] M K := by
  refine b_enter2 (ls := [(0, fs_r 226), (1, fs_i x1), (2, fs_i x2), (3, fs_i x3), (4, fs_i x4), (5, fs_i x5)]) (plainFor_of_name pn_Mo) (Nat.le_of_ble_eq_true rfl) rfl ?_
  refine a_aload_n (j := 0) d_Mo_walkOf_0 rfl rfl ?_
  refine a_iload_n (j := 2) d_Mo_walkOf_1 rfl rfl ?_
  refine a_iload_n (j := 3) d_Mo_walkOf_2 rfl rfl ?_
  refine a_iload (j := 4) d_Mo_walkOf_3 rfl ?_
  refine a_iload (j := 5) d_Mo_walkOf_5 rfl ?_
  refine b_virtual (dc := 1) (ci := 11) (T := fs_T11) (N := 78) [fs_i x2, fs_i x3, fs_i x4, fs_i x5] [] d_Mo_walkOf_7 ml_Mo_353 k_Mo_calls v_Mo_calls rfl io_226 rfl (Nat.le_of_ble_eq_true rfl) rfl (Nat.le_of_ble_eq_true rfl) ?_
  refine fs_Call.mono (fun v M1 hv => ?_) h
  obtain ⟨rfl, h⟩ := hv
  show fs_A2 g m_Mo_walkOf 5 10 [(0, fs_r 226), (1, fs_i x1), (2, fs_i x2), (3, fs_i x3), (4, fs_i x4), (5, fs_i x5)] [] M1 K
  refine a_aload_n (j := 0) d_Mo_walkOf_10 rfl rfl ?_
  refine b_getfield (v := fs_i (M1 226 42)) d_Mo_walkOf_11 fl_Mo_88 io_226 rfl ?_
  refine a_iconst d_Mo_walkOf_14 (by unfold fs_in32; omega) ?_
  refine a_icmp_ne (tgt := 22) d_Mo_walkOf_15 rfl (fun c1 => ?_) (fun c1 => ?_)
  · have h := h.1 c1
    refine a_aload_n (j := 0) d_Mo_walkOf_22 rfl rfl ?_
    refine b_getptr (q := 230) d_Mo_walkOf_23 fl_Mo_19 io_226 rfl rfl rfl ?_
    refine a_iload_n (j := 2) d_Mo_walkOf_26 rfl rfl ?_
    obtain ⟨o2, o3, h⟩ := h
    refine b_iaload (v := M1 230 x2) d_Mo_walkOf_27 ia_230 o2 o3 rfl ?_
    refine a_iload_n (j := 1) d_Mo_walkOf_28 rfl rfl ?_
    refine a_isub d_Mo_walkOf_29 ?_
    refine b_static (dc := 1) [fs_i (fs_w32 ((M1 230 x2) - x1))] [] d_Mo_walkOf_30 ml_Mo_357 k_Math_abs_I s_Math_abs_I rfl (Nat.le_of_ble_eq_true rfl) rfl (Nat.le_of_ble_eq_true rfl) ?_
    refine fs_Call.mono (fun v M2 hv => ?_) h
    obtain ⟨r2, rfl, h⟩ := hv
    show fs_A2 g m_Mo_walkOf 5 33 [(0, fs_r 226), (1, fs_i x1), (2, fs_i x2), (3, fs_i x3), (4, fs_i x4), (5, fs_i x5)] [fs_i r2] M2 K
    refine a_sub [0, 1, 2] rfl ?_
    exact h
  · have h := h.2 c1
    refine a_iconst d_Mo_walkOf_18 (by unfold fs_in32; omega) ?_
    refine a_goto (tgt := 33) d_Mo_walkOf_19 rfl ?_
    refine a_sub [0, 1, 2] rfl ?_
    exact h
set_option maxRecDepth 8000 in
set_option maxHeartbeats 4000000 in
theorem L_Mo_walkOf_33 {M : fs_M} {K : fs_K} {x1 x2 x100 : Int} 
    (h : ((M 226 42 = 2 → fs_A2 g m_Mo_walkOf 5 72 [(0, fs_r 226), (6, fs_i x100)] [fs_i 0, fs_i 3, fs_r 249] (fs_st M 249 0 x100) K) ∧ (¬ M 226 42 = 2 → (0 ≤ x2 ∧ x2 < 12 ∧ ((M 230 x2 ≤ x1 → fs_A2 g m_Mo_walkOf 5 72 [(0, fs_r 226), (6, fs_i x100)] [fs_i 0, fs_i 3, fs_r 249] (fs_st M 249 0 x100) K) ∧ (¬ M 230 x2 ≤ x1 → fs_A2 g m_Mo_walkOf 5 72 [(0, fs_r 226), (6, fs_i x100)] [fs_i 1, fs_i 3, fs_r 249] (fs_st M 249 0 x100) K)))))) :
    fs_A2 g m_Mo_walkOf 5 33 [(0, fs_r 226), (1, fs_i x1), (2, fs_i x2)] [fs_i x100] M K := by
  refine a_istore d_Mo_walkOf_33 (Nat.le_of_ble_eq_true rfl) [1, 2, 3, 0] rfl ?_
  refine a_aload_n (j := 0) d_Mo_walkOf_35 rfl rfl ?_
  refine b_getptr (q := 249) d_Mo_walkOf_36 fl_Mo_81 io_226 rfl rfl rfl ?_
  refine a_iconst d_Mo_walkOf_39 (by unfold fs_in32; omega) ?_
  refine a_iload (j := 3) d_Mo_walkOf_40 rfl ?_
  refine a_i2l d_Mo_walkOf_42 ?_
  refine b_lastore d_Mo_walkOf_43 ia_249 (by decide) (by decide) ?_
  refine a_aload_n (j := 0) d_Mo_walkOf_44 rfl rfl ?_
  refine b_getptr (q := 249) d_Mo_walkOf_45 fl_Mo_81 io_226 rfl rfl rfl ?_
  refine a_iconst d_Mo_walkOf_48 (by unfold fs_in32; omega) ?_
  refine a_aload_n (j := 0) d_Mo_walkOf_49 rfl rfl ?_
  refine b_getfield (v := fs_i (M 226 42)) d_Mo_walkOf_50 fl_Mo_88 io_226 rfl ?_
  refine a_iconst d_Mo_walkOf_53 (by unfold fs_in32; omega) ?_
  refine a_icmp_eq (tgt := 71) d_Mo_walkOf_54 rfl (fun c4 => ?_) (fun c4 => ?_)
  · have h := h.1 c4
    refine a_iconst d_Mo_walkOf_71 (by unfold fs_in32; omega) ?_
    refine a_sub [0, 3] rfl ?_
    exact h
  · have h := h.2 c4
    refine a_aload_n (j := 0) d_Mo_walkOf_57 rfl rfl ?_
    refine b_getptr (q := 230) d_Mo_walkOf_58 fl_Mo_19 io_226 rfl rfl rfl ?_
    refine a_iload_n (j := 2) d_Mo_walkOf_61 rfl rfl ?_
    obtain ⟨o5, o6, h⟩ := h
    refine b_iaload (v := M 230 x2) d_Mo_walkOf_62 ia_230 o5 o6 rfl ?_
    refine a_iload_n (j := 1) d_Mo_walkOf_63 rfl rfl ?_
    refine a_icmp_le (tgt := 71) d_Mo_walkOf_64 rfl (fun c7 => ?_) (fun c7 => ?_)
    · have h := h.1 c7
      refine a_iconst d_Mo_walkOf_71 (by unfold fs_in32; omega) ?_
      refine a_sub [0, 3] rfl ?_
      exact h
    · have h := h.2 c7
      refine a_iconst d_Mo_walkOf_67 (by unfold fs_in32; omega) ?_
      refine a_goto (tgt := 72) d_Mo_walkOf_68 rfl ?_
      refine a_sub [0, 3] rfl ?_
      exact h
set_option maxRecDepth 8000 in
set_option maxHeartbeats 4000000 in
theorem L_Mo_walkOf_72 {M : fs_M} {K : fs_K} {x6 x101 x102 : Int} 
    (h : fs_C2 g m_Mo_is 1 [fs_i x102] M (fun v M3 => ∃ r3, v = some (fs_l r3) ∧ (0 ≤ x101 ∧ x101 < 7 ∧ fs_C2 g m_Mo_asks 4 [fs_r 226, fs_i 0, fs_i 240, fs_i x6] (fs_st M3 249 x101 r3) (fun v M4 => ∃ r4, v = some (fs_i r4) ∧ K (some (fs_i r4)) M4)))) :
    fs_A2 g m_Mo_walkOf 5 72 [(0, fs_r 226), (6, fs_i x6)] [fs_i x102, fs_i x101, fs_r 249] M K := by
  refine b_static (dc := 1) [fs_i x102] [fs_i x101, fs_r 249] d_Mo_walkOf_72 ml_Mo_323 k_Mo_is s_Mo_is rfl (Nat.le_of_ble_eq_true rfl) rfl (Nat.le_of_ble_eq_true rfl) ?_
  refine fs_Call.mono (fun v M3 hv => ?_) h
  obtain ⟨r3, rfl, h⟩ := hv
  show fs_A2 g m_Mo_walkOf 5 75 [(0, fs_r 226), (6, fs_i x6)] [fs_l r3, fs_i x101, fs_r 249] M3 K
  obtain ⟨o8, o9, h⟩ := h
  refine b_lastore d_Mo_walkOf_75 ia_249 o8 o9 ?_
  refine a_aload_n (j := 0) d_Mo_walkOf_76 rfl rfl ?_
  refine a_iconst d_Mo_walkOf_77 (by unfold fs_in32; omega) ?_
  refine a_sipush d_Mo_walkOf_78 (by decide) ?_
  refine a_iload (j := 1) d_Mo_walkOf_81 rfl ?_
  refine b_virtual (dc := 4) (ci := 11) (T := fs_T11) (N := 78) [fs_i 0, fs_i 240, fs_i x6] [] d_Mo_walkOf_83 ml_Mo_359 k_Mo_asks v_Mo_asks rfl io_226 rfl (Nat.le_of_ble_eq_true rfl) rfl (Nat.le_of_ble_eq_true rfl) ?_
  refine fs_Call.mono (fun v M4 hv => ?_) h
  obtain ⟨r4, rfl, h⟩ := hv
  show fs_A2 g m_Mo_walkOf 5 86 [(0, fs_r 226), (6, fs_i x6)] [fs_i r4] M4 K
  exact b_ireturn d_Mo_walkOf_86 rfl rfl h
set_option maxRecDepth 8000 in
set_option maxHeartbeats 4000000 in
theorem E_Mo_calls {M : fs_M} {K : fs_K} {x1 x2 x3 x4 : Int} 
    (h : (0 ≤ x1 ∧ x1 < 12 ∧ K none (fs_st (fs_st (fs_st (fs_st (fs_st (fs_st (fs_st M 249 0 0) 249 1 x3) 249 2 x2) 249 3 0) 249 4 x4) 249 5 (M 231 x1)) 249 6 0))) :
    fs_C2 g m_Mo_calls 1 [fs_r 226, fs_i x1, fs_i x2, fs_i x3, fs_i x4] M K := by
  refine b_enter2 (ls := [(0, fs_r 226), (1, fs_i x1), (2, fs_i x2), (3, fs_i x3), (4, fs_i x4)]) (plainFor_of_name pn_Mo) (Nat.le_of_ble_eq_true rfl) rfl ?_
  refine a_aload_n (j := 0) d_Mo_calls_0 rfl rfl ?_
  refine b_getptr (q := 249) d_Mo_calls_1 fl_Mo_81 io_226 rfl rfl rfl ?_
  refine a_iconst d_Mo_calls_4 (by unfold fs_in32; omega) ?_
  refine a_lconst (v := 0) d_Mo_calls_5 rfl (by unfold fs_in64; omega) ?_
  refine b_lastore d_Mo_calls_6 ia_249 (by decide) (by decide) ?_
  refine a_aload_n (j := 0) d_Mo_calls_7 rfl rfl ?_
  refine b_getptr (q := 249) d_Mo_calls_8 fl_Mo_81 io_226 rfl rfl rfl ?_
  refine a_iconst d_Mo_calls_11 (by unfold fs_in32; omega) ?_
  refine a_iload_n (j := 3) d_Mo_calls_12 rfl rfl ?_
  refine a_i2l d_Mo_calls_13 ?_
  refine b_lastore d_Mo_calls_14 ia_249 (by decide) (by decide) ?_
  refine a_aload_n (j := 0) d_Mo_calls_15 rfl rfl ?_
  refine b_getptr (q := 249) d_Mo_calls_16 fl_Mo_81 io_226 rfl rfl rfl ?_
  refine a_iconst d_Mo_calls_19 (by unfold fs_in32; omega) ?_
  refine a_iload_n (j := 2) d_Mo_calls_20 rfl rfl ?_
  refine a_i2l d_Mo_calls_21 ?_
  refine b_lastore d_Mo_calls_22 ia_249 (by decide) (by decide) ?_
  refine a_aload_n (j := 0) d_Mo_calls_23 rfl rfl ?_
  refine b_getptr (q := 249) d_Mo_calls_24 fl_Mo_81 io_226 rfl rfl rfl ?_
  refine a_iconst d_Mo_calls_27 (by unfold fs_in32; omega) ?_
  refine a_lconst (v := 0) d_Mo_calls_28 rfl (by unfold fs_in64; omega) ?_
  refine b_lastore d_Mo_calls_29 ia_249 (by decide) (by decide) ?_
  refine a_aload_n (j := 0) d_Mo_calls_30 rfl rfl ?_
  refine b_getptr (q := 249) d_Mo_calls_31 fl_Mo_81 io_226 rfl rfl rfl ?_
  refine a_iconst d_Mo_calls_34 (by unfold fs_in32; omega) ?_
  refine a_iload (j := 4) d_Mo_calls_35 rfl ?_
  refine a_i2l d_Mo_calls_37 ?_
  refine b_lastore d_Mo_calls_38 ia_249 (by decide) (by decide) ?_
  refine a_aload_n (j := 0) d_Mo_calls_39 rfl rfl ?_
  refine b_getptr (q := 249) d_Mo_calls_40 fl_Mo_81 io_226 rfl rfl rfl ?_
  refine a_iconst d_Mo_calls_43 (by unfold fs_in32; omega) ?_
  refine a_aload_n (j := 0) d_Mo_calls_44 rfl rfl ?_
  refine b_getptr (q := 231) d_Mo_calls_45 fl_Mo_22 io_226 rfl rfl rfl ?_
  refine a_iload_n (j := 1) d_Mo_calls_48 rfl rfl ?_
  obtain ⟨o1, o2, h⟩ := h
  refine b_iaload (v := M 231 x1) d_Mo_calls_49 ia_231 o1 o2 rfl ?_
  refine a_i2l d_Mo_calls_50 ?_
  refine b_lastore d_Mo_calls_51 ia_249 (by decide) (by decide) ?_
  refine a_aload_n (j := 0) d_Mo_calls_52 rfl rfl ?_
  refine b_getptr (q := 249) d_Mo_calls_53 fl_Mo_81 io_226 rfl rfl rfl ?_
  refine a_bipush d_Mo_calls_56 (by decide) ?_
  refine a_lconst (v := 0) d_Mo_calls_58 rfl (by unfold fs_in64; omega) ?_
  refine b_lastore d_Mo_calls_59 ia_249 (by decide) (by decide) ?_
  exact b_return d_Mo_calls_60 rfl h
set_option maxRecDepth 8000 in
set_option maxHeartbeats 4000000 in
theorem E_Mo_is {M : fs_M} {K : fs_K} {x0 : Int} 
    (h : ((x0 = 0 → K (some (fs_l 0)) M) ∧ (¬ x0 = 0 → K (some (fs_l 1)) M))) :
    fs_C2 g m_Mo_is 1 [fs_i x0] M K := by
  refine b_enter2 (ls := [(0, fs_i x0)]) (plainFor_of_name pn_Mo) (Nat.le_of_ble_eq_true rfl) rfl ?_
  refine a_iload_n (j := 0) d_Mo_is_0 rfl rfl ?_
  refine a_if_eq (tgt := 8) d_Mo_is_1 rfl (fun c1 => ?_) (fun c1 => ?_)
  · have h := h.1 c1
    refine a_lconst (v := 0) d_Mo_is_8 rfl (by unfold fs_in64; omega) ?_
    exact b_lreturn d_Mo_is_9 rfl h
  · have h := h.2 c1
    refine a_lconst (v := 1) d_Mo_is_4 rfl (by unfold fs_in64; omega) ?_
    refine a_goto (tgt := 9) d_Mo_is_5 rfl ?_
    exact b_lreturn d_Mo_is_9 rfl h
set_option maxRecDepth 8000 in
set_option maxHeartbeats 4000000 in
theorem E_Mo_asks {M : fs_M} {K : fs_K} {x1 x2 x3 : Int} 
    (h : fs_C2 g m_Mo_hasLaw 1 [fs_r 226, fs_i x1] M (fun v M1 => ∃ r1, v = some (fs_i r1) ∧ ((r1 = 0 → K (some (fs_i x3)) M1) ∧ (¬ r1 = 0 → fs_C2 g m_Mo_goes 3 [fs_r 226, fs_i x1] M1 (fun v M2 => ∃ r2, v = some (fs_i r2) ∧ ((¬ r2 = 0 → fs_C2 g m_Math_min_J 1 [fs_l x2, fs_l (M2 250 0)] M2 (fun v M3 => ∃ r3, v = some (fs_l r3) ∧ fs_C2 g m_Math_max_J 1 [fs_l 0, fs_l r3] M3 (fun v M4 => ∃ r4, v = some (fs_l r4) ∧ K (some (fs_i (fs_w32 r4))) M4))) ∧ (r2 = 0 → K (some (fs_i x3)) M2))))))) :
    fs_C2 g m_Mo_asks 4 [fs_r 226, fs_i x1, fs_i x2, fs_i x3] M K := by
  refine b_enter2 (ls := [(0, fs_r 226), (1, fs_i x1), (2, fs_i x2), (3, fs_i x3)]) (plainFor_of_name pn_Mo) (Nat.le_of_ble_eq_true rfl) rfl ?_
  refine a_aload_n (j := 0) d_Mo_asks_0 rfl rfl ?_
  refine a_iload_n (j := 1) d_Mo_asks_1 rfl rfl ?_
  refine b_virtual (dc := 1) (ci := 11) (T := fs_T11) (N := 78) [fs_i x1] [] d_Mo_asks_2 ml_Mo_340 k_Mo_hasLaw v_Mo_hasLaw rfl io_226 rfl (Nat.le_of_ble_eq_true rfl) rfl (Nat.le_of_ble_eq_true rfl) ?_
  refine fs_Call.mono (fun v M1 hv => ?_) h
  obtain ⟨r1, rfl, h⟩ := hv
  show fs_A2 g m_Mo_asks 4 5 [(0, fs_r 226), (1, fs_i x1), (2, fs_i x2), (3, fs_i x3)] [fs_i r1] M1 K
  refine a_if_eq (tgt := 16) d_Mo_asks_5 rfl (fun c1 => ?_) (fun c1 => ?_)
  · have h := h.1 c1
    refine a_iload_n (j := 3) d_Mo_asks_16 rfl rfl ?_
    exact b_ireturn d_Mo_asks_17 rfl rfl h
  · have h := h.2 c1
    refine a_aload_n (j := 0) d_Mo_asks_8 rfl rfl ?_
    refine a_iload_n (j := 1) d_Mo_asks_9 rfl rfl ?_
    refine b_virtual (dc := 3) (ci := 11) (T := fs_T11) (N := 78) [fs_i x1] [] d_Mo_asks_10 ml_Mo_343 k_Mo_goes v_Mo_goes rfl io_226 rfl (Nat.le_of_ble_eq_true rfl) rfl (Nat.le_of_ble_eq_true rfl) ?_
    refine fs_Call.mono (fun v M2 hv => ?_) h
    obtain ⟨r2, rfl, h⟩ := hv
    show fs_A2 g m_Mo_asks 4 13 [(0, fs_r 226), (1, fs_i x1), (2, fs_i x2), (3, fs_i x3)] [fs_i r2] M2 K
    refine a_if_ne (tgt := 18) d_Mo_asks_13 rfl (fun c2 => ?_) (fun c2 => ?_)
    · have h := h.1 c2
      refine a_lconst (v := 0) d_Mo_asks_18 rfl (by unfold fs_in64; omega) ?_
      refine a_iload_n (j := 2) d_Mo_asks_19 rfl rfl ?_
      refine a_i2l d_Mo_asks_20 ?_
      refine a_aload_n (j := 0) d_Mo_asks_21 rfl rfl ?_
      refine b_getptr (q := 250) d_Mo_asks_22 fl_Mo_85 io_226 rfl rfl rfl ?_
      refine a_iconst d_Mo_asks_25 (by unfold fs_in32; omega) ?_
      refine b_laload (v := M2 250 0) d_Mo_asks_26 ia_250 (by decide) (by decide) rfl ?_
      refine b_static (dc := 1) [fs_l x2, fs_l (M2 250 0)] [fs_l 0] d_Mo_asks_27 ml_Mo_346 k_Math_min_J s_Math_min_J rfl (Nat.le_of_ble_eq_true rfl) rfl (Nat.le_of_ble_eq_true rfl) ?_
      refine fs_Call.mono (fun v M3 hv => ?_) h
      obtain ⟨r3, rfl, h⟩ := hv
      show fs_A2 g m_Mo_asks 4 30 [(0, fs_r 226), (1, fs_i x1), (2, fs_i x2), (3, fs_i x3)] [fs_l r3, fs_l 0] M3 K
      refine b_static (dc := 1) [fs_l 0, fs_l r3] [] d_Mo_asks_30 ml_Mo_350 k_Math_max_J s_Math_max_J rfl (Nat.le_of_ble_eq_true rfl) rfl (Nat.le_of_ble_eq_true rfl) ?_
      refine fs_Call.mono (fun v M4 hv => ?_) h
      obtain ⟨r4, rfl, h⟩ := hv
      show fs_A2 g m_Mo_asks 4 33 [(0, fs_r 226), (1, fs_i x1), (2, fs_i x2), (3, fs_i x3)] [fs_l r4] M4 K
      refine a_l2i d_Mo_asks_33 ?_
      exact b_ireturn d_Mo_asks_34 rfl rfl h
    · have h := h.2 c2
      refine a_iload_n (j := 3) d_Mo_asks_16 rfl rfl ?_
      exact b_ireturn d_Mo_asks_17 rfl rfl h
set_option maxRecDepth 8000 in
set_option maxHeartbeats 4000000 in
theorem E_Mo_hasLaw {M : fs_M} {K : fs_K} {x1 : Int} 
    (h : (0 ≤ x1 ∧ x1 < 8 ∧ ((M 238 x1 ≤ M 237 x1 → K (some (fs_i 0)) M) ∧ (¬ M 238 x1 ≤ M 237 x1 → K (some (fs_i 1)) M)))) :
    fs_C2 g m_Mo_hasLaw 1 [fs_r 226, fs_i x1] M K := by
  refine b_enter2 (ls := [(0, fs_r 226), (1, fs_i x1)]) (plainFor_of_name pn_Mo) (Nat.le_of_ble_eq_true rfl) rfl ?_
  refine a_aload_n (j := 0) d_Mo_hasLaw_0 rfl rfl ?_
  refine b_getptr (q := 238) d_Mo_hasLaw_1 fl_Mo_44 io_226 rfl rfl rfl ?_
  refine a_iload_n (j := 1) d_Mo_hasLaw_4 rfl rfl ?_
  obtain ⟨o1, o2, h⟩ := h
  refine b_iaload (v := M 238 x1) d_Mo_hasLaw_5 ia_238 o1 o2 rfl ?_
  refine a_aload_n (j := 0) d_Mo_hasLaw_6 rfl rfl ?_
  refine b_getptr (q := 237) d_Mo_hasLaw_7 fl_Mo_41 io_226 rfl rfl rfl ?_
  refine a_iload_n (j := 1) d_Mo_hasLaw_10 rfl rfl ?_
  refine b_iaload (v := M 237 x1) d_Mo_hasLaw_11 ia_237 o1 o2 rfl ?_
  refine a_icmp_le (tgt := 19) d_Mo_hasLaw_12 rfl (fun c3 => ?_) (fun c3 => ?_)
  · have h := h.1 c3
    refine a_iconst d_Mo_hasLaw_19 (by unfold fs_in32; omega) ?_
    exact b_ireturn d_Mo_hasLaw_20 rfl (fs_nar01 (Or.inl rfl)) h
  · have h := h.2 c3
    refine a_iconst d_Mo_hasLaw_15 (by unfold fs_in32; omega) ?_
    refine a_goto (tgt := 20) d_Mo_hasLaw_16 rfl ?_
    exact b_ireturn d_Mo_hasLaw_20 rfl (fs_nar01 (Or.inr rfl)) h
set_option maxRecDepth 8000 in
set_option maxHeartbeats 4000000 in
theorem E_Mo_goes {M : fs_M} {K : fs_K} {x1 : Int} 
    (h : (0 ≤ x1 ∧ x1 < 8 ∧ fs_A2 g m_Mo_goes 3 12 [(0, fs_r 226), (1, fs_i x1), (2, fs_i (M 237 x1))] [] (fs_st M 226 41 0) K)) :
    fs_C2 g m_Mo_goes 3 [fs_r 226, fs_i x1] M K := by
  refine b_enter2 (ls := [(0, fs_r 226), (1, fs_i x1)]) (plainFor_of_name pn_Mo) (Nat.le_of_ble_eq_true rfl) rfl ?_
  refine a_aload_n (j := 0) d_Mo_goes_0 rfl rfl ?_
  refine a_iconst d_Mo_goes_1 (by unfold fs_in32; omega) ?_
  refine b_putfield (x := 0) d_Mo_goes_2 fl_Mo_320 io_226 rfl rfl fs_nar_int ?_
  refine a_aload_n (j := 0) d_Mo_goes_5 rfl rfl ?_
  refine b_getptr (q := 237) d_Mo_goes_6 fl_Mo_41 io_226 rfl rfl rfl ?_
  refine a_iload_n (j := 1) d_Mo_goes_9 rfl rfl ?_
  obtain ⟨o1, o2, h⟩ := h
  refine b_iaload (v := M 237 x1) d_Mo_goes_10 ia_237 o1 o2 rfl ?_
  refine a_istore_n d_Mo_goes_11 rfl (Nat.le_of_ble_eq_true rfl) [1, 2, 0] rfl ?_
  exact h
set_option maxRecDepth 8000 in
set_option maxHeartbeats 4000000 in
theorem L_Mo_goes_12 {M : fs_M} {K : fs_K} {x1 x2 : Int} 
    (h : (0 ≤ x1 ∧ x1 < 8 ∧ ((M 238 x1 ≤ x2 → K (some (fs_i 1)) M) ∧ (¬ M 238 x1 ≤ x2 → (0 ≤ x2 ∧ x2 < 128 ∧ ((¬ M 239 x2 = 2 → ((¬ M 239 x2 = 0 → (0 ≤ M 240 x2 ∧ M 240 x2 < 7 ∧ fs_A2 g m_Mo_goes 3 85 [(0, fs_r 226), (1, fs_i x1), (2, fs_i x2)] [fs_l (M 249 (M 240 x2)), fs_i (M 226 41), fs_r 250] M K)) ∧ (M 239 x2 = 0 → fs_A2 g m_Mo_goes 3 85 [(0, fs_r 226), (1, fs_i x1), (2, fs_i x2)] [fs_l (M 240 x2), fs_i (M 226 41), fs_r 250] M K))) ∧ (M 239 x2 = 2 → fs_C2 g m_Mo_works 2 [fs_r 226, fs_i (M 240 x2)] M (fun v M1 => ∃ r1, v = some (fs_i r1) ∧ ((¬ r1 = 0 → fs_A2 g m_Mo_goes 3 12 [(0, fs_r 226), (1, fs_i x1), (2, fs_i (fs_w32 (x2 + 1)))] [] M1 K) ∧ (r1 = 0 → K (some (fs_i 0)) M1)))))))))) :
    fs_A2 g m_Mo_goes 3 12 [(0, fs_r 226), (1, fs_i x1), (2, fs_i x2)] [] M K := by
  refine a_iload_n (j := 2) d_Mo_goes_12 rfl rfl ?_
  refine a_aload_n (j := 0) d_Mo_goes_13 rfl rfl ?_
  refine b_getptr (q := 238) d_Mo_goes_14 fl_Mo_44 io_226 rfl rfl rfl ?_
  refine a_iload_n (j := 1) d_Mo_goes_17 rfl rfl ?_
  obtain ⟨o3, o4, h⟩ := h
  refine b_iaload (v := M 238 x1) d_Mo_goes_18 ia_238 o3 o4 rfl ?_
  refine a_icmp_ge (tgt := 102) d_Mo_goes_19 rfl (fun c5 => ?_) (fun c5 => ?_)
  · have h := h.1 c5
    refine a_iconst d_Mo_goes_102 (by unfold fs_in32; omega) ?_
    exact b_ireturn d_Mo_goes_103 rfl (fs_nar01 (Or.inr rfl)) h
  · have h := h.2 c5
    refine a_aload_n (j := 0) d_Mo_goes_22 rfl rfl ?_
    refine b_getptr (q := 239) d_Mo_goes_23 fl_Mo_47 io_226 rfl rfl rfl ?_
    refine a_iload_n (j := 2) d_Mo_goes_26 rfl rfl ?_
    obtain ⟨o6, o7, h⟩ := h
    refine b_iaload (v := M 239 x2) d_Mo_goes_27 ia_239 o6 o7 rfl ?_
    refine a_iconst d_Mo_goes_28 (by unfold fs_in32; omega) ?_
    refine a_icmp_ne (tgt := 47) d_Mo_goes_29 rfl (fun c8 => ?_) (fun c8 => ?_)
    · have h := h.1 c8
      refine a_aload_n (j := 0) d_Mo_goes_47 rfl rfl ?_
      refine b_getptr (q := 250) d_Mo_goes_48 fl_Mo_85 io_226 rfl rfl rfl ?_
      refine a_aload_n (j := 0) d_Mo_goes_51 rfl rfl ?_
      refine b_getfield (v := fs_i (M 226 41)) d_Mo_goes_52 fl_Mo_320 io_226 rfl ?_
      refine a_aload_n (j := 0) d_Mo_goes_55 rfl rfl ?_
      refine b_getptr (q := 239) d_Mo_goes_56 fl_Mo_47 io_226 rfl rfl rfl ?_
      refine a_iload_n (j := 2) d_Mo_goes_59 rfl rfl ?_
      refine b_iaload (v := M 239 x2) d_Mo_goes_60 ia_239 o6 o7 rfl ?_
      refine a_if_ne (tgt := 74) d_Mo_goes_61 rfl (fun c9 => ?_) (fun c9 => ?_)
      · have h := h.1 c9
        refine a_aload_n (j := 0) d_Mo_goes_74 rfl rfl ?_
        refine b_getptr (q := 249) d_Mo_goes_75 fl_Mo_81 io_226 rfl rfl rfl ?_
        refine a_aload_n (j := 0) d_Mo_goes_78 rfl rfl ?_
        refine b_getptr (q := 240) d_Mo_goes_79 fl_Mo_50 io_226 rfl rfl rfl ?_
        refine a_iload_n (j := 2) d_Mo_goes_82 rfl rfl ?_
        refine b_iaload (v := M 240 x2) d_Mo_goes_83 ia_240 o6 o7 rfl ?_
        obtain ⟨o10, o11, h⟩ := h
        refine b_laload (v := M 249 (M 240 x2)) d_Mo_goes_84 ia_249 o10 o11 rfl ?_
        exact h
      · have h := h.2 c9
        refine a_aload_n (j := 0) d_Mo_goes_64 rfl rfl ?_
        refine b_getptr (q := 240) d_Mo_goes_65 fl_Mo_50 io_226 rfl rfl rfl ?_
        refine a_iload_n (j := 2) d_Mo_goes_68 rfl rfl ?_
        refine b_iaload (v := M 240 x2) d_Mo_goes_69 ia_240 o6 o7 rfl ?_
        refine a_i2l d_Mo_goes_70 ?_
        refine a_goto (tgt := 85) d_Mo_goes_71 rfl ?_
        exact h
    · have h := h.2 c8
      refine a_aload_n (j := 0) d_Mo_goes_32 rfl rfl ?_
      refine a_aload_n (j := 0) d_Mo_goes_33 rfl rfl ?_
      refine b_getptr (q := 240) d_Mo_goes_34 fl_Mo_50 io_226 rfl rfl rfl ?_
      refine a_iload_n (j := 2) d_Mo_goes_37 rfl rfl ?_
      refine b_iaload (v := M 240 x2) d_Mo_goes_38 ia_240 o6 o7 rfl ?_
      refine b_virtual (dc := 2) (ci := 11) (T := fs_T11) (N := 78) [fs_i (M 240 x2)] [] d_Mo_goes_39 ml_Mo_337 k_Mo_works v_Mo_works rfl io_226 rfl (Nat.le_of_ble_eq_true rfl) rfl (Nat.le_of_ble_eq_true rfl) ?_
      refine fs_Call.mono (fun v M1 hv => ?_) h
      obtain ⟨r1, rfl, h⟩ := hv
      show fs_A2 g m_Mo_goes 3 42 [(0, fs_r 226), (1, fs_i x1), (2, fs_i x2)] [fs_i r1] M1 K
      refine a_if_ne (tgt := 96) d_Mo_goes_42 rfl (fun c12 => ?_) (fun c12 => ?_)
      · have h := h.1 c12
        refine a_iinc (j := 2) d_Mo_goes_96 rfl (Nat.le_of_ble_eq_true rfl) [1, 2, 0] rfl ?_
        refine a_goto (tgt := 12) d_Mo_goes_99 rfl ?_
        exact h
      · have h := h.2 c12
        refine a_iconst d_Mo_goes_45 (by unfold fs_in32; omega) ?_
        exact b_ireturn d_Mo_goes_46 rfl (fs_nar01 (Or.inl rfl)) h
set_option maxRecDepth 8000 in
set_option maxHeartbeats 4000000 in
theorem L_Mo_goes_85 {M : fs_M} {K : fs_K} {x1 x2 x101 x102 : Int} 
    (h : (0 ≤ x101 ∧ x101 < 64 ∧ fs_A2 g m_Mo_goes 3 12 [(0, fs_r 226), (1, fs_i x1), (2, fs_i (fs_w32 (x2 + 1)))] [] (fs_st (fs_st M 250 x101 x102) 226 41 (fs_w32 ((M 226 41) + 1))) K)) :
    fs_A2 g m_Mo_goes 3 85 [(0, fs_r 226), (1, fs_i x1), (2, fs_i x2)] [fs_l x102, fs_i x101, fs_r 250] M K := by
  obtain ⟨o13, o14, h⟩ := h
  refine b_lastore d_Mo_goes_85 ia_250 o13 o14 ?_
  refine a_aload_n (j := 0) d_Mo_goes_86 rfl rfl ?_
  refine a_dup d_Mo_goes_87 rfl ?_
  refine b_getfield (v := fs_i (M 226 41)) d_Mo_goes_88 fl_Mo_320 io_226 rfl ?_
  refine a_iconst d_Mo_goes_91 (by unfold fs_in32; omega) ?_
  refine a_iadd d_Mo_goes_92 ?_
  refine b_putfield (x := (fs_w32 ((M 226 41) + 1))) d_Mo_goes_93 fl_Mo_320 io_226 rfl rfl fs_nar_int ?_
  refine a_iinc (j := 2) d_Mo_goes_96 rfl (Nat.le_of_ble_eq_true rfl) [1, 2, 0] rfl ?_
  refine a_goto (tgt := 12) d_Mo_goes_99 rfl ?_
  exact h
set_option maxRecDepth 8000 in
set_option maxHeartbeats 4000000 in
theorem E_Mo_works {M : fs_M} {K : fs_K} {x1 : Int} 
    (h : (0 ≤ fs_w32 ((M 226 41) - 1) ∧ fs_w32 ((M 226 41) - 1) < 64 ∧ ((¬ x1 = 260 → (0 ≤ fs_w32 ((M 226 41) - 2) ∧ fs_w32 ((M 226 41) - 2) < 64 ∧ ((x1 = 43 → fs_A2 g m_Mo_works 2 407 [(0, fs_r 226), (6, fs_l (fs_w64 ((M 250 (fs_w32 ((M 226 41) - 2))) + (M 250 (fs_w32 ((M 226 41) - 1))))))] [] (fs_st M 226 41 (fs_w32 ((M 226 41) - 1))) K) ∧ (x1 = 45 → fs_A2 g m_Mo_works 2 407 [(0, fs_r 226), (6, fs_l (fs_w64 ((M 250 (fs_w32 ((M 226 41) - 2))) - (M 250 (fs_w32 ((M 226 41) - 1))))))] [] (fs_st M 226 41 (fs_w32 ((M 226 41) - 1))) K) ∧ (x1 = 42 → ((fs_lcmp (M 250 (fs_w32 ((M 226 41) - 2))) 0 = 0 → fs_A2 g m_Mo_works 2 407 [(0, fs_r 226), (6, fs_l (fs_w64 ((M 250 (fs_w32 ((M 226 41) - 2))) * (M 250 (fs_w32 ((M 226 41) - 1))))))] [] (fs_st M 226 41 (fs_w32 ((M 226 41) - 1))) K) ∧ (¬ fs_lcmp (M 250 (fs_w32 ((M 226 41) - 2))) 0 = 0 → fs_C2 g m_Math_abs_J 1 [fs_l (M 250 (fs_w32 ((M 226 41) - 1)))] (fs_st M 226 41 (fs_w32 ((M 226 41) - 1))) (fun v M1 => ∃ r1, v = some (fs_l r1) ∧ fs_C2 g m_Math_abs_J 1 [fs_l (M 250 (fs_w32 ((M 226 41) - 2)))] M1 (fun v M2 => ∃ r2, v = some (fs_l r2) ∧ (¬ r2 = 0 ∧ ((fs_lcmp r1 (fs_ldiv 1000000000000 r2) ≤ 0 → fs_A2 g m_Mo_works 2 407 [(0, fs_r 226), (6, fs_l (fs_w64 ((M 250 (fs_w32 ((M 226 41) - 2))) * (M 250 (fs_w32 ((M 226 41) - 1))))))] [] M2 K) ∧ (¬ fs_lcmp r1 (fs_ldiv 1000000000000 r2) ≤ 0 → K (some (fs_i 0)) M2)))))))) ∧ (x1 = 47 → ((¬ fs_lcmp (M 250 (fs_w32 ((M 226 41) - 1))) 0 = 0 → (¬ M 250 (fs_w32 ((M 226 41) - 1)) = 0 ∧ fs_A2 g m_Mo_works 2 407 [(0, fs_r 226), (6, fs_l (fs_ldiv (M 250 (fs_w32 ((M 226 41) - 2))) (M 250 (fs_w32 ((M 226 41) - 1)))))] [] (fs_st M 226 41 (fs_w32 ((M 226 41) - 1))) K)) ∧ (fs_lcmp (M 250 (fs_w32 ((M 226 41) - 1))) 0 = 0 → K (some (fs_i 0)) (fs_st M 226 41 (fs_w32 ((M 226 41) - 1)))))) ∧ (x1 = 60 → ((0 ≤ fs_lcmp (M 250 (fs_w32 ((M 226 41) - 2))) (M 250 (fs_w32 ((M 226 41) - 1))) → fs_C2 g m_Mo_is 1 [fs_i 0] (fs_st M 226 41 (fs_w32 ((M 226 41) - 1))) (fun v M3 => ∃ r3, v = some (fs_l r3) ∧ fs_A2 g m_Mo_works 2 407 [(0, fs_r 226), (6, fs_l r3)] [] M3 K)) ∧ (¬ 0 ≤ fs_lcmp (M 250 (fs_w32 ((M 226 41) - 2))) (M 250 (fs_w32 ((M 226 41) - 1))) → fs_C2 g m_Mo_is 1 [fs_i 1] (fs_st M 226 41 (fs_w32 ((M 226 41) - 1))) (fun v M4 => ∃ r4, v = some (fs_l r4) ∧ fs_A2 g m_Mo_works 2 407 [(0, fs_r 226), (6, fs_l r4)] [] M4 K)))) ∧ (x1 = 62 → ((fs_lcmp (M 250 (fs_w32 ((M 226 41) - 2))) (M 250 (fs_w32 ((M 226 41) - 1))) ≤ 0 → fs_C2 g m_Mo_is 1 [fs_i 0] (fs_st M 226 41 (fs_w32 ((M 226 41) - 1))) (fun v M5 => ∃ r5, v = some (fs_l r5) ∧ fs_A2 g m_Mo_works 2 407 [(0, fs_r 226), (6, fs_l r5)] [] M5 K)) ∧ (¬ fs_lcmp (M 250 (fs_w32 ((M 226 41) - 2))) (M 250 (fs_w32 ((M 226 41) - 1))) ≤ 0 → fs_C2 g m_Mo_is 1 [fs_i 1] (fs_st M 226 41 (fs_w32 ((M 226 41) - 1))) (fun v M6 => ∃ r6, v = some (fs_l r6) ∧ fs_A2 g m_Mo_works 2 407 [(0, fs_r 226), (6, fs_l r6)] [] M6 K)))) ∧ (x1 = 61 → ((¬ fs_lcmp (M 250 (fs_w32 ((M 226 41) - 2))) (M 250 (fs_w32 ((M 226 41) - 1))) = 0 → fs_C2 g m_Mo_is 1 [fs_i 0] (fs_st M 226 41 (fs_w32 ((M 226 41) - 1))) (fun v M7 => ∃ r7, v = some (fs_l r7) ∧ fs_A2 g m_Mo_works 2 407 [(0, fs_r 226), (6, fs_l r7)] [] M7 K)) ∧ (fs_lcmp (M 250 (fs_w32 ((M 226 41) - 2))) (M 250 (fs_w32 ((M 226 41) - 1))) = 0 → fs_C2 g m_Mo_is 1 [fs_i 1] (fs_st M 226 41 (fs_w32 ((M 226 41) - 1))) (fun v M8 => ∃ r8, v = some (fs_l r8) ∧ fs_A2 g m_Mo_works 2 407 [(0, fs_r 226), (6, fs_l r8)] [] M8 K)))) ∧ (x1 = 256 → ((0 < fs_lcmp (M 250 (fs_w32 ((M 226 41) - 2))) (M 250 (fs_w32 ((M 226 41) - 1))) → fs_C2 g m_Mo_is 1 [fs_i 0] (fs_st M 226 41 (fs_w32 ((M 226 41) - 1))) (fun v M9 => ∃ r9, v = some (fs_l r9) ∧ fs_A2 g m_Mo_works 2 407 [(0, fs_r 226), (6, fs_l r9)] [] M9 K)) ∧ (¬ 0 < fs_lcmp (M 250 (fs_w32 ((M 226 41) - 2))) (M 250 (fs_w32 ((M 226 41) - 1))) → fs_C2 g m_Mo_is 1 [fs_i 1] (fs_st M 226 41 (fs_w32 ((M 226 41) - 1))) (fun v M10 => ∃ r10, v = some (fs_l r10) ∧ fs_A2 g m_Mo_works 2 407 [(0, fs_r 226), (6, fs_l r10)] [] M10 K)))) ∧ (x1 = 258 → ((fs_lcmp (M 250 (fs_w32 ((M 226 41) - 2))) (M 250 (fs_w32 ((M 226 41) - 1))) < 0 → fs_C2 g m_Mo_is 1 [fs_i 0] (fs_st M 226 41 (fs_w32 ((M 226 41) - 1))) (fun v M11 => ∃ r11, v = some (fs_l r11) ∧ fs_A2 g m_Mo_works 2 407 [(0, fs_r 226), (6, fs_l r11)] [] M11 K)) ∧ (¬ fs_lcmp (M 250 (fs_w32 ((M 226 41) - 2))) (M 250 (fs_w32 ((M 226 41) - 1))) < 0 → fs_C2 g m_Mo_is 1 [fs_i 1] (fs_st M 226 41 (fs_w32 ((M 226 41) - 1))) (fun v M12 => ∃ r12, v = some (fs_l r12) ∧ fs_A2 g m_Mo_works 2 407 [(0, fs_r 226), (6, fs_l r12)] [] M12 K)))) ∧ (x1 = 257 → ((fs_lcmp (M 250 (fs_w32 ((M 226 41) - 2))) (M 250 (fs_w32 ((M 226 41) - 1))) = 0 → fs_C2 g m_Mo_is 1 [fs_i 0] (fs_st M 226 41 (fs_w32 ((M 226 41) - 1))) (fun v M13 => ∃ r13, v = some (fs_l r13) ∧ fs_A2 g m_Mo_works 2 407 [(0, fs_r 226), (6, fs_l r13)] [] M13 K)) ∧ (¬ fs_lcmp (M 250 (fs_w32 ((M 226 41) - 2))) (M 250 (fs_w32 ((M 226 41) - 1))) = 0 → fs_C2 g m_Mo_is 1 [fs_i 1] (fs_st M 226 41 (fs_w32 ((M 226 41) - 1))) (fun v M14 => ∃ r14, v = some (fs_l r14) ∧ fs_A2 g m_Mo_works 2 407 [(0, fs_r 226), (6, fs_l r14)] [] M14 K)))) ∧ (x1 = 261 → ((fs_lcmp (M 250 (fs_w32 ((M 226 41) - 2))) 0 = 0 → fs_C2 g m_Mo_is 1 [fs_i 0] (fs_st M 226 41 (fs_w32 ((M 226 41) - 1))) (fun v M15 => ∃ r15, v = some (fs_l r15) ∧ fs_A2 g m_Mo_works 2 407 [(0, fs_r 226), (6, fs_l r15)] [] M15 K)) ∧ (¬ fs_lcmp (M 250 (fs_w32 ((M 226 41) - 2))) 0 = 0 → ((fs_lcmp (M 250 (fs_w32 ((M 226 41) - 1))) 0 = 0 → fs_C2 g m_Mo_is 1 [fs_i 0] (fs_st M 226 41 (fs_w32 ((M 226 41) - 1))) (fun v M16 => ∃ r16, v = some (fs_l r16) ∧ fs_A2 g m_Mo_works 2 407 [(0, fs_r 226), (6, fs_l r16)] [] M16 K)) ∧ (¬ fs_lcmp (M 250 (fs_w32 ((M 226 41) - 1))) 0 = 0 → fs_C2 g m_Mo_is 1 [fs_i 1] (fs_st M 226 41 (fs_w32 ((M 226 41) - 1))) (fun v M17 => ∃ r17, v = some (fs_l r17) ∧ fs_A2 g m_Mo_works 2 407 [(0, fs_r 226), (6, fs_l r17)] [] M17 K)))))) ∧ (¬ x1 = 43 ∧ ¬ x1 = 45 ∧ ¬ x1 = 42 ∧ ¬ x1 = 47 ∧ ¬ x1 = 60 ∧ ¬ x1 = 62 ∧ ¬ x1 = 61 ∧ ¬ x1 = 256 ∧ ¬ x1 = 258 ∧ ¬ x1 = 257 ∧ ¬ x1 = 261 → ((¬ fs_lcmp (M 250 (fs_w32 ((M 226 41) - 2))) 0 = 0 → fs_C2 g m_Mo_is 1 [fs_i 1] (fs_st M 226 41 (fs_w32 ((M 226 41) - 1))) (fun v M18 => ∃ r18, v = some (fs_l r18) ∧ fs_A2 g m_Mo_works 2 407 [(0, fs_r 226), (6, fs_l r18)] [] M18 K)) ∧ (fs_lcmp (M 250 (fs_w32 ((M 226 41) - 2))) 0 = 0 → ((fs_lcmp (M 250 (fs_w32 ((M 226 41) - 1))) 0 = 0 → fs_C2 g m_Mo_is 1 [fs_i 0] (fs_st M 226 41 (fs_w32 ((M 226 41) - 1))) (fun v M19 => ∃ r19, v = some (fs_l r19) ∧ fs_A2 g m_Mo_works 2 407 [(0, fs_r 226), (6, fs_l r19)] [] M19 K)) ∧ (¬ fs_lcmp (M 250 (fs_w32 ((M 226 41) - 1))) 0 = 0 → fs_C2 g m_Mo_is 1 [fs_i 1] (fs_st M 226 41 (fs_w32 ((M 226 41) - 1))) (fun v M20 => ∃ r20, v = some (fs_l r20) ∧ fs_A2 g m_Mo_works 2 407 [(0, fs_r 226), (6, fs_l r20)] [] M20 K))))))))) ∧ (x1 = 260 → ((¬ fs_lcmp (M 250 (fs_w32 ((M 226 41) - 1))) 0 = 0 → fs_C2 g m_Mo_is 1 [fs_i 0] M (fun v M21 => ∃ r21, v = some (fs_l r21) ∧ K (some (fs_i 1)) (fs_st M21 250 (fs_w32 ((M 226 41) - 1)) r21))) ∧ (fs_lcmp (M 250 (fs_w32 ((M 226 41) - 1))) 0 = 0 → fs_C2 g m_Mo_is 1 [fs_i 1] M (fun v M22 => ∃ r22, v = some (fs_l r22) ∧ K (some (fs_i 1)) (fs_st M22 250 (fs_w32 ((M 226 41) - 1)) r22)))))))) :
    fs_C2 g m_Mo_works 2 [fs_r 226, fs_i x1] M K := by
  refine b_enter2 (ls := [(0, fs_r 226), (1, fs_i x1)]) (plainFor_of_name pn_Mo) (Nat.le_of_ble_eq_true rfl) rfl ?_
  refine a_aload_n (j := 0) d_Mo_works_0 rfl rfl ?_
  refine b_getptr (q := 250) d_Mo_works_1 fl_Mo_85 io_226 rfl rfl rfl ?_
  refine a_aload_n (j := 0) d_Mo_works_4 rfl rfl ?_
  refine b_getfield (v := fs_i (M 226 41)) d_Mo_works_5 fl_Mo_320 io_226 rfl ?_
  refine a_iconst d_Mo_works_8 (by unfold fs_in32; omega) ?_
  refine a_isub d_Mo_works_9 ?_
  obtain ⟨o1, o2, h⟩ := h
  refine b_laload (v := M 250 (fs_w32 ((M 226 41) - 1))) d_Mo_works_10 ia_250 o1 o2 rfl ?_
  refine a_lstore_n d_Mo_works_11 rfl (Nat.le_of_ble_eq_true rfl) [1, 2, 0] rfl ?_
  refine a_iload_n (j := 1) d_Mo_works_12 rfl rfl ?_
  refine a_sipush d_Mo_works_13 (by decide) ?_
  refine a_icmp_ne (tgt := 46) d_Mo_works_16 rfl (fun c3 => ?_) (fun c3 => ?_)
  · have h := h.1 c3
    refine a_aload_n (j := 0) d_Mo_works_46 rfl rfl ?_
    refine b_getptr (q := 250) d_Mo_works_47 fl_Mo_85 io_226 rfl rfl rfl ?_
    refine a_aload_n (j := 0) d_Mo_works_50 rfl rfl ?_
    refine b_getfield (v := fs_i (M 226 41)) d_Mo_works_51 fl_Mo_320 io_226 rfl ?_
    refine a_iconst d_Mo_works_54 (by unfold fs_in32; omega) ?_
    refine a_isub d_Mo_works_55 ?_
    obtain ⟨o4, o5, h⟩ := h
    refine b_laload (v := M 250 (fs_w32 ((M 226 41) - 2))) d_Mo_works_56 ia_250 o4 o5 rfl ?_
    refine a_lstore d_Mo_works_57 (Nat.le_of_ble_eq_true rfl) [1, 2, 3, 0] rfl ?_
    refine a_aload_n (j := 0) d_Mo_works_59 rfl rfl ?_
    refine a_dup d_Mo_works_60 rfl ?_
    refine b_getfield (v := fs_i (M 226 41)) d_Mo_works_61 fl_Mo_320 io_226 rfl ?_
    refine a_iconst d_Mo_works_64 (by unfold fs_in32; omega) ?_
    refine a_isub d_Mo_works_65 ?_
    refine b_putfield (x := (fs_w32 ((M 226 41) - 1))) d_Mo_works_66 fl_Mo_320 io_226 rfl rfl fs_nar_int ?_
    refine a_iload_n (j := 1) d_Mo_works_69 rfl rfl ?_
    obtain ⟨hs70_0, hs70_1, hs70_2, hs70_3, hs70_4, hs70_5, hs70_6, hs70_7, hs70_8, hs70_9, hs70_10, hs70_11⟩ := h
    by_cases q70_43 : x1 = 43
    · have h := hs70_0 q70_43
      refine a_lookup (tgt := 168) d_Mo_works_70 rfl (by rw [q70_43]; try rfl) rfl ?_
      refine a_lload (j := 3) d_Mo_works_168 rfl ?_
      refine a_lload_n (j := 2) d_Mo_works_170 rfl rfl ?_
      refine a_ladd d_Mo_works_171 ?_
      refine a_lstore d_Mo_works_172 (Nat.le_of_ble_eq_true rfl) [1, 2, 3, 4, 0] rfl ?_
      refine a_goto (tgt := 407) d_Mo_works_174 rfl ?_
      refine a_sub [0, 4] rfl ?_
      exact h
    ·
      by_cases q70_45 : x1 = 45
      · have h := hs70_1 q70_45
        refine a_lookup (tgt := 177) d_Mo_works_70 rfl (by rw [q70_45]; try rfl) rfl ?_
        refine a_lload (j := 3) d_Mo_works_177 rfl ?_
        refine a_lload_n (j := 2) d_Mo_works_179 rfl rfl ?_
        refine a_lsub d_Mo_works_180 ?_
        refine a_lstore d_Mo_works_181 (Nat.le_of_ble_eq_true rfl) [1, 2, 3, 4, 0] rfl ?_
        refine a_goto (tgt := 407) d_Mo_works_183 rfl ?_
        refine a_sub [0, 4] rfl ?_
        exact h
      ·
        by_cases q70_42 : x1 = 42
        · have h := hs70_2 q70_42
          refine a_lookup (tgt := 186) d_Mo_works_70 rfl (by rw [q70_42]; try rfl) rfl ?_
          refine a_lload (j := 3) d_Mo_works_186 rfl ?_
          refine a_lconst (v := 0) d_Mo_works_188 rfl (by unfold fs_in64; omega) ?_
          refine a_lcmp d_Mo_works_189 ?_
          refine a_if_eq (tgt := 212) d_Mo_works_190 rfl (fun c6 => ?_) (fun c6 => ?_)
          · have h := h.1 c6
            refine a_lload (j := 3) d_Mo_works_212 rfl ?_
            refine a_lload_n (j := 2) d_Mo_works_214 rfl rfl ?_
            refine a_lmul d_Mo_works_215 ?_
            refine a_lstore d_Mo_works_216 (Nat.le_of_ble_eq_true rfl) [1, 2, 3, 4, 0] rfl ?_
            refine a_goto (tgt := 407) d_Mo_works_218 rfl ?_
            refine a_sub [0, 4] rfl ?_
            exact h
          · have h := h.2 c6
            refine a_lload_n (j := 2) d_Mo_works_193 rfl rfl ?_
            refine b_static (dc := 1) [fs_l (M 250 (fs_w32 ((M 226 41) - 1)))] [] d_Mo_works_194 ml_Mo_327 k_Math_abs_J s_Math_abs_J rfl (Nat.le_of_ble_eq_true rfl) rfl (Nat.le_of_ble_eq_true rfl) ?_
            refine fs_Call.mono (fun v M1 hv => ?_) h
            obtain ⟨r1, rfl, h⟩ := hv
            show fs_A2 g m_Mo_works 2 197 [(0, fs_r 226), (1, fs_i x1), (2, fs_l (M 250 (fs_w32 ((M 226 41) - 1)))), (4, fs_l (M 250 (fs_w32 ((M 226 41) - 2))))] [fs_l r1] M1 K
            refine a_ldc2 d_Mo_works_197 cn_Mo_333 (by unfold fs_in64; omega) ?_
            refine a_lload (j := 3) d_Mo_works_200 rfl ?_
            refine b_static (dc := 1) [fs_l (M 250 (fs_w32 ((M 226 41) - 2)))] [fs_l 1000000000000, fs_l r1] d_Mo_works_202 ml_Mo_327 k_Math_abs_J s_Math_abs_J rfl (Nat.le_of_ble_eq_true rfl) rfl (Nat.le_of_ble_eq_true rfl) ?_
            refine fs_Call.mono (fun v M2 hv => ?_) h
            obtain ⟨r2, rfl, h⟩ := hv
            show fs_A2 g m_Mo_works 2 205 [(0, fs_r 226), (1, fs_i x1), (2, fs_l (M 250 (fs_w32 ((M 226 41) - 1)))), (4, fs_l (M 250 (fs_w32 ((M 226 41) - 2))))] [fs_l r2, fs_l 1000000000000, fs_l r1] M2 K
            obtain ⟨o7, h⟩ := h
            refine a_ldiv d_Mo_works_205 o7 ?_
            refine a_lcmp d_Mo_works_206 ?_
            refine a_if_le (tgt := 212) d_Mo_works_207 rfl (fun c8 => ?_) (fun c8 => ?_)
            · have h := h.1 c8
              refine a_lload (j := 3) d_Mo_works_212 rfl ?_
              refine a_lload_n (j := 2) d_Mo_works_214 rfl rfl ?_
              refine a_lmul d_Mo_works_215 ?_
              refine a_lstore d_Mo_works_216 (Nat.le_of_ble_eq_true rfl) [1, 2, 3, 4, 0] rfl ?_
              refine a_goto (tgt := 407) d_Mo_works_218 rfl ?_
              refine a_sub [0, 4] rfl ?_
              exact h
            · have h := h.2 c8
              refine a_iconst d_Mo_works_210 (by unfold fs_in32; omega) ?_
              exact b_ireturn d_Mo_works_211 rfl (fs_nar01 (Or.inl rfl)) h
        ·
          by_cases q70_47 : x1 = 47
          · have h := hs70_3 q70_47
            refine a_lookup (tgt := 221) d_Mo_works_70 rfl (by rw [q70_47]; try rfl) rfl ?_
            refine a_lload_n (j := 2) d_Mo_works_221 rfl rfl ?_
            refine a_lconst (v := 0) d_Mo_works_222 rfl (by unfold fs_in64; omega) ?_
            refine a_lcmp d_Mo_works_223 ?_
            refine a_if_ne (tgt := 229) d_Mo_works_224 rfl (fun c9 => ?_) (fun c9 => ?_)
            · have h := h.1 c9
              refine a_lload (j := 3) d_Mo_works_229 rfl ?_
              refine a_lload_n (j := 2) d_Mo_works_231 rfl rfl ?_
              obtain ⟨o10, h⟩ := h
              refine a_ldiv d_Mo_works_232 o10 ?_
              refine a_lstore d_Mo_works_233 (Nat.le_of_ble_eq_true rfl) [1, 2, 3, 4, 0] rfl ?_
              refine a_goto (tgt := 407) d_Mo_works_235 rfl ?_
              refine a_sub [0, 4] rfl ?_
              exact h
            · have h := h.2 c9
              refine a_iconst d_Mo_works_227 (by unfold fs_in32; omega) ?_
              exact b_ireturn d_Mo_works_228 rfl (fs_nar01 (Or.inl rfl)) h
          ·
            by_cases q70_60 : x1 = 60
            · have h := hs70_4 q70_60
              refine a_lookup (tgt := 238) d_Mo_works_70 rfl (by rw [q70_60]; try rfl) rfl ?_
              refine a_lload (j := 3) d_Mo_works_238 rfl ?_
              refine a_lload_n (j := 2) d_Mo_works_240 rfl rfl ?_
              refine a_lcmp d_Mo_works_241 ?_
              refine a_if_ge (tgt := 249) d_Mo_works_242 rfl (fun c11 => ?_) (fun c11 => ?_)
              · have h := h.1 c11
                refine a_iconst d_Mo_works_249 (by unfold fs_in32; omega) ?_
                refine b_static (dc := 1) [fs_i 0] [] d_Mo_works_250 ml_Mo_323 k_Mo_is s_Mo_is rfl (Nat.le_of_ble_eq_true rfl) rfl (Nat.le_of_ble_eq_true rfl) ?_
                refine fs_Call.mono (fun v M3 hv => ?_) h
                obtain ⟨r3, rfl, h⟩ := hv
                show fs_A2 g m_Mo_works 2 253 [(0, fs_r 226), (1, fs_i x1), (2, fs_l (M 250 (fs_w32 ((M 226 41) - 1)))), (4, fs_l (M 250 (fs_w32 ((M 226 41) - 2))))] [fs_l r3] M3 K
                refine a_lstore d_Mo_works_253 (Nat.le_of_ble_eq_true rfl) [1, 2, 3, 4, 0] rfl ?_
                refine a_goto (tgt := 407) d_Mo_works_255 rfl ?_
                refine a_sub [0, 4] rfl ?_
                exact h
              · have h := h.2 c11
                refine a_iconst d_Mo_works_245 (by unfold fs_in32; omega) ?_
                refine a_goto (tgt := 250) d_Mo_works_246 rfl ?_
                refine b_static (dc := 1) [fs_i 1] [] d_Mo_works_250 ml_Mo_323 k_Mo_is s_Mo_is rfl (Nat.le_of_ble_eq_true rfl) rfl (Nat.le_of_ble_eq_true rfl) ?_
                refine fs_Call.mono (fun v M4 hv => ?_) h
                obtain ⟨r4, rfl, h⟩ := hv
                show fs_A2 g m_Mo_works 2 253 [(0, fs_r 226), (1, fs_i x1), (2, fs_l (M 250 (fs_w32 ((M 226 41) - 1)))), (4, fs_l (M 250 (fs_w32 ((M 226 41) - 2))))] [fs_l r4] M4 K
                refine a_lstore d_Mo_works_253 (Nat.le_of_ble_eq_true rfl) [1, 2, 3, 4, 0] rfl ?_
                refine a_goto (tgt := 407) d_Mo_works_255 rfl ?_
                refine a_sub [0, 4] rfl ?_
                exact h
            ·
              by_cases q70_62 : x1 = 62
              · have h := hs70_5 q70_62
                refine a_lookup (tgt := 258) d_Mo_works_70 rfl (by rw [q70_62]; try rfl) rfl ?_
                refine a_lload (j := 3) d_Mo_works_258 rfl ?_
                refine a_lload_n (j := 2) d_Mo_works_260 rfl rfl ?_
                refine a_lcmp d_Mo_works_261 ?_
                refine a_if_le (tgt := 269) d_Mo_works_262 rfl (fun c12 => ?_) (fun c12 => ?_)
                · have h := h.1 c12
                  refine a_iconst d_Mo_works_269 (by unfold fs_in32; omega) ?_
                  refine b_static (dc := 1) [fs_i 0] [] d_Mo_works_270 ml_Mo_323 k_Mo_is s_Mo_is rfl (Nat.le_of_ble_eq_true rfl) rfl (Nat.le_of_ble_eq_true rfl) ?_
                  refine fs_Call.mono (fun v M5 hv => ?_) h
                  obtain ⟨r5, rfl, h⟩ := hv
                  show fs_A2 g m_Mo_works 2 273 [(0, fs_r 226), (1, fs_i x1), (2, fs_l (M 250 (fs_w32 ((M 226 41) - 1)))), (4, fs_l (M 250 (fs_w32 ((M 226 41) - 2))))] [fs_l r5] M5 K
                  refine a_lstore d_Mo_works_273 (Nat.le_of_ble_eq_true rfl) [1, 2, 3, 4, 0] rfl ?_
                  refine a_goto (tgt := 407) d_Mo_works_275 rfl ?_
                  refine a_sub [0, 4] rfl ?_
                  exact h
                · have h := h.2 c12
                  refine a_iconst d_Mo_works_265 (by unfold fs_in32; omega) ?_
                  refine a_goto (tgt := 270) d_Mo_works_266 rfl ?_
                  refine b_static (dc := 1) [fs_i 1] [] d_Mo_works_270 ml_Mo_323 k_Mo_is s_Mo_is rfl (Nat.le_of_ble_eq_true rfl) rfl (Nat.le_of_ble_eq_true rfl) ?_
                  refine fs_Call.mono (fun v M6 hv => ?_) h
                  obtain ⟨r6, rfl, h⟩ := hv
                  show fs_A2 g m_Mo_works 2 273 [(0, fs_r 226), (1, fs_i x1), (2, fs_l (M 250 (fs_w32 ((M 226 41) - 1)))), (4, fs_l (M 250 (fs_w32 ((M 226 41) - 2))))] [fs_l r6] M6 K
                  refine a_lstore d_Mo_works_273 (Nat.le_of_ble_eq_true rfl) [1, 2, 3, 4, 0] rfl ?_
                  refine a_goto (tgt := 407) d_Mo_works_275 rfl ?_
                  refine a_sub [0, 4] rfl ?_
                  exact h
              ·
                by_cases q70_61 : x1 = 61
                · have h := hs70_6 q70_61
                  refine a_lookup (tgt := 278) d_Mo_works_70 rfl (by rw [q70_61]; try rfl) rfl ?_
                  refine a_lload (j := 3) d_Mo_works_278 rfl ?_
                  refine a_lload_n (j := 2) d_Mo_works_280 rfl rfl ?_
                  refine a_lcmp d_Mo_works_281 ?_
                  refine a_if_ne (tgt := 289) d_Mo_works_282 rfl (fun c13 => ?_) (fun c13 => ?_)
                  · have h := h.1 c13
                    refine a_iconst d_Mo_works_289 (by unfold fs_in32; omega) ?_
                    refine b_static (dc := 1) [fs_i 0] [] d_Mo_works_290 ml_Mo_323 k_Mo_is s_Mo_is rfl (Nat.le_of_ble_eq_true rfl) rfl (Nat.le_of_ble_eq_true rfl) ?_
                    refine fs_Call.mono (fun v M7 hv => ?_) h
                    obtain ⟨r7, rfl, h⟩ := hv
                    show fs_A2 g m_Mo_works 2 293 [(0, fs_r 226), (1, fs_i x1), (2, fs_l (M 250 (fs_w32 ((M 226 41) - 1)))), (4, fs_l (M 250 (fs_w32 ((M 226 41) - 2))))] [fs_l r7] M7 K
                    refine a_lstore d_Mo_works_293 (Nat.le_of_ble_eq_true rfl) [1, 2, 3, 4, 0] rfl ?_
                    refine a_goto (tgt := 407) d_Mo_works_295 rfl ?_
                    refine a_sub [0, 4] rfl ?_
                    exact h
                  · have h := h.2 c13
                    refine a_iconst d_Mo_works_285 (by unfold fs_in32; omega) ?_
                    refine a_goto (tgt := 290) d_Mo_works_286 rfl ?_
                    refine b_static (dc := 1) [fs_i 1] [] d_Mo_works_290 ml_Mo_323 k_Mo_is s_Mo_is rfl (Nat.le_of_ble_eq_true rfl) rfl (Nat.le_of_ble_eq_true rfl) ?_
                    refine fs_Call.mono (fun v M8 hv => ?_) h
                    obtain ⟨r8, rfl, h⟩ := hv
                    show fs_A2 g m_Mo_works 2 293 [(0, fs_r 226), (1, fs_i x1), (2, fs_l (M 250 (fs_w32 ((M 226 41) - 1)))), (4, fs_l (M 250 (fs_w32 ((M 226 41) - 2))))] [fs_l r8] M8 K
                    refine a_lstore d_Mo_works_293 (Nat.le_of_ble_eq_true rfl) [1, 2, 3, 4, 0] rfl ?_
                    refine a_goto (tgt := 407) d_Mo_works_295 rfl ?_
                    refine a_sub [0, 4] rfl ?_
                    exact h
                ·
                  by_cases q70_256 : x1 = 256
                  · have h := hs70_7 q70_256
                    refine a_lookup (tgt := 298) d_Mo_works_70 rfl (by rw [q70_256]; try rfl) rfl ?_
                    refine a_lload (j := 3) d_Mo_works_298 rfl ?_
                    refine a_lload_n (j := 2) d_Mo_works_300 rfl rfl ?_
                    refine a_lcmp d_Mo_works_301 ?_
                    refine a_if_gt (tgt := 309) d_Mo_works_302 rfl (fun c14 => ?_) (fun c14 => ?_)
                    · have h := h.1 c14
                      refine a_iconst d_Mo_works_309 (by unfold fs_in32; omega) ?_
                      refine b_static (dc := 1) [fs_i 0] [] d_Mo_works_310 ml_Mo_323 k_Mo_is s_Mo_is rfl (Nat.le_of_ble_eq_true rfl) rfl (Nat.le_of_ble_eq_true rfl) ?_
                      refine fs_Call.mono (fun v M9 hv => ?_) h
                      obtain ⟨r9, rfl, h⟩ := hv
                      show fs_A2 g m_Mo_works 2 313 [(0, fs_r 226), (1, fs_i x1), (2, fs_l (M 250 (fs_w32 ((M 226 41) - 1)))), (4, fs_l (M 250 (fs_w32 ((M 226 41) - 2))))] [fs_l r9] M9 K
                      refine a_lstore d_Mo_works_313 (Nat.le_of_ble_eq_true rfl) [1, 2, 3, 4, 0] rfl ?_
                      refine a_goto (tgt := 407) d_Mo_works_315 rfl ?_
                      refine a_sub [0, 4] rfl ?_
                      exact h
                    · have h := h.2 c14
                      refine a_iconst d_Mo_works_305 (by unfold fs_in32; omega) ?_
                      refine a_goto (tgt := 310) d_Mo_works_306 rfl ?_
                      refine b_static (dc := 1) [fs_i 1] [] d_Mo_works_310 ml_Mo_323 k_Mo_is s_Mo_is rfl (Nat.le_of_ble_eq_true rfl) rfl (Nat.le_of_ble_eq_true rfl) ?_
                      refine fs_Call.mono (fun v M10 hv => ?_) h
                      obtain ⟨r10, rfl, h⟩ := hv
                      show fs_A2 g m_Mo_works 2 313 [(0, fs_r 226), (1, fs_i x1), (2, fs_l (M 250 (fs_w32 ((M 226 41) - 1)))), (4, fs_l (M 250 (fs_w32 ((M 226 41) - 2))))] [fs_l r10] M10 K
                      refine a_lstore d_Mo_works_313 (Nat.le_of_ble_eq_true rfl) [1, 2, 3, 4, 0] rfl ?_
                      refine a_goto (tgt := 407) d_Mo_works_315 rfl ?_
                      refine a_sub [0, 4] rfl ?_
                      exact h
                  ·
                    by_cases q70_258 : x1 = 258
                    · have h := hs70_8 q70_258
                      refine a_lookup (tgt := 318) d_Mo_works_70 rfl (by rw [q70_258]; try rfl) rfl ?_
                      refine a_lload (j := 3) d_Mo_works_318 rfl ?_
                      refine a_lload_n (j := 2) d_Mo_works_320 rfl rfl ?_
                      refine a_lcmp d_Mo_works_321 ?_
                      refine a_if_lt (tgt := 329) d_Mo_works_322 rfl (fun c15 => ?_) (fun c15 => ?_)
                      · have h := h.1 c15
                        refine a_iconst d_Mo_works_329 (by unfold fs_in32; omega) ?_
                        refine b_static (dc := 1) [fs_i 0] [] d_Mo_works_330 ml_Mo_323 k_Mo_is s_Mo_is rfl (Nat.le_of_ble_eq_true rfl) rfl (Nat.le_of_ble_eq_true rfl) ?_
                        refine fs_Call.mono (fun v M11 hv => ?_) h
                        obtain ⟨r11, rfl, h⟩ := hv
                        show fs_A2 g m_Mo_works 2 333 [(0, fs_r 226), (1, fs_i x1), (2, fs_l (M 250 (fs_w32 ((M 226 41) - 1)))), (4, fs_l (M 250 (fs_w32 ((M 226 41) - 2))))] [fs_l r11] M11 K
                        refine a_lstore d_Mo_works_333 (Nat.le_of_ble_eq_true rfl) [1, 2, 3, 4, 0] rfl ?_
                        refine a_goto (tgt := 407) d_Mo_works_335 rfl ?_
                        refine a_sub [0, 4] rfl ?_
                        exact h
                      · have h := h.2 c15
                        refine a_iconst d_Mo_works_325 (by unfold fs_in32; omega) ?_
                        refine a_goto (tgt := 330) d_Mo_works_326 rfl ?_
                        refine b_static (dc := 1) [fs_i 1] [] d_Mo_works_330 ml_Mo_323 k_Mo_is s_Mo_is rfl (Nat.le_of_ble_eq_true rfl) rfl (Nat.le_of_ble_eq_true rfl) ?_
                        refine fs_Call.mono (fun v M12 hv => ?_) h
                        obtain ⟨r12, rfl, h⟩ := hv
                        show fs_A2 g m_Mo_works 2 333 [(0, fs_r 226), (1, fs_i x1), (2, fs_l (M 250 (fs_w32 ((M 226 41) - 1)))), (4, fs_l (M 250 (fs_w32 ((M 226 41) - 2))))] [fs_l r12] M12 K
                        refine a_lstore d_Mo_works_333 (Nat.le_of_ble_eq_true rfl) [1, 2, 3, 4, 0] rfl ?_
                        refine a_goto (tgt := 407) d_Mo_works_335 rfl ?_
                        refine a_sub [0, 4] rfl ?_
                        exact h
                    ·
                      by_cases q70_257 : x1 = 257
                      · have h := hs70_9 q70_257
                        refine a_lookup (tgt := 338) d_Mo_works_70 rfl (by rw [q70_257]; try rfl) rfl ?_
                        refine a_lload (j := 3) d_Mo_works_338 rfl ?_
                        refine a_lload_n (j := 2) d_Mo_works_340 rfl rfl ?_
                        refine a_lcmp d_Mo_works_341 ?_
                        refine a_if_eq (tgt := 349) d_Mo_works_342 rfl (fun c16 => ?_) (fun c16 => ?_)
                        · have h := h.1 c16
                          refine a_iconst d_Mo_works_349 (by unfold fs_in32; omega) ?_
                          refine b_static (dc := 1) [fs_i 0] [] d_Mo_works_350 ml_Mo_323 k_Mo_is s_Mo_is rfl (Nat.le_of_ble_eq_true rfl) rfl (Nat.le_of_ble_eq_true rfl) ?_
                          refine fs_Call.mono (fun v M13 hv => ?_) h
                          obtain ⟨r13, rfl, h⟩ := hv
                          show fs_A2 g m_Mo_works 2 353 [(0, fs_r 226), (1, fs_i x1), (2, fs_l (M 250 (fs_w32 ((M 226 41) - 1)))), (4, fs_l (M 250 (fs_w32 ((M 226 41) - 2))))] [fs_l r13] M13 K
                          refine a_lstore d_Mo_works_353 (Nat.le_of_ble_eq_true rfl) [1, 2, 3, 4, 0] rfl ?_
                          refine a_goto (tgt := 407) d_Mo_works_355 rfl ?_
                          refine a_sub [0, 4] rfl ?_
                          exact h
                        · have h := h.2 c16
                          refine a_iconst d_Mo_works_345 (by unfold fs_in32; omega) ?_
                          refine a_goto (tgt := 350) d_Mo_works_346 rfl ?_
                          refine b_static (dc := 1) [fs_i 1] [] d_Mo_works_350 ml_Mo_323 k_Mo_is s_Mo_is rfl (Nat.le_of_ble_eq_true rfl) rfl (Nat.le_of_ble_eq_true rfl) ?_
                          refine fs_Call.mono (fun v M14 hv => ?_) h
                          obtain ⟨r14, rfl, h⟩ := hv
                          show fs_A2 g m_Mo_works 2 353 [(0, fs_r 226), (1, fs_i x1), (2, fs_l (M 250 (fs_w32 ((M 226 41) - 1)))), (4, fs_l (M 250 (fs_w32 ((M 226 41) - 2))))] [fs_l r14] M14 K
                          refine a_lstore d_Mo_works_353 (Nat.le_of_ble_eq_true rfl) [1, 2, 3, 4, 0] rfl ?_
                          refine a_goto (tgt := 407) d_Mo_works_355 rfl ?_
                          refine a_sub [0, 4] rfl ?_
                          exact h
                      ·
                        by_cases q70_261 : x1 = 261
                        · have h := hs70_10 q70_261
                          refine a_lookup (tgt := 358) d_Mo_works_70 rfl (by rw [q70_261]; try rfl) rfl ?_
                          refine a_lload (j := 3) d_Mo_works_358 rfl ?_
                          refine a_lconst (v := 0) d_Mo_works_360 rfl (by unfold fs_in64; omega) ?_
                          refine a_lcmp d_Mo_works_361 ?_
                          refine a_if_eq (tgt := 375) d_Mo_works_362 rfl (fun c17 => ?_) (fun c17 => ?_)
                          · have h := h.1 c17
                            refine a_iconst d_Mo_works_375 (by unfold fs_in32; omega) ?_
                            refine b_static (dc := 1) [fs_i 0] [] d_Mo_works_376 ml_Mo_323 k_Mo_is s_Mo_is rfl (Nat.le_of_ble_eq_true rfl) rfl (Nat.le_of_ble_eq_true rfl) ?_
                            refine fs_Call.mono (fun v M15 hv => ?_) h
                            obtain ⟨r15, rfl, h⟩ := hv
                            show fs_A2 g m_Mo_works 2 379 [(0, fs_r 226), (1, fs_i x1), (2, fs_l (M 250 (fs_w32 ((M 226 41) - 1)))), (4, fs_l (M 250 (fs_w32 ((M 226 41) - 2))))] [fs_l r15] M15 K
                            refine a_lstore d_Mo_works_379 (Nat.le_of_ble_eq_true rfl) [1, 2, 3, 4, 0] rfl ?_
                            refine a_goto (tgt := 407) d_Mo_works_381 rfl ?_
                            refine a_sub [0, 4] rfl ?_
                            exact h
                          · have h := h.2 c17
                            refine a_lload_n (j := 2) d_Mo_works_365 rfl rfl ?_
                            refine a_lconst (v := 0) d_Mo_works_366 rfl (by unfold fs_in64; omega) ?_
                            refine a_lcmp d_Mo_works_367 ?_
                            refine a_if_eq (tgt := 375) d_Mo_works_368 rfl (fun c18 => ?_) (fun c18 => ?_)
                            · have h := h.1 c18
                              refine a_iconst d_Mo_works_375 (by unfold fs_in32; omega) ?_
                              refine b_static (dc := 1) [fs_i 0] [] d_Mo_works_376 ml_Mo_323 k_Mo_is s_Mo_is rfl (Nat.le_of_ble_eq_true rfl) rfl (Nat.le_of_ble_eq_true rfl) ?_
                              refine fs_Call.mono (fun v M16 hv => ?_) h
                              obtain ⟨r16, rfl, h⟩ := hv
                              show fs_A2 g m_Mo_works 2 379 [(0, fs_r 226), (1, fs_i x1), (2, fs_l (M 250 (fs_w32 ((M 226 41) - 1)))), (4, fs_l (M 250 (fs_w32 ((M 226 41) - 2))))] [fs_l r16] M16 K
                              refine a_lstore d_Mo_works_379 (Nat.le_of_ble_eq_true rfl) [1, 2, 3, 4, 0] rfl ?_
                              refine a_goto (tgt := 407) d_Mo_works_381 rfl ?_
                              refine a_sub [0, 4] rfl ?_
                              exact h
                            · have h := h.2 c18
                              refine a_iconst d_Mo_works_371 (by unfold fs_in32; omega) ?_
                              refine a_goto (tgt := 376) d_Mo_works_372 rfl ?_
                              refine b_static (dc := 1) [fs_i 1] [] d_Mo_works_376 ml_Mo_323 k_Mo_is s_Mo_is rfl (Nat.le_of_ble_eq_true rfl) rfl (Nat.le_of_ble_eq_true rfl) ?_
                              refine fs_Call.mono (fun v M17 hv => ?_) h
                              obtain ⟨r17, rfl, h⟩ := hv
                              show fs_A2 g m_Mo_works 2 379 [(0, fs_r 226), (1, fs_i x1), (2, fs_l (M 250 (fs_w32 ((M 226 41) - 1)))), (4, fs_l (M 250 (fs_w32 ((M 226 41) - 2))))] [fs_l r17] M17 K
                              refine a_lstore d_Mo_works_379 (Nat.le_of_ble_eq_true rfl) [1, 2, 3, 4, 0] rfl ?_
                              refine a_goto (tgt := 407) d_Mo_works_381 rfl ?_
                              refine a_sub [0, 4] rfl ?_
                              exact h
                        ·
                          have h := hs70_11 ⟨q70_43, q70_45, q70_42, q70_47, q70_60, q70_62, q70_61, q70_256, q70_258, q70_257, q70_261⟩
                          refine a_lookup (off := 314) (tgt := 384) d_Mo_works_70 rfl (by simp [Op.lookupswitch.offset, q70_43, q70_45, q70_42, q70_47, q70_60, q70_62, q70_61, q70_256, q70_258, q70_257, q70_261, eq_comm]) rfl ?_
                          refine a_lload (j := 3) d_Mo_works_384 rfl ?_
                          refine a_lconst (v := 0) d_Mo_works_386 rfl (by unfold fs_in64; omega) ?_
                          refine a_lcmp d_Mo_works_387 ?_
                          refine a_if_ne (tgt := 397) d_Mo_works_388 rfl (fun c19 => ?_) (fun c19 => ?_)
                          · have h := h.1 c19
                            refine a_iconst d_Mo_works_397 (by unfold fs_in32; omega) ?_
                            refine a_goto (tgt := 402) d_Mo_works_398 rfl ?_
                            refine b_static (dc := 1) [fs_i 1] [] d_Mo_works_402 ml_Mo_323 k_Mo_is s_Mo_is rfl (Nat.le_of_ble_eq_true rfl) rfl (Nat.le_of_ble_eq_true rfl) ?_
                            refine fs_Call.mono (fun v M18 hv => ?_) h
                            obtain ⟨r18, rfl, h⟩ := hv
                            show fs_A2 g m_Mo_works 2 405 [(0, fs_r 226), (1, fs_i x1), (2, fs_l (M 250 (fs_w32 ((M 226 41) - 1)))), (4, fs_l (M 250 (fs_w32 ((M 226 41) - 2))))] [fs_l r18] M18 K
                            refine a_lstore d_Mo_works_405 (Nat.le_of_ble_eq_true rfl) [1, 2, 3, 4, 0] rfl ?_
                            refine a_sub [0, 4] rfl ?_
                            exact h
                          · have h := h.2 c19
                            refine a_lload_n (j := 2) d_Mo_works_391 rfl rfl ?_
                            refine a_lconst (v := 0) d_Mo_works_392 rfl (by unfold fs_in64; omega) ?_
                            refine a_lcmp d_Mo_works_393 ?_
                            refine a_if_eq (tgt := 401) d_Mo_works_394 rfl (fun c20 => ?_) (fun c20 => ?_)
                            · have h := h.1 c20
                              refine a_iconst d_Mo_works_401 (by unfold fs_in32; omega) ?_
                              refine b_static (dc := 1) [fs_i 0] [] d_Mo_works_402 ml_Mo_323 k_Mo_is s_Mo_is rfl (Nat.le_of_ble_eq_true rfl) rfl (Nat.le_of_ble_eq_true rfl) ?_
                              refine fs_Call.mono (fun v M19 hv => ?_) h
                              obtain ⟨r19, rfl, h⟩ := hv
                              show fs_A2 g m_Mo_works 2 405 [(0, fs_r 226), (1, fs_i x1), (2, fs_l (M 250 (fs_w32 ((M 226 41) - 1)))), (4, fs_l (M 250 (fs_w32 ((M 226 41) - 2))))] [fs_l r19] M19 K
                              refine a_lstore d_Mo_works_405 (Nat.le_of_ble_eq_true rfl) [1, 2, 3, 4, 0] rfl ?_
                              refine a_sub [0, 4] rfl ?_
                              exact h
                            · have h := h.2 c20
                              refine a_iconst d_Mo_works_397 (by unfold fs_in32; omega) ?_
                              refine a_goto (tgt := 402) d_Mo_works_398 rfl ?_
                              refine b_static (dc := 1) [fs_i 1] [] d_Mo_works_402 ml_Mo_323 k_Mo_is s_Mo_is rfl (Nat.le_of_ble_eq_true rfl) rfl (Nat.le_of_ble_eq_true rfl) ?_
                              refine fs_Call.mono (fun v M20 hv => ?_) h
                              obtain ⟨r20, rfl, h⟩ := hv
                              show fs_A2 g m_Mo_works 2 405 [(0, fs_r 226), (1, fs_i x1), (2, fs_l (M 250 (fs_w32 ((M 226 41) - 1)))), (4, fs_l (M 250 (fs_w32 ((M 226 41) - 2))))] [fs_l r20] M20 K
                              refine a_lstore d_Mo_works_405 (Nat.le_of_ble_eq_true rfl) [1, 2, 3, 4, 0] rfl ?_
                              refine a_sub [0, 4] rfl ?_
                              exact h
  · have h := h.2 c3
    refine a_aload_n (j := 0) d_Mo_works_19 rfl rfl ?_
    refine b_getptr (q := 250) d_Mo_works_20 fl_Mo_85 io_226 rfl rfl rfl ?_
    refine a_aload_n (j := 0) d_Mo_works_23 rfl rfl ?_
    refine b_getfield (v := fs_i (M 226 41)) d_Mo_works_24 fl_Mo_320 io_226 rfl ?_
    refine a_iconst d_Mo_works_27 (by unfold fs_in32; omega) ?_
    refine a_isub d_Mo_works_28 ?_
    refine a_lload_n (j := 2) d_Mo_works_29 rfl rfl ?_
    refine a_lconst (v := 0) d_Mo_works_30 rfl (by unfold fs_in64; omega) ?_
    refine a_lcmp d_Mo_works_31 ?_
    refine a_if_ne (tgt := 39) d_Mo_works_32 rfl (fun c21 => ?_) (fun c21 => ?_)
    · have h := h.1 c21
      refine a_iconst d_Mo_works_39 (by unfold fs_in32; omega) ?_
      refine b_static (dc := 1) [fs_i 0] [fs_i (fs_w32 ((M 226 41) - 1)), fs_r 250] d_Mo_works_40 ml_Mo_323 k_Mo_is s_Mo_is rfl (Nat.le_of_ble_eq_true rfl) rfl (Nat.le_of_ble_eq_true rfl) ?_
      refine fs_Call.mono (fun v M21 hv => ?_) h
      obtain ⟨r21, rfl, h⟩ := hv
      show fs_A2 g m_Mo_works 2 43 [(0, fs_r 226), (1, fs_i x1), (2, fs_l (M 250 (fs_w32 ((M 226 41) - 1))))] [fs_l r21, fs_i (fs_w32 ((M 226 41) - 1)), fs_r 250] M21 K
      refine b_lastore d_Mo_works_43 ia_250 o1 o2 ?_
      refine a_iconst d_Mo_works_44 (by unfold fs_in32; omega) ?_
      exact b_ireturn d_Mo_works_45 rfl (fs_nar01 (Or.inr rfl)) h
    · have h := h.2 c21
      refine a_iconst d_Mo_works_35 (by unfold fs_in32; omega) ?_
      refine a_goto (tgt := 40) d_Mo_works_36 rfl ?_
      refine b_static (dc := 1) [fs_i 1] [fs_i (fs_w32 ((M 226 41) - 1)), fs_r 250] d_Mo_works_40 ml_Mo_323 k_Mo_is s_Mo_is rfl (Nat.le_of_ble_eq_true rfl) rfl (Nat.le_of_ble_eq_true rfl) ?_
      refine fs_Call.mono (fun v M22 hv => ?_) h
      obtain ⟨r22, rfl, h⟩ := hv
      show fs_A2 g m_Mo_works 2 43 [(0, fs_r 226), (1, fs_i x1), (2, fs_l (M 250 (fs_w32 ((M 226 41) - 1))))] [fs_l r22, fs_i (fs_w32 ((M 226 41) - 1)), fs_r 250] M22 K
      refine b_lastore d_Mo_works_43 ia_250 o1 o2 ?_
      refine a_iconst d_Mo_works_44 (by unfold fs_in32; omega) ?_
      exact b_ireturn d_Mo_works_45 rfl (fs_nar01 (Or.inr rfl)) h
set_option maxRecDepth 8000 in
set_option maxHeartbeats 4000000 in
theorem L_Mo_works_407 {M : fs_M} {K : fs_K} {x6 : Int} 
    (h : (0 ≤ fs_w32 ((M 226 41) - 1) ∧ fs_w32 ((M 226 41) - 1) < 64 ∧ ((0 < fs_lcmp x6 1000000000000 → K (some (fs_i 0)) (fs_st M 250 (fs_w32 ((M 226 41) - 1)) x6)) ∧ (¬ 0 < fs_lcmp x6 1000000000000 → ((fs_lcmp x6 (-1000000000000) < 0 → K (some (fs_i 0)) (fs_st M 250 (fs_w32 ((M 226 41) - 1)) x6)) ∧ (¬ fs_lcmp x6 (-1000000000000) < 0 → K (some (fs_i 1)) (fs_st M 250 (fs_w32 ((M 226 41) - 1)) x6))))))) :
    fs_A2 g m_Mo_works 2 407 [(0, fs_r 226), (6, fs_l x6)] [] M K := by
  refine a_aload_n (j := 0) d_Mo_works_407 rfl rfl ?_
  refine b_getptr (q := 250) d_Mo_works_408 fl_Mo_85 io_226 rfl rfl rfl ?_
  refine a_aload_n (j := 0) d_Mo_works_411 rfl rfl ?_
  refine b_getfield (v := fs_i (M 226 41)) d_Mo_works_412 fl_Mo_320 io_226 rfl ?_
  refine a_iconst d_Mo_works_415 (by unfold fs_in32; omega) ?_
  refine a_isub d_Mo_works_416 ?_
  refine a_lload (j := 1) d_Mo_works_417 rfl ?_
  obtain ⟨o22, o23, h⟩ := h
  refine b_lastore d_Mo_works_419 ia_250 o22 o23 ?_
  refine a_lload (j := 1) d_Mo_works_420 rfl ?_
  refine a_ldc2 d_Mo_works_422 cn_Mo_333 (by unfold fs_in64; omega) ?_
  refine a_lcmp d_Mo_works_425 ?_
  refine a_if_gt (tgt := 442) d_Mo_works_426 rfl (fun c24 => ?_) (fun c24 => ?_)
  · have h := h.1 c24
    refine a_iconst d_Mo_works_442 (by unfold fs_in32; omega) ?_
    exact b_ireturn d_Mo_works_443 rfl (fs_nar01 (Or.inl rfl)) h
  · have h := h.2 c24
    refine a_lload (j := 1) d_Mo_works_429 rfl ?_
    refine a_ldc2 d_Mo_works_431 cn_Mo_335 (by unfold fs_in64; omega) ?_
    refine a_lcmp d_Mo_works_434 ?_
    refine a_if_lt (tgt := 442) d_Mo_works_435 rfl (fun c25 => ?_) (fun c25 => ?_)
    · have h := h.1 c25
      refine a_iconst d_Mo_works_442 (by unfold fs_in32; omega) ?_
      exact b_ireturn d_Mo_works_443 rfl (fs_nar01 (Or.inl rfl)) h
    · have h := h.2 c25
      refine a_iconst d_Mo_works_438 (by unfold fs_in32; omega) ?_
      refine a_goto (tgt := 443) d_Mo_works_439 rfl ?_
      exact b_ireturn d_Mo_works_443 rfl (fs_nar01 (Or.inr rfl)) h
set_option maxRecDepth 8000 in
set_option maxHeartbeats 4000000 in
theorem E_Mo_stays {M : fs_M} {K : fs_K} {x1 x2 x3 x4 x5 : Int} 
    (h : fs_C2 g m_Mo_isDark 1 [fs_r 226, fs_i x1] (fs_st M 226 0 0) (fun v M1 => ∃ r1, v = some (fs_i r1) ∧ ((r1 = 0 → K (some (fs_i (-1))) M1) ∧ (¬ r1 = 0 → fs_C2 g m_Mo_isHouse 1 [fs_r 226, fs_i x2] M1 (fun v M2 => ∃ r2, v = some (fs_i r2) ∧ ((r2 = 0 → K (some (fs_i (-1))) M2) ∧ (¬ r2 = 0 → fs_C2 g m_Mo_isMinute 1 [fs_i x3] M2 (fun v M3 => ∃ r3, v = some (fs_i r3) ∧ ((r3 = 0 → K (some (fs_i (-1))) M3) ∧ (¬ r3 = 0 → ((x4 < 0 → K (some (fs_i (-1))) M3) ∧ (¬ x4 < 0 → ((9 < x4 → K (some (fs_i (-1))) M3) ∧ (¬ 9 < x4 → ((x5 < 0 → K (some (fs_i (-1))) M3) ∧ (¬ x5 < 0 → ((x5 ≤ 1 → fs_C2 g m_Mo_plain 1 [fs_r 226] M3 (fun v M4 => v = none ∧ (0 ≤ x1 ∧ x1 < 6 ∧ fs_C2 g m_Mo_calls 1 [fs_r 226, fs_i x2, fs_i x3, fs_i x4, fs_i (M4 236 x1)] M4 (fun v M5 => v = none ∧ ((¬ x5 = 0 → fs_C2 g m_Mo_may 4 [fs_r 226] M5 (fun v M6 => ∃ r6, v = some (fs_i r6) ∧ ((r6 = 0 → K (some (fs_i 0)) M6) ∧ (¬ r6 = 0 → K (some (fs_i 1)) M6)))) ∧ (x5 = 0 → fs_C2 g m_Mo_asks 4 [fs_r 226, fs_i 1, fs_i 60, fs_i 2] M5 (fun v M7 => ∃ r7, v = some (fs_i r7) ∧ K (some (fs_i r7)) M7))))))) ∧ (¬ x5 ≤ 1 → K (some (fs_i (-1))) M3)))))))))))))))))) :
    fs_C2 g m_Mo_stays 5 [fs_r 226, fs_i x1, fs_i x2, fs_i x3, fs_i x4, fs_i x5] M K := by
  refine b_enter2 (ls := [(0, fs_r 226), (1, fs_i x1), (2, fs_i x2), (3, fs_i x3), (4, fs_i x4), (5, fs_i x5)]) (plainFor_of_name pn_Mo) (Nat.le_of_ble_eq_true rfl) rfl ?_
  refine a_aload_n (j := 0) d_Mo_stays_0 rfl rfl ?_
  refine a_iconst d_Mo_stays_1 (by unfold fs_in32; omega) ?_
  refine b_putfield (x := 0) d_Mo_stays_2 fl_Mo_160 io_226 rfl rfl fs_nar_int ?_
  refine a_aload_n (j := 0) d_Mo_stays_5 rfl rfl ?_
  refine a_iload_n (j := 1) d_Mo_stays_6 rfl rfl ?_
  refine b_virtual (dc := 1) (ci := 11) (T := fs_T11) (N := 78) [fs_i x1] [] d_Mo_stays_7 ml_Mo_317 k_Mo_isDark v_Mo_isDark rfl io_226 rfl (Nat.le_of_ble_eq_true rfl) rfl (Nat.le_of_ble_eq_true rfl) ?_
  refine fs_Call.mono (fun v M1 hv => ?_) h
  obtain ⟨r1, rfl, h⟩ := hv
  show fs_A2 g m_Mo_stays 5 10 [(0, fs_r 226), (1, fs_i x1), (2, fs_i x2), (3, fs_i x3), (4, fs_i x4), (5, fs_i x5)] [fs_i r1] M1 K
  refine a_if_eq (tgt := 51) d_Mo_stays_10 rfl (fun c1 => ?_) (fun c1 => ?_)
  · have h := h.1 c1
    refine a_iconst d_Mo_stays_51 (by unfold fs_in32; omega) ?_
    exact b_ireturn d_Mo_stays_52 rfl rfl h
  · have h := h.2 c1
    refine a_aload_n (j := 0) d_Mo_stays_13 rfl rfl ?_
    refine a_iload_n (j := 2) d_Mo_stays_14 rfl rfl ?_
    refine b_virtual (dc := 1) (ci := 11) (T := fs_T11) (N := 78) [fs_i x2] [] d_Mo_stays_15 ml_Mo_314 k_Mo_isHouse v_Mo_isHouse rfl io_226 rfl (Nat.le_of_ble_eq_true rfl) rfl (Nat.le_of_ble_eq_true rfl) ?_
    refine fs_Call.mono (fun v M2 hv => ?_) h
    obtain ⟨r2, rfl, h⟩ := hv
    show fs_A2 g m_Mo_stays 5 18 [(0, fs_r 226), (1, fs_i x1), (2, fs_i x2), (3, fs_i x3), (4, fs_i x4), (5, fs_i x5)] [fs_i r2] M2 K
    refine a_if_eq (tgt := 51) d_Mo_stays_18 rfl (fun c2 => ?_) (fun c2 => ?_)
    · have h := h.1 c2
      refine a_iconst d_Mo_stays_51 (by unfold fs_in32; omega) ?_
      exact b_ireturn d_Mo_stays_52 rfl rfl h
    · have h := h.2 c2
      refine a_iload_n (j := 3) d_Mo_stays_21 rfl rfl ?_
      refine b_static (dc := 1) [fs_i x3] [] d_Mo_stays_22 ml_Mo_363 k_Mo_isMinute s_Mo_isMinute rfl (Nat.le_of_ble_eq_true rfl) rfl (Nat.le_of_ble_eq_true rfl) ?_
      refine fs_Call.mono (fun v M3 hv => ?_) h
      obtain ⟨r3, rfl, h⟩ := hv
      show fs_A2 g m_Mo_stays 5 25 [(0, fs_r 226), (1, fs_i x1), (2, fs_i x2), (3, fs_i x3), (4, fs_i x4), (5, fs_i x5)] [fs_i r3] M3 K
      refine a_if_eq (tgt := 51) d_Mo_stays_25 rfl (fun c3 => ?_) (fun c3 => ?_)
      · have h := h.1 c3
        refine a_iconst d_Mo_stays_51 (by unfold fs_in32; omega) ?_
        exact b_ireturn d_Mo_stays_52 rfl rfl h
      · have h := h.2 c3
        refine a_iload (j := 4) d_Mo_stays_28 rfl ?_
        refine a_if_lt (tgt := 51) d_Mo_stays_30 rfl (fun c4 => ?_) (fun c4 => ?_)
        · have h := h.1 c4
          refine a_iconst d_Mo_stays_51 (by unfold fs_in32; omega) ?_
          exact b_ireturn d_Mo_stays_52 rfl rfl h
        · have h := h.2 c4
          refine a_iload (j := 4) d_Mo_stays_33 rfl ?_
          refine a_bipush d_Mo_stays_35 (by decide) ?_
          refine a_icmp_gt (tgt := 51) d_Mo_stays_37 rfl (fun c5 => ?_) (fun c5 => ?_)
          · have h := h.1 c5
            refine a_iconst d_Mo_stays_51 (by unfold fs_in32; omega) ?_
            exact b_ireturn d_Mo_stays_52 rfl rfl h
          · have h := h.2 c5
            refine a_iload (j := 5) d_Mo_stays_40 rfl ?_
            refine a_if_lt (tgt := 51) d_Mo_stays_42 rfl (fun c6 => ?_) (fun c6 => ?_)
            · have h := h.1 c6
              refine a_iconst d_Mo_stays_51 (by unfold fs_in32; omega) ?_
              exact b_ireturn d_Mo_stays_52 rfl rfl h
            · have h := h.2 c6
              refine a_iload (j := 5) d_Mo_stays_45 rfl ?_
              refine a_iconst d_Mo_stays_47 (by unfold fs_in32; omega) ?_
              refine a_icmp_le (tgt := 53) d_Mo_stays_48 rfl (fun c7 => ?_) (fun c7 => ?_)
              · have h := h.1 c7
                refine a_aload_n (j := 0) d_Mo_stays_53 rfl rfl ?_
                refine b_virtual (dc := 1) (ci := 11) (T := fs_T11) (N := 78) [] [] d_Mo_stays_54 ml_Mo_366 k_Mo_plain v_Mo_plain rfl io_226 rfl (Nat.le_of_ble_eq_true rfl) rfl (Nat.le_of_ble_eq_true rfl) ?_
                refine fs_Call.mono (fun v M4 hv => ?_) h
                obtain ⟨rfl, h⟩ := hv
                show fs_A2 g m_Mo_stays 5 57 [(0, fs_r 226), (1, fs_i x1), (2, fs_i x2), (3, fs_i x3), (4, fs_i x4), (5, fs_i x5)] [] M4 K
                refine a_aload_n (j := 0) d_Mo_stays_57 rfl rfl ?_
                refine a_iload_n (j := 2) d_Mo_stays_58 rfl rfl ?_
                refine a_iload_n (j := 3) d_Mo_stays_59 rfl rfl ?_
                refine a_iload (j := 4) d_Mo_stays_60 rfl ?_
                refine a_aload_n (j := 0) d_Mo_stays_62 rfl rfl ?_
                refine b_getptr (q := 236) d_Mo_stays_63 fl_Mo_38 io_226 rfl rfl rfl ?_
                refine a_iload_n (j := 1) d_Mo_stays_66 rfl rfl ?_
                obtain ⟨o8, o9, h⟩ := h
                refine b_iaload (v := M4 236 x1) d_Mo_stays_67 ia_236 o8 o9 rfl ?_
                refine b_virtual (dc := 1) (ci := 11) (T := fs_T11) (N := 78) [fs_i x2, fs_i x3, fs_i x4, fs_i (M4 236 x1)] [] d_Mo_stays_68 ml_Mo_353 k_Mo_calls v_Mo_calls rfl io_226 rfl (Nat.le_of_ble_eq_true rfl) rfl (Nat.le_of_ble_eq_true rfl) ?_
                refine fs_Call.mono (fun v M5 hv => ?_) h
                obtain ⟨rfl, h⟩ := hv
                show fs_A2 g m_Mo_stays 5 71 [(0, fs_r 226), (1, fs_i x1), (2, fs_i x2), (3, fs_i x3), (4, fs_i x4), (5, fs_i x5)] [] M5 K
                refine a_iload (j := 5) d_Mo_stays_71 rfl ?_
                refine a_if_ne (tgt := 87) d_Mo_stays_73 rfl (fun c10 => ?_) (fun c10 => ?_)
                · have h := h.1 c10
                  refine a_aload_n (j := 0) d_Mo_stays_87 rfl rfl ?_
                  refine b_virtual (dc := 4) (ci := 11) (T := fs_T11) (N := 78) [] [] d_Mo_stays_88 ml_Mo_373 k_Mo_may v_Mo_may rfl io_226 rfl (Nat.le_of_ble_eq_true rfl) rfl (Nat.le_of_ble_eq_true rfl) ?_
                  refine fs_Call.mono (fun v M6 hv => ?_) h
                  obtain ⟨r6, rfl, h⟩ := hv
                  show fs_A2 g m_Mo_stays 5 91 [(0, fs_r 226), (1, fs_i x1), (2, fs_i x2), (3, fs_i x3), (4, fs_i x4), (5, fs_i x5)] [fs_i r6] M6 K
                  refine a_if_eq (tgt := 98) d_Mo_stays_91 rfl (fun c11 => ?_) (fun c11 => ?_)
                  · have h := h.1 c11
                    refine a_iconst d_Mo_stays_98 (by unfold fs_in32; omega) ?_
                    exact b_ireturn d_Mo_stays_99 rfl rfl h
                  · have h := h.2 c11
                    refine a_iconst d_Mo_stays_94 (by unfold fs_in32; omega) ?_
                    refine a_goto (tgt := 99) d_Mo_stays_95 rfl ?_
                    exact b_ireturn d_Mo_stays_99 rfl rfl h
                · have h := h.2 c10
                  refine a_aload_n (j := 0) d_Mo_stays_76 rfl rfl ?_
                  refine a_iconst d_Mo_stays_77 (by unfold fs_in32; omega) ?_
                  refine a_bipush d_Mo_stays_78 (by decide) ?_
                  refine a_iconst d_Mo_stays_80 (by unfold fs_in32; omega) ?_
                  refine b_virtual (dc := 4) (ci := 11) (T := fs_T11) (N := 78) [fs_i 1, fs_i 60, fs_i 2] [] d_Mo_stays_81 ml_Mo_359 k_Mo_asks v_Mo_asks rfl io_226 rfl (Nat.le_of_ble_eq_true rfl) rfl (Nat.le_of_ble_eq_true rfl) ?_
                  refine fs_Call.mono (fun v M7 hv => ?_) h
                  obtain ⟨r7, rfl, h⟩ := hv
                  show fs_A2 g m_Mo_stays 5 84 [(0, fs_r 226), (1, fs_i x1), (2, fs_i x2), (3, fs_i x3), (4, fs_i x4), (5, fs_i x5)] [fs_i r7] M7 K
                  refine a_goto (tgt := 99) d_Mo_stays_84 rfl ?_
                  exact b_ireturn d_Mo_stays_99 rfl rfl h
              · have h := h.2 c7
                refine a_iconst d_Mo_stays_51 (by unfold fs_in32; omega) ?_
                exact b_ireturn d_Mo_stays_52 rfl rfl h
set_option maxRecDepth 8000 in
set_option maxHeartbeats 4000000 in
theorem E_Mo_may {M : fs_M} {K : fs_K} 
    (h : ((M 226 42 = 5 → K (some (fs_i 1)) M) ∧ (¬ M 226 42 = 5 → fs_C2 g m_Mo_hasLaw 1 [fs_r 226, fs_i 2] M (fun v M1 => ∃ r1, v = some (fs_i r1) ∧ ((r1 = 0 → K (some (fs_i 1)) M1) ∧ (¬ r1 = 0 → fs_C2 g m_Mo_goes 3 [fs_r 226, fs_i 2] M1 (fun v M2 => ∃ r2, v = some (fs_i r2) ∧ ((r2 = 0 → K (some (fs_i 0)) M2) ∧ (¬ r2 = 0 → ((fs_lcmp (M2 250 0) 0 ≤ 0 → K (some (fs_i 0)) M2) ∧ (¬ fs_lcmp (M2 250 0) 0 ≤ 0 → K (some (fs_i 1)) M2))))))))))) :
    fs_C2 g m_Mo_may 4 [fs_r 226] M K := by
  refine b_enter2 (ls := [(0, fs_r 226)]) (plainFor_of_name pn_Mo) (Nat.le_of_ble_eq_true rfl) rfl ?_
  refine a_aload_n (j := 0) d_Mo_may_0 rfl rfl ?_
  refine b_getfield (v := fs_i (M 226 42)) d_Mo_may_1 fl_Mo_88 io_226 rfl ?_
  refine a_iconst d_Mo_may_4 (by unfold fs_in32; omega) ?_
  refine a_icmp_eq (tgt := 35) d_Mo_may_5 rfl (fun c1 => ?_) (fun c1 => ?_)
  · have h := h.1 c1
    refine a_iconst d_Mo_may_35 (by unfold fs_in32; omega) ?_
    refine a_goto (tgt := 40) d_Mo_may_36 rfl ?_
    exact b_ireturn d_Mo_may_40 rfl (fs_nar01 (Or.inr rfl)) h
  · have h := h.2 c1
    refine a_aload_n (j := 0) d_Mo_may_8 rfl rfl ?_
    refine a_iconst d_Mo_may_9 (by unfold fs_in32; omega) ?_
    refine b_virtual (dc := 1) (ci := 11) (T := fs_T11) (N := 78) [fs_i 2] [] d_Mo_may_10 ml_Mo_340 k_Mo_hasLaw v_Mo_hasLaw rfl io_226 rfl (Nat.le_of_ble_eq_true rfl) rfl (Nat.le_of_ble_eq_true rfl) ?_
    refine fs_Call.mono (fun v M1 hv => ?_) h
    obtain ⟨r1, rfl, h⟩ := hv
    show fs_A2 g m_Mo_may 4 13 [(0, fs_r 226)] [fs_i r1] M1 K
    refine a_if_eq (tgt := 35) d_Mo_may_13 rfl (fun c2 => ?_) (fun c2 => ?_)
    · have h := h.1 c2
      refine a_iconst d_Mo_may_35 (by unfold fs_in32; omega) ?_
      refine a_goto (tgt := 40) d_Mo_may_36 rfl ?_
      exact b_ireturn d_Mo_may_40 rfl (fs_nar01 (Or.inr rfl)) h
    · have h := h.2 c2
      refine a_aload_n (j := 0) d_Mo_may_16 rfl rfl ?_
      refine a_iconst d_Mo_may_17 (by unfold fs_in32; omega) ?_
      refine b_virtual (dc := 3) (ci := 11) (T := fs_T11) (N := 78) [fs_i 2] [] d_Mo_may_18 ml_Mo_343 k_Mo_goes v_Mo_goes rfl io_226 rfl (Nat.le_of_ble_eq_true rfl) rfl (Nat.le_of_ble_eq_true rfl) ?_
      refine fs_Call.mono (fun v M2 hv => ?_) h
      obtain ⟨r2, rfl, h⟩ := hv
      show fs_A2 g m_Mo_may 4 21 [(0, fs_r 226)] [fs_i r2] M2 K
      refine a_if_eq (tgt := 39) d_Mo_may_21 rfl (fun c3 => ?_) (fun c3 => ?_)
      · have h := h.1 c3
        refine a_iconst d_Mo_may_39 (by unfold fs_in32; omega) ?_
        exact b_ireturn d_Mo_may_40 rfl (fs_nar01 (Or.inl rfl)) h
      · have h := h.2 c3
        refine a_aload_n (j := 0) d_Mo_may_24 rfl rfl ?_
        refine b_getptr (q := 250) d_Mo_may_25 fl_Mo_85 io_226 rfl rfl rfl ?_
        refine a_iconst d_Mo_may_28 (by unfold fs_in32; omega) ?_
        refine b_laload (v := M2 250 0) d_Mo_may_29 ia_250 (by decide) (by decide) rfl ?_
        refine a_lconst (v := 0) d_Mo_may_30 rfl (by unfold fs_in64; omega) ?_
        refine a_lcmp d_Mo_may_31 ?_
        refine a_if_le (tgt := 39) d_Mo_may_32 rfl (fun c4 => ?_) (fun c4 => ?_)
        · have h := h.1 c4
          refine a_iconst d_Mo_may_39 (by unfold fs_in32; omega) ?_
          exact b_ireturn d_Mo_may_40 rfl (fs_nar01 (Or.inl rfl)) h
        · have h := h.2 c4
          refine a_iconst d_Mo_may_35 (by unfold fs_in32; omega) ?_
          refine a_goto (tgt := 40) d_Mo_may_36 rfl ?_
          exact b_ireturn d_Mo_may_40 rfl (fs_nar01 (Or.inr rfl)) h
set_option maxRecDepth 8000 in
set_option maxHeartbeats 4000000 in
theorem E_Mo_cat {M : fs_M} {K : fs_K} {x1 x2 : Int} 
    (h : fs_C2 g m_Mo_isHouse 1 [fs_r 226, fs_i x1] (fs_st M 226 0 0) (fun v M1 => ∃ r1, v = some (fs_i r1) ∧ ((r1 = 0 → K (some (fs_i (-1))) M1) ∧ (¬ r1 = 0 → fs_C2 g m_Mo_isMinute 1 [fs_i x2] M1 (fun v M2 => ∃ r2, v = some (fs_i r2) ∧ ((r2 = 0 → K (some (fs_i (-1))) M2) ∧ (¬ r2 = 0 → fs_C2 g m_Mo_catOf 5 [fs_r 226, fs_i x1, fs_i x2] M2 (fun v M3 => ∃ r3, v = some (fs_i r3) ∧ K (some (fs_i r3)) M3)))))))) :
    fs_C2 g m_Mo_cat 6 [fs_r 226, fs_i x1, fs_i x2] M K := by
  refine b_enter2 (ls := [(0, fs_r 226), (1, fs_i x1), (2, fs_i x2)]) (plainFor_of_name pn_Mo) (Nat.le_of_ble_eq_true rfl) rfl ?_
  refine a_aload_n (j := 0) d_Mo_cat_0 rfl rfl ?_
  refine a_iconst d_Mo_cat_1 (by unfold fs_in32; omega) ?_
  refine b_putfield (x := 0) d_Mo_cat_2 fl_Mo_160 io_226 rfl rfl fs_nar_int ?_
  refine a_aload_n (j := 0) d_Mo_cat_5 rfl rfl ?_
  refine a_iload_n (j := 1) d_Mo_cat_6 rfl rfl ?_
  refine b_virtual (dc := 1) (ci := 11) (T := fs_T11) (N := 78) [fs_i x1] [] d_Mo_cat_7 ml_Mo_314 k_Mo_isHouse v_Mo_isHouse rfl io_226 rfl (Nat.le_of_ble_eq_true rfl) rfl (Nat.le_of_ble_eq_true rfl) ?_
  refine fs_Call.mono (fun v M1 hv => ?_) h
  obtain ⟨r1, rfl, h⟩ := hv
  show fs_A2 g m_Mo_cat 6 10 [(0, fs_r 226), (1, fs_i x1), (2, fs_i x2)] [fs_i r1] M1 K
  refine a_if_eq (tgt := 29) d_Mo_cat_10 rfl (fun c1 => ?_) (fun c1 => ?_)
  · have h := h.1 c1
    refine a_iconst d_Mo_cat_29 (by unfold fs_in32; omega) ?_
    exact b_ireturn d_Mo_cat_30 rfl rfl h
  · have h := h.2 c1
    refine a_iload_n (j := 2) d_Mo_cat_13 rfl rfl ?_
    refine b_static (dc := 1) [fs_i x2] [] d_Mo_cat_14 ml_Mo_363 k_Mo_isMinute s_Mo_isMinute rfl (Nat.le_of_ble_eq_true rfl) rfl (Nat.le_of_ble_eq_true rfl) ?_
    refine fs_Call.mono (fun v M2 hv => ?_) h
    obtain ⟨r2, rfl, h⟩ := hv
    show fs_A2 g m_Mo_cat 6 17 [(0, fs_r 226), (1, fs_i x1), (2, fs_i x2)] [fs_i r2] M2 K
    refine a_if_eq (tgt := 29) d_Mo_cat_17 rfl (fun c2 => ?_) (fun c2 => ?_)
    · have h := h.1 c2
      refine a_iconst d_Mo_cat_29 (by unfold fs_in32; omega) ?_
      exact b_ireturn d_Mo_cat_30 rfl rfl h
    · have h := h.2 c2
      refine a_aload_n (j := 0) d_Mo_cat_20 rfl rfl ?_
      refine a_iload_n (j := 1) d_Mo_cat_21 rfl rfl ?_
      refine a_iload_n (j := 2) d_Mo_cat_22 rfl rfl ?_
      refine b_virtual (dc := 5) (ci := 11) (T := fs_T11) (N := 78) [fs_i x1, fs_i x2] [] d_Mo_cat_23 ml_Mo_377 k_Mo_catOf v_Mo_catOf rfl io_226 rfl (Nat.le_of_ble_eq_true rfl) rfl (Nat.le_of_ble_eq_true rfl) ?_
      refine fs_Call.mono (fun v M3 hv => ?_) h
      obtain ⟨r3, rfl, h⟩ := hv
      show fs_A2 g m_Mo_cat 6 26 [(0, fs_r 226), (1, fs_i x1), (2, fs_i x2)] [fs_i r3] M3 K
      refine a_goto (tgt := 30) d_Mo_cat_26 rfl ?_
      exact b_ireturn d_Mo_cat_30 rfl rfl h
set_option maxRecDepth 8000 in
set_option maxHeartbeats 4000000 in
theorem E_Mo_catOf {M : fs_M} {K : fs_K} {x1 x2 : Int} 
    (h : fs_C2 g m_Mo_calls 1 [fs_r 226, fs_i x1, fs_i x2, fs_i 0, fs_i 0] M (fun v M1 => v = none ∧ fs_C2 g m_Mo_asks 4 [fs_r 226, fs_i 3, fs_i 1000, fs_i 0] M1 (fun v M2 => ∃ r2, v = some (fs_i r2) ∧ K (some (fs_i r2)) M2))) :
    fs_C2 g m_Mo_catOf 5 [fs_r 226, fs_i x1, fs_i x2] M K := by
  refine b_enter2 (ls := [(0, fs_r 226), (1, fs_i x1), (2, fs_i x2)]) (plainFor_of_name pn_Mo) (Nat.le_of_ble_eq_true rfl) rfl ?_
  refine a_aload_n (j := 0) d_Mo_catOf_0 rfl rfl ?_
  refine a_iload_n (j := 1) d_Mo_catOf_1 rfl rfl ?_
  refine a_iload_n (j := 2) d_Mo_catOf_2 rfl rfl ?_
  refine a_iconst d_Mo_catOf_3 (by unfold fs_in32; omega) ?_
  refine a_iconst d_Mo_catOf_4 (by unfold fs_in32; omega) ?_
  refine b_virtual (dc := 1) (ci := 11) (T := fs_T11) (N := 78) [fs_i x1, fs_i x2, fs_i 0, fs_i 0] [] d_Mo_catOf_5 ml_Mo_353 k_Mo_calls v_Mo_calls rfl io_226 rfl (Nat.le_of_ble_eq_true rfl) rfl (Nat.le_of_ble_eq_true rfl) ?_
  refine fs_Call.mono (fun v M1 hv => ?_) h
  obtain ⟨rfl, h⟩ := hv
  show fs_A2 g m_Mo_catOf 5 8 [(0, fs_r 226), (1, fs_i x1), (2, fs_i x2)] [] M1 K
  refine a_aload_n (j := 0) d_Mo_catOf_8 rfl rfl ?_
  refine a_iconst d_Mo_catOf_9 (by unfold fs_in32; omega) ?_
  refine a_sipush d_Mo_catOf_10 (by decide) ?_
  refine a_iconst d_Mo_catOf_13 (by unfold fs_in32; omega) ?_
  refine b_virtual (dc := 4) (ci := 11) (T := fs_T11) (N := 78) [fs_i 3, fs_i 1000, fs_i 0] [] d_Mo_catOf_14 ml_Mo_359 k_Mo_asks v_Mo_asks rfl io_226 rfl (Nat.le_of_ble_eq_true rfl) rfl (Nat.le_of_ble_eq_true rfl) ?_
  refine fs_Call.mono (fun v M2 hv => ?_) h
  obtain ⟨r2, rfl, h⟩ := hv
  show fs_A2 g m_Mo_catOf 5 17 [(0, fs_r 226), (1, fs_i x1), (2, fs_i x2)] [fs_i r2] M2 K
  exact b_ireturn d_Mo_catOf_17 rfl rfl h
set_option maxRecDepth 8000 in
set_option maxHeartbeats 4000000 in
theorem E_Mo_send {M : fs_M} {K : fs_K} {x1 x2 : Int} 
    (h : fs_C2 g m_Mo_isDark 1 [fs_r 226, fs_i x1] (fs_st M 226 0 0) (fun v M1 => ∃ r1, v = some (fs_i r1) ∧ ((r1 = 0 → K (some (fs_i (-1))) M1) ∧ (¬ r1 = 0 → fs_C2 g m_Mo_isHouse 1 [fs_r 226, fs_i x2] M1 (fun v M2 => ∃ r2, v = some (fs_i r2) ∧ ((r2 = 0 → K (some (fs_i (-1))) M2) ∧ (¬ r2 = 0 → (0 ≤ x1 ∧ x1 < 66 ∧ ((¬ M2 242 x1 = 9 → fs_C2 g m_Mo_keepNow 2 [fs_r 226] M2 (fun v M3 => v = none ∧ (0 ≤ fs_w32 ((fs_w32 (9 * x1)) + (M3 242 x1)) ∧ fs_w32 ((fs_w32 (9 * x1)) + (M3 242 x1)) < 594 ∧ K (some (fs_i (fs_w32 ((M3 242 x1) + 1)))) (fs_st (fs_st M3 241 (fs_w32 ((fs_w32 (9 * x1)) + (M3 242 x1))) x2) 242 x1 (fs_w32 ((M3 242 x1) + 1)))))) ∧ (M2 242 x1 = 9 → K (some (fs_i (-1))) M2)))))))))) :
    fs_C2 g m_Mo_send 3 [fs_r 226, fs_i x1, fs_i x2] M K := by
  refine b_enter2 (ls := [(0, fs_r 226), (1, fs_i x1), (2, fs_i x2)]) (plainFor_of_name pn_Mo) (Nat.le_of_ble_eq_true rfl) rfl ?_
  refine a_aload_n (j := 0) d_Mo_send_0 rfl rfl ?_
  refine a_iconst d_Mo_send_1 (by unfold fs_in32; omega) ?_
  refine b_putfield (x := 0) d_Mo_send_2 fl_Mo_160 io_226 rfl rfl fs_nar_int ?_
  refine a_aload_n (j := 0) d_Mo_send_5 rfl rfl ?_
  refine a_iload_n (j := 1) d_Mo_send_6 rfl rfl ?_
  refine b_virtual (dc := 1) (ci := 11) (T := fs_T11) (N := 78) [fs_i x1] [] d_Mo_send_7 ml_Mo_317 k_Mo_isDark v_Mo_isDark rfl io_226 rfl (Nat.le_of_ble_eq_true rfl) rfl (Nat.le_of_ble_eq_true rfl) ?_
  refine fs_Call.mono (fun v M1 hv => ?_) h
  obtain ⟨r1, rfl, h⟩ := hv
  show fs_A2 g m_Mo_send 3 10 [(0, fs_r 226), (1, fs_i x1), (2, fs_i x2)] [fs_i r1] M1 K
  refine a_if_eq (tgt := 32) d_Mo_send_10 rfl (fun c1 => ?_) (fun c1 => ?_)
  · have h := h.1 c1
    refine a_iconst d_Mo_send_32 (by unfold fs_in32; omega) ?_
    exact b_ireturn d_Mo_send_33 rfl rfl h
  · have h := h.2 c1
    refine a_aload_n (j := 0) d_Mo_send_13 rfl rfl ?_
    refine a_iload_n (j := 2) d_Mo_send_14 rfl rfl ?_
    refine b_virtual (dc := 1) (ci := 11) (T := fs_T11) (N := 78) [fs_i x2] [] d_Mo_send_15 ml_Mo_314 k_Mo_isHouse v_Mo_isHouse rfl io_226 rfl (Nat.le_of_ble_eq_true rfl) rfl (Nat.le_of_ble_eq_true rfl) ?_
    refine fs_Call.mono (fun v M2 hv => ?_) h
    obtain ⟨r2, rfl, h⟩ := hv
    show fs_A2 g m_Mo_send 3 18 [(0, fs_r 226), (1, fs_i x1), (2, fs_i x2)] [fs_i r2] M2 K
    refine a_if_eq (tgt := 32) d_Mo_send_18 rfl (fun c2 => ?_) (fun c2 => ?_)
    · have h := h.1 c2
      refine a_iconst d_Mo_send_32 (by unfold fs_in32; omega) ?_
      exact b_ireturn d_Mo_send_33 rfl rfl h
    · have h := h.2 c2
      refine a_aload_n (j := 0) d_Mo_send_21 rfl rfl ?_
      refine b_getptr (q := 242) d_Mo_send_22 fl_Mo_60 io_226 rfl rfl rfl ?_
      refine a_iload_n (j := 1) d_Mo_send_25 rfl rfl ?_
      obtain ⟨o3, o4, h⟩ := h
      refine b_iaload (v := M2 242 x1) d_Mo_send_26 ia_242 o3 o4 rfl ?_
      refine a_bipush d_Mo_send_27 (by decide) ?_
      refine a_icmp_ne (tgt := 34) d_Mo_send_29 rfl (fun c5 => ?_) (fun c5 => ?_)
      · have h := h.1 c5
        refine a_aload_n (j := 0) d_Mo_send_34 rfl rfl ?_
        refine b_virtual (dc := 2) (ci := 11) (T := fs_T11) (N := 78) [] [] d_Mo_send_35 ml_Mo_425 k_Mo_keepNow v_Mo_keepNow rfl io_226 rfl (Nat.le_of_ble_eq_true rfl) rfl (Nat.le_of_ble_eq_true rfl) ?_
        refine fs_Call.mono (fun v M3 hv => ?_) h
        obtain ⟨rfl, h⟩ := hv
        show fs_A2 g m_Mo_send 3 38 [(0, fs_r 226), (1, fs_i x1), (2, fs_i x2)] [] M3 K
        refine a_aload_n (j := 0) d_Mo_send_38 rfl rfl ?_
        refine b_getptr (q := 241) d_Mo_send_39 fl_Mo_57 io_226 rfl rfl rfl ?_
        refine a_bipush d_Mo_send_42 (by decide) ?_
        refine a_iload_n (j := 1) d_Mo_send_44 rfl rfl ?_
        refine a_imul d_Mo_send_45 ?_
        refine a_aload_n (j := 0) d_Mo_send_46 rfl rfl ?_
        refine b_getptr (q := 242) d_Mo_send_47 fl_Mo_60 io_226 rfl rfl rfl ?_
        refine a_iload_n (j := 1) d_Mo_send_50 rfl rfl ?_
        refine b_iaload (v := M3 242 x1) d_Mo_send_51 ia_242 o3 o4 rfl ?_
        refine a_iadd d_Mo_send_52 ?_
        refine a_iload_n (j := 2) d_Mo_send_53 rfl rfl ?_
        obtain ⟨o6, o7, h⟩ := h
        refine b_iastore d_Mo_send_54 ia_241 o6 o7 ?_
        refine a_aload_n (j := 0) d_Mo_send_55 rfl rfl ?_
        refine b_getptr (q := 242) d_Mo_send_56 fl_Mo_60 io_226 rfl rfl rfl ?_
        refine a_iload_n (j := 1) d_Mo_send_59 rfl rfl ?_
        refine a_dup2 d_Mo_send_60 rfl rfl ?_
        refine b_iaload (v := M3 242 x1) d_Mo_send_61 ia_242 o3 o4 rfl ?_
        refine a_iconst d_Mo_send_62 (by unfold fs_in32; omega) ?_
        refine a_iadd d_Mo_send_63 ?_
        refine b_iastore d_Mo_send_64 ia_242 o3 o4 ?_
        refine a_aload_n (j := 0) d_Mo_send_65 rfl rfl ?_
        refine b_getptr (q := 242) d_Mo_send_66 fl_Mo_60 io_226 rfl rfl rfl ?_
        refine a_iload_n (j := 1) d_Mo_send_69 rfl rfl ?_
        refine b_iaload (v := fs_w32 ((M3 242 x1) + 1)) d_Mo_send_70 ia_242 o3 o4 (fs_st_s) ?_
        exact b_ireturn d_Mo_send_71 rfl rfl h
      · have h := h.2 c5
        refine a_iconst d_Mo_send_32 (by unfold fs_in32; omega) ?_
        exact b_ireturn d_Mo_send_33 rfl rfl h
end WALK
