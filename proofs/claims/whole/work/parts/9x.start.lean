-- ===== by hand: from the law's entry to its loop =====
theorem fs_lawc1 : Cond.classLink "FirstSillLaw" 8 fs_cn10 ∈ fs_B := fs_inB 175 (by decide +kernel) rfl
theorem fs_lawc2 : Cond.classLink "FirstSillLaw" 18 fs_cn11 ∈ fs_B := fs_inB 1400 (by decide +kernel) rfl
section START
variable {g : fs_G} {nm : String}
abbrev fs_ZA : fs_Z := (1, 0, 271, 601024, 7293034)
/-- all cells are there: from now on the pointers stand -/
theorem g_phase {md : fs_D} {d n0 n1 N1 N2 : Nat} {y : Nat × Nat × Nat} {pc : Nat} {ls : List (Nat × fs_V)} {st : List fs_V} {M : fs_M} {K : fs_K} {PX : Code → Prop} (hP : fs_P2 M) (h : fs_At g md d (2, 271, 271, N1, N2) y pc ls st M K) : fs_Ag g md d (1, n0, n1, N1, N2) y pc ls st M PX (fun below args s => MQ below (fs_Q g 2 271 K) args s N1 N2 (fs_A g)) := by
  intro p e R s m args below meth c C hPX H locs lc hl hR hS hI hlo hok
  exact h p e R s m args below meth c C H locs lc hl ⟨hR.1, fun q => by cases q⟩ hS ⟨hI.1, fun _ => hP⟩ hlo hok
set_option maxRecDepth 8000 in
set_option maxHeartbeats 4000000 in
theorem law_start (hL : g_L g ≤ 3072) : fs_Ag g (m_LawN nm) 170 fs_ZA (0, 0, 0) 0 [(0, fs_r 3000)] [] (fs_Tt 0) (fun _ => True) (fun below args s => MQ below (fs_Q g 2 271 (fun v _ => v = some (fs_i 1))) args s 601024 7293034 (fs_A g)) := by
  refine p_newG (idx := 8) (ci := 10) rfl d_Law_law_0 fs_kc10 ⟨fs_lawc1, fs_inB 176 (by decide +kernel) rfl, (fs_inB 148 (by decide +kernel) rfl)⟩ rfl (by decide) (by decide +kernel) ⟨by decide, by decide⟩ ?_
  refine g_dup d_Law_law_3 rfl ?_
  refine g_init (dc := 4) (zc := (1, 1, 226, 225, 18485)) (o := 0) [] [fs_r 0] d_Law_law_4 ml_Law_17 k_Fs_init v_Fs_init rfl rfl ⟨by decide, rfl⟩ rfl ⟨by decide, rfl, rfl, by decide, by decide, fun _ => rfl⟩ rfl (Nat.le_of_ble_eq_true rfl) (I_Fs_init_0 ?_)
  show fs_Ag g (m_LawN nm) 170 fs_ZA (226, 226, 18502) 7 [(0, fs_r 3000)] [fs_r 0] (fs_Tt 319) (fun _ => True) _
  refine g_astore_n (ls' := [(0, fs_r 3000), (1, fs_r 0)]) d_Law_law_7 rfl (Nat.le_of_ble_eq_true rfl) (by decide) [1, 0] rfl ?_
  refine p_newG (idx := 18) (ci := 11) rfl d_Law_law_8 fs_kc11 ⟨fs_lawc2, fs_inB 1401 (by decide +kernel) rfl, (fs_inB 161 (by decide +kernel) rfl)⟩ rfl (by decide) (by decide +kernel) ⟨by decide, by decide⟩ ?_
  refine g_dup d_Law_law_11 rfl ?_
  refine g_init (dc := 3) (zc := (1, 227, 270, 43, 1962)) (o := 226) [] [fs_r 226] d_Law_law_12 ml_Law_20 k_Mo_init v_Mo_init rfl rfl ⟨by decide, rfl⟩ rfl ⟨by decide, rfl, rfl, by decide, by decide, fun _ => rfl⟩ rfl (Nat.le_of_ble_eq_true rfl) (I_Mo_init_226 ?_)
  show fs_Ag g (m_LawN nm) 170 fs_ZA (270, 270, 20542) 15 [(0, fs_r 3000), (1, fs_r 0)] [fs_r 226] (fs_Tt 374) (fun _ => True) _
  refine g_astore_n (ls' := [(0, fs_r 3000), (1, fs_r 0), (2, fs_r 226)]) d_Law_law_15 rfl (Nat.le_of_ble_eq_true rfl) (by decide) [1, 2, 0] rfl ?_
  refine g_iconst d_Law_law_16 (by unfold fs_in32; omega) ?_
  refine p_newarrayG (ty := 2) (n := 1) rfl d_Law_law_17 aw_long (by simp) rfl (by decide) (by decide +kernel) ⟨by decide, by decide⟩ ?_
  refine g_astore_n (ls' := [(0, fs_r 3000), (1, fs_r 0), (2, fs_r 226), (3, fs_r 270)]) d_Law_law_19 rfl (Nat.le_of_ble_eq_true rfl) (by decide) [1, 2, 3, 0] rfl ?_
  refine g_phase fs_P2_0 ?_
  show fs_At g (m_LawN nm) 170 fs_ZL (271, 271, 20543) 20 [(0, fs_r 3000), (1, fs_r 0), (2, fs_r 226), (3, fs_r 270)] [] (fs_Tt 374) _
  refine a_iconst d_Law_law_20 (by unfold fs_in32; omega) ?_
  refine a_istore (ls' := fs_LS 0) d_Law_law_21 (Nat.le_of_ble_eq_true rfl) [1, 2, 3, 4, 0] rfl ?_
  exact law_loop hL (fun _ => rfl) 512 0 (fs_Tt 374) 271 20543 (by omega) (by omega) fs_Rl0 (by decide) (by decide)
end START
