-- ===== climb =====
theorem fs_pr.next2 {M M1 M2 : fs_M} (hB : M 1 9 ≤ 3) (h : fs_pr M) (c2 : M1 95 1 = fs_pO (M 95 1) (M 95 2)) (c3 : M1 95 2 = fs_pL (M 95 2) + 1) (c4 : fs_pcp M1 (fs_slot (fs_pO (M 95 1) (M 95 2)) (fs_pL (M 95 2))) M 31) (c5 : ∀ j, 0 ≤ j → j < fs_pL (M 95 2) → fs_pcp M1 (fs_slot (fs_pO (M 95 1) (M 95 2)) j) M (fs_slot (fs_pO (M 95 1) (M 95 2)) j))
    (cls : ∀ o k, (o = 95 ∧ (k = 1 ∨ k = 2)) ∨ (97 ≤ o ∧ o ≤ 216) → M2 o k = M1 o k) (mdl : ∀ o k, 241 ≤ o → o ≤ 244 → M1 o k = M o k) (m2 : M2 226 38 = fs_pL (M 95 2) + 1) (m3 : fs_mcp M2 (2 + fs_pL (M 95 2)) M1 0) (m4 : ∀ j, 0 ≤ j → j < fs_pL (M 95 2) → fs_mcp M2 (2 + j) M1 (2 + (j + fs_pS (M 95 2)))) (e9 : M2 1 9 = M 1 9) (e5 : M2 1 5 = M 1 5) (hn : fs_rp M2 31 0) : fs_pr M2 := by
  obtain ⟨p1, p2, p3, p4, p5, p6, p7⟩ := h
  have mm : ∀ b, fs_mcp M1 b M b := fun b => fs_mcp_o (fun o k a b => mdl o k a b)
  have pp : ∀ o j, fs_pcp M2 (fs_slot o j) M1 (fs_slot o j) := fun o j => fs_pcp_rf (fun x k a b => cls x k (by have := fs_slot_b o j; omega))
  have bL : 0 ≤ fs_pL (M 95 2) ∧ fs_pL (M 95 2) < 20 := by
    unfold fs_pL
    split <;> omega
  have bO : 0 ≤ fs_pO (M 95 1) (M 95 2) ∧ fs_pO (M 95 1) (M 95 2) < 20 := by
    unfold fs_pO
    split <;> omega
  have x1 : M2 95 1 = fs_pO (M 95 1) (M 95 2) := by rw [cls 95 1 (by omega), c2]
  have x2 : M2 95 2 = fs_pL (M 95 2) + 1 := by rw [cls 95 2 (by omega), c3]
  refine ⟨by omega, by omega, by omega, by omega, by omega, hn, fun j j0 j1 => ?_⟩
  rw [x1]
  by_cases c : j = fs_pL (M 95 2)
  · rw [c]
    exact p6.cp hB ((pp _ _).tr c4) (m3.tr (mm 0)) e9 e5
  · have jl : j < fs_pL (M 95 2) := by omega
    have js : j + fs_pS (M 95 2) < M 95 2 := by
      unfold fs_pL at jl
      unfold fs_pS
      split at jl <;> split <;> omega
    have js0 : 0 ≤ j + fs_pS (M 95 2) := by
      unfold fs_pS
      split <;> omega
    have es : fs_slot (fs_pO (M 95 1) (M 95 2)) j = fs_slot (M 95 1) (j + fs_pS (M 95 2)) := by
      unfold fs_slot fs_pO fs_pS
      split <;> omega
    have r := p7 (j + fs_pS (M 95 2)) js0 js
    rw [← es] at r
    exact r.cp hB ((pp _ _).tr (c5 j j0 jl)) ((m4 j j0 jl).tr (mm _)) e9 e5
theorem fs_prz.next2 {M M1 M2 : fs_M} (h : fs_pr M) (hz : fs_prz M) (c2 : M1 95 1 = fs_pO (M 95 1) (M 95 2)) (c3 : M1 95 2 = fs_pL (M 95 2) + 1) (c4 : fs_pcp M1 (fs_slot (fs_pO (M 95 1) (M 95 2)) (fs_pL (M 95 2))) M 31) (c5 : ∀ j, 0 ≤ j → j < fs_pL (M 95 2) → fs_pcp M1 (fs_slot (fs_pO (M 95 1) (M 95 2)) j) M (fs_slot (fs_pO (M 95 1) (M 95 2)) j))
    (cls : ∀ o k, (o = 95 ∧ (k = 1 ∨ k = 2)) ∨ (97 ≤ o ∧ o ≤ 216) → M2 o k = M1 o k) (mdl : ∀ o k, 241 ≤ o → o ≤ 244 → M1 o k = M o k) (m2 : M2 226 38 = fs_pL (M 95 2) + 1) (m3 : fs_mcp M2 (2 + fs_pL (M 95 2)) M1 0) (m4 : ∀ j, 0 ≤ j → j < fs_pL (M 95 2) → fs_mcp M2 (2 + j) M1 (2 + (j + fs_pS (M 95 2)))) (e9 : M2 1 9 = M 1 9) (e5 : M2 1 5 = M 1 5) (hn : fs_rz M2 31 0) : fs_prz M2 := by
  obtain ⟨p1, p2, p3, p4, p5, p6, p7⟩ := h
  obtain ⟨z1, z2⟩ := hz
  have mm : ∀ b, fs_mcp M1 b M b := fun b => fs_mcp_o (fun o k a b => mdl o k a b)
  have pp : ∀ o j, fs_pcp M2 (fs_slot o j) M1 (fs_slot o j) := fun o j => fs_pcp_rf (fun x k a b => cls x k (by have := fs_slot_b o j; omega))
  have x1 : M2 95 1 = fs_pO (M 95 1) (M 95 2) := by rw [cls 95 1 (by omega), c2]
  have x2 : M2 95 2 = fs_pL (M 95 2) + 1 := by rw [cls 95 2 (by omega), c3]
  refine ⟨hn, fun j j0 j1 => ?_⟩
  rw [x1]
  by_cases c : j = fs_pL (M 95 2)
  · rw [c]
    exact z1.cp ((pp _ _).tr c4) (m3.tr (mm 0)) e9
  · have jl : j < fs_pL (M 95 2) := by omega
    have js : j + fs_pS (M 95 2) < M 95 2 := by
      unfold fs_pL at jl
      unfold fs_pS
      split at jl <;> split <;> omega
    have js0 : 0 ≤ j + fs_pS (M 95 2) := by
      unfold fs_pS
      split <;> omega
    have es : fs_slot (fs_pO (M 95 1) (M 95 2)) j = fs_slot (M 95 1) (j + fs_pS (M 95 2)) := by
      unfold fs_slot fs_pO fs_pS
      split <;> omega
    have r := z2 (j + fs_pS (M 95 2)) js0 js
    rw [← es] at r
    exact r.cp ((pp _ _).tr (c5 j j0 jl)) ((m4 j j0 jl).tr (mm _)) e9
theorem fs_nXp : ∀ o k, (fs_FX o k ∨ fs_plc 37 o k) → ¬ (fs_sup o k ∨ fs_supB o k) := fun o k q z => by
  rcases q with q | q
  · exact fs_nX o k q z
  · unfold fs_plc at q
    unfold fs_sup fs_supB fs_eC at z
    omega
section OPSI
variable {g : fs_G} {M : fs_M}
theorem op_climb (h : fs_Rl M) : fs_C2 g m_Fs_climb 9 [fs_r 0] M (fs_KK g m_Mo_climb 11 [fs_r 226]) := by
  have hB := h.1
  have hT := h.2.1
  have hp := h.2.2.2.2.1
  have hz := h.2.2.2.2.2.1
  have h3 := hB.2.2.2.1
  have rp := hp.2.2.2.2.2.1
  refine oc_climb hB hp hz.1 (fun n M1 o1 => ⟨0, rfl, ?_⟩) (fun n M1 o1 ec c2 c3 c4 c5 => ⟨_, rfl, ?_⟩)
  · have s := fs_sup_of o1 fs_nXp
    refine om_climb (len := M 95 2) hB hT rp hz.1 (fs_sup_envM s) (by rw [s 226 38 (by unfold fs_sup; omega)]; exact hp.2.2.2.2.1) hp.2.2.1 hp.2.2.2.1 (fun _ M2 o2 => ⟨rfl, h.two o1 o2 fs_nXp fs_nYt⟩) (fun y => absurd n y)
  · have f1 : ∀ o k, fs_FLc o k → (9 ≤ o ∧ o ≤ 14 ∧ (o = 9 → 6 ≤ k ∧ k ≤ 13) ∧ (o ≤ 9 ∨ o = 14)) ∨ (43 ≤ o ∧ o ≤ 53) ∨ (o = 0 ∧ 14 ≤ k) ∨ (33 ≤ o ∧ o ≤ 35) ∨ (37 ≤ o ∧ o ≤ 42) ∨ (o = 95 ∧ (k = 1 ∨ k = 2)) ∨ (97 ≤ o ∧ o ≤ 216) := fun o k z => by
      unfold fs_FLc fs_FCl fs_FX fs_F5 fs_F2 fs_plc fs_FPa at z
      omega
    have s1 : ∀ o k, ¬ ((9 ≤ o ∧ o ≤ 14 ∧ (o = 9 → 6 ≤ k ∧ k ≤ 13) ∧ (o ≤ 9 ∨ o = 14)) ∨ (43 ≤ o ∧ o ≤ 53) ∨ (o = 0 ∧ 14 ≤ k) ∨ (33 ≤ o ∧ o ≤ 35) ∨ (37 ≤ o ∧ o ≤ 42) ∨ (o = 95 ∧ (k = 1 ∨ k = 2)) ∨ (97 ≤ o ∧ o ≤ 216)) → M1 o k = M o k := fun o k q => o1 o k (fun z => q (f1 o k z))
    have em : fs_envM M M1 := fun o k q => s1 o k (by unfold fs_eC fs_mlc at q; omega)
    have e38 : M1 226 38 = M 95 2 := by rw [s1 226 38 (by omega)]; exact hp.2.2.2.2.1
    refine om_climb (len := M 95 2) hB hT rp hz.1 em e38 hp.2.2.1 hp.2.2.2.1 (fun y => absurd y n) (fun _ M2 o2 en m2 m3 m4 => ⟨rfl, ?_⟩)
    have f2 : ∀ o k, fs_FLn o k → (249 ≤ o ∧ o ≤ 262) ∨ (o = 226 ∧ (k = 0 ∨ k = 38 ∨ (41 ≤ k ∧ k ≤ 61))) ∨ (o = 241 ∧ ¬ (27 ≤ k ∧ k < 54)) ∨ (o = 242 ∧ 6 ≤ k) ∨ ((o = 243 ∨ o = 244) ∧ 2 ≤ k) := fun o k z => by
      unfold fs_FLn fs_FLm fs_FY fs_F9 fs_F6 fs_F8 fs_F4 fs_FK at z
      omega
    have s2 : ∀ o k, ¬ ((249 ≤ o ∧ o ≤ 262) ∨ (o = 226 ∧ (k = 0 ∨ k = 38 ∨ (41 ≤ k ∧ k ≤ 61))) ∨ (o = 241 ∧ ¬ (27 ≤ k ∧ k < 54)) ∨ (o = 242 ∧ 6 ≤ k) ∨ ((o = 243 ∨ o = 244) ∧ 2 ≤ k)) → M2 o k = M1 o k := fun o k q => o2 o k (fun z => q (f2 o k z))
    obtain ⟨i1, i2, i3, i4⟩ := fs_clb_inv 595 M h3 rp hz.1
    have hc3 : (fs_clb 595 M).2 1 9 ≤ 3 := by rw [i4 1 9 (by omega) (by omega)]; exact h3
    have cg : ∀ o k, o = 1 ∨ (31 ≤ o ∧ o ≤ 31 + 5) ∨ fs_mlc 0 o k → M2 o k = (fs_clb 595 M).2 o k := fun o k q => by
      rcases q with q | q | q
      · exact en o k (Or.inl (by unfold fs_eC; omega))
      · rw [s2 o k (by omega)]
        exact ec o k (Or.inr (by omega))
      · exact en o k (Or.inr q)
    have rp2 : fs_rp M2 31 0 := i1.cong2 hc3 cg
    have rz2 : fs_rz M2 31 0 := i2.cong2 cg
    have e9 : M2 1 9 = M 1 9 := by rw [s2 1 9 (by omega), s1 1 9 (by omega)]
    have e5 : M2 1 5 = M 1 5 := by rw [s2 1 5 (by omega), s1 1 5 (by omega)]
    have cls : ∀ o k, (o = 95 ∧ (k = 1 ∨ k = 2)) ∨ (97 ≤ o ∧ o ≤ 216) → M2 o k = M1 o k := fun o k q => s2 o k (by omega)
    have mdl : ∀ o k, 241 ≤ o → o ≤ 244 → M1 o k = M o k := fun o k a b => s1 o k (by omega)
    refine h.gen (fun o k q => ?_) (fs_pr.next2 h3 hp c2 c3 c4 c5 cls mdl m2 m3 m4 e9 e5 rp2) (fs_prz.next2 hp hz c2 c3 c4 c5 cls mdl m2 m3 m4 e9 e5 rz2) (fs_ngx.at h (fun o k q => by rw [s2 o k (by omega), s1 o k (by omega)])) (fs_bkS.next h3 h.2.2.2.2.2.2.2.2.2.2 (fun o k q => ?_))
    · unfold fs_supG fs_eC at q
      have q2 : ¬ ((249 ≤ o ∧ o ≤ 262) ∨ (o = 226 ∧ (k = 0 ∨ k = 38 ∨ (41 ≤ k ∧ k ≤ 61))) ∨ (o = 241 ∧ ¬ (27 ≤ k ∧ k < 54)) ∨ (o = 242 ∧ 6 ≤ k) ∨ ((o = 243 ∨ o = 244) ∧ 2 ≤ k)) := by
        rcases q with q | q | q | q | q | q | q | q | q | q | q | q | q
        · omega
        · omega
        · omega
        · omega
        · omega
        · omega
        · omega
        · omega
        · omega
        · unfold fs_mlc at q
          omega
        · omega
        · omega
        · omega
      have q3 : ¬ ((9 ≤ o ∧ o ≤ 14 ∧ (o = 9 → 6 ≤ k ∧ k ≤ 13) ∧ (o ≤ 9 ∨ o = 14)) ∨ (43 ≤ o ∧ o ≤ 53) ∨ (o = 0 ∧ 14 ≤ k) ∨ (33 ≤ o ∧ o ≤ 35) ∨ (37 ≤ o ∧ o ≤ 42) ∨ (o = 95 ∧ (k = 1 ∨ k = 2)) ∨ (97 ≤ o ∧ o ≤ 216)) := by
        rcases q with q | q | q | q | q | q | q | q | q | q | q | q | q
        · omega
        · omega
        · omega
        · omega
        · omega
        · omega
        · omega
        · omega
        · omega
        · have q4 := fs_mlc_O q
          omega
        · omega
        · omega
        · omega
      rw [s2 o k q2, s1 o k q3]
    · unfold fs_supB fs_eC at q
      rw [s2 o k (by omega), s1 o k (by omega)]
end OPSI
