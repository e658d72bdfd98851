-- ===== rows of dark numbers that are none: empty for both =====
def fs_rz (M : fs_M) (pl b : Int) : Prop := ∀ d, 0 ≤ d → M 1 9 ≤ d → d < 3 → M (pl + 5) d = 0 ∧ M 242 (3 * b + d) = 0
def fs_prz (M : fs_M) : Prop := fs_rz M 31 0 ∧ ∀ j, 0 ≤ j → j < M 95 2 → fs_rz M (fs_slot (M 95 1) j) (2 + j)
theorem fs_rz.cp {M M2 : fs_M} {p b p2 b2 : Int} (h : fs_rz M p b) (hc : fs_pcp M2 p2 M p) (hm : fs_mcp M2 b2 M b) (h9 : M2 1 9 = M 1 9) : fs_rz M2 p2 b2 := by
  obtain ⟨c1, c2, c3⟩ := hc
  obtain ⟨m1, m2, m3, m4⟩ := hm
  intro d d0 d1 d2
  rw [h9] at d1
  rw [(c3 d d0 d2).1, m3 d d0 d2]
  exact h d d0 d1 d2
theorem fs_prz.next {M M1 M2 : fs_M} (h : fs_pr M) (hz : fs_prz M) (hc : fs_pcC M M1) (hm : fs_pcM M1 M2) (hn : fs_rz M2 31 0) : fs_prz M2 := by
  obtain ⟨p1, p2, p3, p4, p5, p6, p7⟩ := h
  obtain ⟨z1, z2⟩ := hz
  obtain ⟨c1, c2, c3, c4, c5⟩ := hc
  obtain ⟨m1, m2, m3, m4⟩ := hm
  have e38 : M1 226 38 = M 95 2 := by rw [c1 226 38 (by unfold fs_FcC fs_FPa fs_now3; omega), p5]
  rw [e38] at m2 m3 m4
  have cls : ∀ o k, o ≤ 225 → M2 o k = M1 o k := fun o k a => m1 o k (by unfold fs_FcM; omega)
  have mdl : ∀ o k, 226 ≤ o → M1 o k = M o k := fun o k a => c1 o k (by unfold fs_FcC fs_FPa fs_now3; omega)
  have e9 : M2 1 9 = M 1 9 := by rw [cls 1 9 (by decide), c1 1 9 (by unfold fs_FcC fs_FPa fs_now3; omega)]
  have mm : ∀ b, fs_mcp M1 b M b := fun b => fs_mcp_o (fun o k a b => mdl o k (by omega))
  have pp : ∀ o j, fs_pcp M2 (fs_slot o j) M1 (fs_slot o j) := fun o j => fs_pcp_rf (fun x k a b => cls x k (by have := fs_slot_b o j; omega))
  have x1 : M2 95 1 = fs_pO (M 95 1) (M 95 2) := by rw [cls 95 1 (by decide), c2]
  have x2 : M2 95 2 = fs_pL (M 95 2) + 1 := by rw [cls 95 2 (by decide), c3]
  refine ⟨hn, fun j j0 j1 => ?_⟩
  rw [x1]
  by_cases c : j = fs_pL (M 95 2)
  · rw [c]
    exact z1.cp ((pp _ _).tr c4) (m3.tr (mm 0)) e9
  · have jl : j < fs_pL (M 95 2) := by omega
    have js : j + fs_pS (M 95 2) < M 95 2 := by
      unfold fs_pL at jl
      unfold fs_pS
      split at jl <;> split <;> omega
    have js0 : 0 ≤ j + fs_pS (M 95 2) := by
      unfold fs_pS
      split <;> omega
    have es : fs_slot (fs_pO (M 95 1) (M 95 2)) j = fs_slot (M 95 1) (j + fs_pS (M 95 2)) := by
      unfold fs_slot fs_pO fs_pS
      split <;> omega
    have r := z2 (j + fs_pS (M 95 2)) js0 js
    rw [← es] at r
    exact r.cp ((pp _ _).tr (c5 j j0 jl)) ((m4 j j0 jl).tr (mm _)) e9
