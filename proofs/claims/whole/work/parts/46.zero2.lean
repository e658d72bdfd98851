theorem fs_prz.undo {M M1 M2 : fs_M} (h : fs_pr M) (hz0 : fs_prz M) (hz : M 95 2 ≠ 0) (o1 : fs_out (fun o k => fs_plc 31 o k ∨ (o = 95 ∧ k = 2) ∨ (o = 60 ∧ k = 5)) M M1) (e1 : M1 95 2 = M 95 2 - 1) (c1 : fs_pcp M1 31 M (fs_slot (M 95 1) (M 95 2 - 1)))
    (o2 : fs_out (fun o k => fs_mlc 0 o k ∨ (o = 226 ∧ (k = 0 ∨ k = 38))) M1 M2) (c2 : fs_mcp M2 0 M1 (2 + (M1 226 38 - 1))) : fs_prz M2 := by
  obtain ⟨p1, p2, p3, p4, p5, p6, p7⟩ := h
  obtain ⟨z1, z2⟩ := hz0
  have cls : ∀ o k, o ≤ 225 → M2 o k = M1 o k := fun o k a => o2 o k (fun q => by
    have q2 : fs_mlc 0 o k ∨ (o = 226 ∧ (k = 0 ∨ k = 38)) := q
    unfold fs_mlc at q2
    omega)
  have mdl : ∀ o k, 226 ≤ o → M1 o k = M o k := fun o k a => o1 o k (fun q => by
    have q2 : fs_plc 31 o k ∨ (o = 95 ∧ k = 2) ∨ (o = 60 ∧ k = 5) := q
    unfold fs_plc at q2
    omega)
  have c0 : ∀ o k, o ≤ 30 ∨ (97 ≤ o ∧ o ≤ 225) ∨ (o = 95 ∧ k = 1) → M1 o k = M o k := fun o k a => o1 o k (fun q => by
    have q2 : fs_plc 31 o k ∨ (o = 95 ∧ k = 2) ∨ (o = 60 ∧ k = 5) := q
    unfold fs_plc at q2
    omega)
  have m38 : M1 226 38 = M 95 2 := by rw [mdl 226 38 (by decide), p5]
  rw [m38] at c2
  have e9 : M2 1 9 = M 1 9 := by rw [cls 1 9 (by decide), c0 1 9 (Or.inl (by decide))]
  have x1 : M2 95 1 = M 95 1 := by rw [cls 95 1 (by decide), c0 95 1 (by omega)]
  have x2 : M2 95 2 = M 95 2 - 1 := by rw [cls 95 2 (by decide), e1]
  have mm : ∀ b, fs_mcp M1 b M b := fun b => fs_mcp_o (fun o k a b => mdl o k (by omega))
  have top := z2 (M 95 2 - 1) (by omega) (by omega)
  refine ⟨?_, fun j j0 j1 => ?_⟩
  · exact top.cp ((fs_pcp_rf (fun o k a b => cls o k (by omega))).tr c1) (c2.tr (mm _)) e9
  · rw [x1]
    have sb := fs_slot_b (M 95 1) j
    refine (z2 j j0 (by omega)).cp (fs_pcp_rf (fun o k a b => ?_)) ?_ e9
    · rw [cls o k (by omega), c0 o k (by omega)]
    · refine fs_mcp.tr ?_ (mm _)
      have q : ∀ o k, (o = 241 → 54 ≤ k) → (o = 242 → 6 ≤ k) → (o = 243 ∨ o = 244 → 2 ≤ k) → 241 ≤ o → o ≤ 244 → M2 o k = M1 o k := fun o k a b c d e => o2 o k (fun q => by
        have q2 : fs_mlc 0 o k ∨ (o = 226 ∧ (k = 0 ∨ k = 38)) := q
        unfold fs_mlc at q2
        omega)
      exact ⟨q _ _ (by omega) (by omega) (by omega) (by decide) (by decide), q _ _ (by omega) (by omega) (by omega) (by decide) (by decide), fun d d0 d1 => q _ _ (by omega) (by omega) (by omega) (by decide) (by decide), fun k k0 k1 => q _ _ (by omega) (by omega) (by omega) (by decide) (by decide)⟩
