-- ===== the plan behind send, drop, glass, out: again the same for both =====
theorem fs_rp_send {M M1 M2 : fs_M} {a b : Int} (hB : fs_bE M) (h : fs_rp M 31 0) (a0 : 0 ≤ a) (a1 : a < M 1 9) (b0 : 0 ≤ b) (b1 : b < M 1 5) (hl : M 36 a < 9)
    (o1 : fs_out (fun o k => fs_FPa o k ∨ (o = 33 + a ∧ k = M 36 a) ∨ (o = 36 ∧ k = a)) M M1) (v1 : M1 (33 + a) (M 36 a) = b) (w1 : M1 36 a = M 36 a + 1)
    (o2 : fs_out (fun o k => fs_FK o k ∨ (o = 226 ∧ k = 0) ∨ (o = 241 ∧ k = 9 * a + M 36 a) ∨ (o = 242 ∧ k = a)) M1 M2) (v2 : M2 241 (9 * a + M 36 a) = b) (w2 : M2 242 a = M 36 a + 1) : fs_rp M2 31 0 := by
  have h3 := hB.2.2.2.1
  have c1 : ∀ o k, o ≤ 225 → ¬ (fs_FPa o k ∨ (o = 33 + a ∧ k = M 36 a) ∨ (o = 36 ∧ k = a)) → M2 o k = M o k := fun o k q nF => by
    rw [o2 o k (fun z => by
      have z2 : fs_FK o k ∨ (o = 226 ∧ k = 0) ∨ (o = 241 ∧ k = 9 * a + M 36 a) ∨ (o = 242 ∧ k = a) := z
      unfold fs_FK at z2
      omega)]
    exact o1 o k nF
  have m1 : ∀ o k, 241 ≤ o → o ≤ 244 → ¬ (fs_FK o k ∨ (o = 226 ∧ k = 0) ∨ (o = 241 ∧ k = 9 * a + M 36 a) ∨ (o = 242 ∧ k = a)) → M2 o k = M o k := fun o k p q nF => by
    rw [o2 o k nF]
    exact o1 o k (fun z => by
      have z2 : fs_FPa o k ∨ (o = 33 + a ∧ k = M 36 a) ∨ (o = 36 ∧ k = a) := z
      unfold fs_FPa at z2
      omega)
  have cls : ∀ o k, o ≤ 225 → M2 o k = M1 o k := fun o k q => o2 o k (fun z => by
    have z2 : fs_FK o k ∨ (o = 226 ∧ k = 0) ∨ (o = 241 ∧ k = 9 * a + M 36 a) ∨ (o = 242 ∧ k = a) := z
    unfold fs_FK at z2
    omega)
  obtain ⟨p1, p2, p3⟩ := h
  have e9 : M2 1 9 = M 1 9 := c1 1 9 (by decide) (by unfold fs_FPa; omega)
  have e5 : M2 1 5 = M 1 5 := c1 1 5 (by decide) (by unfold fs_FPa; omega)
  refine ⟨by rw [c1 31 2 (by decide) (by unfold fs_FPa; omega), m1 243 0 (by decide) (by decide) (by unfold fs_FK; omega)]; exact p1, by rw [c1 31 3 (by decide) (by unfold fs_FPa; omega), m1 244 0 (by decide) (by decide) (by unfold fs_FK; omega)]; exact p2, fun d d0 d1 => ?_⟩
  rw [e9] at d1
  rw [e5]
  obtain ⟨x1, x2, x3, x4⟩ := p3 d d0 d1
  by_cases c : d = a
  · subst c
    have x2' : 0 ≤ M 36 d := x2
    have ew : M2 (31 + 5) d = M 36 d + 1 := by rw [cls (31 + 5) d (by decide)]; exact w1
    rw [ew, show 3 * (0 : Int) + d = d by omega, w2]
    refine ⟨rfl, by omega, by omega, fun k k0 k1 => ?_⟩
    by_cases e : k = M 36 d
    · rw [e, show 27 * (0 : Int) + 9 * d + M 36 d = 9 * d + M 36 d by omega, v2, cls (31 + 2 + d) _ (by omega), show 31 + 2 + d = 33 + d by omega, v1]
      exact ⟨rfl, b0, b1⟩
    · obtain ⟨y1, y2, y3⟩ := x4 k k0 (show k < M 36 d from by omega)
      rw [c1 (31 + 2 + d) k (by omega) (by unfold fs_FPa; omega), m1 241 _ (by decide) (by decide) (by unfold fs_FK; omega)]
      exact ⟨y1, y2, y3⟩
  · rw [c1 (31 + 5) d (by decide) (by unfold fs_FPa; omega), m1 242 _ (by decide) (by decide) (by unfold fs_FK; omega)]
    refine ⟨x1, x2, x3, fun k k0 k1 => ?_⟩
    obtain ⟨y1, y2, y3⟩ := x4 k k0 k1
    have k9 : k < 9 := by omega
    have l9 : M 36 a ≤ 9 := by omega
    obtain ⟨z1, z2, z3, z4⟩ := p3 a a0 a1
    have z2' : 0 ≤ M 36 a := z2
    rw [c1 (31 + 2 + d) k (by omega) (by unfold fs_FPa; omega), m1 241 _ (by decide) (by decide) (by unfold fs_FK; omega)]
    exact ⟨y1, y2, y3⟩
