theorem fs_rp_drop {M M1 M2 : fs_M} {a : Int} (hB : fs_bE M) (h : fs_rp M 31 0) (a0 : 0 ≤ a) (a1 : a < M 1 9) (hl : M 36 a ≠ 0)
    (o1 : fs_out (fun o k => fs_FPa o k ∨ (o = 36 ∧ k = a)) M M1) (w1 : M1 36 a = M 36 a - 1)
    (o2 : fs_out (fun o k => fs_FK o k ∨ (o = 226 ∧ k = 0) ∨ (o = 242 ∧ k = a)) M1 M2) (w2 : M2 242 a = M 36 a - 1) : fs_rp M2 31 0 := by
  have h3 := hB.2.2.2.1
  have cls : ∀ o k, o ≤ 225 → M2 o k = M1 o k := fun o k q => o2 o k (fun z => by
    have z2 : fs_FK o k ∨ (o = 226 ∧ k = 0) ∨ (o = 242 ∧ k = a) := z
    unfold fs_FK at z2
    omega)
  have c1 : ∀ o k, o ≤ 225 → ¬ (fs_FPa o k ∨ (o = 36 ∧ k = a)) → M2 o k = M o k := fun o k q nF => by
    rw [cls o k q]
    exact o1 o k nF
  have m1 : ∀ o k, 241 ≤ o → o ≤ 244 → ¬ (fs_FK o k ∨ (o = 226 ∧ k = 0) ∨ (o = 242 ∧ k = a)) → M2 o k = M o k := fun o k p q nF => by
    rw [o2 o k nF]
    exact o1 o k (fun z => by
      have z2 : fs_FPa o k ∨ (o = 36 ∧ k = a) := z
      unfold fs_FPa at z2
      omega)
  obtain ⟨p1, p2, p3⟩ := h
  have e9 : M2 1 9 = M 1 9 := c1 1 9 (by decide) (by unfold fs_FPa; omega)
  have e5 : M2 1 5 = M 1 5 := c1 1 5 (by decide) (by unfold fs_FPa; omega)
  refine ⟨by rw [c1 31 2 (by decide) (by unfold fs_FPa; omega), m1 243 0 (by decide) (by decide) (by unfold fs_FK; omega)]; exact p1, by rw [c1 31 3 (by decide) (by unfold fs_FPa; omega), m1 244 0 (by decide) (by decide) (by unfold fs_FK; omega)]; exact p2, fun d d0 d1 => ?_⟩
  rw [e9] at d1
  rw [e5]
  obtain ⟨x1, x2, x3, x4⟩ := p3 d d0 d1
  have rows : ∀ k, 0 ≤ k → k < M (31 + 5) d → M2 (31 + 2 + d) k = M2 241 (27 * 0 + 9 * d + k) ∧ 0 ≤ M2 (31 + 2 + d) k ∧ M2 (31 + 2 + d) k < M 1 5 := fun k k0 k1 => by
    obtain ⟨y1, y2, y3⟩ := x4 k k0 k1
    rw [c1 (31 + 2 + d) k (by omega) (by unfold fs_FPa; omega), m1 241 _ (by decide) (by decide) (by unfold fs_FK; omega)]
    exact ⟨y1, y2, y3⟩
  by_cases c : d = a
  · subst c
    have x2' : 0 ≤ M 36 d := x2
    have x3' : M 36 d ≤ 9 := x3
    have ew : M2 (31 + 5) d = M 36 d - 1 := by rw [cls (31 + 5) d (by decide)]; exact w1
    rw [ew, show 3 * (0 : Int) + d = d by omega, w2]
    exact ⟨rfl, by omega, by omega, fun k k0 k1 => rows k k0 (show k < M 36 d from by omega)⟩
  · rw [c1 (31 + 5) d (by decide) (by unfold fs_FPa; omega), m1 242 _ (by decide) (by decide) (by unfold fs_FK; omega)]
    exact ⟨x1, x2, x3, rows⟩
theorem fs_rp_turn {M M1 M2 : fs_M} {f v : Int} (hf : f = 2 ∨ f = 3) (hB : fs_bE M) (h : fs_rp M 31 0)
    (o1 : fs_out (fun o k => fs_FPa o k ∨ (o = 31 ∧ k = f) ∨ (o = 60 ∧ k = 5)) M M1) (w1 : M1 31 f = v)
    (o2 : fs_out (fun o k => fs_FK o k ∨ (o = 226 ∧ k = 0) ∨ (o = 241 + f ∧ k = 0)) M1 M2) (w2 : M2 (241 + f) 0 = v) : fs_rp M2 31 0 := by
  have h3 := hB.2.2.2.1
  have cls : ∀ o k, o ≤ 225 → M2 o k = M1 o k := fun o k q => o2 o k (fun z => by
    have z2 : fs_FK o k ∨ (o = 226 ∧ k = 0) ∨ (o = 241 + f ∧ k = 0) := z
    unfold fs_FK at z2
    omega)
  have c1 : ∀ o k, o ≤ 225 → ¬ (fs_FPa o k ∨ (o = 31 ∧ k = f) ∨ (o = 60 ∧ k = 5)) → M2 o k = M o k := fun o k q nF => by
    rw [cls o k q]
    exact o1 o k nF
  have m1 : ∀ o k, 241 ≤ o → o ≤ 244 → ¬ (fs_FK o k ∨ (o = 226 ∧ k = 0) ∨ (o = 241 + f ∧ k = 0)) → M2 o k = M o k := fun o k p q nF => by
    rw [o2 o k nF]
    exact o1 o k (fun z => by
      have z2 : fs_FPa o k ∨ (o = 31 ∧ k = f) ∨ (o = 60 ∧ k = 5) := z
      unfold fs_FPa at z2
      omega)
  obtain ⟨p1, p2, p3⟩ := h
  have e9 : M2 1 9 = M 1 9 := c1 1 9 (by decide) (by unfold fs_FPa; omega)
  have e5 : M2 1 5 = M 1 5 := c1 1 5 (by decide) (by unfold fs_FPa; omega)
  have rest : ∀ d, 0 ≤ d → d < M2 1 9 → M2 (31 + 5) d = M2 242 (3 * 0 + d) ∧ 0 ≤ M2 (31 + 5) d ∧ M2 (31 + 5) d ≤ 9 ∧ ∀ k, 0 ≤ k → k < M2 (31 + 5) d → M2 (31 + 2 + d) k = M2 241 (27 * 0 + 9 * d + k) ∧ 0 ≤ M2 (31 + 2 + d) k ∧ M2 (31 + 2 + d) k < M2 1 5 := fun d d0 d1 => by
    rw [e9] at d1
    rw [e5]
    obtain ⟨x1, x2, x3, x4⟩ := p3 d d0 d1
    rw [c1 (31 + 5) d (by decide) (by unfold fs_FPa; omega), m1 242 _ (by decide) (by decide) (by unfold fs_FK; omega)]
    refine ⟨x1, x2, x3, fun k k0 k1 => ?_⟩
    obtain ⟨y1, y2, y3⟩ := x4 k k0 k1
    rw [c1 (31 + 2 + d) k (by omega) (by unfold fs_FPa; omega), m1 241 _ (by decide) (by decide) (by unfold fs_FK; omega)]
    exact ⟨y1, y2, y3⟩
  rcases hf with z | z
  · subst z
    refine ⟨by rw [cls 31 2 (by decide), w1]; exact w2.symm, by rw [c1 31 3 (by decide) (by unfold fs_FPa; omega), m1 244 0 (by decide) (by decide) (by unfold fs_FK; omega)]; exact p2, rest⟩
  · subst z
    refine ⟨by rw [c1 31 2 (by decide) (by unfold fs_FPa; omega), m1 243 0 (by decide) (by decide) (by unfold fs_FK; omega)]; exact p1, by rw [cls 31 3 (by decide), w1]; exact w2.symm, rest⟩
