-- ===== dark, walk, stays, cat =====
section OPSD
variable {g : fs_G} {M : fs_M}
theorem sp_cHouse {K : fs_K} {x : Int} (a : ¬ (0 ≤ x ∧ x < M 1 5) → K (some (fs_i 0)) M) (b : 0 ≤ x ∧ x < M 1 5 → K (some (fs_i 1)) M) : fs_C2 g m_Script_hasHouse 1 [fs_r 1, fs_i x] M K :=
  E_Script_hasHouse io_1 ⟨fun z => a (by omega), fun _ => ⟨fun z => a (by omega), fun _ => b (by omega)⟩⟩
theorem sp_cDark {K : fs_K} {x : Int} (a : ¬ (0 ≤ x ∧ x < M 1 9) → K (some (fs_i 0)) M) (b : 0 ≤ x ∧ x < M 1 9 → K (some (fs_i 1)) M) : fs_C2 g m_Script_hasDark 1 [fs_r 1, fs_i x] M K :=
  E_Script_hasDark io_1 ⟨fun z => a (by omega), fun _ => ⟨fun z => a (by omega), fun _ => b (by omega)⟩⟩
theorem sp_cMin {K : fs_K} {x : Int} (a : ¬ (1 ≤ x ∧ x ≤ 240) → K (some (fs_i 0)) M) (b : 1 ≤ x ∧ x ≤ 240 → K (some (fs_i 1)) M) : fs_C2 g m_Fs_isMinute 1 [fs_i x] M K :=
  E_Fs_isMinute ⟨fun z => a (by omega), fun _ => ⟨fun z => a (by omega), fun _ => b (by omega)⟩⟩
theorem sp_cGl {K : fs_K} {x : Int} (a : ¬ (0 ≤ x ∧ x ≤ 9) → K (some (fs_i 0)) M) (b : 0 ≤ x ∧ x ≤ 9 → K (some (fs_i 1)) M) : fs_C2 g m_Fs_isGlasses 1 [fs_i x] M K :=
  E_Fs_isGlasses ⟨fun z => a (by omega), fun _ => ⟨fun z => a (by omega), fun _ => b (by omega)⟩⟩
theorem sp_mHouse {K : fs_K} {x n : Int} (e : M 228 0 = n) (a : ¬ (0 ≤ x ∧ x < n) → K (some (fs_i 0)) M) (b : 0 ≤ x ∧ x < n → K (some (fs_i 1)) M) : fs_C2 g m_Mo_isHouse 1 [fs_r 226, fs_i x] M K :=
  E_Mo_isHouse ⟨fun z => a (by omega), fun _ => ⟨fun z => a (by omega), fun _ => b (by omega)⟩⟩
theorem sp_mDark {K : fs_K} {x n : Int} (e : M 228 1 = n) (a : ¬ (0 ≤ x ∧ x < n) → K (some (fs_i 0)) M) (b : 0 ≤ x ∧ x < n → K (some (fs_i 1)) M) : fs_C2 g m_Mo_isDark 1 [fs_r 226, fs_i x] M K :=
  E_Mo_isDark ⟨fun z => a (by omega), fun _ => ⟨fun z => a (by omega), fun _ => b (by omega)⟩⟩
theorem sp_mMin {K : fs_K} {x : Int} (a : ¬ (1 ≤ x ∧ x ≤ 240) → K (some (fs_i 0)) M) (b : 1 ≤ x ∧ x ≤ 240 → K (some (fs_i 1)) M) : fs_C2 g m_Mo_isMinute 1 [fs_i x] M K :=
  E_Mo_isMinute ⟨fun z => a (by omega), fun _ => ⟨fun z => a (by omega), fun _ => b (by omega)⟩⟩
theorem fs_thr_env {E : fs_M} (h : fs_env E M) : fs_env E (fs_st M 226 0 0) := fun o k q => by
  rw [fs_st_o (by unfold fs_eC at q; omega)]
  exact h o k q
theorem fs_F4_FM {o k : Int} (h : fs_F4 o k) : fs_FM o k := Or.inl (Or.inl (Or.inl h))
theorem fs_limS {x : Int} (a : -1000000 ≤ x) (b : x ≤ 1000000) : fs_lim x := by unfold fs_lim; omega
theorem op_cat {a b : Int} (h : fs_Rl M) : fs_C2 g m_Fs_cat 5 [fs_r 0, fs_i a, fs_i b] M (fs_KK g m_Mo_cat 6 [fs_r 226, fs_i a, fs_i b]) := by
  have hB := h.1
  have hT := h.2.1
  have r0 := hT.1
  have h6 := hB.2.1
  have y := hB.2.2.2.2.1
  have no : ¬ ((0 ≤ a ∧ a < M 1 5) ∧ 1 ≤ b ∧ b ≤ 240) → fs_C2 g m_Mo_cat 6 [fs_r 226, fs_i a, fs_i b] M (fun v2 M2 => v2 = some (fs_i (-1)) ∧ fs_Rl M2) := fun n =>
    E_Mo_cat (sp_mHouse ((fs_st_o (by omega)).trans r0) (fun _ => ⟨_, rfl, fun _ => ⟨rfl, h.thr⟩, fun z => absurd rfl z⟩) (fun q => ⟨_, rfl, fun z => absurd z (by decide), fun _ => sp_mMin (fun _ => ⟨_, rfl, fun _ => ⟨rfl, h.thr⟩, fun z => absurd rfl z⟩) (fun q2 => absurd ⟨q, q2⟩ n)⟩))
  refine E_Fs_cat (sp_cHouse (fun q => ⟨_, rfl, fun _ => ⟨_, rfl, no (fun z => q z.1)⟩, fun z => absurd rfl z⟩) (fun q => ⟨_, rfl, fun z => absurd z (by decide), fun _ => sp_cMin (fun q2 => ⟨_, rfl, fun z => absurd rfl z, fun _ => ⟨_, rfl, no (fun z => q2 z.2)⟩⟩) (fun q2 => ⟨_, rfl, fun _ => ⟨q.1, by omega, ?_⟩, fun z => absurd z (by decide)⟩)⟩))
  obtain ⟨y1, y2, y3, y4, y5, y6⟩ := y a q.1 q.2
  refine sp_catChance (hB.2.2.2.2.2.2 3 (by omega) (by omega)) (fun M1 o1 => ⟨_, rfl, _, rfl, ?_⟩)
  have e0 : fs_env M M1 := fs_env.out2 (fun _ _ _ => rfl) o1
  have e1 : fs_env M (fs_st M1 226 0 0) := fs_thr_env e0
  have w : fs_st M1 226 0 0 231 a = M 4 a := by rw [e1 231 a (by unfold fs_eC; omega)]; exact (hT.2.2.1 a q.1 q.2).2.1
  refine E_Mo_cat (sp_mHouse ((e1 228 0 (by unfold fs_eC; omega)).trans r0) (fun q3 => absurd q q3) (fun _ => ⟨_, rfl, fun z => absurd z (by decide), fun _ => sp_mMin (fun q3 => absurd q2 q3) (fun _ => ⟨_, rfl, fun z => absurd z (by decide), fun _ => ?_⟩)⟩))
  refine sp_catOf (e1.rl hT.2.2.2.2) q.1 (by omega) (fs_limS (by omega) (by omega)) (by rw [w]; exact fs_limS (by omega) (by omega)) (fun M2 o2 => ⟨_, rfl, ?_, ?_⟩)
  · rw [w, e1.cat]
  · exact h.two (o1.wk (fun o k q => fs_F2_F5 q)) (fs_out0.tr (o2.wk (fun o k q => fs_F4_FM q))) fs_n5 fs_nM
theorem op_dark {a b : Int} (hb : b ≤ 2147483647) (h : fs_Rl M) : fs_C2 g m_Fs_dark 2 [fs_r 0, fs_i a, fs_i b] M (fs_KK g m_Mo_dark 2 [fs_r 226, fs_i a, fs_i b]) := by
  have hB := h.1
  have hT := h.2.1
  have r1 := hT.2.1
  have h3 := hB.2.2.2.1
  have p := h.2.2.2.2.1.2.2.2.2.2.1.2.2
  have t : ∀ o k, o ≠ 226 → fs_st M 226 0 0 o k = M o k := fun o k q => fs_st_o q
  refine E_Fs_dark (sp_cDark (fun q => ⟨_, rfl, fun _ => ⟨_, rfl, ?_⟩, fun z => absurd rfl z⟩) (fun q => ⟨_, rfl, fun z => absurd z (by decide), fun _ => ⟨fun q2 => ?_, fun q2 => ⟨_, rfl, ?_⟩⟩⟩))
  · exact E_Mo_dark (sp_mDark ((t 228 1 (by omega)).trans r1) (fun _ => ⟨_, rfl, fun _ => ⟨rfl, h.thr⟩, fun z => absurd rfl z⟩) (fun z => absurd z q))
  · obtain ⟨d1, d2⟩ := hT.2.2.2.1 a q.1 q.2
    obtain ⟨p1, p2, p3, p4⟩ := p a q.1 q.2
    rw [show (31 : Int) + 5 = 36 from rfl, show (3 : Int) * 0 + a = a from by omega] at p1
    rw [show (31 : Int) + 5 = 36 from rfl] at p2 p3 p4
    have mo : ∀ (v : Int), ((3 ≤ b → ((M 242 a ≤ fs_w32 (b - 3) → v = -1) ∧ (¬ M 242 a ≤ fs_w32 (b - 3) → v = M 241 (9 * a + b - 3)))) ∧ (¬ 3 ≤ b → ((¬ b = 0 → ((¬ b = 1 → v = M 242 a) ∧ (b = 1 → v = M 236 a))) ∧ (b = 0 → v = M 235 a)))) → fs_C2 g m_Mo_dark 2 [fs_r 226, fs_i a, fs_i b] M (fun v2 M2 => v2 = some (fs_i v) ∧ fs_Rl M2) := by
      intro v ⟨v1, v2⟩
      refine E_Mo_dark (sp_mDark ((t 228 1 (by omega)).trans r1) (fun z => absurd q z) (fun _ => ⟨_, rfl, fun z => absurd z (by decide), fun _ => ⟨fun _ => ⟨fun b3 => ⟨q.1, by omega, ?_⟩, fun b3 => ?_⟩, fun z => absurd q2 z⟩⟩))
      · rw [t 242 a (by omega)]
        refine ⟨fun z => ⟨by rw [(v1 b3).1 z], h.thr⟩, fun z => ?_⟩
        have w3 : fs_w32 (b - 3) = b - 3 := fs_w32_of (by omega) (by omega)
        have z2 := z
        rw [w3, ← p1] at z2
        rw [fs_w32_of (x := 9 * a) (by omega) (by omega), fs_w32_of (x := 9 * a + b) (by omega) (by omega), fs_w32_of (x := 9 * a + b - 3) (by omega) (by omega)]
        refine ⟨by omega, by omega, ?_, h.thr⟩
        rw [(v1 b3).2 z, t 241 (9 * a + b - 3) (by omega)]
      · obtain ⟨v3, v4⟩ := v2 b3
        refine ⟨fun z => ⟨fun z2 => ⟨q.1, by omega, ?_, h.thr⟩, fun z2 => ⟨q.1, by omega, ?_, h.thr⟩⟩, fun z => ⟨q.1, by omega, ?_, h.thr⟩⟩
        · rw [(v3 z).1 z2, t 242 a (by omega)]
        · rw [(v3 z).2 z2, t 236 a (by omega)]
        · rw [v4 z, t 235 a (by omega)]
    refine ⟨fun z => ⟨q.1, by omega, _, rfl, mo _ ⟨fun b3 => absurd b3 (by omega), fun _ => ⟨fun z2 => absurd z z2, fun _ => d1.symm⟩⟩⟩, fun z => ⟨q.1, by omega, _, rfl, mo _ ⟨fun b3 => absurd b3 (by omega), fun _ => ⟨fun _ => ⟨fun z2 => absurd z z2, fun _ => d2.symm⟩, fun z2 => absurd z2 (by omega)⟩⟩⟩, fun z => ⟨q.1, by omega, _, rfl, mo _ ⟨fun b3 => absurd b3 (by omega), fun _ => ⟨fun _ => ⟨fun _ => p1, fun z2 => absurd z2 (by omega)⟩, fun z2 => absurd z2 (by omega)⟩⟩⟩, fun z => ⟨q.1, by omega, fun z2 => ⟨_, rfl, mo _ ⟨fun _ => ⟨fun _ => rfl, fun z3 => absurd (by rw [← p1]; exact z2) z3⟩, fun b3 => absurd b3 (by omega)⟩⟩, fun z2 => ?_⟩⟩
    have w3 : fs_w32 (b - 3) = b - 3 := fs_w32_of (by omega) (by omega)
    have z4 := z2
    rw [w3] at z4
    rw [w3]
    refine ⟨by omega, by omega, _, rfl, mo _ ⟨fun _ => ⟨fun z3 => absurd (by rw [p1]; exact z3) z2, fun _ => ?_⟩, fun b3 => absurd b3 (by omega)⟩⟩
    have p5 := (p4 (b - 3) (by omega) (by omega)).1
    rw [show (31 : Int) + 2 + a = 33 + a from by omega, show (27 : Int) * 0 + 9 * a + (b - 3) = 9 * a + b - 3 from by omega] at p5
    exact p5
  · exact E_Mo_dark (sp_mDark ((t 228 1 (by omega)).trans r1) (fun z => absurd q z) (fun _ => ⟨_, rfl, fun z => absurd z (by decide), fun _ => ⟨fun z => absurd z q2, fun _ => ⟨rfl, h.thr⟩⟩⟩))
theorem op_stays {a b c e f : Int} (h : fs_Rl M) : fs_C2 g m_Fs_stays 5 [fs_r 0, fs_i a, fs_i b, fs_i c, fs_i e, fs_i f] M (fs_KK g m_Mo_stays 5 [fs_r 226, fs_i a, fs_i b, fs_i c, fs_i e, fs_i f]) := by
  have hB := h.1
  have hT := h.2.1
  have r0 := hT.1
  have r1 := hT.2.1
  have h3 := hB.2.2.2.1
  have h6 := hB.2.1
  have no : ¬ ((0 ≤ a ∧ a < M 1 9) ∧ (0 ≤ b ∧ b < M 1 5) ∧ (1 ≤ c ∧ c ≤ 240) ∧ (0 ≤ e ∧ e ≤ 9) ∧ 0 ≤ f ∧ f ≤ 1) → fs_C2 g m_Mo_stays 5 [fs_r 226, fs_i a, fs_i b, fs_i c, fs_i e, fs_i f] M (fun v2 M2 => v2 = some (fs_i (-1)) ∧ fs_Rl M2) := fun n =>
    E_Mo_stays (sp_mDark ((fs_st_o (by omega)).trans r1) (fun _ => ⟨_, rfl, fun _ => ⟨rfl, h.thr⟩, fun z => absurd rfl z⟩) (fun q1 => ⟨_, rfl, fun z => absurd z (by decide), fun _ => sp_mHouse ((fs_st_o (by omega)).trans r0) (fun _ => ⟨_, rfl, fun _ => ⟨rfl, h.thr⟩, fun z => absurd rfl z⟩) (fun q2 => ⟨_, rfl, fun z => absurd z (by decide), fun _ => sp_mMin (fun _ => ⟨_, rfl, fun _ => ⟨rfl, h.thr⟩, fun z => absurd rfl z⟩) (fun q3 => ⟨_, rfl, fun z => absurd z (by decide), fun _ =>
      ⟨fun _ => ⟨rfl, h.thr⟩, fun q4 => ⟨fun _ => ⟨rfl, h.thr⟩, fun q5 => ⟨fun _ => ⟨rfl, h.thr⟩, fun q6 => ⟨fun q7 => absurd ⟨q1, q2, q3, ⟨by omega, by omega⟩, by omega, q7⟩ n, fun _ => ⟨rfl, h.thr⟩⟩⟩⟩⟩⟩)⟩)⟩))
  refine E_Fs_stays (sp_cDark (fun q => ⟨_, rfl, fun _ => ⟨_, rfl, no (fun z => q z.1)⟩, fun z => absurd rfl z⟩) (fun q1 => ⟨_, rfl, fun z => absurd z (by decide), fun _ => sp_cHouse (fun q => ⟨_, rfl, fun _ => ⟨_, rfl, no (fun z => q z.2.1)⟩, fun z => absurd rfl z⟩) (fun q2 => ⟨_, rfl, fun z => absurd z (by decide), fun _ => sp_cMin (fun q => ⟨_, rfl, fun _ => ⟨_, rfl, no (fun z => q z.2.2.1)⟩, fun z => absurd rfl z⟩) (fun q3 => ⟨_, rfl, fun z => absurd z (by decide), fun _ =>
    sp_cGl (fun q => ⟨_, rfl, fun z => absurd rfl z, fun _ => ⟨_, rfl, no (fun z => q z.2.2.2.1)⟩⟩) (fun q4 => ⟨_, rfl, fun _ => ⟨q1.1, by omega, q2.1, by omega, fun f0 => ⟨fun f1 => ⟨_, rfl, no (fun z => by omega)⟩, fun f1 => ?_⟩, fun f0 => ?_⟩, fun z => absurd z (by decide)⟩)⟩)⟩)⟩))
  all_goals
    obtain ⟨y1, y2, y3, y4, y5, y6⟩ := hB.2.2.2.2.1 b q2.1 q2.2
    obtain ⟨x1, x2, x3, x4⟩ := hB.2.2.2.2.2.1 a q1.1 q1.2
    have mo : ∀ (v : Int) (M1 : fs_M), fs_out fs_F2 M M1 → ((¬ f = 0 → v = fs_may M c e (M 8 a) (M 4 b) 0) ∧ (f = 0 → v = fs_stay M c e (M 8 a) (M 4 b))) → fs_C2 g m_Mo_stays 5 [fs_r 226, fs_i a, fs_i b, fs_i c, fs_i e, fs_i f] M1 (fun v2 M2 => v2 = some (fs_i v) ∧ fs_Rl M2) := by
      intro v M1 o1 hv
      have e0 : fs_env M M1 := fs_env.out2 (fun _ _ _ => rfl) o1
      have e1 : fs_env M (fs_st M1 226 0 0) := fs_thr_env e0
      refine E_Mo_stays (sp_mDark ((e1 228 1 (by unfold fs_eC; omega)).trans r1) (fun z => absurd q1 z) (fun _ => ⟨_, rfl, fun z => absurd z (by decide), fun _ => sp_mHouse ((e1 228 0 (by unfold fs_eC; omega)).trans r0) (fun z => absurd q2 z) (fun _ => ⟨_, rfl, fun z => absurd z (by decide), fun _ => sp_mMin (fun z => absurd q3 z) (fun _ => ⟨_, rfl, fun z => absurd z (by decide), fun _ =>
        ⟨fun z => absurd z (by omega), fun _ => ⟨fun z => absurd z (by omega), fun _ => ⟨fun z => absurd z (by omega), fun _ => ⟨fun _ => E_Mo_plain ⟨rfl, q1.1, by omega, ?_⟩, fun z => absurd z (by omega)⟩⟩⟩⟩⟩)⟩)⟩))
      generalize hP : fs_st (fs_st (fs_st (fs_st M1 226 0 0) 226 42 (-1)) 226 43 (-1)) 226 44 (-1) = P
      have oP : fs_out fs_FM M1 P := by
        rw [← hP]
        refine ((fs_out0.st ?_).st ?_).st ?_ <;> unfold fs_FM fs_F9 fs_F8 <;> omega
      have eP : fs_env M P := fun o k q => by
        rw [oP o k (fun z => fs_nM o k z (Or.inl (Or.inr (Or.inl q))))]
        exact e0 o k q
      have p42 : P 226 42 = -1 := by rw [← hP]; simp [fs_st]
      have w : P 231 b = M 4 b := by rw [eP 231 b (by unfold fs_eC; omega)]; exact (hT.2.2.1 b q2.1 q2.2).2.1
      have w2 : P 236 a = M 8 a := by rw [eP 236 a (by unfold fs_eC; omega)]; exact (hT.2.2.2.1 a q1.1 q1.2).2
      rw [w2]
      refine sp_calls q2.1 (by omega) (fs_limS (by omega) (by omega)) (fs_limS (by omega) (by omega)) (fs_limS (by omega) (by omega)) (by rw [w]; exact fs_limS (by omega) (by omega)) (fun M2 o2 n2 => ⟨rfl, ?_⟩)
      rw [w] at n2
      have e2 : fs_env M M2 := fun o k q => by
        rw [o2 o k (by unfold fs_eC at q; omega)]
        exact eP o k q
      have fin : ∀ M3, fs_out fs_F3 M2 M3 → fs_Rl M3 := fun M3 o3 => h.two (o1.wk (fun o k q => fs_F2_F5 q)) (oP.tr (fs_out.tr (o2.wk (fun o k q => fs_F4_FM (Or.inl q))) (o3.wk (fun o k q => fs_F4_FM (fs_F3_F4 q))))) fs_n5 fs_nM
      refine ⟨fun z => sp_may (e2.rl hT.2.2.2.2) n2 (fun M3 o3 => ⟨_, rfl, ?_⟩), fun z => ?_⟩
      · have q42 : M2 226 42 = -1 := by rw [o2 226 42 (by omega)]; exact p42
        have em : fs_mayN M2 (fs_nm 0 e c 0 (M 8 a) (M 4 b) 0) = fs_may M c e (M 8 a) (M 4 b) 0 := by
          rw [← e2.may]
          rfl
        rw [q42, if_neg (by decide), em, ← hv.1 z]
        have v01 : v = 0 ∨ v = 1 := by
          rw [hv.1 z]
          unfold fs_may
          split
          · split
            · exact Or.inl rfl
            · split
              · exact Or.inl rfl
              · exact Or.inr rfl
          · exact Or.inr rfl
        refine ⟨fun z2 => ⟨by rw [z2], fin M3 o3⟩, fun z2 => ⟨by rw [show v = 1 by omega], fin M3 o3⟩⟩
      · refine sp_asks (by decide) (by decide) (by decide) (by decide) (e2.rl hT.2.2.2.2) n2 (fun M3 o3 => ⟨_, rfl, ?_, fin M3 o3⟩)
        rw [hv.2 z, ← e2.stay]
        rfl
  · refine sp_allows (hB.2.2.2.2.2.2 2 (by omega) (by omega)) (fun M1 o1 => ⟨_, rfl, fun z => ⟨_, rfl, mo 0 M1 o1 ⟨fun _ => z.symm, fun z2 => absurd z2 f0⟩⟩, fun z => ⟨_, rfl, mo 1 M1 o1 ⟨fun _ => ?_, fun z2 => absurd z2 f0⟩⟩⟩)
    revert z
    unfold fs_may
    split
    · split
      · intro z; exact absurd rfl z
      · split
        · intro z; exact absurd rfl z
        · intro _; rfl
    · intro _; rfl
  · exact sp_stayTime (hB.2.2.2.2.2.2 1 (by omega) (by omega)) (fun M1 o1 => ⟨_, rfl, _, rfl, mo _ M1 o1 ⟨fun z => absurd f0 z, fun _ => rfl⟩⟩)
end OPSD
