-- ===== walk; nights copied; the gain behind a changed plan =====
section OPSE
variable {g : fs_G} {M : fs_M}
theorem op_walk {a b c e f : Int} (h : fs_Rl M) : fs_C2 g m_Fs_walk 5 [fs_r 0, fs_i a, fs_i b, fs_i c, fs_i e, fs_i f] M (fs_KK g m_Mo_walk 6 [fs_r 226, fs_i a, fs_i b, fs_i c, fs_i e, fs_i f]) := by
  have hB := h.1
  have hT := h.2.1
  have r0 := hT.1
  have r1 := hT.2.1
  have h3 := hB.2.2.2.1
  have h6 := hB.2.1
  have no : ¬ ((0 ≤ a ∧ a < M 1 9) ∧ (b = -1 ∨ (0 ≤ b ∧ b < M 1 5)) ∧ (0 ≤ c ∧ c < M 1 5) ∧ (1 ≤ e ∧ e ≤ 240) ∧ 0 ≤ f ∧ f ≤ 9) → fs_C2 g m_Mo_walk 6 [fs_r 226, fs_i a, fs_i b, fs_i c, fs_i e, fs_i f] M (fun v2 M2 => v2 = some (fs_i (-1)) ∧ fs_Rl M2) := fun n => by
    have l26 : (0 ≤ a ∧ a < M 1 9) → (b = -1 ∨ (0 ≤ b ∧ b < M 1 5)) → fs_A2 g m_Mo_walk 6 26 [(0, fs_r 226), (1, fs_i a), (2, fs_i b), (3, fs_i c), (4, fs_i e), (5, fs_i f)] [] (fs_st M 226 0 0) (fun v2 M2 => v2 = some (fs_i (-1)) ∧ fs_Rl M2) := fun q1 q2 =>
      L_Mo_walk_26 (sp_mHouse ((fs_st_o (by omega)).trans r0) (fun _ => ⟨_, rfl, fun _ => ⟨rfl, h.thr⟩, fun z => absurd rfl z⟩) (fun q3 => ⟨_, rfl, fun z => absurd z (by decide), fun _ => sp_mMin (fun _ => ⟨_, rfl, fun _ => ⟨rfl, h.thr⟩, fun z => absurd rfl z⟩) (fun q4 => ⟨_, rfl, fun z => absurd z (by decide), fun _ =>
        ⟨fun _ => ⟨rfl, h.thr⟩, fun q5 => ⟨fun q6 => absurd ⟨q1, q2, q3, q4, by omega, q6⟩ n, fun _ => ⟨rfl, h.thr⟩⟩⟩⟩)⟩))
    exact E_Mo_walk (sp_mDark ((fs_st_o (by omega)).trans r1) (fun _ => ⟨_, rfl, fun _ => ⟨rfl, h.thr⟩, fun z => absurd rfl z⟩) (fun q1 => ⟨_, rfl, fun z => absurd z (by decide), fun _ => ⟨fun b1 => l26 q1 (Or.inl b1), fun b1 => sp_mHouse ((fs_st_o (by omega)).trans r0) (fun _ => ⟨_, rfl, fun _ => ⟨rfl, h.thr⟩, fun z => absurd rfl z⟩) (fun q2 => ⟨_, rfl, fun z => absurd z (by decide), fun _ => l26 q1 (Or.inr q2)⟩)⟩⟩))
  have mo : ∀ (p : Int) (M1 : fs_M), (0 ≤ a ∧ a < M 1 9) → (b = -1 ∨ (0 ≤ b ∧ b < M 1 5)) → (0 ≤ c ∧ c < M 1 5) → (1 ≤ e ∧ e ≤ 240) → (0 ≤ f ∧ f ≤ 9) → (b = -1 → p = M 7 a) → (b ≠ -1 → p = M 3 b) → 0 ≤ p → p ≤ 99 → fs_out fs_F2 M M1 → fs_C2 g m_Mo_walk 6 [fs_r 226, fs_i a, fs_i b, fs_i c, fs_i e, fs_i f] M1 (fun v2 M2 => v2 = some (fs_i (fs_walk M (fs_w32 (M 3 c - p)) e f (M 8 a) (M 4 c))) ∧ fs_Rl M2) := by
    intro p M1 q1 q2 q3 q4 q5 pa pb p0 p1 o1
    obtain ⟨y1, y2, y3, y4, y5, y6⟩ := hB.2.2.2.2.1 c q3.1 q3.2
    obtain ⟨x1, x2, x3, x4⟩ := hB.2.2.2.2.2.1 a q1.1 q1.2
    have e0 : fs_env M M1 := fs_env.out2 (fun _ _ _ => rfl) o1
    have e1 : fs_env M (fs_st M1 226 0 0) := fs_thr_env e0
    have l26 : fs_A2 g m_Mo_walk 6 26 [(0, fs_r 226), (1, fs_i a), (2, fs_i b), (3, fs_i c), (4, fs_i e), (5, fs_i f)] [] (fs_st M1 226 0 0) (fun v2 M2 => v2 = some (fs_i (fs_walk M (fs_w32 (M 3 c - p)) e f (M 8 a) (M 4 c))) ∧ fs_Rl M2) := by
      refine L_Mo_walk_26 (sp_mHouse ((e1 228 0 (by unfold fs_eC; omega)).trans r0) (fun z => absurd q3 z) (fun _ => ⟨_, rfl, fun z => absurd z (by decide), fun _ => sp_mMin (fun z => absurd q4 z) (fun _ => ⟨_, rfl, fun z => absurd z (by decide), fun _ => ⟨fun z => absurd z (by omega), fun _ => ⟨fun _ => E_Mo_plain ⟨rfl, ?_⟩, fun z => absurd z (by omega)⟩⟩⟩)⟩))
      generalize hP : fs_st (fs_st (fs_st (fs_st M1 226 0 0) 226 42 (-1)) 226 43 (-1)) 226 44 (-1) = P
      have oP : fs_out fs_FM M1 P := by
        rw [← hP]
        refine ((fs_out0.st ?_).st ?_).st ?_ <;> unfold fs_FM fs_F9 fs_F8 <;> omega
      have eP : fs_env M P := fun o k q => by
        rw [oP o k (fun z => fs_nM o k z (Or.inl (Or.inr (Or.inl q))))]
        exact e0 o k q
      have p42 : P 226 42 = -1 := by rw [← hP]; simp [fs_st]
      have w : P 231 c = M 4 c := by rw [eP 231 c (by unfold fs_eC; omega)]; exact (hT.2.2.1 c q3.1 q3.2).2.1
      have w0 : P 230 c = M 3 c := by rw [eP 230 c (by unfold fs_eC; omega)]; exact (hT.2.2.1 c q3.1 q3.2).1
      have w2 : P 236 a = M 8 a := by rw [eP 236 a (by unfold fs_eC; omega)]; exact (hT.2.2.2.1 a q1.1 q1.2).2
      have w3 : P 235 a = M 7 a := by rw [eP 235 a (by unfold fs_eC; omega)]; exact (hT.2.2.2.1 a q1.1 q1.2).1
      have l81 : fs_A2 g m_Mo_walk 6 81 [(0, fs_r 226), (1, fs_i a), (3, fs_i c), (4, fs_i e), (5, fs_i f)] [fs_i p, fs_r 226] P (fun v2 M2 => v2 = some (fs_i (fs_walk M (fs_w32 (M 3 c - p)) e f (M 8 a) (M 4 c))) ∧ fs_Rl M2) := by
        refine L_Mo_walk_81 ⟨q1.1, by omega, ?_⟩
        rw [w2]
        refine sp_walkOf (eP.rl hT.2.2.2.2) q3.1 (by omega) (fs_limS (by omega) (by omega)) (fs_limS (by omega) (by omega)) (fs_limS (by omega) (by omega)) (by rw [w]; exact fs_limS (by omega) (by omega)) p0 p1 (by omega) (by omega) (fun M2 o2 => ⟨_, rfl, ?_, ?_⟩)
        · rw [p42, if_neg (by decide), w, w0, eP.walk, fs_w32_of (x := M 3 c - p) (by omega) (by omega)]
        · exact h.two (o1.wk (fun o k q => fs_F2_F5 q)) (oP.tr (o2.wk (fun o k q => fs_F4_FM q))) fs_n5 fs_nM
      refine ⟨fun z => ?_, fun z => ?_⟩
      · have q2' : 0 ≤ b ∧ b < M 1 5 := by omega
        have w4 : P 230 b = M 3 b := by rw [eP 230 b (by unfold fs_eC; omega)]; exact (hT.2.2.1 b q2'.1 q2'.2).1
        rw [w4, ← pb z]
        exact ⟨q2'.1, by omega, l81⟩
      · rw [w3, ← pa z]
        exact ⟨q1.1, by omega, l81⟩
    refine E_Mo_walk (sp_mDark ((e1 228 1 (by unfold fs_eC; omega)).trans r1) (fun z => absurd q1 z) (fun _ => ⟨_, rfl, fun z => absurd z (by decide), fun _ => ⟨fun _ => l26, fun b1 => sp_mHouse ((e1 228 0 (by unfold fs_eC; omega)).trans r0) (fun z => absurd (show 0 ≤ b ∧ b < M 1 5 by omega) z) (fun _ => ⟨_, rfl, fun z => absurd z (by decide), fun _ => l26⟩)⟩⟩))
  have c21 : ∀ s : Int, (s = 0 → ¬ (b = -1 ∨ (0 ≤ b ∧ b < M 1 5))) → (¬ s = 0 → (b = -1 ∨ (0 ≤ b ∧ b < M 1 5))) → fs_A2 g m_Fs_walk 5 21 [(0, fs_r 0), (1, fs_i a), (2, fs_i b), (3, fs_i c), (4, fs_i e), (5, fs_i f)] [fs_i s] M (fs_KK g m_Mo_walk 6 [fs_r 226, fs_i a, fs_i b, fs_i c, fs_i e, fs_i f]) := by
    intro s s0 s1
    refine L_Fs_walk_21 (sp_cDark (fun q => ⟨_, rfl, fun _ => ⟨_, rfl, no (fun z => q z.1)⟩, fun z => absurd rfl z⟩) (fun q1 => ⟨_, rfl, fun z => absurd z (by decide), fun _ => ⟨fun z => ⟨_, rfl, no (fun y => s0 z y.2.1)⟩, fun z => sp_cHouse (fun q => ⟨_, rfl, fun _ => ⟨_, rfl, no (fun z => q z.2.2.1)⟩, fun z => absurd rfl z⟩) (fun q3 => ⟨_, rfl, fun z => absurd z (by decide), fun _ =>
      sp_cMin (fun q => ⟨_, rfl, fun _ => ⟨_, rfl, no (fun z => q z.2.2.2.1)⟩, fun z => absurd rfl z⟩) (fun q4 => ⟨_, rfl, fun z => absurd z (by decide), fun _ => sp_cGl (fun q => ⟨_, rfl, fun z => absurd rfl z, fun _ => ⟨_, rfl, no (fun z => q z.2.2.2.2)⟩⟩) (fun q5 => ⟨_, rfl, fun _ => ?_, fun z => absurd z (by decide)⟩)⟩)⟩)⟩⟩))
    have q2 := s1 z
    obtain ⟨y1, y2, y3, y4, y5, y6⟩ := hB.2.2.2.2.1 c q3.1 q3.2
    have l94 : ∀ p, (b = -1 → p = M 7 a) → (b ≠ -1 → p = M 3 b) → 0 ≤ p → p ≤ 99 → fs_A2 g m_Fs_walk 5 94 [(0, fs_r 0), (1, fs_i a), (3, fs_i c), (4, fs_i e), (5, fs_i f)] [fs_i p] M (fs_KK g m_Mo_walk 6 [fs_r 226, fs_i a, fs_i b, fs_i c, fs_i e, fs_i f]) := fun p pa pb p0 p1 => by
      have w := fs_w32_of (x := M 3 c - p) (by omega) (by omega)
      exact L_Fs_walk_94 ⟨q3.1, by omega, q1.1, by omega, sp_walkTime (hB.2.2.2.2.2.2 0 (by omega) (by omega)) (by omega) (by omega) (fun M1 o1 => ⟨_, rfl, _, rfl, mo p M1 q1 q2 q3 q4 q5 pa pb p0 p1 o1⟩)⟩
    refine ⟨fun z => ?_, fun z => ?_⟩
    · have q2' : 0 ≤ b ∧ b < M 1 5 := by omega
      obtain ⟨u1, u2, -⟩ := hB.2.2.2.2.1 b q2'.1 q2'.2
      exact ⟨q2'.1, by omega, l94 _ (fun y => absurd y z) (fun _ => rfl) u1 u2⟩
    · obtain ⟨u1, u2, -⟩ := hB.2.2.2.2.2.1 a q1.1 q1.2
      exact ⟨q1.1, by omega, l94 _ (fun _ => rfl) (fun y => absurd z y) u1 u2⟩
  exact E_Fs_walk ⟨fun b1 => c21 1 (fun z => absurd z (by decide)) (fun _ => Or.inl b1), fun b1 => sp_cHouse (fun q => ⟨_, rfl, fun _ => c21 0 (fun _ y => by omega) (fun z => absurd rfl z), fun z => absurd rfl z⟩) (fun q => ⟨_, rfl, fun z => absurd z (by decide), fun _ => c21 1 (fun z => absurd z (by decide)) (fun _ => Or.inr q)⟩)⟩
theorem oc_gainE {E : fs_M} {K : fs_K} (hB : fs_bE E) (hp : fs_rp E 31 0) (hE : fs_envC E M) (hK : ∀ M', fs_out fs_F5 M M' → K (some (fs_i (fs_vGain E))) M') : fs_C2 g m_Fs_gain 8 [fs_r 0] M K := by
  refine E_Fs_gain (sp_courseE hB hp hE (fun M1 o1 r1 => ⟨rfl, ?_⟩))
  have e31 : M1 31 2 = E 31 2 := by rw [o1 31 2 (by unfold fs_F5 fs_F2; omega), hE 31 2 (by omega)]
  rw [e31]
  exact sp_gained (S := (fs_Xm E 240).2) hB r1.1 r1.2.2.2.2.1 (fun h _ _ => by have := fs_Xm_7 hB hp (m := 240) (by decide) h; omega) ⟨_, rfl, hK M1 o1⟩
theorem om_gainE {E : fs_M} {K : fs_K} (hB : fs_bE E) (hT : fs_rt E) (hp : fs_rp E 31 0) (hE : fs_envM E M) (hK : ∀ M', fs_out fs_FM M M' → K (some (fs_i (fs_vGain E))) M') : fs_C2 g m_Mo_gainAsIs 9 [fs_r 226] M K := by
  refine E_Mo_gainAsIs (sp_asIsM hp hE (fun M1 o1 q1 => ⟨rfl, ?_⟩))
  have o1' : fs_out fs_FY M M1 := o1.wk (fun _ _ q => Or.inl (Or.inr q))
  have E1 := fs_FY_M hE o1'
  refine sp_walksM hB hT hp E1.env (E1 244 0 (Or.inr (by unfold fs_mlc; omega))) q1 (by decide) (fun M2 o2 i2 r2 => ⟨rfl, ?_⟩)
  have q2 := q1.walk o2
  refine sp_gainsM hB hT r2 q2.2.2.2.1 ⟨_, rfl, hK M2 ?_⟩
  exact (o1.wk (fun _ _ q => Or.inl (Or.inr q))).tr (o2.wk (fun _ _ q => Or.inl (Or.inl q)))
theorem sp_nightCopy {K : fs_K} {p q : Int} (hp : fs_isO 4 p) (hq : fs_isO 4 q) (hd : p + 3 ≤ q ∨ q + 3 ≤ p) (hK : ∀ M', fs_out (fun o k => (o = p ∧ (k = 2 ∨ k = 3)) ∨ o = p + 1 ∨ o = p + 2) M M' → M' p 2 = M q 2 → M' p 3 = M q 3 → (∀ h, 0 ≤ h → h < 6 → M' (p + 1) h = M (q + 1) h ∧ M' (p + 2) h = M (q + 2) h) → K none M') : fs_C2 g m_Night_copyFrom 1 [fs_r p, fs_r q] M K := by
  refine E_Night_copyFrom hp hq (hK _ (fun o k z => ?_) ?_ ?_ (fun h h0 h1 => ⟨?_, ?_⟩))
  · have z2 : ¬ ((o = p ∧ (k = 2 ∨ k = 3)) ∨ o = p + 1 ∨ o = p + 2) := z
    have e1 : ¬ (o = p ∧ k = 3) := by omega
    have e2 : ¬ (o = p ∧ k = 2) := by omega
    have e3 : ¬ o = p + 1 := by omega
    have e4 : ¬ o = p + 2 := by omega
    unfold fs_st fs_cpy
    rw [if_neg e4, if_neg e3]
    by_cases c : o = p
    · rw [if_pos c, if_neg (by omega), if_pos c, if_neg (by omega)]
    · rw [if_neg c, if_neg c]
  · unfold fs_st fs_cpy
    simp [show ¬ q = p + 2 by omega, show ¬ q = p + 1 by omega]
  · unfold fs_st fs_cpy
    simp [show ¬ q = p + 2 by omega, show ¬ q = p + 1 by omega, show ¬ q = p by omega]
  · unfold fs_st fs_cpy
    simp [show ¬ p + 1 = p by omega, show ¬ p + 1 = p + 2 by omega, h0, h1]
  · unfold fs_st fs_cpy
    simp [show ¬ p + 2 = p by omega, show ¬ q + 2 = p + 1 by omega, h0, h1]
theorem sp_copiesNight {K : fs_K} {b c : Int} (b0 : 0 ≤ b) (b1 : b < 2) (c0 : 0 ≤ c) (c1 : c < 2) (hd : b ≠ c) (hK : ∀ M', fs_out (fun o k => ((o = 245 ∨ o = 246) ∧ k = b) ∨ ((o = 247 ∨ o = 248) ∧ 6 * b ≤ k ∧ k < 6 * b + 6)) M M' → M' 245 b = M 245 c → M' 246 b = M 246 c → (∀ h, 0 ≤ h → h < 6 → M' 247 (6 * b + h) = M 247 (6 * c + h) ∧ M' 248 (6 * b + h) = M 248 (6 * c + h)) → K none M') : fs_C2 g m_Mo_copiesNight 1 [fs_r 226, fs_i b, fs_i c] M K := by
  have lp : ∀ (n : Nat) (i : Int) (M1 : fs_M), 0 ≤ i → i ≤ 6 → 6 - i = n → fs_out (fun o k => ((o = 245 ∨ o = 246) ∧ k = b) ∨ ((o = 247 ∨ o = 248) ∧ 6 * b ≤ k ∧ k < 6 * b + 6)) M M1 → M1 245 b = M 245 c → M1 246 b = M 246 c → (∀ h, 0 ≤ h → h < i → M1 247 (6 * b + h) = M 247 (6 * c + h) ∧ M1 248 (6 * b + h) = M 248 (6 * c + h)) → fs_A2 g m_Mo_copiesNight 1 26 [(0, fs_r 226), (1, fs_i b), (2, fs_i c), (3, fs_i i)] [] M1 K := by
    intro n
    induction n with
    | zero =>
      intro i M1 i0 i1 hn o1 e1 e2 e3
      exact L_Mo_copiesNight_26 ⟨fun _ => hK M1 o1 e1 e2 (fun h h0 h1 => e3 h h0 (by omega)), fun z => absurd z (by omega)⟩
    | succ n ih =>
      intro i M1 i0 i1 hn o1 e1 e2 e3
      have wb : fs_w32 (fs_w32 (6 * b) + i) = 6 * b + i := by
        rw [fs_w32_of (x := 6 * b) (by omega) (by omega), fs_w32_of (x := 6 * b + i) (by omega) (by omega)]
      have wc : fs_w32 (fs_w32 (6 * c) + i) = 6 * c + i := by
        rw [fs_w32_of (x := 6 * c) (by omega) (by omega), fs_w32_of (x := 6 * c + i) (by omega) (by omega)]
      refine L_Mo_copiesNight_26 ⟨fun z => absurd z (by omega), fun _ => ?_⟩
      rw [wb, wc, fs_w32_of (x := i + 1) (by omega) (by omega)]
      refine ⟨by omega, by omega, by omega, by omega, ?_⟩
      have oo : ∀ o k, ¬ (((o = 245 ∨ o = 246) ∧ k = b) ∨ ((o = 247 ∨ o = 248) ∧ 6 * b ≤ k ∧ k < 6 * b + 6)) → M1 o k = M o k := o1
      refine ih (i + 1) _ (by omega) (by omega) (by omega) ((o1.st (Or.inr ⟨Or.inl rfl, by omega⟩)).st (Or.inr ⟨Or.inr rfl, by omega⟩)) ?_ ?_ (fun h h0 h1 => ?_)
      · rw [fs_st_o (by omega), fs_st_o (by omega)]; exact e1
      · rw [fs_st_o (by omega), fs_st_o (by omega)]; exact e2
      · by_cases hi : h = i
        · rw [hi]
          refine ⟨?_, ?_⟩
          · rw [fs_st_o (by omega), fs_st_s]
            exact oo _ _ (by omega)
          · rw [fs_st_s]
            exact oo _ _ (by omega)
        · have y := e3 h h0 (by omega)
          refine ⟨?_, ?_⟩
          · rw [fs_st_o (by omega), fs_st_k (by omega)]; exact y.1
          · rw [fs_st_k (by omega), fs_st_o (by omega)]; exact y.2
  refine E_Mo_copiesNight ⟨c0, c1, b0, b1, lp 6 0 _ (by omega) (by omega) rfl ((fs_out.rf.st (Or.inl ⟨Or.inl rfl, rfl⟩)).st (Or.inl ⟨Or.inr rfl, rfl⟩)) ?_ ?_ (fun h h0 h1 => absurd h1 (by omega))⟩
  · rw [fs_st_o (by omega)]; exact fs_st_s
  · exact fs_st_s
end OPSE
