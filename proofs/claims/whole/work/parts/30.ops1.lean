-- ===== done, where, gain, after, which: class, then model =====
def fs_vDone (E : fs_M) (a b : Int) : Int := if a < 0 ∨ E 1 5 ≤ a ∨ b < 0 ∨ 1 < b then -1 else if b = 0 then (fs_Xm E 240).2 7 a else (fs_Xm E 240).2 8 a
def fs_vWhere (E : fs_M) (a b : Int) : Int := if a < 0 ∨ E 1 9 ≤ a ∨ b < 1 ∨ 240 < b then -1 else fs_lc ((fs_Xm E b).2 1 a)
def fs_vGain (E : fs_M) : Int := fs_gain E (fs_Xm E 240).2 (E 31 2) (E 1 5).toNat
def fs_vAfter (E : fs_M) (a b : Int) : Int := if a < 0 ∨ E 1 9 ≤ a then -1 else if b = 0 then (fs_Xm E 240).2 5 a else if b = 1 then (fs_Xm E 240).2 3 a else if b = 2 then (fs_Xm E 240).2 4 a else if b = 3 then (fs_Xm E 240).2 6 a else if b = 4 then (fs_Xm E 240).2 2 a else -1
def fs_wcP (E S : fs_M) (a h : Int) : Int := if a = 0 then (if S 7 h = -1 then 0 else if S 8 h ≤ E 5 h then 0 else 1) else if a = 1 then (if S 7 h = -1 then 1 else 0) else fs_bit (S 9 0) h
def fs_vWhich (E : fs_M) (a : Int) : Int := if a < 0 ∨ 2 < a then -1 else fs_col (fs_wcP E (fs_Xm E 240).2 a) (E 1 5).toNat
section OPS1
variable {g : fs_G}
theorem fs_env_rf {M : fs_M} : fs_env M M := fun _ _ _ => rfl
theorem oc_done {M : fs_M} {K : fs_K} {a b : Int} (hB : fs_bE M) (hp : fs_rp M 31 0) (hK : ∀ M', fs_out fs_F5 M M' → K (some (fs_i (fs_vDone M a b))) M') : fs_C2 g m_Fs_done 8 [fs_r 0, fs_i a, fs_i b] M K := by
  have h5 := hB.2.1
  unfold fs_vDone at hK
  refine E_Fs_done (E_Script_hasHouse io_1 ⟨fun z => ⟨0, rfl, fun _ => ?_, fun w => absurd rfl w⟩, fun z => ⟨fun z2 => ⟨0, rfl, fun _ => ?_, fun w => absurd rfl w⟩, fun z2 => ⟨1, rfl, fun w => absurd w (by decide), fun _ => ⟨fun z3 => ?_, fun z3 => ⟨fun z4 => ?_, fun z4 => ?_⟩⟩⟩⟩⟩)
  · have h := hK M fs_out.rf
    rw [if_pos (by omega)] at h
    exact h
  · have h := hK M fs_out.rf
    rw [if_pos (by omega)] at h
    exact h
  · have h := hK M fs_out.rf
    rw [if_pos (by omega)] at h
    exact h
  · simp only [show ¬ (a < 0 ∨ M 1 5 ≤ a ∨ b < 0 ∨ 1 < b) by omega, if_false] at hK
    refine sp_courseNow hB hp (fun M1 o1 r1 => ⟨rfl, ?_⟩)
    have h := hK M1 o1
    obtain ⟨s7, s8⟩ := r1.2.2.2.2.1 a (by omega) (by omega)
    refine ⟨fun q => ⟨by omega, by omega, ?_⟩, fun q => ⟨by omega, by omega, ?_⟩⟩
    · rw [if_neg q] at h
      rw [s8]
      exact h
    · rw [if_pos q] at h
      rw [s7]
      exact h
  · have h := hK M fs_out.rf
    rw [if_pos (by omega)] at h
    exact h
theorem fs_st0 {E M : fs_M} (hE : fs_env2 E M) : fs_env2 E (fs_st M 226 0 0) := fun o k q => by
  rw [fs_st_o (by unfold fs_eC2 fs_eC at q; omega)]
  exact hE o k q
theorem fs_out0 {M : fs_M} : fs_out fs_FM M (fs_st M 226 0 0) := fs_out.rf.st (Or.inr ⟨rfl, rfl⟩)
theorem om_done {E M : fs_M} {K : fs_K} {a b : Int} (hB : fs_bE E) (hT : fs_rt E) (hp : fs_rp E 31 0) (hE : fs_env2 E M) (hK : ∀ M', fs_out fs_FM M M' → K (some (fs_i (fs_vDone E a b))) M') : fs_C2 g m_Mo_done 9 [fs_r 226, fs_i a, fs_i b] M K := by
  have h5 := hB.2.1
  unfold fs_vDone at hK
  have e228 : fs_st M 226 0 0 228 0 = E 1 5 := by rw [fs_st0 hE 228 0 (by unfold fs_eC2 fs_eC; omega), hT.1]
  refine E_Mo_done (E_Mo_isHouse ⟨fun z => ⟨0, rfl, fun _ => ?_, fun w => absurd rfl w⟩, fun z => ⟨fun z2 => ⟨0, rfl, fun _ => ?_, fun w => absurd rfl w⟩, fun z2 => ⟨1, rfl, fun w => absurd w (by decide), fun _ => ⟨fun z3 => ?_, fun z3 => ⟨fun z4 => ?_, fun z4 => ?_⟩⟩⟩⟩⟩)
  · have h := hK _ fs_out0
    rw [if_pos (by omega)] at h
    exact h
  · have h := hK _ fs_out0
    rw [if_pos (by omega)] at h
    exact h
  · have h := hK _ fs_out0
    rw [if_pos (by omega)] at h
    exact h
  · simp only [show ¬ (a < 0 ∨ E 1 5 ≤ a ∨ b < 0 ∨ 1 < b) by omega, if_false] at hK
    refine sp_runNow hB hT hp (fs_st0 hE) (by decide) (fun M1 o1 _ _ r1 => ⟨rfl, ?_⟩)
    have h := hK M1 (fs_out0.tr (o1.wk (fun _ _ => fs_F9_FM)))
    obtain ⟨s7, s8⟩ := r1.2.2.2.2.2.1 a (by omega) (by omega)
    refine ⟨fun q => ⟨by omega, by omega, ?_⟩, fun q => ⟨by omega, by omega, ?_⟩⟩
    · rw [if_neg q] at h
      rw [s8]
      exact h
    · rw [if_pos q] at h
      rw [s7]
      exact h
  · have h := hK _ fs_out0
    rw [if_pos (by omega)] at h
    exact h
theorem oc_gain {M : fs_M} {K : fs_K} (hB : fs_bE M) (hp : fs_rp M 31 0) (hK : ∀ M', fs_out fs_F5 M M' → K (some (fs_i (fs_vGain M))) M') : fs_C2 g m_Fs_gain 8 [fs_r 0] M K := by
  refine E_Fs_gain (sp_courseNow hB hp (fun M1 o1 r1 => ⟨rfl, ?_⟩))
  have e : M1 31 2 = M 31 2 := o1 31 2 (by unfold fs_F5 fs_F2; omega)
  rw [e]
  refine sp_gained (S := (fs_Xm M 240).2) hB r1.1 r1.2.2.2.2.1 (fun h _ _ => by have := fs_Xm_7 hB hp (m := 240) (by decide) h; omega) ⟨_, rfl, hK M1 o1⟩
theorem om_gain {E M : fs_M} {K : fs_K} (hB : fs_bE E) (hT : fs_rt E) (hp : fs_rp E 31 0) (hE : fs_env2 E M) (hK : ∀ M', fs_out fs_FM M M' → K (some (fs_i (fs_vGain E))) M') : fs_C2 g m_Mo_gain 10 [fs_r 226] M K := by
  refine E_Mo_gain (E_Mo_gainAsIs (sp_runNow hB hT hp (fs_st0 hE) (by decide) (fun M1 o1 h47 _ r1 => ⟨rfl, ?_⟩)))
  refine sp_gains (S := (fs_Xm E 240).2) (hv := E 31 2) (tr := -1) hB hT r1.1 r1.2.2.2.2.2.1 r1.2.1.1 (fun h h0 h1 => by rw [h47]; exact ⟨fun q => ⟨by decide, q⟩, fun q => q.2⟩) ⟨_, rfl, ⟨_, rfl, hK M1 (fs_out0.tr (o1.wk (fun _ _ => fs_F9_FM)))⟩⟩
theorem oc_after {M : fs_M} {K : fs_K} {a b : Int} (hB : fs_bE M) (hp : fs_rp M 31 0) (hK : ∀ M', fs_out fs_F5 M M' → K (some (fs_i (fs_vAfter M a b))) M') : fs_C2 g m_Fs_after 8 [fs_r 0, fs_i a, fs_i b] M K := by
  have h3 := hB.2.2.2.1
  unfold fs_vAfter at hK
  refine E_Fs_after (E_Script_hasDark io_1 ⟨fun z => ⟨0, rfl, fun w => absurd rfl w, fun _ => ?_⟩, fun z => ⟨fun z2 => ⟨0, rfl, fun w => absurd rfl w, fun _ => ?_⟩, fun z2 => ⟨1, rfl, fun _ => ?_, fun w => absurd w (by decide)⟩⟩⟩)
  · have h := hK M fs_out.rf
    rw [if_pos (by omega)] at h
    exact h
  · have h := hK M fs_out.rf
    rw [if_pos (by omega)] at h
    exact h
  · simp only [show ¬ (a < 0 ∨ M 1 9 ≤ a) by omega, if_false] at hK
    refine sp_courseNow hB hp (fun M1 o1 r1 => ⟨rfl, by omega, by omega, ?_⟩)
    have h := hK M1 o1
    obtain ⟨q1, q2, q3, q4, q5, q6, q7, -⟩ := r1.2.2.2.1 a (by omega) (by omega)
    rw [q3, q4, q5, q6, q7]
    refine ⟨fun q => ?_, fun q => ?_, fun q => ?_, fun q => ?_, fun q => ?_, fun q => ?_⟩
    · rw [if_pos q] at h; exact h
    · rw [if_neg (by omega), if_pos q] at h; exact h
    · rw [if_neg (by omega), if_neg (by omega), if_pos q] at h; exact h
    · rw [if_neg (by omega), if_neg (by omega), if_neg (by omega), if_pos q] at h; exact h
    · rw [if_neg (by omega), if_neg (by omega), if_neg (by omega), if_neg (by omega), if_pos q] at h; exact h
    · rw [if_neg (by omega), if_neg (by omega), if_neg (by omega), if_neg (by omega), if_neg (by omega)] at h; exact h
theorem om_after {E M : fs_M} {K : fs_K} {a b : Int} (hB : fs_bE E) (hT : fs_rt E) (hp : fs_rp E 31 0) (hE : fs_env2 E M) (hK : ∀ M', fs_out fs_FM M M' → K (some (fs_i (fs_vAfter E a b))) M') : fs_C2 g m_Mo_after 9 [fs_r 226, fs_i a, fs_i b] M K := by
  have h3 := hB.2.2.2.1
  unfold fs_vAfter at hK
  have e228 : fs_st M 226 0 0 228 1 = E 1 9 := by rw [fs_st0 hE 228 1 (by unfold fs_eC2 fs_eC; omega), hT.2.1]
  refine E_Mo_after (E_Mo_isDark ⟨fun z => ⟨0, rfl, fun w => absurd rfl w, fun _ => ?_⟩, fun z => ⟨fun z2 => ⟨0, rfl, fun w => absurd rfl w, fun _ => ?_⟩, fun z2 => ⟨1, rfl, fun _ => ?_, fun w => absurd w (by decide)⟩⟩⟩)
  · have h := hK _ fs_out0
    rw [if_pos (by omega)] at h
    exact h
  · have h := hK _ fs_out0
    rw [if_pos (by omega)] at h
    exact h
  · simp only [show ¬ (a < 0 ∨ E 1 9 ≤ a) by omega, if_false] at hK
    refine sp_runNow hB hT hp (fs_st0 hE) (by decide) (fun M1 o1 _ _ r1 => ⟨rfl, ?_⟩)
    have h := hK M1 (fs_out0.tr (o1.wk (fun _ _ => fs_F9_FM)))
    obtain ⟨q1, q2, q3, q4, q5, -⟩ := r1.2.2.2.2.1 a (by omega) (by omega)
    rw [q1, q2, q3, q4, q5]
    refine ⟨fun q => ⟨by omega, by omega, ?_⟩, fun q => ⟨by omega, by omega, ?_⟩, fun q => ⟨by omega, by omega, ?_⟩, fun q => ⟨by omega, by omega, ?_⟩, fun q => ⟨by omega, by omega, ?_⟩, fun q => ?_⟩
    · rw [if_pos q] at h; exact h
    · rw [if_neg (by omega), if_pos q] at h; exact h
    · rw [if_neg (by omega), if_neg (by omega), if_pos q] at h; exact h
    · rw [if_neg (by omega), if_neg (by omega), if_neg (by omega), if_pos q] at h; exact h
    · rw [if_neg (by omega), if_neg (by omega), if_neg (by omega), if_neg (by omega), if_pos q] at h; exact h
    · rw [if_neg (by omega), if_neg (by omega), if_neg (by omega), if_neg (by omega), if_neg (by omega)] at h; exact h
theorem oc_where {M : fs_M} {K : fs_K} {a b : Int} (hB : fs_bE M) (hp : fs_rp M 31 0) (hK : ∀ M', fs_out fs_F5 M M' → K (some (fs_i (fs_vWhere M a b))) M') : fs_C2 g m_Fs_where 8 [fs_r 0, fs_i a, fs_i b] M K := by
  have h3 := hB.2.2.2.1
  unfold fs_vWhere at hK
  refine E_Fs_where (E_Script_hasDark io_1 ⟨fun z => ⟨0, rfl, fun _ => ?_, fun w => absurd rfl w⟩, fun z => ⟨fun z2 => ⟨0, rfl, fun _ => ?_, fun w => absurd rfl w⟩, fun z2 => ⟨1, rfl, fun w => absurd w (by decide), fun _ => E_Fs_isMinute ⟨fun z3 => ⟨0, rfl, fun w => absurd rfl w, fun _ => ?_⟩, fun z3 => ⟨fun z4 => ⟨0, rfl, fun w => absurd rfl w, fun _ => ?_⟩, fun z4 => ⟨1, rfl, fun _ => ?_, fun w => absurd w (by decide)⟩⟩⟩⟩⟩⟩)
  · have h := hK M fs_out.rf
    rw [if_pos (by omega)] at h
    exact h
  · have h := hK M fs_out.rf
    rw [if_pos (by omega)] at h
    exact h
  · have h := hK M fs_out.rf
    rw [if_pos (by omega)] at h
    exact h
  · have h := hK M fs_out.rf
    rw [if_pos (by omega)] at h
    exact h
  · simp only [show ¬ (a < 0 ∨ M 1 9 ≤ a ∨ b < 1 ∨ 240 < b) by omega, if_false] at hK
    refine sp_courseNow hB hp (fun M1 o1 r1 => ⟨rfl, ?_⟩)
    have h := hK M1 o1
    obtain ⟨q1, q2, q3, q4, q5, q6, q7, q8, q9, q10, q11⟩ := r1.2.2.2.1 a (by omega) (by omega)
    obtain ⟨w1, w2, w3, w4⟩ := fs_where_inv (tr := -1) (rf := M 31 2) (m := b) hB (by omega) (fs_X0_I hB hp) (fs_X0_t hp) (fun _ _ _ => rfl) a (by omega) (by omega)
    have w1' : 0 ≤ (fs_Xm M b).2 1 a := w1
    have w2' : (fs_Xm M b).2 1 a ≤ (fs_Xm M 240).2 1 a := w2
    have w3' : ∀ i, 0 ≤ i → i < (fs_Xm M b).2 1 a → (fs_Xm M 240).2 (10 + a) i ≤ b := w3
    have w4' : ∀ i, (fs_Xm M b).2 1 a ≤ i → i < (fs_Xm M 240).2 1 a → b < (fs_Xm M 240).2 (10 + a) i := w4
    have loop : ∀ (n : Nat) (i x : Int), 0 ≤ i → i ≤ (fs_Xm M 240).2 1 a → (fs_Xm M 240).2 1 a - i = n → x = fs_lc (min i ((fs_Xm M b).2 1 a)) → fs_A2 g m_Fs_where 8 38 [(0, fs_r 0), (1, fs_i a), (2, fs_i b), (3, fs_i x), (4, fs_i i)] [] M1 K := by
      intro n
      induction n with
      | zero =>
        intro i x i0 i1 hn hx
        refine L_Fs_where_38 ⟨by omega, by omega, fun _ => ?_, fun z => absurd z (by omega)⟩
        rw [hx, show min i ((fs_Xm M b).2 1 a) = (fs_Xm M b).2 1 a by omega]
        exact h
      | succ n ih =>
        intro i x i0 i1 hn hx
        have qi := q11 i i0 (by omega)
        refine L_Fs_where_38 ⟨by omega, by omega, fun z => absurd z (by omega), fun _ => ⟨i0, by omega, fun z => ?_, fun z => ?_⟩⟩
        · rw [fs_w32_of (by omega) (by omega)]
          refine ih (i + 1) x (by omega) (by omega) (by omega) ?_
          have c : ¬ i < (fs_Xm M b).2 1 a := fun c => by have := w3' i i0 c; omega
          rw [hx, show min (i + 1) ((fs_Xm M b).2 1 a) = min i ((fs_Xm M b).2 1 a) by omega]
        · rw [fs_w32_of (by omega) (by omega)]
          refine ih (i + 1) i (by omega) (by omega) (by omega) ?_
          have c : i < (fs_Xm M b).2 1 a := by
            by_cases c : i < (fs_Xm M b).2 1 a
            · exact c
            · have := w4' i (by omega) (by omega); omega
          rw [show min (i + 1) ((fs_Xm M b).2 1 a) = i + 1 by omega]
          unfold fs_lc
          rw [if_neg (by omega)]
          omega
    have c0 : 0 ≤ (fs_Xm M 240).2 1 a := by omega
    refine loop ((fs_Xm M 240).2 1 a).toNat 0 (-2) (by decide) c0 (by omega) ?_
    rw [show min 0 ((fs_Xm M b).2 1 a) = 0 by omega]
    rfl
theorem om_where {E M : fs_M} {K : fs_K} {a b : Int} (hB : fs_bE E) (hT : fs_rt E) (hp : fs_rp E 31 0) (hE : fs_env2 E M) (hK : ∀ M', fs_out fs_FM M M' → K (some (fs_i (fs_vWhere E a b))) M') : fs_C2 g m_Mo_where 9 [fs_r 226, fs_i a, fs_i b] M K := by
  have h3 := hB.2.2.2.1
  unfold fs_vWhere at hK
  have e228 : fs_st M 226 0 0 228 1 = E 1 9 := by rw [fs_st0 hE 228 1 (by unfold fs_eC2 fs_eC; omega), hT.2.1]
  refine E_Mo_where (E_Mo_isDark ⟨fun z => ⟨0, rfl, fun _ => ?_, fun w => absurd rfl w⟩, fun z => ⟨fun z2 => ⟨0, rfl, fun _ => ?_, fun w => absurd rfl w⟩, fun z2 => ⟨1, rfl, fun w => absurd w (by decide), fun _ => E_Mo_isMinute ⟨fun z3 => ⟨0, rfl, fun w => absurd rfl w, fun _ => ?_⟩, fun z3 => ⟨fun z4 => ⟨0, rfl, fun w => absurd rfl w, fun _ => ?_⟩, fun z4 => ⟨1, rfl, fun _ => ?_, fun w => absurd w (by decide)⟩⟩⟩⟩⟩⟩)
  · have h := hK _ fs_out0
    rw [if_pos (by omega)] at h
    exact h
  · have h := hK _ fs_out0
    rw [if_pos (by omega)] at h
    exact h
  · have h := hK _ fs_out0
    rw [if_pos (by omega)] at h
    exact h
  · have h := hK _ fs_out0
    rw [if_pos (by omega)] at h
    exact h
  · simp only [show ¬ (a < 0 ∨ E 1 9 ≤ a ∨ b < 1 ∨ 240 < b) by omega, if_false] at hK
    refine sp_runNow hB hT hp (fs_st0 hE) (by omega) (fun M1 o1 _ _ r1 => ⟨rfl, by omega, by omega, ?_⟩)
    have h := hK M1 (fs_out0.tr (o1.wk (fun _ _ => fs_F9_FM)))
    obtain ⟨q1, q2, q3, q4, q5, q6, q7⟩ := r1.2.2.2.2.1 a (by omega) (by omega)
    obtain ⟨x1, x2, x3, x4, x5⟩ := q7 (by omega)
    have x6 := (x5 (fun h h0 h1 => by unfold fs_gn; exact decide_eq_false (by omega))).2
    rw [x6]
    exact h
theorem oc_which {M : fs_M} {K : fs_K} {a : Int} (hB : fs_bE M) (hp : fs_rp M 31 0) (hK : ∀ M', fs_out fs_F5 M M' → K (some (fs_i (fs_vWhich M a))) M') : fs_C2 g m_Fs_which 8 [fs_r 0, fs_i a] M K := by
  obtain ⟨B1, B2, B3, B4, B5, B6, B7⟩ := hB
  have hB : fs_bE M := ⟨B1, B2, B3, B4, B5, B6, B7⟩
  unfold fs_vWhich at hK
  refine E_Fs_which ⟨fun z => ?_, fun z => ⟨fun z2 => ?_, fun z2 => ?_⟩⟩
  · have h := hK M fs_out.rf
    rw [if_pos (by omega)] at h
    exact h
  · simp only [show ¬ (a < 0 ∨ 2 < a) by omega, if_false] at hK
    refine sp_courseNow hB hp (fun M1 o1 r1 => ⟨rfl, ?_⟩)
    have h := hK M1 o1
    have e5 : M1 1 5 = M 1 5 := r1.1 1 5 (Or.inl (by decide))
    have h9 := fs_Xm_9 (m := 240) hB hp (by decide)
    refine ⟨fun q => ?_, fun q => ?_⟩
    · have loop : ∀ (n : Nat) (i : Int), 0 ≤ i → i ≤ M 1 5 → M 1 5 - i = n → fs_A2 g m_Fs_which 8 40 [(0, fs_r 0), (1, fs_i a), (2, fs_i (fs_col (fs_wcP M (fs_Xm M 240).2 a) i.toNat)), (3, fs_i i)] [] M1 K := by
        intro n
        induction n with
        | zero =>
          intro i i0 i1 hn
          refine L_Fs_which_40 ⟨fun _ => ?_, fun w => absurd w (by omega)⟩
          rw [show i = M 1 5 by omega]
          exact h
        | succ n ih =>
          intro i i0 i1 hn
          obtain ⟨s7, s8⟩ := r1.2.2.2.2.1 i i0 (by omega)
          have t7 := fs_Xm_7 (m := 240) hB hp (by decide) i
          have e5' : M1 5 i = M 5 i := r1.1 5 i (Or.inl (by decide))
          have ec : fs_col (fs_wcP M (fs_Xm M 240).2 a) (i + 1).toNat = if fs_wcP M (fs_Xm M 240).2 a i = 1 then fs_or (fs_col (fs_wcP M (fs_Xm M 240).2 a) i.toNat) (fs_shl 1 i) else fs_col (fs_wcP M (fs_Xm M 240).2 a) i.toNat := by
            rw [show (i + 1).toNat = i.toNat + 1 by omega]
            show (if fs_wcP M (fs_Xm M 240).2 a (i.toNat : Int) = 1 then fs_or (fs_col (fs_wcP M (fs_Xm M 240).2 a) i.toNat) (fs_shl 1 (i.toNat : Int)) else fs_col (fs_wcP M (fs_Xm M 240).2 a) i.toNat) = _
            rw [show ((i.toNat : Nat) : Int) = i by omega]
          have nx := ih (i + 1) (by omega) (by omega) (by omega)
          rw [ec] at nx
          have yes : fs_wcP M (fs_Xm M 240).2 a i = 1 → fs_A2 g m_Fs_which 8 113 [(0, fs_r 0), (1, fs_i a), (2, fs_i (fs_col (fs_wcP M (fs_Xm M 240).2 a) i.toNat)), (3, fs_i i)] [] M1 K := fun w => by
            rw [if_pos w] at nx
            refine L_Fs_which_113 ?_
            rw [fs_w32_of (by omega) (by omega)]
            exact nx
          have no : ¬ fs_wcP M (fs_Xm M 240).2 a i = 1 → fs_A2 g m_Fs_which 8 40 [(0, fs_r 0), (1, fs_i a), (2, fs_i (fs_col (fs_wcP M (fs_Xm M 240).2 a) i.toNat)), (3, fs_i (fs_w32 (i + 1)))] [] M1 K := fun w => by
            rw [if_neg w] at nx
            rw [fs_w32_of (by omega) (by omega)]
            exact nx
          have l88 : ∀ x, (a = 0 → (x = 0 → ¬ fs_wcP M (fs_Xm M 240).2 a i = 1) ∧ (¬ x = 0 → fs_wcP M (fs_Xm M 240).2 a i = 1)) → fs_A2 g m_Fs_which 8 88 [(0, fs_r 0), (1, fs_i a), (2, fs_i (fs_col (fs_wcP M (fs_Xm M 240).2 a) i.toNat)), (3, fs_i i)] [fs_i x] M1 K := by
            intro x hx
            refine L_Fs_which_88 ⟨fun w => sp_isDone i0 (by omega) (fun dn => ⟨1, rfl, fun _ => no ?_, fun v => absurd v (by decide)⟩) (fun nd => ⟨0, rfl, fun v => absurd rfl v, fun _ => yes ?_⟩), fun w => ⟨fun v => no ((hx w).1 v), fun v => yes ((hx w).2 v)⟩⟩
            · unfold fs_wcP
              rw [if_neg w, if_pos (by omega), if_neg (by omega)]
              decide
            · unfold fs_wcP
              rw [if_neg w, if_pos (by omega), if_pos (by omega)]
          refine L_Fs_which_40 ⟨fun w => absurd w (by omega), fun _ => sp_isDone i0 (by omega) (fun dn => ⟨1, rfl, fun v => absurd v (by decide), fun _ => ⟨i0, by omega, fun le => l88 0 (fun w => ⟨fun _ => ?_, fun v => absurd rfl v⟩), fun gt => l88 1 (fun w => ⟨fun v => absurd v (by decide), fun _ => ?_⟩)⟩⟩) (fun nd => ⟨0, rfl, fun _ => l88 0 (fun w => ⟨fun _ => ?_, fun v => absurd rfl v⟩), fun v => absurd rfl v⟩)⟩
          · unfold fs_wcP
            rw [if_pos w, if_neg (by omega), if_pos (by omega)]
            decide
          · unfold fs_wcP
            rw [if_pos w, if_neg (by omega), if_neg (by omega)]
          · unfold fs_wcP
            rw [if_pos w, if_pos (by omega)]
            decide
      exact loop (M 1 5).toNat 0 (by decide) (by omega) (by omega)
    · have e7 : M1 43 7 = (fs_Xm M 240).2 9 0 := r1.2.2.2.2.2
      rw [e7]
      have ew : fs_wcP M (fs_Xm M 240).2 a = fs_bit ((fs_Xm M 240).2 9 0) := by
        funext i
        unfold fs_wcP
        rw [if_neg (by omega), if_neg (by omega)]
      rw [ew, fs_col_id B1 B2 h9.1 h9.2] at h
      exact h
  · have h := hK M fs_out.rf
    rw [if_pos (by omega)] at h
    exact h
theorem om_which {E M : fs_M} {K : fs_K} {a : Int} (hB : fs_bE E) (hT : fs_rt E) (hp : fs_rp E 31 0) (hE : fs_env2 E M) (hK : ∀ M', fs_out fs_FM M M' → K (some (fs_i (fs_vWhich E a))) M') : fs_C2 g m_Mo_which 9 [fs_r 226, fs_i a] M K := by
  obtain ⟨B1, B2, B3, B4, B5, B6, B7⟩ := hB
  have hB : fs_bE E := ⟨B1, B2, B3, B4, B5, B6, B7⟩
  obtain ⟨T1, T2, T3, T4, T5⟩ := hT
  have hT : fs_rt E := ⟨T1, T2, T3, T4, T5⟩
  unfold fs_vWhich at hK
  refine E_Mo_which ⟨fun z => ?_, fun z => ⟨fun z2 => ?_, fun z2 => ?_⟩⟩
  · have h := hK _ fs_out0
    rw [if_pos (by omega)] at h
    exact h
  · simp only [show ¬ (a < 0 ∨ 2 < a) by omega, if_false] at hK
    refine sp_runNow hB hT hp (fs_st0 hE) (by omega) (fun M1 o1 _ _ r1 => ⟨rfl, ?_⟩)
    have h := hK M1 (fs_out0.tr (o1.wk (fun _ _ => fs_F9_FM)))
    have e228 : M1 228 0 = E 1 5 := by rw [r1.1 228 0 (by unfold fs_eC; omega), T1]
    have h9 := fs_Xm_9 (m := 240) hB hp (by decide)
    have loop : ∀ (n : Nat) (i : Int), 0 ≤ i → i ≤ E 1 5 → E 1 5 - i = n → fs_A2 g m_Mo_which 9 31 [(0, fs_r 226), (1, fs_i a), (2, fs_i (fs_col (fs_wcP E (fs_Xm E 240).2 a) i.toNat)), (3, fs_i i)] [] M1 K := by
      intro n
      induction n with
      | zero =>
        intro i i0 i1 hn
        refine L_Mo_which_31 ⟨fun _ => ?_, fun w => absurd w (by omega)⟩
        rw [show i = E 1 5 by omega]
        exact h
      | succ n ih =>
        intro i i0 i1 hn
        obtain ⟨s7, s8⟩ := r1.2.2.2.2.2.1 i i0 (by omega)
        obtain ⟨t3, t4, t5⟩ := T3 i i0 (by omega)
        have e5' : M1 232 i = E 5 i := by rw [r1.1 232 i (by unfold fs_eC; omega), t5]
        have e56 : M1 226 56 = (fs_Xm E 240).2 9 0 := r1.2.2.2.2.2.2
        have cb := fs_col_b (fs_wcP E (fs_Xm E 240).2 a) i.toNat (by omega)
        have c64 := fs_p2_64 (n := (i.toNat : Int)) (by omega)
        have ec : fs_col (fs_wcP E (fs_Xm E 240).2 a) (i + 1).toNat = if fs_wcP E (fs_Xm E 240).2 a i = 1 then fs_or (fs_col (fs_wcP E (fs_Xm E 240).2 a) i.toNat) (fs_shl 1 i) else fs_col (fs_wcP E (fs_Xm E 240).2 a) i.toNat := by
          rw [show (i + 1).toNat = i.toNat + 1 by omega]
          show (if fs_wcP E (fs_Xm E 240).2 a (i.toNat : Int) = 1 then fs_or (fs_col (fs_wcP E (fs_Xm E 240).2 a) i.toNat) (fs_shl 1 (i.toNat : Int)) else fs_col (fs_wcP E (fs_Xm E 240).2 a) i.toNat) = _
          rw [show ((i.toNat : Nat) : Int) = i by omega]
        have nx := ih (i + 1) (by omega) (by omega) (by omega)
        rw [ec] at nx
        have l118 : ∀ x, (x = 0 → ¬ fs_wcP E (fs_Xm E 240).2 a i = 1) → (¬ x = 0 → fs_wcP E (fs_Xm E 240).2 a i = 1) → fs_A2 g m_Mo_which 9 118 [(0, fs_r 226), (1, fs_i a), (2, fs_i (fs_col (fs_wcP E (fs_Xm E 240).2 a) i.toNat)), (3, fs_i i)] [fs_i x] M1 K := by
          intro x hx0 hx1
          refine L_Mo_which_118 ⟨fun w => ?_, fun w => ?_⟩
          · rw [if_neg (hx0 w)] at nx
            rw [fs_or_z cb.1 (by omega), fs_w32_of (by omega) (by omega)]
            exact nx
          · rw [if_pos (hx1 w)] at nx
            rw [fs_w32_of (by omega) (by omega)]
            exact nx
        refine L_Mo_which_31 ⟨fun w => absurd w (by omega), fun _ => ⟨fun n0 => ⟨fun n1 => ⟨fun nb => l118 0 (fun _ => ?_) (fun v => absurd rfl v), fun yb => l118 1 (fun v => absurd v (by decide)) (fun _ => ?_)⟩, fun y1 => ⟨i0, by omega, fun nd => l118 0 (fun _ => ?_) (fun v => absurd rfl v), fun yd => l118 1 (fun v => absurd v (by decide)) (fun _ => ?_)⟩⟩, fun y0 => ⟨i0, by omega, fun nd => l118 0 (fun _ => ?_) (fun v => absurd rfl v), fun yd => ⟨fun le => l118 0 (fun _ => ?_) (fun v => absurd rfl v), fun gt => l118 1 (fun v => absurd v (by decide)) (fun _ => ?_)⟩⟩⟩⟩
        · rw [e56] at nb
          unfold fs_wcP
          rw [if_neg n0, if_neg n1]
          exact nb
        · rw [e56] at yb
          unfold fs_wcP
          rw [if_neg n0, if_neg n1]
          exact yb
        · unfold fs_wcP
          rw [if_neg n0, if_pos y1, if_neg (by omega)]
          decide
        · unfold fs_wcP
          rw [if_neg n0, if_pos y1, if_pos (by omega)]
        · unfold fs_wcP
          rw [if_pos y0, if_pos (by omega)]
          decide
        · unfold fs_wcP
          rw [if_pos y0, if_neg (by omega), if_pos (by omega)]
          decide
        · unfold fs_wcP
          rw [if_pos y0, if_neg (by omega), if_neg (by omega)]
    exact loop (E 1 5).toNat 0 (by decide) (by omega) (by omega)
  · have h := hK _ fs_out0
    rw [if_pos (by omega)] at h
    exact h
end OPS1
