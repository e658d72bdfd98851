-- ===== night, was, chance =====
def fs_N (E : fs_M) (z : Int) : ((Int → List Int) × fs_M) × Int := fs_nts E (E 31 2) 240 (fs_X0 E, z)
def fs_vNight (E : fs_M) (z : Int) : Int := fs_gain E (fs_N E z).1.2 (E 31 2) (E 1 5).toNat
def fs_inT (E S : fs_M) (h : Int) : Int := if (0 ≤ S 7 h ∨ S 7 h = -2) ∧ S 8 h ≤ E 5 h then 1 else 0
def fs_chn (E : fs_M) (h z : Int) : Nat → Int × Int
  | 0 => (0, z)
  | n + 1 => ((fs_chn E h z n).1 + fs_inT E (fs_N E (fs_chn E h z n).2).1.2 h, (fs_N E (fs_chn E h z n).2).2)
def fs_vChance (E : fs_M) (a b : Int) : Int := if a < 0 ∨ b < 0 ∨ E 1 5 ≤ b then -1 else (fs_chn E b a 10).1
def fs_vWas (E : fs_M) (a b nights : Int) (by_ on : Int → Int) : Int := if a < 0 ∨ E 1 5 ≤ a ∨ b < 0 ∨ 1 < b then -1 else if nights = 0 then -4 else if b = 0 then by_ a else on a
theorem fs_chn_b (E : fs_M) (h z : Int) : ∀ (n : Nat), 0 ≤ (fs_chn E h z n).1 ∧ (fs_chn E h z n).1 ≤ n
  | 0 => ⟨Int.le_refl 0, Int.le_refl 0⟩
  | n + 1 => by
    have a := fs_chn_b E h z n
    show 0 ≤ (fs_chn E h z n).1 + fs_inT E (fs_N E (fs_chn E h z n).2).1.2 h ∧ (fs_chn E h z n).1 + fs_inT E (fs_N E (fs_chn E h z n).2).1.2 h ≤ ((n + 1 : Nat) : Int)
    unfold fs_inT
    split <;> omega
theorem fs_X0_7 (E : fs_M) : ∀ i, -3 ≤ (fs_X0 E).2 7 i := fun i => Int.le_trans (by decide) (fs_S0_7 (E := E) (tr := -1) (al := fs_alone E (-1) (E 31 3)) (R := fs_rows E E 31) i)
theorem fs_N_7 {E : fs_M} {z : Int} (hB : fs_bE E) (hp : fs_rp E 31 0) : ∀ i, -3 ≤ (fs_N E z).1.2 7 i := (fs_nts_inv (rf := E 31 2) (Y := (fs_X0 E, z)) hB (fs_X0_I hB hp) (fs_X0_t hp) (fs_X0_7 E) 240 (by decide)).2.2
section OPS2
variable {g : fs_G}
theorem sp_beginNow {E M : fs_M} {K : fs_K} (hB : fs_bE E) (hp : fs_rp E 31 0) (hE : fs_env2 E M) (hK : ∀ M', fs_out fs_F5 M M' → fs_cR E M' 31 (-1) (fs_X0 E) → K none M') : fs_C2 g m_Course_begin 6 [fs_r 43, fs_r 31, fs_i (-1)] M K := by
  have e : ∀ o k, 31 ≤ o → o ≤ 36 → M o k = E o k := fun o k a b => hE o k (Or.inr (Or.inl ⟨a, b⟩))
  have h3 := hB.2.2.2.1
  have hbp : fs_bP E M 31 := fun d d0 d1 => by
    obtain ⟨a1, a2, a3⟩ := hp.bP d d0 d1
    rw [e _ _ (by decide) (by decide)]
    refine ⟨a1, a2, fun k k0 k1 => ?_⟩
    rw [e _ _ (by omega) (by omega)]
    exact a3 k k0 k1
  have er : fs_rows E M 31 = fs_rows E E 31 := by
    funext d
    unfold fs_rows
    by_cases c : 0 ≤ d ∧ d < E 1 9
    · rw [if_pos c, if_pos c, e (31 + 5) d (by decide) (by decide), (funext (fun k => e _ k (by omega) (by omega)) : M (31 + 2 + d) = E (31 + 2 + d))]
    · rw [if_neg c, if_neg c]
  refine sp_begin (out := E 31 3) hB fs_pl31 hE.env hbp (e 31 3 (by decide) (by decide)) (fun M' o r => ?_)
  rw [er] at r
  exact hK M' o r
theorem oc_night {M : fs_M} {K : fs_K} (hB : fs_bE M) (hp : fs_rp M 31 0) (hK : ∀ M', fs_out (fs_FP 54) M M' → M' 54 3 = (fs_N M (M 54 3)).2 → M' 54 2 = fs_w32 (M 54 2 + 1) → (∀ h, 0 ≤ h → h < M 1 5 → M' 55 h = (fs_N M (M 54 3)).1.2 7 h ∧ M' 56 h = (fs_N M (M 54 3)).1.2 8 h) → K (some (fs_i (fs_vNight M (M 54 3)))) M') : fs_C2 g m_Fs_night 8 [fs_r 0] M K := by
  have h5 := hB.2.1
  refine E_Fs_night (sp_beginNow hB hp (fun _ _ _ => rfl) (fun M1 o1 r1 => ⟨rfl, ?_⟩))
  have e54 : M1 54 3 = M 54 3 := o1 54 3 (by unfold fs_F5 fs_F2; omega)
  have e542 : M1 54 2 = M 54 2 := o1 54 2 (by unfold fs_F5 fs_F2; omega)
  refine sp_pass (rf := M 31 2) (Or.inl rfl) hB io_54 (fs_X0_I hB hp) (fs_X0_t hp) (fs_X0_7 M) r1 (o1 31 2 (by unfold fs_F5 fs_F2; omega)) (fun M2 o2 r2 z2 n2 w2 => ⟨rfl, ?_⟩)
  rw [e54] at r2 z2
  rw [e542] at n2
  have o2' : fs_out (fs_FP 54) M M2 := (o1.wk (fun _ _ q => Or.inl q)).tr o2
  have e31 : M2 31 2 = M 31 2 := o2' 31 2 (by unfold fs_FP fs_F5 fs_F2; omega)
  rw [e31]
  refine sp_gained (S := (fs_N M (M 54 3)).1.2) hB r2.1 r2.2.2.2.2.1 (fun h _ _ => fs_N_7 hB hp h) ⟨_, rfl, hK M2 o2' z2 n2 (fun h a b => ?_)⟩
  obtain ⟨x, y⟩ := r2.2.2.2.2.1 h a b
  obtain ⟨u, v⟩ := w2 h a (by omega)
  exact ⟨by rw [show (55 : Int) = 54 + 1 by decide, u]; exact x, by rw [show (56 : Int) = 54 + 2 by decide, v]; exact y⟩
def fs_FW (o k : Int) : Prop := fs_FM o k ∨ (245 ≤ o ∧ o ≤ 246 ∧ k = 0) ∨ ((o = 247 ∨ o = 248) ∧ 0 ≤ k ∧ k < 6)
theorem om_night {E M : fs_M} {K : fs_K} (hB : fs_bE E) (hT : fs_rt E) (hp : fs_rp E 31 0) (hE : fs_env2 E M) (hK : ∀ M', fs_out fs_FW M M' → M' 245 0 = (fs_N E (M 245 0)).2 → M' 246 0 = fs_w32 (M 246 0 + 1) → (∀ h, 0 ≤ h → h < E 1 5 → M' 247 h = (fs_N E (M 245 0)).1.2 7 h ∧ M' 248 h = (fs_N E (M 245 0)).1.2 8 h) → K (some (fs_i (fs_vNight E (M 245 0)))) M') : fs_C2 g m_Mo_night 9 [fs_r 226] M K := by
  have h5 := hB.2.1
  refine E_Mo_night (sp_passes hB hT hp (fs_st0 hE) (fun M1 o1 e47 r1 z1 => ⟨rfl, ?_⟩))
  rw [fs_st_o (by decide)] at r1 z1
  have o1' : fs_out fs_FW M M1 := (fs_out0.wk (fun _ _ q => Or.inl q)).tr (o1.wk (fun o k q => by
    have q2 : fs_F9 o k ∨ (o = 245 ∧ k = 0) := q
    rcases q2 with q2 | q2
    · exact Or.inl (Or.inl q2)
    · exact Or.inr (Or.inl (by omega))))
  have e246 : M1 246 0 = M 246 0 := by
    rw [o1 246 0 (fun q => by have q2 : fs_F9 246 0 ∨ ((246 : Int) = 245 ∧ (0 : Int) = 0) := q; unfold fs_F9 fs_F6 fs_F8 fs_F4 at q2; omega), fs_st_o (by decide)]
  have loop : ∀ (n : Nat) (i : Int) (M2 : fs_M), 0 ≤ i → i ≤ 6 → 6 - i = n → fs_out (fun o k => (o = 247 ∨ o = 248) ∧ 0 ≤ k ∧ k < 6) M1 M2 → (∀ h, 0 ≤ h → h < i → M2 247 h = M1 261 h ∧ M2 248 h = M1 262 h) → fs_A2 g m_Mo_night 9 11 [(0, fs_r 226), (1, fs_i i)] [] M2 K := by
    intro n
    induction n with
    | zero =>
      intro i M2 i0 i1 hn o2 hh
      refine L_Mo_night_11 ⟨fun _ => ?_, fun w => absurd w (by omega)⟩
      have q2 : ∀ o k, o ≠ 247 → o ≠ 248 → M2 o k = M1 o k := fun o k a b => o2 o k (fun q => by have q3 : (o = 247 ∨ o = 248) ∧ 0 ≤ k ∧ k < 6 := q; omega)
      have r2 := r1.cong (M' := fs_st M2 246 0 (fs_w32 (M2 246 0 + 1))) (fun o k q => by
        rw [fs_st_o (by unfold fs_eC at q; omega), q2 o k (by unfold fs_eC at q; omega) (by unfold fs_eC at q; omega)])
      refine sp_gains (S := (fs_N E (M 245 0)).1.2) (hv := E 31 2) (tr := -1) hB hT r2.1 r2.2.2.2.2.2.1 r2.2.1.1 (fun h h0 h1 => by rw [fs_st_o (by decide), q2 226 47 (by decide) (by decide), e47]; exact ⟨fun q => ⟨by decide, q⟩, fun q => q.2⟩) ⟨_, rfl, ?_⟩
      refine hK _ (((o1'.tr (o2.wk (fun o k q => Or.inr (Or.inr q)))).st (Or.inr (Or.inl (by decide))))) ?_ ?_ (fun h a b => ?_)
      · rw [fs_st_o (by decide), q2 245 0 (by decide) (by decide)]; exact z1
      · rw [fs_st_s, q2 246 0 (by decide) (by decide), e246]
      · obtain ⟨x, y⟩ := hh h a (by omega)
        obtain ⟨u, v⟩ := r1.2.2.2.2.2.1 h a b
        rw [fs_st_o (by decide), fs_st_o (by decide), x, y]
        exact ⟨u, v⟩
    | succ n ih =>
      intro i M2 i0 i1 hn o2 hh
      have q2 : ∀ o k, o ≠ 247 → o ≠ 248 → M2 o k = M1 o k := fun o k a b => o2 o k (fun q => by have q3 : (o = 247 ∨ o = 248) ∧ 0 ≤ k ∧ k < 6 := q; omega)
      refine L_Mo_night_11 ⟨fun w => absurd w (by omega), fun _ => ⟨i0, ?_⟩⟩
      rw [fs_w32_of (by omega) (by omega), q2 261 i (by decide) (by decide), q2 262 i (by decide) (by decide)]
      refine ih (i + 1) _ (by omega) (by omega) (by omega) ((o2.st ⟨Or.inl rfl, i0, by omega⟩).st ⟨Or.inr rfl, i0, by omega⟩) (fun h a b => ?_)
      by_cases c : h = i
      · rw [c, fs_st_s, fs_st_o (by decide), fs_st_s]
        exact ⟨rfl, rfl⟩
      · rw [fs_st_k c, fs_st_k c, fs_st_k c, fs_st_k c]
        exact hh h a (by omega)
  exact loop 6 0 M1 (by decide) (by decide) (by decide) fs_out.rf (fun h a b => by omega)
theorem oc_was {M : fs_M} {K : fs_K} {a b : Int} (hB : fs_bE M) (hK : K (some (fs_i (fs_vWas M a b (M 54 2) (M 55) (M 56)))) M) : fs_C2 g m_Fs_was 2 [fs_r 0, fs_i a, fs_i b] M K := by
  have h5 := hB.2.1
  unfold fs_vWas at hK
  refine E_Fs_was (E_Script_hasHouse io_1 ⟨fun z => ⟨0, rfl, fun _ => ?_, fun w => absurd rfl w⟩, fun z => ⟨fun z2 => ⟨0, rfl, fun _ => ?_, fun w => absurd rfl w⟩, fun z2 => ⟨1, rfl, fun w => absurd w (by decide), fun _ => ⟨fun z3 => ?_, fun z3 => ⟨fun z4 => ⟨fun z5 => ⟨fun z6 => ⟨by omega, by omega, ?_⟩, fun z6 => ⟨by omega, by omega, ?_⟩⟩, fun z5 => ?_⟩, fun z4 => ?_⟩⟩⟩⟩⟩)
  · rw [if_pos (by omega)] at hK; exact hK
  · rw [if_pos (by omega)] at hK; exact hK
  · rw [if_pos (by omega)] at hK; exact hK
  · rw [if_neg (by omega), if_neg z5, if_neg z6] at hK; exact hK
  · rw [if_neg (by omega), if_neg z5, if_pos z6] at hK; exact hK
  · rw [if_neg (by omega), if_pos z5] at hK; exact hK
  · rw [if_pos (by omega)] at hK; exact hK
theorem om_was {E M : fs_M} {K : fs_K} {a b : Int} (hB : fs_bE E) (hT : fs_rt E) (hE : fs_env E M) (hK : K (some (fs_i (fs_vWas E a b (M 246 0) (M 247) (M 248)))) (fs_st M 226 0 0)) : fs_C2 g m_Mo_was 2 [fs_r 226, fs_i a, fs_i b] M K := by
  have h5 := hB.2.1
  have e228 : fs_st M 226 0 0 228 0 = E 1 5 := by rw [fs_st_o (by decide), hE 228 0 (by unfold fs_eC; omega), hT.1]
  have e246 : fs_st M 226 0 0 246 0 = M 246 0 := fs_st_o (by decide)
  have e247 : fs_st M 226 0 0 247 a = M 247 a := fs_st_o (by decide)
  have e248 : fs_st M 226 0 0 248 a = M 248 a := fs_st_o (by decide)
  unfold fs_vWas at hK
  refine E_Mo_was (E_Mo_isHouse ⟨fun z => ⟨0, rfl, fun _ => ?_, fun w => absurd rfl w⟩, fun z => ⟨fun z2 => ⟨0, rfl, fun _ => ?_, fun w => absurd rfl w⟩, fun z2 => ⟨1, rfl, fun w => absurd w (by decide), fun _ => ⟨fun z3 => ?_, fun z3 => ⟨fun z4 => ⟨fun z5 => ⟨fun z6 => ⟨by omega, by omega, ?_⟩, fun z6 => ⟨by omega, by omega, ?_⟩⟩, fun z5 => ?_⟩, fun z4 => ?_⟩⟩⟩⟩⟩)
  · rw [if_pos (by omega)] at hK; exact hK
  · rw [if_pos (by omega)] at hK; exact hK
  · rw [if_pos (by omega)] at hK; exact hK
  · rw [e246] at z5
    rw [if_neg (by omega), if_neg z5, if_neg z6] at hK; rw [e248]; exact hK
  · rw [e246] at z5
    rw [if_neg (by omega), if_neg z5, if_pos z6] at hK; rw [e247]; exact hK
  · rw [e246] at z5
    rw [if_neg (by omega), if_pos z5] at hK; exact hK
  · rw [if_pos (by omega)] at hK; exact hK
theorem oc_chance {M : fs_M} {K : fs_K} {a b : Int} (hB : fs_bE M) (hp : fs_rp M 31 0) (hK : ∀ M', fs_out (fs_FP 57) M M' → K (some (fs_i (fs_vChance M a b))) M') : fs_C2 g m_Fs_chance 8 [fs_r 0, fs_i a, fs_i b] M K := by
  have h5 := hB.2.1
  unfold fs_vChance at hK
  refine E_Fs_chance ⟨fun z => ?_, fun z => E_Script_hasHouse io_1 ⟨fun z2 => ⟨0, rfl, fun w => absurd rfl w, fun _ => ?_⟩, fun z2 => ⟨fun z3 => ⟨0, rfl, fun w => absurd rfl w, fun _ => ?_⟩, fun z3 => ⟨1, rfl, fun _ => E_Night_clear io_57 ⟨rfl, ?_⟩, fun w => absurd w (by decide)⟩⟩⟩⟩
  · have h := hK M fs_out.rf
    rw [if_pos (by omega)] at h; exact h
  · have h := hK M fs_out.rf
    rw [if_pos (by omega)] at h; exact h
  · have h := hK M fs_out.rf
    rw [if_pos (by omega)] at h; exact h
  · simp only [show ¬ (a < 0 ∨ b < 0 ∨ M 1 5 ≤ b) by omega, if_false] at hK
    have loop : ∀ (n i : Nat) (M1 : fs_M), i ≤ 10 → 10 - i = n → fs_out (fs_FP 57) M M1 → M1 57 3 = (fs_chn M b a i).2 → fs_A2 g m_Fs_chance 8 30 [(0, fs_r 0), (2, fs_i b), (3, fs_i (fs_chn M b a i).1), (4, fs_i (i : Int))] [] M1 K := by
      intro n
      induction n with
      | zero =>
        intro i M1 i1 hn o1 z1
        have ei : i = 10 := by omega
        subst ei
        exact L_Fs_chance_30 ⟨fun _ => hK M1 o1, fun w => absurd (by decide) w⟩
      | succ n ih =>
        intro i M1 i1 hn o1 z1
        have hE2 : fs_env2 M M1 := fun o k q => o1 o k (by unfold fs_FP fs_F5 fs_F2; unfold fs_eC2 fs_eC at q; omega)
        refine L_Fs_chance_30 ⟨fun w => absurd w (by omega), fun _ => sp_beginNow hB hp hE2 (fun M2 o2 r2 => ⟨rfl, ?_⟩)⟩
        have e57 : M2 57 3 = (fs_chn M b a i).2 := by rw [o2 57 3 (by unfold fs_F5 fs_F2; omega)]; exact z1
        have o2' : fs_out (fs_FP 57) M M2 := o1.tr (o2.wk (fun _ _ q => Or.inl q))
        refine sp_pass (rf := M 31 2) (Or.inr rfl) hB io_57 (fs_X0_I hB hp) (fs_X0_t hp) (fs_X0_7 M) r2 (o2' 31 2 (by unfold fs_FP fs_F5 fs_F2; omega)) (fun M3 o3 r3 z3 _ _ => ⟨rfl, ?_⟩)
        rw [e57] at r3 z3
        obtain ⟨s7, s8⟩ := r3.2.2.2.2.1 b (by omega) (by omega)
        have e5 : M3 5 b = M 5 b := r3.1 5 b (Or.inl (by decide))
        have cb := fs_chn_b M b a i
        have s7' : M3 49 b = (fs_N M (fs_chn M b a i).2).1.2 7 b := s7
        have s8' : M3 50 b = (fs_N M (fs_chn M b a i).2).1.2 8 b := s8
        have nxt : ∀ v, v = (fs_chn M b a (i + 1)).1 → fs_A2 g m_Fs_chance 8 30 [(0, fs_r 0), (2, fs_i b), (3, fs_i v), (4, fs_i (fs_w32 ((i : Int) + 1)))] [] M3 K := fun v hv => by
          rw [hv, fs_w32_of (by omega) (by omega)]
          exact ih (i + 1) M3 (by omega) (by omega) (o2'.tr o3) z3
        have ec : (fs_chn M b a (i + 1)).1 = (fs_chn M b a i).1 + fs_inT M (fs_N M (fs_chn M b a i).2).1.2 b := rfl
        unfold fs_inT at ec
        refine E_Course_isInTime (sp_isDone (by omega) (by omega) (fun dn => ⟨1, rfl, fun w => absurd w (by decide), fun _ => ⟨by omega, by omega, fun lt => ⟨0, rfl, fun _ => nxt _ ?_, fun w => absurd rfl w⟩, fun ge => ⟨1, rfl, fun w => absurd w (by decide), fun _ => nxt _ ?_⟩⟩⟩) (fun nd => ⟨0, rfl, fun _ => ⟨0, rfl, fun _ => nxt _ ?_, fun w => absurd rfl w⟩, fun w => absurd rfl w⟩))
        · rw [ec, if_neg (by omega)]; omega
        · rw [ec, if_pos (by omega), fs_w32_of (by omega) (by omega)]
        · rw [ec, if_neg (by omega)]; omega
    refine loop 10 0 _ (by decide) (by decide) ((fs_out.rf.st (Or.inr (Or.inl ⟨rfl, Or.inr rfl⟩))).st (Or.inr (Or.inl ⟨rfl, Or.inl rfl⟩))) ?_
    rw [fs_st_s]
    rfl
theorem om_chance {E M : fs_M} {K : fs_K} {a b : Int} (hB : fs_bE E) (hT : fs_rt E) (hp : fs_rp E 31 0) (hE : fs_env2 E M) (hK : ∀ M', fs_out fs_FM M M' → K (some (fs_i (fs_vChance E a b))) M') : fs_C2 g m_Mo_chance 9 [fs_r 226, fs_i a, fs_i b] M K := by
  have h5 := hB.2.1
  unfold fs_vChance at hK
  have e228 : fs_st M 226 0 0 228 0 = E 1 5 := by rw [fs_st0 hE 228 0 (by unfold fs_eC2 fs_eC; omega), hT.1]
  refine E_Mo_chance ⟨fun z => ?_, fun z => E_Mo_isHouse ⟨fun z2 => ⟨0, rfl, fun w => absurd rfl w, fun _ => ?_⟩, fun z2 => ⟨fun z3 => ⟨0, rfl, fun w => absurd rfl w, fun _ => ?_⟩, fun z3 => ⟨1, rfl, fun _ => ?_, fun w => absurd w (by decide)⟩⟩⟩⟩
  · have h := hK _ fs_out0
    rw [if_pos (by omega)] at h; exact h
  · have h := hK _ fs_out0
    rw [if_pos (by omega)] at h; exact h
  · have h := hK _ fs_out0
    rw [if_pos (by omega)] at h; exact h
  · simp only [show ¬ (a < 0 ∨ b < 0 ∨ E 1 5 ≤ b) by omega, if_false] at hK
    have e245 : fs_st M 226 0 0 245 0 = M 245 0 := fs_st_o (by decide)
    rw [e245]
    have loop : ∀ (n i : Nat) (M1 : fs_M), i ≤ 10 → 10 - i = n → fs_out (fun o k => fs_FM o k ∨ (o = 245 ∧ k = 0)) M M1 → M1 245 0 = (fs_chn E b a i).2 → fs_A2 g m_Mo_chance 9 39 [(0, fs_r 226), (2, fs_i b), (3, fs_i (M 245 0)), (4, fs_i (fs_chn E b a i).1), (5, fs_i (i : Int))] [] M1 K := by
      intro n
      induction n with
      | zero =>
        intro i M1 i1 hn o1 z1
        have ei : i = 10 := by omega
        subst ei
        refine L_Mo_chance_39 ⟨fun _ => hK _ (fun o k nF => ?_), fun w => absurd (by decide) w⟩
        by_cases c : o = 245 ∧ k = 0
        · rw [c.1, c.2, fs_st_s]
        · have e : fs_st M1 245 0 (M 245 0) o k = M1 o k := by
            by_cases c1 : o = 245
            · exact fs_st_k (by omega)
            · exact fs_st_o c1
          rw [e]
          exact o1 o k (fun q => by
            have q2 : fs_FM o k ∨ (o = 245 ∧ k = 0) := q
            rcases q2 with q2 | q2
            · exact nF q2
            · exact c q2)
      | succ n ih =>
        intro i M1 i1 hn o1 z1
        have hE2 : fs_env2 E M1 := fun o k q => by
          rw [o1 o k (fun w => by
            have w2 : fs_FM o k ∨ (o = 245 ∧ k = 0) := w
            unfold fs_FM fs_F9 fs_F6 fs_F8 fs_F4 at w2
            unfold fs_eC2 fs_eC at q
            omega)]
          exact hE o k q
        refine L_Mo_chance_39 ⟨fun w => absurd w (by omega), fun _ => sp_passes hB hT hp hE2 (fun M2 o2 e47 r2 z2 => ⟨rfl, by omega, by omega, ?_⟩)⟩
        rw [z1] at r2 z2
        have o2' : fs_out (fun o k => fs_FM o k ∨ (o = 245 ∧ k = 0)) M M2 := o1.tr (o2.wk (fun o k q => by
          have q2 : fs_F9 o k ∨ (o = 245 ∧ k = 0) := q
          rcases q2 with q2 | q2
          · exact Or.inl (Or.inl q2)
          · exact Or.inr q2))
        obtain ⟨s7, s8⟩ := r2.2.2.2.2.2.1 b (by omega) (by omega)
        obtain ⟨t3, t4, t5⟩ := hT.2.2.1 b (by omega) (by omega)
        have e5 : M2 232 b = E 5 b := by rw [r2.1 232 b (by unfold fs_eC; omega), t5]
        have cb := fs_chn_b E b a i
        have s7' : M2 261 b = (fs_N E (fs_chn E b a i).2).1.2 7 b := s7
        have s8' : M2 262 b = (fs_N E (fs_chn E b a i).2).1.2 8 b := s8
        have nxt : ∀ v, v = (fs_chn E b a (i + 1)).1 → fs_A2 g m_Mo_chance 9 39 [(0, fs_r 226), (2, fs_i b), (3, fs_i (M 245 0)), (4, fs_i v), (5, fs_i (fs_w32 ((i : Int) + 1)))] [] M2 K := fun v hv => by
          rw [hv, fs_w32_of (by omega) (by omega)]
          exact ih (i + 1) M2 (by omega) (by omega) o2' z2
        have ec : (fs_chn E b a (i + 1)).1 = (fs_chn E b a i).1 + fs_inT E (fs_N E (fs_chn E b a i).2).1.2 b := rfl
        unfold fs_inT at ec
        have l72 : (0 ≤ M2 261 b ∨ M2 261 b = -2) → fs_A2 g m_Mo_chance 9 72 [(0, fs_r 226), (2, fs_i b), (3, fs_i (M 245 0)), (5, fs_i (i : Int))] [fs_i (fs_chn E b a i).1] M2 K := fun dn => by
          refine L_Mo_chance_72 ⟨by omega, by omega, fun lt => nxt _ ?_, fun ge => nxt _ ?_⟩
          · rw [ec, if_neg (by omega), fs_w32_of (by omega) (by omega)]
          · rw [ec, if_pos (by omega), fs_w32_of (by omega) (by omega)]
        refine ⟨fun p => l72 (Or.inl p), fun p => ⟨fun q => nxt _ ?_, fun q => l72 (Or.inr q)⟩⟩
        rw [ec, if_neg (by omega), fs_w32_of (by omega) (by omega)]
    refine loop 10 0 _ (by decide) (by decide) ((fs_out0.wk (fun _ _ q => Or.inl q)).st (Or.inr ⟨rfl, rfl⟩)) ?_
    rw [fs_st_s]
    rfl
end OPS2
