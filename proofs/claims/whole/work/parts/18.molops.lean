-- ===== the model: asks, may, walkOf, catOf, by the class's numbering of the laws =====
def fs_F4 (o k : Int) : Prop := o = 249 ∨ o = 250 ∨ (o = 226 ∧ k = 41)
theorem fs_F3_F4 {o k : Int} (h : fs_F3 o k) : fs_F4 o k := by
  unfold fs_F3 at h
  unfold fs_F4
  omega
/-- the two have the same laws -/
def fs_rl (M : fs_M) : Prop := ∀ k, 0 ≤ k → k < 4 → M 237 k = M 12 k ∧ M 238 k = M 13 k ∧ fs_lawC M k ∧ ∀ i, M 12 k ≤ i → i < M 13 k → M 239 i = fs_csC M i ∧ M 240 i = fs_cvC M i
theorem fs_lawCM {M : fs_M} {k : Int} (h : fs_lawC M k) : fs_lawM (fs_csC M) (fs_cvC M) (M 12 k) (M 13 k) := by
  obtain ⟨a, b, c, d, e⟩ := h
  refine ⟨a, b, c, fun i q1 q2 => ?_, e⟩
  obtain ⟨ct, lim⟩ := d i q1 q2
  obtain ⟨t1, t2⟩ := ct
  unfold fs_csC fs_cvC fs_srt fs_val
  by_cases z : M 10 i = 1017
  · rw [if_pos z, if_pos z]
    exact Or.inl ⟨rfl, lim⟩
  · rw [if_neg z, if_neg z]
    by_cases z2 : M 10 i ≤ 1016
    · rw [if_pos z2, if_pos z2]
      exact Or.inr (Or.inl ⟨rfl, by omega, by omega⟩)
    · rw [if_neg z2, if_neg z2]
      exact Or.inr (Or.inr rfl)
def fs_rlC (o : Int) : Prop := (10 ≤ o ∧ o ≤ 13) ∨ (237 ≤ o ∧ o ≤ 240)
theorem fs_rl_cong {M M' : fs_M} (h : ∀ o k, fs_rlC o → M' o k = M o k) (hr : fs_rl M) : fs_rl M' := by
  have hc := fs_law_cong (M := M) (M' := M') (fun o k a b => h o k (Or.inl ⟨a, b⟩))
  have e1 : fs_csC M' = fs_csC M := by
    funext i
    unfold fs_csC
    rw [h 10 i (by unfold fs_rlC; omega)]
  have e2 : fs_cvC M' = fs_cvC M := by
    funext i
    unfold fs_cvC
    rw [h 10 i (by unfold fs_rlC; omega), h 11 i (by unfold fs_rlC; omega)]
  intro k k0 k1
  obtain ⟨a, b, c, d⟩ := hr k k0 k1
  rw [h 237 k (by unfold fs_rlC; omega), h 238 k (by unfold fs_rlC; omega), h 12 k (by unfold fs_rlC; omega), h 13 k (by unfold fs_rlC; omega), e1, e2]
  refine ⟨a, b, hc.2 k c, fun i q1 q2 => ?_⟩
  rw [h 239 i (by unfold fs_rlC; omega), h 240 i (by unfold fs_rlC; omega)]
  exact d i q1 q2
theorem fs_F4_rl {M M' : fs_M} (h : fs_out fs_F4 M M') : ∀ o k, fs_rlC o → M' o k = M o k := fun o k q => h o k (by unfold fs_rlC at q; unfold fs_F4; omega)
theorem fs_law_rl {M M' : fs_M} (h : ∀ o k, fs_rlC o → M' o k = M o k) (k : Int) (nm : Int → Int) : fs_law M' k nm = fs_law M k nm := (fs_law_cong (fun o k a b => h o k (Or.inl ⟨a, b⟩))).1 k nm
def fs_nm7 (M : fs_M) (nm : Int → Int) : Prop := ∀ j, 0 ≤ j → j < 7 → M 249 j = nm j ∧ fs_lim (nm j)
def fs_mayN (M : fs_M) (nm : Int → Int) : Int := if M 12 2 < M 13 2 then (match fs_law M 2 nm with | none => 0 | some v => if v ≤ 0 then 0 else 1) else 1
theorem fs_lim32 {x : Int} (h : fs_in32 x) : fs_lim x := by
  unfold fs_in32 at h
  unfold fs_lim
  omega
theorem fs_nm_lim {far glass minute up left worth home : Int} (h1 : fs_lim far) (h2 : fs_lim glass) (h3 : fs_lim minute) (h4 : fs_lim up) (h5 : fs_lim left) (h6 : fs_lim worth) (h7 : fs_lim home) (j : Int) : fs_lim (fs_nm far glass minute up left worth home j) := by
  unfold fs_nm
  split
  · exact h1
  · split
    · exact h2
    · split
      · exact h3
      · split
        · exact h4
        · split
          · exact h5
          · split
            · exact h6
            · exact h7
section MOLOPS
variable {g : fs_G}
theorem sp_hasLaw {M : fs_M} {K : fs_K} {k : Int} (hk0 : 0 ≤ k) (hk1 : k < 4) (hR : fs_rl M) (h0 : ¬ M 12 k < M 13 k → K (some (fs_i 0)) M) (h1 : M 12 k < M 13 k → K (some (fs_i 1)) M) : fs_C2 g m_Mo_hasLaw 1 [fs_r 226, fs_i k] M K := by
  obtain ⟨a, b, -⟩ := hR k hk0 hk1
  refine E_Mo_hasLaw ⟨hk0, by omega, fun q => h0 (by omega), fun q => h1 (by omega)⟩
theorem sp_goesR {M : fs_M} {K : fs_K} {nm : Int → Int} {k : Int} (hk0 : 0 ≤ k) (hk1 : k < 4) (hR : fs_rl M) (hlt : M 12 k < M 13 k) (hnm : fs_nm7 M nm)
    (hK : ∀ M' r, fs_out fs_F3 M M' → (fs_law M k nm = none ∧ r = 0 ∨ ∃ v, fs_law M k nm = some v ∧ r = 1 ∧ M' 250 0 = v) → K (some (fs_i r)) M') : fs_C2 g m_Mo_goes 3 [fs_r 226, fs_i k] M K := by
  obtain ⟨a, b, c, d⟩ := hR k hk0 hk1
  exact sp_goes hk0 (by omega) a b (fs_lawCM c) hlt hnm d hK
theorem sp_asks {M : fs_M} {K : fs_K} {nm : Int → Int} {k most without : Int} (hk0 : 0 ≤ k) (hk1 : k < 4) (hm0 : 0 ≤ most) (hm1 : most ≤ 1000) (hR : fs_rl M) (hnm : fs_nm7 M nm)
    (hK : ∀ M', fs_out fs_F3 M M' → K (some (fs_i (fs_put (fs_law M k nm) most without))) M') : fs_C2 g m_Mo_asks 4 [fs_r 226, fs_i k, fs_i most, fs_i without] M K := by
  refine E_Mo_asks (sp_hasLaw hk0 hk1 hR (fun q => ⟨0, rfl, fun _ => ?_, fun z => absurd rfl z⟩) (fun q => ⟨1, rfl, fun z => absurd z (by decide), fun _ => ?_⟩))
  · have h := hK M fs_out.rf
    have e : fs_law M k nm = none := by unfold fs_law fs_res; exact if_neg q
    rw [e] at h
    exact h
  · refine sp_goesR hk0 hk1 hR q hnm (fun M' r ho hr => ⟨r, rfl, ?_⟩)
    have h := hK M' ho
    rcases hr with ⟨e, rfl⟩ | ⟨v, e, rfl, hv⟩
    · rw [e] at h
      exact ⟨fun z => absurd rfl z, fun _ => h⟩
    · rw [e] at h
      refine ⟨fun _ => ?_, fun z => absurd z (by decide)⟩
      refine sp_minJ ⟨_, rfl, sp_maxJ ⟨_, rfl, ?_⟩⟩
      rw [hv, fs_w32_of (by omega) (by omega), Int.min_comm]
      exact h
theorem sp_may {M : fs_M} {K : fs_K} {nm : Int → Int} (hR : fs_rl M) (hnm : fs_nm7 M nm) (hK : ∀ M', fs_out fs_F3 M M' → K (some (fs_i (if M 226 42 = 5 then 1 else fs_mayN M nm))) M') : fs_C2 g m_Mo_may 4 [fs_r 226] M K := by
  refine E_Mo_may ⟨fun q => ?_, fun q => ?_⟩
  · have h := hK M fs_out.rf
    rw [if_pos q] at h
    exact h
  · simp only [if_neg q] at hK
    refine sp_hasLaw (by decide) (by decide) hR (fun q2 => ⟨0, rfl, fun _ => ?_, fun z => absurd rfl z⟩) (fun q2 => ⟨1, rfl, fun z => absurd z (by decide), fun _ => ?_⟩)
    · have h := hK M fs_out.rf
      unfold fs_mayN at h
      rw [if_neg q2] at h
      exact h
    · refine sp_goesR (by decide) (by decide) hR q2 hnm (fun M' r ho hr => ⟨r, rfl, ?_⟩)
      have h := hK M' ho
      unfold fs_mayN at h
      rw [if_pos q2] at h
      rcases hr with ⟨e, rfl⟩ | ⟨v, e, rfl, hv⟩
      · rw [e] at h
        exact ⟨fun _ => h, fun z => absurd rfl z⟩
      · rw [e] at h
        refine ⟨fun z => absurd z (by decide), fun _ => ?_⟩
        rw [fs_lcmp_le, hv]
        dsimp only at h
        refine ⟨fun z => ?_, fun z => ?_⟩
        · rw [if_pos z] at h; exact h
        · rw [if_neg z] at h; exact h
theorem sp_calls {M : fs_M} {K : fs_K} {house minute glass left : Int} (h0 : 0 ≤ house) (h1 : house < 12) (hg : fs_lim glass) (hm : fs_lim minute) (hl : fs_lim left) (hw : fs_lim (M 231 house))
    (hK : ∀ M', fs_out (fun o _ => o = 249) M M' → fs_nm7 M' (fs_nm 0 glass minute 0 left (M 231 house) 0) → K none M') : fs_C2 g m_Mo_calls 1 [fs_r 226, fs_i house, fs_i minute, fs_i glass, fs_i left] M K := by
  refine E_Mo_calls ⟨h0, h1, hK _ ?_ ?_⟩
  · refine ((((((fs_out.rf.st ?_).st ?_).st ?_).st ?_).st ?_).st ?_).st ?_ <;> rfl
  · intro j a b
    have z : fs_lim 0 := by unfold fs_lim; omega
    refine ⟨?_, fs_nm_lim z hg hm z hl hw z j⟩
    rcases (by omega : j = 0 ∨ j = 1 ∨ j = 2 ∨ j = 3 ∨ j = 4 ∨ j = 5 ∨ j = 6) with rfl | rfl | rfl | rfl | rfl | rfl | rfl <;> simp [fs_st, fs_nm]
theorem fs_out249_rl {M M' : fs_M} (h : fs_out (fun o _ => o = 249) M M') : ∀ o k, fs_rlC o → M' o k = M o k := fun o k q => h o k (by unfold fs_rlC at q; omega)
theorem sp_walkOf {M : fs_M} {K : fs_K} {frm house minute glass left : Int} (hR : fs_rl M) (h0 : 0 ≤ house) (h1 : house < 12) (hg : fs_lim glass) (hm : fs_lim minute) (hl : fs_lim left) (hw : fs_lim (M 231 house)) (hf0 : 0 ≤ frm) (hf1 : frm ≤ 99) (hp0 : 0 ≤ M 230 house) (hp1 : M 230 house ≤ 99)
    (hK : ∀ M', fs_out fs_F4 M M' → K (some (fs_i (fs_walk M (if M 226 42 = 2 then 0 else M 230 house - frm) minute glass left (M 231 house)))) M') :
    fs_C2 g m_Mo_walkOf 5 [fs_r 226, fs_i frm, fs_i house, fs_i minute, fs_i glass, fs_i left] M K := by
  refine E_Mo_walkOf (sp_calls h0 h1 hg hm hl hw (fun M1 ho1 hn1 => ⟨rfl, ?_⟩))
  have e42 : M1 226 42 = M 226 42 := ho1 226 42 (fun q => absurd q (by decide))
  have e230 : M1 230 house = M 230 house := ho1 230 house (fun q => by have q2 : (230 : Int) = 249 := q; omega)
  have rl1 := fs_out249_rl ho1
  have z0 : fs_lim 0 := by unfold fs_lim; omega
  have z1 : fs_lim 1 := by unfold fs_lim; omega
  -- from the second label on
  have fin : ∀ (far up : Int), fs_lim far → (up = 0 ∨ up = 1) → (∀ M', fs_out fs_F4 M M' → K (some (fs_i (fs_put (fs_law M 0 (fs_nm far glass minute up left (M 231 house) 0)) 240 far))) M') → fs_A2 g m_Mo_walkOf 5 72 [(0, fs_r 226), (6, fs_i far)] [fs_i up, fs_i 3, fs_r 249] (fs_st M1 249 0 far) K := by
    intro far up hfar hup hK2
    have call : ∀ u : Int, u = up → fs_C2 g m_Mo_asks 4 [fs_r 226, fs_i 0, fs_i 240, fs_i far] (fs_st (fs_st M1 249 0 far) 249 3 u) (fun v M4 => ∃ r4, v = some (fs_i r4) ∧ K (some (fs_i r4)) M4) := by
      intro u hu
      have hrl : ∀ o k, fs_rlC o → fs_st (fs_st M1 249 0 far) 249 3 u o k = M o k := fun o k q => by
        rw [fs_st_o (by unfold fs_rlC at q; omega), fs_st_o (by unfold fs_rlC at q; omega)]
        exact rl1 o k q
      refine sp_asks (nm := fs_nm far glass minute up left (M 231 house) 0) (by decide) (by decide) (by decide) (by decide) (fs_rl_cong hrl hR) (fun j a b => ?_) (fun M' ho => ⟨_, rfl, ?_⟩)
      · have hh := hn1 j a b
        refine ⟨?_, fs_nm_lim hfar hg hm (by rcases hup with z | z <;> rw [z] <;> assumption) hl hw z0 j⟩
        rcases (by omega : j = 0 ∨ j = 1 ∨ j = 2 ∨ j = 3 ∨ j = 4 ∨ j = 5 ∨ j = 6) with rfl | rfl | rfl | rfl | rfl | rfl | rfl
        · rw [fs_st_k (by decide), fs_st_s]; rfl
        · rw [fs_st_k (by decide), fs_st_k (by decide), hh.1]; rfl
        · rw [fs_st_k (by decide), fs_st_k (by decide), hh.1]; rfl
        · rw [fs_st_s, hu]; rfl
        · rw [fs_st_k (by decide), fs_st_k (by decide), hh.1]; rfl
        · rw [fs_st_k (by decide), fs_st_k (by decide), hh.1]; rfl
        · rw [fs_st_k (by decide), fs_st_k (by decide), hh.1]; rfl
      · have h := hK2 M' (((ho1.wk (fun _ _ q => Or.inl q)).st (Or.inl rfl)).st (Or.inl rfl) |>.tr (ho.wk (fun _ _ => fs_F3_F4)))
        rw [fs_law_rl hrl]
        exact h
    refine L_Mo_walkOf_72 ?_
    rcases hup with hu | hu
    · subst hu
      exact sp_is0 ⟨0, rfl, by decide, by decide, call 0 rfl⟩
    · subst hu
      exact sp_is1 ⟨1, rfl, by decide, by decide, call 1 rfl⟩
  rw [e42]
  refine ⟨fun q => ⟨h0, h1, ?_⟩, fun q => ?_⟩
  · rw [e230, fs_w32_of (by omega) (by omega)]
    refine sp_absI (by omega) ⟨_, rfl, L_Mo_walkOf_33 ?_⟩
    rw [e42, e230]
    simp only [if_neg q] at hK
    have lf : fs_lim ((M 230 house - frm).natAbs : Int) := by unfold fs_lim; omega
    refine ⟨fun z => absurd z q, fun _ => ⟨h0, h1, fun z => ?_, fun z => ?_⟩⟩
    · refine fin _ 0 lf (Or.inl rfl) (fun M' ho => ?_)
      have h := hK M' ho
      unfold fs_walk at h
      rw [if_pos (by omega)] at h
      exact h
    · refine fin _ 1 lf (Or.inr rfl) (fun M' ho => ?_)
      have h := hK M' ho
      unfold fs_walk at h
      rw [if_neg (by omega)] at h
      exact h
  · refine L_Mo_walkOf_33 ?_
    rw [e42, e230]
    simp only [if_pos q] at hK
    refine ⟨fun _ => ?_, fun z => absurd q z⟩
    exact fin 0 0 z0 (Or.inl rfl) hK
theorem sp_catOf {M : fs_M} {K : fs_K} {house minute : Int} (hR : fs_rl M) (h0 : 0 ≤ house) (h1 : house < 12) (hm : fs_lim minute) (hw : fs_lim (M 231 house))
    (hK : ∀ M', fs_out fs_F4 M M' → K (some (fs_i (fs_cat M minute (M 231 house)))) M') : fs_C2 g m_Mo_catOf 5 [fs_r 226, fs_i house, fs_i minute] M K := by
  have z0 : fs_lim 0 := by unfold fs_lim; omega
  refine E_Mo_catOf (sp_calls h0 h1 z0 hm z0 hw (fun M1 ho1 hn1 => ⟨rfl, ?_⟩))
  have rl1 := fs_out249_rl ho1
  refine sp_asks (by decide) (by decide) (by decide) (by decide) (fs_rl_cong rl1 hR) hn1 (fun M' ho => ⟨_, rfl, ?_⟩)
  have h := hK M' ((ho1.wk (fun _ _ q => Or.inl q)).tr (ho.wk (fun _ _ => fs_F3_F4)))
  rw [fs_law_rl rl1]
  exact h
end MOLOPS
