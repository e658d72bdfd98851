-- ===== nights: pass, passes =====
theorem fs_nts_inv {E : fs_M} {rf : Int} {Y : ((Int → List Int) × fs_M) × Int} (hB : fs_bE E) (hI : fs_rI E Y.1) (ht : fs_tot Y.1 ≤ 27) (h7 : ∀ i, -3 ≤ Y.1.2 7 i) : ∀ (n : Nat), n ≤ 240 → fs_rI E (fs_nts E rf n Y).1 ∧ fs_tot (fs_nts E rf n Y).1 ≤ 27 ∧ ∀ i, -3 ≤ (fs_nts E rf n Y).1.2 7 i
  | 0, _ => ⟨hI, ht, h7⟩
  | n + 1, hn => by
    obtain ⟨a, b, c⟩ := fs_nts_inv (rf := rf) hB hI ht h7 n (by omega)
    have a2 := a.go (tr := -1) (rf := rf) (m := (n : Int) + 1) hB (by omega) 27
    have b2 := fs_tot_go (tr := -1) (rf := rf) (m := (n : Int) + 1) hB (by omega) 27 _ a b
    have c2 := fs_go_ind (E := E) (tr := -1) (rf := rf) (m := (n : Int) + 1) (fun X => ∀ i, -3 ≤ X.2 7 i) hB (by omega) (fun X _ h _ => fs_step_7 (by decide) h) 27 _ a c
    refine ⟨?_, b2, ?_⟩
    · exact fs_rI.cong a2 (fun c i e7 e8 => fs_cats_o _ c i e7 e8)
    · have k : ∀ (m : Nat) (Z : fs_M × Int), (∀ i, -3 ≤ Z.1 7 i) → ∀ i, -3 ≤ (fs_cats E (n + 1) m Z).1 7 i := by
        intro m
        induction m with
        | zero => intro Z h; exact h
        | succ m ih =>
          intro Z h i
          have hh := ih Z h i
          show -3 ≤ (fs_kat1 E (n + 1) m (fs_cats E (n + 1) m Z)).1 7 i
          unfold fs_kat1
          split
          · split
            · exact hh
            · split
              · show -3 ≤ fs_st (fs_st (fs_cats E (n + 1) m Z).1 7 m (-3)) 8 m (n + 1) 7 i
                rw [fs_st_o (by decide)]
                by_cases c : i = m
                · rw [c, fs_st_s]; omega
                · rw [fs_st_k c]; exact hh
              · exact hh
          · exact hh
      exact k _ _ c2
def fs_FP (nt o k : Int) : Prop := fs_F5 o k ∨ (o = nt ∧ (k = 3 ∨ k = 2)) ∨ o = nt + 1 ∨ o = nt + 2
theorem fs_FN_FP {nt o k : Int} (h : fs_FN nt o k) : fs_FP nt o k := by
  rcases h with h | ⟨h, h2⟩
  · exact Or.inl h
  · exact Or.inr (Or.inl ⟨h, Or.inl h2⟩)
theorem fs_mR.cong {E M M' : fs_M} {tr ta wo : Int} {X : (Int → List Int) × fs_M} (h : fs_mR E M tr ta wo X) (he : ∀ o k, fs_eC o ∨ (251 ≤ o ∧ o ≤ 262) ∨ (o = 226 ∧ (k = 42 ∨ k = 43 ∨ k = 44 ∨ k = 56)) → M' o k = M o k) : fs_mR E M' tr ta wo X := by
  obtain ⟨R1, ⟨R2a, R2b, R2c⟩, R3, R4, R5, R6, R7⟩ := h
  have hr : ∀ o k, o = 251 ∨ o = 252 → M' o k = M o k := fun o k q => he o k (Or.inr (Or.inl (by omega)))
  have hv : ∀ o k, 251 ≤ o → o ≤ 262 → M' o k = M o k := fun o k a b => he o k (Or.inr (Or.inl ⟨a, b⟩))
  refine ⟨fun o k q => by rw [he o k (Or.inl q)]; exact R1 o k q, ⟨by rw [he _ _ (Or.inr (Or.inr ⟨rfl, by decide⟩))]; exact R2a, by rw [he _ _ (Or.inr (Or.inr ⟨rfl, by decide⟩))]; exact R2b, by rw [he _ _ (Or.inr (Or.inr ⟨rfl, by decide⟩))]; exact R2c⟩, R3.cong hr, fun d d0 d1 => by rw [hv 257 d (by decide) (by decide)]; exact R4 d d0 d1, fun d d0 d1 => ?_, fun i i0 i1 => ?_, by rw [he _ _ (Or.inr (Or.inr ⟨rfl, by decide⟩))]; exact R7⟩
  · rw [hv 254 d (by decide) (by decide), hv 255 d (by decide) (by decide), hv 256 d (by decide) (by decide), hv 258 d (by decide) (by decide), hv 259 d (by decide) (by decide), hv 260 d (by decide) (by decide), hv 253 d (by decide) (by decide), hv 252 d (by decide) (by decide), hv 251 _ (by decide) (by decide), fs_left_cong hr]
    exact R5 d d0 d1
  · rw [hv 261 i (by decide) (by decide), hv 262 i (by decide) (by decide)]
    exact R6 i i0 i1
theorem fs_mR.cat {E M : fs_M} {tr ta wo h t : Int} {R : Int → List Int} {S : fs_M} (hr : fs_mR E M tr ta wo (R, S)) : fs_mR E (fs_st (fs_st M 261 h (-3)) 262 h t) tr ta wo (R, fs_st (fs_st S 7 h (-3)) 8 h t) := by
  obtain ⟨R1, ⟨R2a, R2b, R2c⟩, R3, R4, R5, R6, R7⟩ := hr
  have o49 : ∀ o k, o ≠ 261 → o ≠ 262 → fs_st (fs_st M 261 h (-3)) 262 h t o k = M o k := fun o k a b => by rw [fs_st_o b, fs_st_o a]
  have o7 : ∀ c i, c ≠ 7 → c ≠ 8 → fs_st (fs_st S 7 h (-3)) 8 h t c i = S c i := fun c i a b => by rw [fs_st_o b, fs_st_o a]
  have hr : ∀ o k, o = 251 ∨ o = 252 → fs_st (fs_st M 261 h (-3)) 262 h t o k = M o k := fun o k q => o49 o k (by omega) (by omega)
  refine ⟨fun o k q => by rw [o49 o k (by unfold fs_eC at q; omega) (by unfold fs_eC at q; omega)]; exact R1 o k q, ⟨by rw [o49 _ _ (by decide) (by decide)]; exact R2a, by rw [o49 _ _ (by decide) (by decide)]; exact R2b, by rw [o49 _ _ (by decide) (by decide)]; exact R2c⟩, R3.cong hr, fun d d0 d1 => ?_, fun d d0 d1 => ?_, fun i i0 i1 => ?_, ?_⟩
  · have := R4 d d0 d1
    dsimp only at this ⊢
    rw [o49 _ _ (by decide) (by decide), o7 0 d (by decide) (by decide)]
    exact this
  · have := R5 d d0 d1
    dsimp only at this ⊢
    rw [o49 254 d (by decide) (by decide), o49 255 d (by decide) (by decide), o49 256 d (by decide) (by decide), o49 258 d (by decide) (by decide), o49 259 d (by decide) (by decide), o49 260 d (by decide) (by decide), o49 253 d (by decide) (by decide), o49 252 d (by decide) (by decide), o49 251 _ (by decide) (by decide), fs_left_cong hr, o7 1 d (by decide) (by decide), o7 2 d (by decide) (by decide), o7 3 d (by decide) (by decide), o7 4 d (by decide) (by decide), o7 5 d (by decide) (by decide), o7 6 d (by decide) (by decide)]
    exact this
  · obtain ⟨x, y⟩ := R6 i i0 i1
    dsimp only at x y ⊢
    by_cases c : i = h
    · rw [c, fs_st_o (by decide), fs_st_s, fs_st_s, fs_st_o (by decide), fs_st_s, fs_st_s]
      exact ⟨rfl, rfl⟩
    · rw [fs_st_k c, fs_st_k c, fs_st_k c, fs_st_k c, fs_st_k c, fs_st_k c, fs_st_k c, fs_st_k c]
      exact ⟨x, y⟩
  · dsimp only at R7 ⊢
    rw [o49 _ _ (by decide) (by decide), o7 9 0 (by decide) (by decide)]
    exact R7
section NIGHTS
variable {g : fs_G}
theorem sp_pass {E M : fs_M} {K : fs_K} {nt rf : Int} {X : (Int → List Int) × fs_M} (hnt : nt = 54 ∨ nt = 57) (hB : fs_bE E) (h0 : fs_isO 4 nt) (hI : fs_rI E X) (ht : fs_tot X ≤ 27) (h7 : ∀ i, -3 ≤ X.2 7 i) (hR : fs_cR E M 31 (-1) X) (hrf : M 31 2 = rf)
    (hK : ∀ M', fs_out (fs_FP nt) M M' → fs_cR E M' 31 (-1) (fs_nts E rf 240 (X, M nt 3)).1 → M' nt 3 = (fs_nts E rf 240 (X, M nt 3)).2 → M' nt 2 = fs_w32 (M nt 2 + 1) → (∀ h, 0 ≤ h → h < 6 → M' (nt + 1) h = M' 49 h ∧ M' (nt + 2) h = M' 50 h) → K none M') : fs_C2 g m_Night_pass 7 [fs_r nt, fs_r 43] M K := by
  have loop : ∀ (n : Nat) (i : Nat) (M1 : fs_M), i ≤ 240 → 240 - i = n → fs_out (fs_FN nt) M M1 → fs_cR E M1 31 (-1) (fs_nts E rf i (X, M nt 3)).1 → M1 nt 3 = (fs_nts E rf i (X, M nt 3)).2 → fs_A2 g m_Night_pass 7 2 [(0, fs_r nt), (1, fs_r 43), (2, fs_i ((i : Int) + 1))] [] M1 K := by
    intro n
    induction n with
    | zero =>
      intro i M1 i1 hn o1 r1 z1
      have ei : i = 240 := by omega
      subst ei
      refine L_Night_pass_2 h0 ⟨fun _ => ?_, fun w => absurd w (by omega)⟩
      generalize hC : fs_cpy (fs_cpy M1 49 0 (nt + 1) 0 6) 50 0 (nt + 2) 0 6 = C
      have c1 : ∀ o k, o ≠ nt + 1 → o ≠ nt + 2 → C o k = M1 o k := fun o k a b => by rw [← hC, fs_cpy_o b, fs_cpy_o a]
      have o1' : fs_out (fs_FP nt) M C := fun o k nF => by
        rw [c1 o k (fun q => nF (Or.inr (Or.inr (Or.inl q)))) (fun q => nF (Or.inr (Or.inr (Or.inr q))))]
        exact o1 o k (fun q => nF (fs_FN_FP q))
      have e2 : C nt 2 = M nt 2 := by
        rw [c1 nt 2 (by omega) (by omega)]
        exact o1 nt 2 (by unfold fs_FN fs_F5 fs_F2; omega)
      rw [e2]
      refine hK _ (o1'.st (Or.inr (Or.inl ⟨rfl, Or.inr rfl⟩))) (r1.cong hB.2.2.2.1 fs_pl31 (fun o k q => ?_)) ?_ (by rw [fs_st_s]) (fun h a b => ⟨?_, ?_⟩)
      · rw [fs_st_o (by unfold fs_eC at q; omega), c1 o k (by unfold fs_eC at q; omega) (by unfold fs_eC at q; omega)]
      · rw [fs_st_k (by decide), c1 nt 3 (by omega) (by omega)]
        exact z1
      · rw [fs_st_o (by omega), fs_st_o (by omega), c1 49 h (by omega) (by omega), ← hC, fs_cpy_o (by omega)]
        unfold fs_cpy
        rw [if_pos rfl, if_pos ⟨a, by omega⟩, Int.sub_zero, Int.zero_add]
      · rw [fs_st_o (by omega), fs_st_o (by omega), c1 50 h (by omega) (by omega), ← hC]
        show (if nt + 2 = nt + 2 then (if 0 ≤ h ∧ h < 0 + 6 then fs_cpy M1 49 0 (nt + 1) 0 6 50 (0 + (h - 0)) else _) else _) = _
        rw [if_pos rfl, if_pos ⟨a, by omega⟩, Int.sub_zero, Int.zero_add, fs_cpy_o (by omega)]
    | succ n ih =>
      intro i M1 i1 hn o1 r1 z1
      obtain ⟨a, b, c⟩ := fs_nts_inv (rf := rf) (Y := (X, M nt 3)) hB hI ht h7 i i1
      have e31 : M1 31 2 = rf := by rw [o1 31 2 (by unfold fs_FN fs_F5 fs_F2; omega)]; exact hrf
      refine L_Night_pass_2 h0 ⟨fun w => absurd w (by omega), fun _ => E_Course_comeUntil ?_⟩
      refine sp_comeUntil (rf := rf) hB fs_pl31 (by omega) 27 M1 _ 0 a r1 e31 b (by decide) (by decide) (fun M2 o2 r2 => ⟨rfl, ?_⟩)
      have z2 : M2 nt 3 = (fs_nts E rf i (X, M nt 3)).2 := by rw [o2 nt 3 (by unfold fs_F5 fs_F2; omega)]; exact z1
      refine sp_letCats hnt hB h0 r2 (fun M3 o3 r3 z3 => ⟨rfl, ?_⟩)
      rw [z2] at r3 z3
      rw [fs_w32_of (by omega) (by omega)]
      have := ih (i + 1) M3 (by omega) (by omega) ((o1.tr (o2.wk (fun _ _ q => Or.inl q))).tr o3) r3 z3
      rw [show (((i + 1 : Nat) : Int) + 1) = (i : Int) + 1 + 1 by omega] at this
      exact this
  exact E_Night_pass h0 (loop 240 0 M (by decide) (by decide) fs_out.rf hR rfl)
def fs_FQ (o k : Int) : Prop := fs_F9 o k ∨ o = 245
theorem sp_passes {E M : fs_M} {K : fs_K} (hB : fs_bE E) (hT : fs_rt E) (hp : fs_rp E 31 0) (hE : fs_env2 E M)
    (hK : ∀ M', fs_out (fun o k => fs_F9 o k ∨ (o = 245 ∧ k = 0)) M M' → M' 226 47 = E 31 2 → fs_mR E M' (-1) (-1) (-1) (fs_nts E (E 31 2) 240 (fs_X0 E, M 245 0)).1 → M' 245 0 = (fs_nts E (E 31 2) 240 (fs_X0 E, M 245 0)).2 → K none M') : fs_C2 g m_Mo_passes 8 [fs_r 226] M K := by
  have hB' := hB
  obtain ⟨B1, B2, B3, B4, B5, B6, B7⟩ := hB
  have hT' := hT
  obtain ⟨T1, T2, T3, T4, T5⟩ := hT
  have h7 : ∀ i, -3 ≤ (fs_X0 E).2 7 i := fun i => by have := fs_S0_7 (E := E) (tr := -1) (al := fs_alone E (-1) (E 31 3)) (R := fs_rows E E 31) i; exact Int.le_trans (by decide) this
  -- the minutes
  have loop : ∀ (n : Nat) (i : Nat) (M1 : fs_M), i ≤ 240 → 240 - i = n → fs_out (fun o k => fs_F9 o k ∨ (o = 245 ∧ k = 0)) M M1 → M1 226 47 = E 31 2 → fs_mR E M1 (-1) (-1) (-1) (fs_nts E (E 31 2) i (fs_X0 E, M 245 0)).1 → M1 245 0 = (fs_nts E (E 31 2) i (fs_X0 E, M 245 0)).2 → fs_A2 g m_Mo_passes 8 10 [(0, fs_r 226), (1, fs_i ((i : Int) + 1))] [] M1 K := by
    intro n
    induction n with
    | zero =>
      intro i M1 i1 hn o1 e47 r1 z1
      have ei : i = 240 := by omega
      subst ei
      exact L_Mo_passes_10 ⟨fun _ => hK M1 o1 e47 r1 z1, fun w => absurd w (by omega)⟩
    | succ n ih =>
      intro i M1 i1 hn o1 e47 r1 z1
      obtain ⟨a, b, c⟩ := fs_nts_inv (rf := E 31 2) (Y := (fs_X0 E, M 245 0)) hB' (fs_X0_I hB' hp) (fs_X0_t hp) h7 i i1
      refine L_Mo_passes_10 ⟨fun w => absurd w (by omega), fun _ => sp_next a r1 ⟨_, rfl, ?_⟩⟩
      -- all up to this minute
      have come : ∀ (m : Nat) (M2 : fs_M) (X : (Int → List Int) × fs_M), fs_rI E X → fs_mR E M2 (-1) (-1) (-1) X → M2 226 47 = E 31 2 → fs_tot X ≤ m → (∀ M3, fs_out fs_F6 M2 M3 → fs_mR E M3 (-1) (-1) (-1) (fs_go E (-1) (E 31 2) (i + 1) m X) → fs_A2 g m_Mo_passes 8 47 [(0, fs_r 226), (1, fs_i ((i : Int) + 1)), (2, fs_i 0)] [] M3 K) → fs_A2 g m_Mo_passes 8 22 [(0, fs_r 226), (1, fs_i ((i : Int) + 1)), (2, fs_i (fs_who X.2))] [] M2 K := by
        intro m
        induction m with
        | zero =>
          intro M2 X hI hR hrf ht hk
          have hf := fs_who3 X.2
          have cc : ¬ X.2 0 (fs_who X.2) ≤ 240 := by
            intro cc
            have := fs_tot_step (tr := -1) (rf := E 31 2) hI cc
            omega
          have c4 := hR.2.2.2.1 _ hf.1 hf.2
          exact L_Mo_passes_22 ⟨hf.1, hf.2, fun _ => hk M2 fs_out.rf hR, fun z => absurd z (by omega)⟩
        | succ m ih2 =>
          intro M2 X hI hR hrf ht hk
          have hf := fs_who3 X.2
          have c4 := hR.2.2.2.1 _ hf.1 hf.2
          unfold fs_go at hk
          refine L_Mo_passes_22 ⟨hf.1, hf.2, fun z => ?_, fun z => ?_⟩
          · rw [if_neg (by omega)] at hk
            exact hk M2 fs_out.rf hR
          · have cc : X.2 0 (fs_who X.2) ≤ i + 1 := by omega
            rw [if_pos cc] at hk
            have cc' : X.2 0 (fs_who X.2) ≤ 240 := by omega
            have hst := hI.step (tr := -1) (rf := E 31 2) hB' cc'
            have htt := fs_tot_step (tr := -1) (rf := E 31 2) hI cc'
            refine sp_arrives (rf := E 31 2) hB' hT' hI hR hrf cc' (fun M3 o3 r3 => ⟨rfl, ?_⟩)
            refine sp_next hst r3 ⟨_, rfl, ?_⟩
            exact ih2 M3 _ hst r3 (by rw [o3 226 47 (by unfold fs_F6 fs_F4; omega)]; exact hrf) (by omega) (fun M4 o4 r4 => hk M4 (o3.tr o4) r4)
      refine come 27 M1 _ a r1 e47 b (fun M2 o2 r2 => ?_)
      have z2 : M2 245 0 = (fs_nts E (E 31 2) i (fs_X0 E, M 245 0)).2 := by rw [o2 245 0 (by unfold fs_F6 fs_F4; omega)]; exact z1
      have e47b : M2 226 47 = E 31 2 := by rw [o2 226 47 (by unfold fs_F6 fs_F4; omega)]; exact e47
      have o2' : fs_out (fun o k => fs_F9 o k ∨ (o = 245 ∧ k = 0)) M M2 := o1.tr (o2.wk (fun _ _ q => Or.inl (Or.inl q)))
      -- the cats
      generalize hG : fs_go E (-1) (E 31 2) (i + 1) 27 (fs_nts E (E 31 2) i (fs_X0 E, M 245 0)).1 = G at *
      generalize hz : (fs_nts E (E 31 2) i (fs_X0 E, M 245 0)).2 = z at *
      have cats : ∀ (m : Nat) (j : Int) (M3 : fs_M), 0 ≤ j → j ≤ E 1 5 → E 1 5 - j = m → fs_out (fun o k => fs_F9 o k ∨ (o = 245 ∧ k = 0)) M M3 → M3 226 47 = E 31 2 → fs_mR E M3 (-1) (-1) (-1) (G.1, (fs_cats E (i + 1) j.toNat (G.2, z)).1) → M3 245 0 = (fs_cats E (i + 1) j.toNat (G.2, z)).2 → fs_A2 g m_Mo_passes 8 47 [(0, fs_r 226), (1, fs_i ((i : Int) + 1)), (2, fs_i j)] [] M3 K := by
        intro m
        induction m with
        | zero =>
          intro j M3 j0 j1 hm o3 e47c r3 z3
          have e228 : M3 228 0 = E 1 5 := by rw [r3.1 228 0 (by unfold fs_eC; omega), T1]
          refine L_Mo_passes_47 ⟨fun _ => ?_, fun w => absurd w (by omega)⟩
          rw [fs_w32_of (by omega) (by omega)]
          rw [show j = E 1 5 by omega] at r3 z3
          have fin := ih (i + 1) M3 (by omega) (by omega) o3 e47c
          have en : fs_nts E (E 31 2) (i + 1) (fs_X0 E, M 245 0) = ((G.1, (fs_cats E (i + 1) (E 1 5).toNat (G.2, z)).1), (fs_cats E (i + 1) (E 1 5).toNat (G.2, z)).2) := by
            rw [← hG, ← hz]
            rfl
          rw [en] at fin
          have := fin r3 z3
          rw [show (((i + 1 : Nat) : Int) + 1) = (i : Int) + 1 + 1 by omega] at this
          exact this
        | succ m ih3 =>
          intro j M3 j0 j1 hm o3 e47c r3 z3
          have e228 : M3 228 0 = E 1 5 := by rw [r3.1 228 0 (by unfold fs_eC; omega), T1]
          obtain ⟨t3, t4, t5⟩ := T3 j j0 (by omega)
          have hb := B5 j j0 (by omega)
          have e4 : M3 231 j = E 4 j := by rw [r3.1 231 j (by unfold fs_eC; omega), t4]
          have cb := fs_cat_b (E := E) (t := (i : Int) + 1) (w := E 4 j)
          obtain ⟨s7, s8⟩ := r3.2.2.2.2.2.1 j j0 (by omega)
          dsimp only at s7 s8
          have nxt : ∀ M4, fs_out (fun o k => fs_F9 o k ∨ (o = 245 ∧ k = 0)) M M4 → M4 226 47 = E 31 2 → fs_mR E M4 (-1) (-1) (-1) (G.1, (fs_kat1 E (i + 1) j (fs_cats E (i + 1) j.toNat (G.2, z))).1) → M4 245 0 = (fs_kat1 E (i + 1) j (fs_cats E (i + 1) j.toNat (G.2, z))).2 → fs_A2 g m_Mo_passes 8 47 [(0, fs_r 226), (1, fs_i ((i : Int) + 1)), (2, fs_i (fs_w32 (j + 1)))] [] M4 K := fun M4 o4 e4 r4 z4 => by
            have es : fs_cats E (i + 1) (j + 1).toNat (G.2, z) = fs_kat1 E (i + 1) j (fs_cats E (i + 1) j.toNat (G.2, z)) := by
              rw [show (j + 1).toNat = j.toNat + 1 by omega]
              show fs_kat1 E (i + 1) (j.toNat : Int) _ = _
              rw [show ((j.toNat : Nat) : Int) = j by omega]
            rw [fs_w32_of (by omega) (by omega)]
            refine ih3 (j + 1) M4 (by omega) (by omega) (by omega) o4 e4 ?_ ?_
            · rw [es]; exact r4
            · rw [es]; exact z4
          generalize hZ : fs_cats E (i + 1) j.toNat (G.2, z) = Z at *
          have lim : ∀ x : Int, 0 ≤ x → x ≤ 1000 → fs_lim x := fun x x0 x1 => by unfold fs_lim; omega
          refine L_Mo_passes_47 ⟨fun w => absurd w (by omega), fun _ => ⟨j0, by omega, fun yn => ?_, fun nn => ?_⟩⟩
          · refine sp_catOf (r3.1.rl T5) j0 (by omega) (lim _ (by omega) (by omega)) (by rw [e4]; exact lim _ (by omega) (by omega)) (fun M4 o4 => ⟨_, rfl, ?_⟩)
            rw [e4, r3.1.cat]
            have r4 := r3.cong (M' := M4) (fun o k q => o4 o k (by unfold fs_F4; unfold fs_eC at q; omega))
            have z4 : M4 245 0 = Z.2 := by rw [o4 245 0 (by unfold fs_F4; omega)]; exact z3
            have o4' : fs_out (fun o k => fs_F9 o k ∨ (o = 245 ∧ k = 0)) M M4 := o3.tr (o4.wk (fun _ _ q => Or.inl (Or.inl (fs_F4_F6 q))))
            have e474 : M4 226 47 = E 31 2 := by rw [o4 226 47 (by unfold fs_F4; omega)]; exact e47c
            refine ⟨fun c0 => nxt M4 o4' e474 ?_ ?_, fun c1 => sp_drawM ⟨_, rfl, ?_⟩⟩
            · unfold fs_kat1
              rw [if_pos (by omega), if_pos (by omega)]
              exact r4
            · unfold fs_kat1
              rw [if_pos (by omega), if_pos (by omega)]
              exact z4
            · rw [z4]
              have r5 := r4.cong (M' := fs_st M4 245 0 (fs_rnd Z.2)) (fun o k q => fs_st_o (by unfold fs_eC at q; omega))
              have o5 : fs_out (fun o k => fs_F9 o k ∨ (o = 245 ∧ k = 0)) M (fs_st M4 245 0 (fs_rnd Z.2)) := o4'.st (Or.inr ⟨rfl, rfl⟩)
              refine ⟨fun lt => nxt _ ((o5.st (Or.inl (Or.inl (by unfold fs_F6; omega)))).st (Or.inl (Or.inl (by unfold fs_F6; omega)))) ?_ ?_ ?_, fun ge => nxt _ o5 ?_ ?_ ?_⟩
              · rw [fs_st_o (by decide), fs_st_o (by decide), fs_st_o (by decide)]; exact e474
              · unfold fs_kat1
                rw [if_pos (by omega), if_neg (by omega), if_pos lt]
                exact fs_mR.cat r5
              · unfold fs_kat1
                rw [if_pos (by omega), if_neg (by omega), if_pos lt, fs_st_o (by decide), fs_st_o (by decide), fs_st_s]
              · rw [fs_st_o (by decide)]; exact e474
              · unfold fs_kat1
                rw [if_pos (by omega), if_neg (by omega), if_neg ge]
                exact r5
              · unfold fs_kat1
                rw [if_pos (by omega), if_neg (by omega), if_neg ge, fs_st_s]
          · refine nxt M3 o3 e47c ?_ ?_
            · unfold fs_kat1
              rw [if_neg (by omega)]
              exact r3
            · unfold fs_kat1
              rw [if_neg (by omega)]
              exact z3
      exact cats (E 1 5).toNat 0 M2 (by decide) B1 (by omega) o2' e47b r2 z2
  -- as planned, at the beginning
  refine E_Mo_passes (sp_asIs (fun M1 o1 h42 h43 h44 h47 hr => ⟨rfl, ?_⟩))
  have o1' : fs_out fs_F9 M M1 := o1.wk (fun _ _ q => Or.inr q)
  have E1 := fs_eC2_F9 hE o1'
  have e47 : M1 226 47 = E 31 2 := by rw [h47, hE 243 0 (Or.inr (Or.inr (by decide))), hp.1]
  have hr' : ∀ d, 0 ≤ d → d < 3 → M1 252 d = E 242 d ∧ ∀ k, 0 ≤ k → k < 9 → M1 251 (9 * d + k) = E 241 (9 * d + k) := fun d d0 d1 => by
    obtain ⟨x1, x2⟩ := hr d d0 d1
    rw [x1, hE 242 d (Or.inr (Or.inr (by decide)))]
    refine ⟨rfl, fun k k0 k1 => ?_⟩
    rw [x2 k k0 k1, hE 241 _ (Or.inr (Or.inr (by decide)))]
  obtain ⟨w1, w2⟩ := fs_rows_now hp hr' B4
  refine sp_starts hB' hT' E1.env w1 h42 h43 h44 (fun M2 o2 r2 => ⟨rfl, ?_⟩)
  have e244 : M1 244 0 = E 31 3 := by rw [E1 244 0 (Or.inr (Or.inr (by decide))), hp.2.1]
  rw [w2, e244, fs_now_mal] at r2
  refine loop 240 0 M2 (by decide) (by decide) ((o1'.wk (fun _ _ q => Or.inl q)).tr (o2.wk (fun _ _ q => Or.inl (Or.inl q)))) (by rw [o2 226 47 (by unfold fs_F6 fs_F4; omega)]; exact e47) r2 ?_
  rw [o2 245 0 (by unfold fs_F6 fs_F4; omega), o1 245 0 (by unfold fs_F8; omega)]
  rfl
end NIGHTS
