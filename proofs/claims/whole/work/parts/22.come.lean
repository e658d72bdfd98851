-- ===== comeUntil =====
theorem fs_goer {d : Int} (h0 : 0 ≤ d) (h1 : d < 3) : fs_isO 2 (51 + d) := by
  rcases (by omega : d = 0 ∨ d = 1 ∨ d = 2) with z | z | z
  · rw [z]; exact io_51
  · rw [z]; exact io_52
  · rw [z]; exact io_53
section COME
variable {g : fs_G}
theorem sp_comeUntil {E : fs_M} {K : fs_K} {pl tr rf m : Int} (hB : fs_bE E) (hP : fs_pl pl) (hm : m ≤ 240) : ∀ (n : Nat) (M : fs_M) (X : (Int → List Int) × fs_M) (x2 : Int), fs_rI E X → fs_cR E M pl tr X → M pl 2 = rf → fs_tot X ≤ n → 0 ≤ x2 → x2 + n ≤ 27 →
    (∀ M', fs_out fs_F5 M M' → fs_cR E M' pl tr (fs_go E tr rf m n X) → K none M') → fs_A2 g m_Course_comeUntil 6 2 [(0, fs_r 43), (1, fs_i m), (2, fs_i x2)] [] M K := by
  intro n
  induction n with
  | zero =>
    intro M X x2 hI hR hrf ht h20 h2n hK
    refine L_Course_comeUntil_2 ⟨fun z => absurd z (by omega), fun _ => sp_firstToCome hB hI hR ⟨_, rfl, ?_⟩⟩
    have c : ¬ X.2 0 (fs_who X.2) ≤ 240 := by
      intro c
      have := fs_tot_step (tr := tr) (rf := rf) hI c
      omega
    rw [if_neg c]
    exact ⟨fun _ => hK M fs_out.rf hR, fun z => absurd rfl z⟩
  | succ n ih =>
    intro M X x2 hI hR hrf ht h20 h2n hK
    refine L_Course_comeUntil_2 ⟨fun z => absurd z (by omega), fun _ => sp_firstToCome hB hI hR ⟨_, rfl, ?_⟩⟩
    by_cases c : X.2 0 (fs_who X.2) ≤ 240
    · rw [if_pos c]
      have hst := hI.step (tr := tr) (rf := rf) hB c
      have htt := fs_tot_step (tr := tr) (rf := rf) hI c
      obtain ⟨h9, hd, tl, hX⟩ := hI.who c
      have hf := fs_who3 X.2
      unfold fs_go at hK
      generalize hdd : fs_who X.2 = d at *
      obtain ⟨R1, R2, R3, R4, R5, R6⟩ := hR
      obtain ⟨q1, q2, q3, q4, q5, q6, q7, q8, q9, q10, q11⟩ := R4 d hf.1 h9
      obtain ⟨i1, i2, i3, i4, i5, i6, i7, i8, i9, i10, i11, i12, i13, i14, i15⟩ := hI.1 d hf.1 h9
      obtain ⟨B1, B2, B3, B4, B5, B6, B7⟩ := hB
      have p1 := hP.2
      refine ⟨fun z => absurd z (by omega), fun _ => ⟨hf.1, hf.2, ?_⟩⟩
      rw [q1]
      refine ⟨fun cm => ?_, fun cm => ?_⟩
      · rw [if_pos cm] at hK
        rw [R2, q2]
        have len1 := congrArg List.length q10
        rw [fs_lst_len, hX, List.length_cons] at len1
        have hn : (M (pl + 5) d - X.2 1 d).toNat = (M (pl + 5) d - (X.2 1 d + 1)).toNat + 1 := by omega
        rw [hn, hX] at q10
        have q10b : hd :: tl = M (pl + 2 + d) (X.2 1 d) :: fs_lst (M (pl + 2 + d)) (M (pl + 5) d - (X.2 1 d + 1)).toNat (X.2 1 d + 1) := q10
        have ehd : M (pl + 2 + d) (X.2 1 d) = hd := (List.cons.inj q10b).1.symm
        have etl := (List.cons.inj q10b).2
        rw [hX] at i15 i4
        rw [List.length_cons] at i4
        have hh := i15 hd List.mem_cons_self
        have hb := B5 hd hh.1 hh.2
        rw [ehd]
        refine ⟨hP.1, i3, by omega, hh.1, by omega, ?_⟩
        rw [fs_st_o (by omega)]
        obtain ⟨s7, s8⟩ := R5 hd hh.1 hh.2
        rw [s7]
        generalize hM2 : fs_st M (46 + d) (X.2 1 d) (X.2 0 d) = M2
        have m2o : ∀ o k, o ≠ 46 + d → M2 o k = M o k := fun o k a => by rw [← hM2, fs_st_o a]
        have E2 : fs_env E M2 := fun o k z => by
          rw [m2o o k (by unfold fs_eC at z; omega)]
          exact R1 o k z
        have goer := fs_goer hf.1 hf.2
        have vok : ∀ opn, opn = (if X.2 7 hd = -1 then 1 else 0) → fs_okN E tr opn (M2 (51 + d) 6) (M2 (51 + d) 2) (M2 (51 + d) 3) hd = fs_vok E tr d hd X.2 := fun opn ho => by
          rw [m2o _ _ (by omega), m2o _ _ (by omega), m2o _ _ (by omega), q1, q4, q5, ho]
          rfl
        -- from behind doesIt on
        have rest : ∀ opn M3, opn = (if X.2 7 hd = -1 then 1 else 0) → fs_out fs_F2 (fs_vdd E tr rf (51 + d) hd opn M2) M3 → ∀ M4, fs_out fs_F5 M M4 → (∀ o k, o ≠ 43 → o ≠ 49 → o ≠ 50 → M4 o k = M3 o k) → M4 43 1 = pl → M4 43 2 = tr →
            (∀ i, M4 49 i = (if i = hd then (if fs_vok E tr d hd X.2 = 0 then M 49 i else d) else M 49 i) ∧ M4 50 i = (if i = hd then (if fs_vok E tr d hd X.2 = 0 then M 50 i else X.2 0 d) else M 50 i)) →
            M4 43 7 = (if fs_vok E tr d hd X.2 = 0 then fs_or (M 43 7) (fs_shl 1 hd) else M 43 7) →
            fs_A2 g m_Course_comeUntil 6 137 [(0, fs_r 43), (1, fs_i m), (2, fs_i x2), (3, fs_i d), (4, fs_r (51 + d))] [] M4 K := by
          intro opn M3 ho ho3 M4 ho4 h43 f1 f2 f4950 f7
          have r4 : ∀ o k, ¬ fs_F2 o k → o ≠ 51 + d → o ≠ 46 + d → o ≠ 49 → o ≠ 50 → o ≠ 43 → M4 o k = M o k := fun o k a b c d e f => by
            rw [h43 o k f d e, ho3 o k a]
            unfold fs_vdd
            rw [if_neg b]
            exact m2o o k c
          have r51 : ∀ k, M4 (51 + d) k = fs_vdd E tr rf (51 + d) hd opn M2 (51 + d) k := fun k => by
            rw [h43 _ k (by omega) (by omega) (by omega), ho3 _ k (by unfold fs_F2; omega)]
          have r5 : M4 (51 + d) 5 = X.2 1 d := by
            rw [r51]
            unfold fs_vdd
            simp only [if_true, reduceIte, show ¬ (5 : Int) = 0 by decide, show ¬ (5 : Int) = 1 by decide, show ¬ (5 : Int) = 2 by decide, show ¬ (5 : Int) = 3 by decide, show ¬ (5 : Int) = 4 by decide]
            rw [m2o _ _ (by omega), q2]
          have rlen : M4 (pl + 5) d = M (pl + 5) d := r4 _ _ (by unfold fs_F2; omega) (by omega) (by omega) (by omega) (by omega) (by omega)
          have rrow : ∀ k, M4 (pl + 2 + d) k = M (pl + 2 + d) k := fun k => r4 _ _ (by unfold fs_F2; omega) (by omega) (by omega) (by omega) (by omega) (by omega)
          have r46 : ∀ k, M4 (46 + d) k = if k = X.2 1 d then X.2 0 d else M (46 + d) k := fun k => by
            rw [h43 _ k (by omega) (by omega) (by omega), ho3 _ k (by unfold fs_F2; omega)]
            unfold fs_vdd
            rw [if_neg (by omega), ← hM2]
            by_cases z : k = X.2 1 d
            · rw [if_pos z, z, fs_st_s]
            · rw [if_neg z, fs_st_k z]
          refine L_Course_comeUntil_137 goer ⟨by rw [f1]; exact hP.1, ?_⟩
          rw [f1, r5, fs_w32_of (by omega) (by omega)]
          generalize hM5 : fs_st M4 (51 + d) 5 (X.2 1 d + 1) = M5
          have m5o : ∀ o k, (o ≠ 51 + d ∨ k ≠ 5) → M5 o k = M4 o k := fun o k a => by
            rw [← hM5]
            rcases a with a | a
            · exact fs_st_o a
            · exact fs_st_k a
          have m55 : M5 (51 + d) 5 = X.2 1 d + 1 := by rw [← hM5, fs_st_s]
          have E5 : fs_env E M5 := fun o k z => by
            rw [m5o o k (Or.inl (by unfold fs_eC at z; omega)), r4 o k (by unfold fs_eC at z; unfold fs_F2; omega) (by unfold fs_eC at z; omega) (by unfold fs_eC at z; omega) (by unfold fs_eC at z; omega) (by unfold fs_eC at z; omega) (by unfold fs_eC at z; omega)]
            exact R1 o k z
          have val : ∀ c, c = 0 ∨ c = 2 ∨ c = 3 ∨ c = 1 ∨ c = 4 → M5 (51 + d) c = fs_stp E tr rf d hd tl X.2 (if c = 6 then 0 else if c = 0 then 2 else if c = 2 then 3 else if c = 3 then 4 else if c = 1 then 5 else 6) d := by
            intro c hc
            rw [m5o _ _ (Or.inr (by omega)), r51]
            have ho' := ho
            unfold fs_vdd
            rw [m2o (51 + d) 6 (by omega), m2o (51 + d) 2 (by omega), m2o (51 + d) 3 (by omega), m2o (51 + d) 4 (by omega), q1, q4, q5, q7, if_pos rfl, ho']
            rcases hc with z | z | z | z | z
            · rw [z]
              rw [fs_stp_d (by decide) (by decide) hf.1]
              rfl
            · rw [z]
              rw [fs_stp_d (by decide) (by decide) hf.1]
              rfl
            · rw [z]
              rw [fs_stp_d (by decide) (by decide) hf.1]
              rfl
            · rw [z]
              rw [fs_stp_d (by decide) (by decide) hf.1]
              rfl
            · rw [z]
              rw [fs_stp_d (by decide) (by decide) hf.1]
              rfl
          -- the last leg
          have leg : ∀ nxt, (nxt = -1 ∧ tl = [] ∨ ∃ t2, tl = nxt :: t2) → fs_C2 g m_Course_setOut 5 [fs_r 43, fs_r (51 + d), fs_i nxt] M5 (fun v M6 => v = none ∧ fs_A2 g m_Course_comeUntil 6 2 [(0, fs_r 43), (1, fs_i m), (2, fs_i (fs_w32 (x2 + 1)))] [] M6 K) := by
            intro nxt hnx
            have lb := fs_vlv_b (E := E) (tr := tr) (rf := rf) (opn := if X.2 7 hd = -1 then 1 else 0) (t := X.2 0 d) (glass := X.2 3 d) (coal := X.2 4 d) (h := hd)
            have v0 : M5 (51 + d) 0 = E 3 hd := by rw [val 0 (by decide), fs_stp_d (by decide) (by decide) hf.1]; rfl
            have v1 : M5 (51 + d) 1 = fs_vlv E tr rf (if X.2 7 hd = -1 then 1 else 0) (X.2 0 d) (X.2 3 d) (X.2 4 d) hd := by rw [val 1 (by decide), fs_stp_d (by decide) (by decide) hf.1]; rfl
            have v2 : M5 (51 + d) 2 = fs_vgl E tr rf (if X.2 7 hd = -1 then 1 else 0) (X.2 0 d) (X.2 3 d) (X.2 4 d) hd := by rw [val 2 (by decide), fs_stp_d (by decide) (by decide) hf.1]; rfl
            have v3 : M5 (51 + d) 3 = fs_vco E tr (if X.2 7 hd = -1 then 1 else 0) (X.2 0 d) (X.2 3 d) (X.2 4 d) hd := by rw [val 3 (by decide), fs_stp_d (by decide) (by decide) hf.1]; rfl
            refine sp_setOut goer (by omega) (by omega) E5 (B7 0 (by decide) (by decide)) (by rw [m5o _ _ (Or.inl (by omega)), f2]) (fun z => ?_) (fun M6 ho6 => ⟨rfl, ?_⟩)
            · rcases hnx with ⟨z2, _⟩ | ⟨t2, z2⟩
              · exact absurd z2 z
              · have hn2 := i15 nxt (by rw [z2]; exact List.mem_cons_of_mem _ List.mem_cons_self)
                have hb2 := B5 nxt hn2.1 hn2.2
                exact ⟨hn2.1, by omega, by omega, by omega, by omega, by omega, by omega, by omega⟩
            · rw [fs_w32_of (by omega) (by omega)]
              have r6 : ∀ o k, ¬ fs_F2 o k → (o ≠ 51 + d ∨ k ≠ 6) → ∀ v, fs_st M6 (51 + d) 6 v o k = M5 o k := fun o k a b v => by
                rcases b with b | b
                · rw [fs_st_o b, ho6 o k a]
                · rw [fs_st_k b, ho6 o k a]
              have nx : (if nxt = -1 then 1000 else fs_comes E tr nxt (M5 (51 + d) 0) (M5 (51 + d) 1) (M5 (51 + d) 2) (M5 (51 + d) 3)) = fs_stp E tr rf d hd tl X.2 0 d := by
                rw [fs_stp_d (by decide) (by decide) hf.1, if_pos rfl, v0, v1, v2, v3]
                rcases hnx with ⟨z2, z3⟩ | ⟨t2, z2⟩
                · rw [if_pos z2, z3]
                  rfl
                · have hn2 := i15 nxt (by rw [z2]; exact List.mem_cons_of_mem _ List.mem_cons_self)
                  rw [if_neg (by omega), z2]
                  rfl
              rw [nx]
              have outF : fs_out fs_F5 M (fs_st M6 (51 + d) 6 (fs_stp E tr rf d hd tl X.2 0 d)) := by
                refine fs_out.st (fs_out.tr (fs_out.tr ho4 ?_) (ho6.wk (fun _ _ => fs_F2_F5))) (by unfold fs_F5; omega)
                rw [← hM5]
                exact fs_out.rf.st (by unfold fs_F5; omega)
              have cr : fs_cR E (fs_st M6 (51 + d) 6 (fs_stp E tr rf d hd tl X.2 0 d)) pl tr (fs_step E tr rf X) := by
                refine fs_cR.step (d := d) (h := hd) (tl := tl) B4 hP ⟨R1, R2, R3, R4, R5, R6⟩ hf.1 hf.2 h9 hdd hX (fs_F5_env R1 outF) (fun o k a b c2 c3 c4 c5 => ?_) ⟨?_, fun c hc => ?_⟩ (fun k => ?_) (fun i => ⟨?_, ?_⟩) ?_ ?_ ?_
                · rw [r6 o k a (Or.inl b), m5o o k (Or.inl b)]
                  exact r4 o k a b c2 c3 c4 c5
                · rw [r6 _ _ (by unfold fs_F2; omega) (Or.inr (by decide)), m55]
                · by_cases z : c = 6
                  · rw [z, fs_st_s]
                    rfl
                  · rw [r6 _ _ (by unfold fs_F2; omega) (Or.inr z)]
                    exact val c (by omega)
                · rw [r6 _ _ (by unfold fs_F2; omega) (Or.inl (by omega)), m5o _ _ (Or.inl (by omega))]
                  exact r46 k
                · rw [r6 _ _ (by unfold fs_F2; omega) (Or.inl (by omega)), m5o _ _ (Or.inl (by omega))]
                  exact (f4950 i).1
                · rw [r6 _ _ (by unfold fs_F2; omega) (Or.inl (by omega)), m5o _ _ (Or.inl (by omega))]
                  exact (f4950 i).2
                · rw [r6 _ _ (by unfold fs_F2; omega) (Or.inl (by omega)), m5o _ _ (Or.inl (by omega))]
                  exact f1
                · rw [r6 _ _ (by unfold fs_F2; omega) (Or.inl (by omega)), m5o _ _ (Or.inl (by omega))]
                  exact f2
                · rw [r6 _ _ (by unfold fs_F2; omega) (Or.inl (by omega)), m5o _ _ (Or.inl (by omega))]
                  exact f7
              refine ih _ _ _ hst cr ?_ (by omega) (by omega) (by omega) (fun M' ho' hR' => hK M' (outF.tr ho') hR')
              rw [outF pl 2 (by unfold fs_F5 fs_F2; omega)]
              exact hrf
          refine E_Plan_houseOf hP.1 ⟨hf.1, hf.2, fun z => ?_, fun z => ⟨by omega, by rw [m5o _ _ (Or.inl (by omega)), rlen] at z; omega, ?_⟩⟩
          · rw [m5o _ _ (Or.inl (by omega)), rlen] at z
            refine ⟨_, rfl, leg (-1) (Or.inl ⟨rfl, ?_⟩)⟩
            rw [etl, (by omega : (M (pl + 5) d - (X.2 1 d + 1)).toNat = 0)]
            rfl
          · rw [m5o _ _ (Or.inl (by omega)), rlen] at z
            refine ⟨_, rfl, leg _ (Or.inr ⟨fs_lst (M (pl + 2 + d)) (M (pl + 5) d - (X.2 1 d + 1) - 1).toNat (X.2 1 d + 1 + 1), ?_⟩)⟩
            rw [m5o _ _ (Or.inl (by omega)), rrow, etl, (by omega : (M (pl + 5) d - (X.2 1 d + 1)).toNat = (M (pl + 5) d - (X.2 1 d + 1) - 1).toNat + 1)]
            rfl
        -- doesIt
        have does : ∀ opn, opn = (if X.2 7 hd = -1 then 1 else 0) → fs_A2 g m_Course_comeUntil 6 95 [(0, fs_r 43), (1, fs_i m), (2, fs_i x2), (3, fs_i d), (4, fs_r (51 + d)), (5, fs_i hd)] [fs_i opn, fs_i hd, fs_r (51 + d), fs_r 43] M2 K := by
          intro opn ho
          refine L_Course_comeUntil_95 goer goer ?_
          have m2q : ∀ k, M2 (51 + d) k = M (51 + d) k := fun k => m2o _ k (by omega)
          refine sp_doesIt (pl := pl) (rf := rf) (tr := tr) goer (by omega) (by omega) E2 B7 (by rw [m2o _ _ (by omega)]; exact R3) (by rw [m2o _ _ (by omega)]; exact R2) hP.1 (by omega) (by omega) (by rw [m2o _ _ (by omega)]; exact hrf) hh.1 (by omega) (by rw [m2q, q1]; omega) (by rw [m2q, q1]; omega) (by rw [m2q, q4]; omega) (by rw [m2q, q4]; omega) (by rw [m2q, q5]; omega) (by rw [m2q, q5]; omega) (by rw [m2q, q7]; omega) (by rw [m2q, q7]; omega) (fun M3 ho3 => ⟨_, rfl, ?_⟩)
          rw [vok opn ho]
          have r3 : ∀ o k, ¬ fs_F2 o k → o ≠ 51 + d → o ≠ 46 + d → M3 o k = M o k := fun o k a b c => by
            rw [ho3 o k a]
            unfold fs_vdd
            rw [if_neg b]
            exact m2o o k c
          have r351 : M3 (51 + d) 6 = X.2 0 d := by
            rw [ho3 _ _ (by unfold fs_F2; omega)]
            unfold fs_vdd
            simp only [if_true, reduceIte, show ¬ (6 : Int) = 0 by decide, show ¬ (6 : Int) = 1 by decide, show ¬ (6 : Int) = 2 by decide, show ¬ (6 : Int) = 3 by decide, show ¬ (6 : Int) = 4 by decide]
            rw [m2q, q1]
          have o3 : fs_out fs_F5 M M3 := by
            intro o k nF
            have nF' : ¬ fs_F2 o k ∧ o ≠ 51 + d ∧ o ≠ 46 + d := ⟨fun z => nF (Or.inl z), fun z => nF (Or.inr (Or.inl (by omega))), fun z => nF (Or.inr (Or.inl (by omega)))⟩
            exact r3 o k nF'.1 nF'.2.1 nF'.2.2
          have g43 : ∀ k, M3 43 k = M 43 k := fun k => r3 43 k (by unfold fs_F2; omega) (by omega) (by omega)
          have g49 : ∀ k, M3 49 k = M 49 k := fun k => r3 49 k (by unfold fs_F2; omega) (by omega) (by omega)
          have g50 : ∀ k, M3 50 k = M 50 k := fun k => r3 50 k (by unfold fs_F2; omega) (by omega) (by omega)
          refine ⟨fun z => ?_, fun z => ⟨hh.1, by omega, ?_⟩⟩
          · rw [g43]
            refine rest opn M3 ho ho3 _ (o3.st (by unfold fs_F5; omega)) (fun o k a b c => fs_st_o a) (by rw [fs_st_k (by decide), g43]; exact R2) (by rw [fs_st_k (by decide), g43]; exact R3) (fun i => ⟨?_, ?_⟩) ?_
            · rw [fs_st_o (by decide), g49, if_pos z]
              split <;> rfl
            · rw [fs_st_o (by decide), g50, if_pos z]
              split <;> rfl
            · rw [fs_st_s, if_pos z]
          · rw [fs_st_o (by omega), r351]
            refine rest opn M3 ho ho3 _ ((o3.st (by unfold fs_F5; omega)).st (by unfold fs_F5; omega)) (fun o k a b c => by rw [fs_st_o c, fs_st_o b]) (by rw [fs_st_o (by decide), fs_st_o (by decide), g43]; exact R2) (by rw [fs_st_o (by decide), fs_st_o (by decide), g43]; exact R3) (fun i => ⟨?_, ?_⟩) ?_
            · rw [fs_st_o (by decide), if_neg z]
              by_cases w : i = hd
              · rw [w, fs_st_s, if_pos rfl]
              · rw [fs_st_k w, g49, if_neg w]
            · rw [if_neg z]
              by_cases w : i = hd
              · rw [w, fs_st_s, if_pos rfl]
              · rw [fs_st_k w, fs_st_o (by decide), g50, if_neg w]
            · rw [fs_st_o (by decide), fs_st_o (by decide), g43, if_neg z]
        exact ⟨fun z => does 0 (by rw [if_neg z]), fun z => does 1 (by rw [if_pos z])⟩
      · rw [if_neg cm] at hK
        exact hK M fs_out.rf ⟨R1, R2, R3, R4, R5, R6⟩
    · rw [if_neg c]
      unfold fs_go at hK
      rw [if_neg (by omega)] at hK
      exact ⟨fun _ => hK M fs_out.rf hR, fun z => absurd rfl z⟩
end COME
