-- ===== the model: starts, walks =====
theorem fs_bit01 (x i : Int) : fs_bit x i = 0 ∨ fs_bit x i = 1 := by
  unfold fs_bit fs_and
  generalize Int32.ofInt (fs_shr x i) = y
  have e : (y &&& Int32.ofInt 1).toBitVec = BitVec.setWidth 32 (BitVec.ofBool (y.toBitVec.getLsbD 0)) := by
    show y.toBitVec &&& 1#32 = _
    exact BitVec.and_one_eq_setWidth_ofBool_getLsbD
  show (y &&& Int32.ofInt 1).toBitVec.toInt = 0 ∨ (y &&& Int32.ofInt 1).toBitVec.toInt = 1
  rw [e]
  cases y.toBitVec.getLsbD 0
  · exact Or.inl rfl
  · exact Or.inr rfl
def fs_gone4 (E : fs_M) (tr ta d : Int) : Prop := ¬ (0 ≤ d ∧ d < E 1 9) ∨ (tr = 4 ∧ ta = d)
def fs_mrows (E M : fs_M) (tr ta wo d : Int) : List Int := if 0 ≤ d ∧ d < E 1 9 ∧ ¬ (tr = 4 ∧ ta = d) then fs_kp tr ta wo (fs_left M d 0) else []
def fs_mal (E : fs_M) (tr ta wo out h : Int) : Int := if fs_gn tr ta wo h = true then 0 else fs_alone E tr out h
theorem fs_rw.rows {E M : fs_M} {tr ta wo : Int} (h : fs_rw E M) : fs_bR E (fs_mrows E M tr ta wo) := by
  refine ⟨fun d d0 d1 => ?_, fun d d0 d1 d2 => ?_⟩
  · obtain ⟨a, b, c⟩ := h d d0 d1
    unfold fs_mrows
    split
    · unfold fs_kp
      refine ⟨?_, fun x hx => ?_⟩
      · have := List.length_filter_le (fun h => !fs_gn tr ta wo h) (fs_left M d 0)
        have e : (fs_left M d 0).length = (M 252 d - 0).toNat := fs_lst_len _ _ _
        omega
      · have hx2 := (List.mem_filter.1 hx).1
        obtain ⟨k, k0, k1, e⟩ := fs_lst_mem hx2
        rw [← e]
        have := c (k - 9 * d) (by omega) (by omega)
        rw [show 9 * d + (k - 9 * d) = k by omega] at this
        exact this
    · exact ⟨Nat.zero_le _, fun x hx => by cases hx⟩
  · unfold fs_mrows
    rw [if_neg (by omega)]
section MOWALKS
variable {g : fs_G}
theorem sp_walksLoop {E : fs_M} {K : fs_K} {tr ta wo rf m : Int} (hB : fs_bE E) (hT : fs_rt E) (hm : m ≤ 240) : ∀ (n : Nat) (M : fs_M) (X : (Int → List Int) × fs_M), fs_rI E X → fs_mR E M tr ta wo X → M 226 47 = rf → fs_tot X ≤ n →
    (∀ M', fs_out fs_F6 M M' → fs_rI E (fs_go E tr rf m n X) → fs_mR E M' tr ta wo (fs_go E tr rf m n X) → K none M') → fs_A2 g m_Mo_walks 8 9 [(0, fs_r 226), (1, fs_i m), (2, fs_i (fs_who X.2))] [] M K := by
  intro n
  induction n with
  | zero =>
    intro M X hI hR hrf ht hK
    have hf := fs_who3 X.2
    have c : ¬ X.2 0 (fs_who X.2) ≤ 240 := by
      intro c
      have := fs_tot_step (tr := tr) (rf := rf) hI c
      omega
    have c4 := hR.2.2.2.1 _ hf.1 hf.2
    refine L_Mo_walks_9 ⟨hf.1, hf.2, fun _ => hK M fs_out.rf hI hR, fun z => absurd z (by omega)⟩
  | succ n ih =>
    intro M X hI hR hrf ht hK
    have hf := fs_who3 X.2
    have c4 := hR.2.2.2.1 _ hf.1 hf.2
    unfold fs_go at hK
    refine L_Mo_walks_9 ⟨hf.1, hf.2, fun z => ?_, fun z => ?_⟩
    · rw [if_neg (by omega)] at hK
      exact hK M fs_out.rf hI hR
    · have c : X.2 0 (fs_who X.2) ≤ m := by omega
      rw [if_pos c] at hK
      have c' : X.2 0 (fs_who X.2) ≤ 240 := by omega
      have hst := hI.step (tr := tr) (rf := rf) hB c'
      have htt := fs_tot_step (tr := tr) (rf := rf) hI c'
      refine sp_arrives (rf := rf) hB hT hI hR hrf c' (fun M1 o1 r1 => ⟨rfl, ?_⟩)
      refine sp_next hst r1 ⟨_, rfl, ?_⟩
      refine ih M1 _ hst r1 (by rw [o1 226 47 (by unfold fs_F6 fs_F4; omega)]; exact hrf) (by omega) (fun M2 o2 i2 r2 => hK M2 (o1.tr o2) i2 r2)
theorem sp_starts {E M : fs_M} {K : fs_K} {tr ta wo : Int} (hB : fs_bE E) (hT : fs_rt E) (hE : fs_env E M) (hw : fs_rw E M) (h1 : M 226 42 = tr) (h2 : M 226 43 = ta) (h3 : M 226 44 = wo)
    (hK : ∀ M', fs_out fs_F6 M M' → fs_mR E M' tr ta wo (fs_mrows E M tr ta wo, fs_S0 E tr (fs_mal E tr ta wo (M 244 0)) (fs_mrows E M tr ta wo)) → K none M') : fs_C2 g m_Mo_starts 7 [fs_r 226] M K := by
  have hB' := hB
  have hT' := hT
  obtain ⟨B1, B2, B3, B4, B5, B6, B7⟩ := hB
  obtain ⟨T1, T2, T3, T4, T5⟩ := hT
  have lim : ∀ x : Int, 0 ≤ x → x ≤ 1000 → fs_lim x := fun x x0 x1 => by unfold fs_lim; omega
  -- the darks
  have darks : ∀ (n : Nat) (i : Int) (M1 : fs_M), 0 ≤ i → i ≤ 3 → 3 - i = n → fs_out fs_F6 M M1 → M1 226 56 = 0 → (∀ j, 0 ≤ j → j < E 1 5 → M1 261 j = (if fs_mal E tr ta wo (M 244 0) j = 0 then -1 else -2) ∧ M1 262 j = (if fs_mal E tr ta wo (M 244 0) j = 0 then -1 else 1)) →
      (∀ j, 0 ≤ j → j < i → M1 257 j = min 241 (fs_S0 E tr (fs_mal E tr ta wo (M 244 0)) (fs_mrows E M tr ta wo) 0 j)) →
      (∀ j, 0 ≤ j → j < i → j < E 1 9 → M1 254 j = E 7 j ∧ M1 255 j = 0 ∧ M1 256 j = E 8 j ∧ M1 259 j = 1 ∧ M1 260 j = 0 ∧ (tr = 4 ∧ ta = j → fs_mrows E M tr ta wo j = []) ∧ (¬ (tr = 4 ∧ ta = j) → 0 ≤ M1 253 j ∧ M1 253 j ≤ M1 252 j ∧
        (fs_mrows E M tr ta wo j ≠ [] → M1 253 j < M1 252 j ∧ fs_gn tr ta wo (M1 251 (9 * j + M1 253 j)) = false) ∧ fs_mrows E M tr ta wo j = fs_kp tr ta wo (fs_left M1 j (M1 253 j)) ∧
        ((∀ h, 0 ≤ h → h < E 1 5 → fs_gn tr ta wo h = false) → M1 253 j = 0 ∧ M1 258 j = fs_lc 0))) →
      fs_A2 g m_Mo_starts 7 118 [(0, fs_r 226), (1, fs_i i)] [] M1 K := by
    intro n
    induction n with
    | zero =>
      intro i M1 i0 i1 hn o1 h56 hh hc hd
      refine L_Mo_starts_118 ⟨fun _ => ?_, fun z => absurd z (by omega)⟩
      refine hK M1 o1 ⟨fs_F6_env hE o1, ⟨by rw [o1 226 42 (by unfold fs_F6 fs_F4; omega)]; exact h1, by rw [o1 226 43 (by unfold fs_F6 fs_F4; omega)]; exact h2, by rw [o1 226 44 (by unfold fs_F6 fs_F4; omega)]; exact h3⟩, hw.cong (fs_F6_rows o1), fun j j0 j1 => hc j j0 (by omega), fun j j0 j1 => hd j j0 (by omega) j1, fun j j0 j1 => fs_S0_78 (E := E) (tr := tr) (R := fs_mrows E M tr ta wo) j0 (by omega) (hh j j0 j1), h56⟩
    | succ n ih =>
      intro i M1 i0 i1 hn o1 h56 hh hc hd
      refine L_Mo_starts_118 ⟨fun z => absurd z (by omega), fun _ => ⟨i0, ?_⟩⟩
      generalize hM2 : fs_st (fs_st (fs_st (fs_st (fs_st (fs_st (fs_st M1 257 i 241) 258 i (-2)) 259 i 1) 260 i 0) 254 i (M1 235 i)) 255 i 0) 256 i (M1 236 i) = M2
      have m2 : ∀ o k, (k ≠ i ∨ o < 254 ∨ 260 < o) → M2 o k = M1 o k := fun o k q => by
        rw [← hM2]
        rcases q with q | q
        · simp only [fs_st_k q]
        · rw [fs_st_o (by omega), fs_st_o (by omega), fs_st_o (by omega), fs_st_o (by omega), fs_st_o (by omega), fs_st_o (by omega), fs_st_o (by omega)]
      have v57 : M2 257 i = 241 := by rw [← hM2]; simp [fs_st]
      have v58 : M2 258 i = -2 := by rw [← hM2]; simp [fs_st]
      have v59 : M2 259 i = 1 := by rw [← hM2]; simp [fs_st]
      have v60 : M2 260 i = 0 := by rw [← hM2]; simp [fs_st]
      have v54 : M2 254 i = M1 235 i := by rw [← hM2]; simp [fs_st]
      have v55 : M2 255 i = 0 := by rw [← hM2]; simp [fs_st]
      have v56 : M2 256 i = M1 236 i := by rw [← hM2]; simp [fs_st]
      have o2 : fs_out fs_F6 M M2 := fun o k nF => by
        rw [m2 o k (Or.inr (by unfold fs_F6 at nF; omega))]
        exact o1 o k nF
      have rows2 := fs_F6_rows o2
      have e228 : M2 228 1 = E 1 9 := by rw [fs_F6_env hE o2 228 1 (by unfold fs_eC; omega), T2]
      have s42 : M2 226 42 = tr := by rw [o2 226 42 (by unfold fs_F6 fs_F4; omega), h1]
      have s43 : M2 226 43 = ta := by rw [o2 226 43 (by unfold fs_F6 fs_F4; omega), h2]
      have s44 : M2 226 44 = wo := by rw [o2 226 44 (by unfold fs_F6 fs_F4; omega), h3]
      -- nothing for this one
      have none_ : fs_mrows E M tr ta wo i = [] → (i < E 1 9 → tr = 4 ∧ ta = i) → fs_A2 g m_Mo_starts 7 118 [(0, fs_r 226), (1, fs_i (fs_w32 (i + 1)))] [] M2 K := by
        intro hr hi
        rw [fs_w32_of (by omega) (by omega)]
        refine ih (i + 1) M2 (by omega) (by omega) (by omega) o2 (by rw [m2 _ _ (Or.inr (Or.inl (by decide)))]; exact h56) (fun j j0 j1 => by rw [m2 _ _ (Or.inr (Or.inr (by decide))), m2 _ _ (Or.inr (Or.inr (by decide)))]; exact hh j j0 j1) (fun j j0 j1 => ?_) (fun j j0 j1 j2 => ?_)
        · by_cases c : j = i
          · rw [c, v57]
            show 241 = min 241 (fs_nx E tr (fs_mrows E M tr ta wo i) (E 7 i) 1 0 (E 8 i))
            rw [hr]
            rfl
          · rw [m2 _ _ (Or.inl c)]
            exact hc j j0 (by omega)
        · by_cases c : j = i
          · rw [c] at j2 ⊢
            have hg := hi j2
            obtain ⟨t6, t7⟩ := T4 i i0 j2
            have E1 := fs_F6_env hE o1
            rw [v54, v55, v56, v59, v60, E1 235 i (by unfold fs_eC; omega), E1 236 i (by unfold fs_eC; omega)]
            exact ⟨t6, rfl, t7, rfl, rfl, fun _ => hr, fun z => absurd hg z⟩
          · rw [m2 _ _ (Or.inl c), m2 _ _ (Or.inl c), m2 _ _ (Or.inl c), m2 _ _ (Or.inl c), m2 _ _ (Or.inl c), m2 _ _ (Or.inl c), m2 _ _ (Or.inl c), m2 _ _ (Or.inl c), m2 251 _ (Or.inr (Or.inl (by decide))), fs_left_cong (fun o k q => m2 o k (Or.inr (Or.inl (by omega))))]
            exact hd j j0 (by omega) j2
      -- this one goes
      have some_ : i < E 1 9 → ¬ (tr = 4 ∧ ta = i) → fs_A2 g m_Mo_starts 7 212 [(0, fs_r 226), (1, fs_i i)] [] M2 K := by
        intro hi hg
        obtain ⟨t6, t7⟩ := T4 i i0 hi
        obtain ⟨c1, c2, c3, c4⟩ := B6 i i0 hi
        have E1 := fs_F6_env hE o1
        refine L_Mo_starts_212 ⟨i0, by omega, ?_⟩
        generalize hM3 : fs_st M2 253 i 0 = M3
        have m3 : ∀ o k, (o ≠ 253 ∨ k ≠ i) → M3 o k = M2 o k := fun o k q => by
          rw [← hM3]
          rcases q with q | q
          · exact fs_st_o q
          · exact fs_st_k q
        have m33 : M3 253 i = 0 := by rw [← hM3, fs_st_s]
        have o3 : fs_out fs_F6 M M3 := by
          rw [← hM3]
          exact o2.st (by unfold fs_F6; omega)
        have rows3 := fs_F6_rows o3
        obtain ⟨w1, w2, w3⟩ := hw i i0 hi
        have u4 : M3 254 i = E 7 i := by rw [m3 _ _ (Or.inl (by decide)), v54, E1 235 i (by unfold fs_eC; omega), t6]
        have u5 : M3 255 i = 0 := by rw [m3 _ _ (Or.inl (by decide)), v55]
        have u6 : M3 256 i = E 8 i := by rw [m3 _ _ (Or.inl (by decide)), v56, E1 236 i (by unfold fs_eC; omega), t7]
        refine sp_leaves (tr := tr) (ta := ta) (wo := wo) hB' hT' (fs_F6_env hE o3) (by rw [m3 _ _ (Or.inl (by decide))]; exact s42) (by rw [m3 _ _ (Or.inl (by decide))]; exact s43) (by rw [m3 _ _ (Or.inl (by decide))]; exact s44) (hw.cong rows3) i0 hi (by decide) (by decide) (by omega) (by rw [m33, rows3 252 i (by decide)]; exact w1) (by omega) (by omega) (by omega) (by omega) (by omega) (by omega) (fun M4 a o4 g1 g2 g3 g4 g5 g6 g7 => ⟨rfl, ?_⟩)
        rw [u4, u5, u6, fs_left_cong rows3] at g7
        rw [m33, fs_left_cong rows3, fs_left_cong rows3] at g4
        rw [fs_left_cong rows3, rows3 252 i (by decide), rows3 251 _ (by decide)] at g5
        rw [m33] at g2 g6
        rw [rows3 252 i (by decide)] at g3
        have er : fs_mrows E M tr ta wo i = fs_kp tr ta wo (fs_left M i a) := by
          unfold fs_mrows
          rw [if_pos ⟨i0, hi, hg⟩]
          exact g4
        rw [← er] at g7
        have r4 : ∀ o k, ¬ fs_F4 o k → (k ≠ i ∨ (o ≠ 253 ∧ o ≠ 257)) → M4 o k = M2 o k := fun o k a b => by
          have e : M4 o k = M3 o k := o4 o k (fun z => by
            rcases z with z | ⟨z, z2⟩ | ⟨z, z2⟩
            · exact a z
            · omega
            · omega)
          rw [e, m3 o k (by omega)]
        have o4' : fs_out fs_F6 M M4 := o3.tr (o4.wk (fun o k q => by
          have q2 : fs_F4 o k ∨ (o = 253 ∧ k = i) ∨ (o = 257 ∧ k = i) := q
          rcases q2 with q2 | q2 | q2
          · exact Or.inl q2
          · unfold fs_F6; omega
          · unfold fs_F6; omega))
        have rows4 := fs_F6_rows o4'
        rw [fs_w32_of (by omega) (by omega)]
        refine ih (i + 1) M4 (by omega) (by omega) (by omega) o4' (by rw [r4 226 56 (by unfold fs_F4; omega) (Or.inr (by decide)), m2 _ _ (Or.inr (Or.inl (by decide)))]; exact h56) (fun j j0 j1 => by rw [r4 261 j (by unfold fs_F4; omega) (Or.inr (by decide)), r4 262 j (by unfold fs_F4; omega) (Or.inr (by decide)), m2 _ _ (Or.inr (Or.inr (by decide))), m2 _ _ (Or.inr (Or.inr (by decide)))]; exact hh j j0 j1) (fun j j0 j1 => ?_) (fun j j0 j1 j2 => ?_)
        · by_cases c : j = i
          · rw [c, g7]
            rfl
          · rw [r4 257 j (by unfold fs_F4; omega) (Or.inl c), m2 _ _ (Or.inl c)]
            exact hc j j0 (by omega)
        · by_cases c : j = i
          · rw [c]
            have v : ∀ o, 254 ≤ o → o ≤ 260 → o ≠ 257 → M4 o i = M2 o i := fun o a b e => r4 o i (by unfold fs_F4; omega) (Or.inr (by omega))
            have x4 : M2 254 i = E 7 i := by rw [← m3 254 i (Or.inl (by decide))]; exact u4
            have x6 : M2 256 i = E 8 i := by rw [← m3 256 i (Or.inl (by decide))]; exact u6
            rw [v 254 (by decide) (by decide) (by decide), v 255 (by decide) (by decide) (by decide), v 256 (by decide) (by decide) (by decide), v 258 (by decide) (by decide) (by decide), v 259 (by decide) (by decide) (by decide), v 260 (by decide) (by decide) (by decide), x4, x6, v55, v58, v59, v60, g1, rows4 252 i (by decide), rows4 251 _ (by decide), fs_left_cong rows4]
            refine ⟨rfl, rfl, rfl, rfl, rfl, fun z => absurd z hg, fun _ => ⟨by omega, by omega, fun z => g5 (by rw [← er]; exact z), er, fun z => ⟨g6 z, rfl⟩⟩⟩
          · have v : ∀ o, 251 ≤ o → o ≤ 260 → M4 o j = M1 o j := fun o a b => by
              rw [r4 o j (by unfold fs_F4; omega) (Or.inl c), m2 _ _ (Or.inl c)]
            rw [v 254 (by decide) (by decide), v 255 (by decide) (by decide), v 256 (by decide) (by decide), v 258 (by decide) (by decide), v 259 (by decide) (by decide), v 260 (by decide) (by decide), v 253 (by decide) (by decide), v 252 (by decide) (by decide), rows4 251 _ (by decide), ← (fs_F6_rows o1) 251 _ (by decide), fs_left_cong (M := M1) (M' := M4) (fun o k q => by rw [rows4 o k q, (fs_F6_rows o1) o k q])]
            exact hd j j0 (by omega) j2
      refine E_Mo_isDark ⟨fun z => absurd z (by omega), fun _ => ⟨fun z => ?_, fun z => ?_⟩⟩
      · rw [e228] at z
        refine ⟨_, rfl, fun _ => none_ ?_ (fun q => absurd q (by omega)), fun w => absurd rfl w⟩
        unfold fs_mrows
        rw [if_neg (by omega)]
      · rw [e228] at z
        refine ⟨_, rfl, fun w => absurd w (by decide), fun _ => ?_⟩
        rw [s42, s43]
        refine ⟨fun w => some_ (by omega) (by omega), fun w => ⟨fun w2 => some_ (by omega) (by omega), fun w2 => none_ ?_ (fun _ => ⟨w, w2⟩)⟩⟩
        unfold fs_mrows
        rw [if_neg (by omega)]
  -- the houses that are done without anyone
  have alone : ∀ (n : Nat) (i : Int) (M1 : fs_M), 0 ≤ i → i ≤ E 1 5 → E 1 5 - i = n → fs_out fs_F6 M M1 → (∀ j, 0 ≤ j → j < i → M1 261 j = (if fs_mal E tr ta wo (M 244 0) j = 0 then -1 else -2) ∧ M1 262 j = (if fs_mal E tr ta wo (M 244 0) j = 0 then -1 else 1)) → (∀ j, i ≤ j → j < E 1 5 → M1 261 j = -1 ∧ M1 262 j = -1) →
      fs_A2 g m_Mo_starts 7 30 [(0, fs_r 226), (1, fs_i i)] [] M1 K := by
    intro n
    induction n with
    | zero =>
      intro i M1 i0 i1 hn o1 hd hr
      have e228 : M1 228 0 = E 1 5 := by rw [fs_F6_env hE o1 228 0 (by unfold fs_eC; omega), T1]
      refine L_Mo_starts_30 ⟨fun _ => ?_, fun z => absurd z (by omega)⟩
      refine darks 3 0 _ (by decide) (by decide) (by decide) (o1.st (by unfold fs_F6; omega)) (by rw [fs_st_s]) (fun j j0 j1 => by rw [fs_st_o (by decide), fs_st_o (by decide)]; exact hd j j0 (by omega)) (fun j j0 j1 => by omega) (fun j j0 j1 => by omega)
    | succ n ih =>
      intro i M1 i0 i1 hn o1 hd hr
      have e228 : M1 228 0 = E 1 5 := by rw [fs_F6_env hE o1 228 0 (by unfold fs_eC; omega), T1]
      have e244 : M1 244 0 = M 244 0 := o1 244 0 (by unfold fs_F6 fs_F4; omega)
      have E1 := fs_F6_env hE o1
      obtain ⟨t3, t4, t5⟩ := T3 i i0 (by omega)
      have hb := B5 i i0 (by omega)
      have s42 : M1 226 42 = tr := by rw [o1 226 42 (by unfold fs_F6 fs_F4; omega), h1]
      have s43 : M1 226 43 = ta := by rw [o1 226 43 (by unfold fs_F6 fs_F4; omega), h2]
      have s44 : M1 226 44 = wo := by rw [o1 226 44 (by unfold fs_F6 fs_F4; omega), h3]
      -- no
      have no : ∀ M2, fs_out fs_F4 M1 M2 → fs_mal E tr ta wo (M 244 0) i = 0 → fs_A2 g m_Mo_starts 7 30 [(0, fs_r 226), (1, fs_i (fs_w32 (i + 1)))] [] M2 K := by
        intro M2 o2 hz
        rw [fs_w32_of (by omega) (by omega)]
        refine ih (i + 1) M2 (by omega) (by omega) (by omega) (o1.tr (o2.wk (fun _ _ => fs_F4_F6))) (fun j j0 j1 => ?_) (fun j j0 j1 => ?_)
        · rw [o2 261 j (by unfold fs_F4; omega), o2 262 j (by unfold fs_F4; omega)]
          by_cases c : j = i
          · rw [c, if_pos hz, if_pos hz]
            exact hr i (by omega) (by omega)
          · exact hd j j0 (by omega)
        · rw [o2 261 j (by unfold fs_F4; omega), o2 262 j (by unfold fs_F4; omega)]
          exact hr j (by omega) j1
      have yes : ∀ M2, fs_out fs_F4 M1 M2 → ¬ fs_mal E tr ta wo (M 244 0) i = 0 → fs_A2 g m_Mo_starts 7 30 [(0, fs_r 226), (1, fs_i (fs_w32 (i + 1)))] [] (fs_st (fs_st M2 261 i (-2)) 262 i 1) K := by
        intro M2 o2 hz
        rw [fs_w32_of (by omega) (by omega)]
        refine ih (i + 1) _ (by omega) (by omega) (by omega) (((o1.tr (o2.wk (fun _ _ => fs_F4_F6))).st (by unfold fs_F6; omega)).st (by unfold fs_F6; omega)) (fun j j0 j1 => ?_) (fun j j0 j1 => ?_)
        · by_cases c : j = i
          · rw [c, if_neg hz, if_neg hz, fs_st_s, fs_st_o (by decide), fs_st_s]
            exact ⟨rfl, rfl⟩
          · rw [fs_st_k c, fs_st_k c, fs_st_k c, fs_st_k c, o2 261 j (by unfold fs_F4; omega), o2 262 j (by unfold fs_F4; omega)]
            exact hd j j0 (by omega)
        · have c : j ≠ i := by omega
          rw [fs_st_k c, fs_st_k c, fs_st_k c, fs_st_k c, o2 261 j (by unfold fs_F4; omega), o2 262 j (by unfold fs_F4; omega)]
          exact hr j (by omega) j1
      refine L_Mo_starts_30 ⟨fun z => absurd z (by omega), fun _ => ?_⟩
      rw [e244]
      have b01 : fs_bit (M 244 0) i = 0 ∨ fs_bit (M 244 0) i = 1 := fs_bit01 _ _
      refine ⟨fun z => no M1 fs_out.rf ?_, fun z => ?_⟩
      · have z2 : fs_bit (M 244 0) i = 0 := z
        unfold fs_mal fs_alone
        rw [z2]
        split <;> rfl
      · have z2 : ¬ fs_bit (M 244 0) i = 0 := z
        have z3 : fs_bit (M 244 0) i = 1 := by omega
        refine sp_isGone s42 s43 s44 (fun q => ⟨_, rfl, fun _ => ?_, fun w => absurd rfl w⟩) (fun q => ⟨_, rfl, fun w => absurd w (by decide), fun _ => no M1 fs_out.rf (by unfold fs_mal; rw [if_pos q])⟩)
        have p4 : M1 231 i = E 4 i := by rw [E1 231 i (by unfold fs_eC; omega), t4]
        refine sp_calls i0 (by omega) (lim _ (by decide) (by decide)) (lim _ (by decide) (by decide)) (lim _ (by decide) (by decide)) (by rw [p4]; exact lim _ (by omega) (by omega)) (fun M2 o2 n2 => ⟨rfl, ?_⟩)
        rw [p4] at n2
        have o2' : fs_out fs_F4 M1 (fs_st M2 249 6 1) := (o2.wk (fun o k q => Or.inl q)).st (Or.inl rfl)
        have E2 : fs_env E (fs_st M2 249 6 1) := fs_F6_env E1 (o2'.wk (fun _ _ => fs_F4_F6))
        refine sp_may (nm := fs_nm 0 0 1 0 0 (E 4 i) 1) (E2.rl T5) (fun j a b => ?_) (fun M3 o3 => ⟨_, rfl, ?_⟩)
        · have nn := n2 j a b
          have l1 : fs_lim 1 := lim _ (by decide) (by decide)
          have l0 : fs_lim 0 := lim _ (by decide) (by decide)
          refine ⟨?_, fs_nm_lim l0 l0 l1 l0 l0 (lim _ (by omega) (by omega)) l1 j⟩
          by_cases c : j = 6
          · rw [c, fs_st_s]
            rfl
          · rw [fs_st_k c, nn.1]
            rcases (by omega : j = 0 ∨ j = 1 ∨ j = 2 ∨ j = 3 ∨ j = 4 ∨ j = 5) with w | w | w | w | w | w <;> rw [w] <;> rfl
        · have ev : (if fs_st M2 249 6 1 226 42 = 5 then 1 else fs_mayN (fs_st M2 249 6 1) (fs_nm 0 0 1 0 0 (E 4 i) 1)) = fs_mal E tr ta wo (M 244 0) i := by
            have e : fs_mayN (fs_st M2 249 6 1) (fs_nm 0 0 1 0 0 (E 4 i) 1) = fs_may (fs_st M2 249 6 1) 1 0 0 (E 4 i) 1 := rfl
            have e42 : fs_st M2 249 6 1 226 42 = tr := by rw [o2' 226 42 (by unfold fs_F4; omega), s42]
            rw [e, E2.may, e42]
            unfold fs_mal fs_alone
            rw [if_neg (by rw [q]; decide : ¬ fs_gn tr ta wo i = true), if_pos z3]
          rw [ev]
          have o3' : fs_out fs_F4 M1 M3 := o2'.tr (o3.wk (fun _ _ => fs_F3_F4))
          exact ⟨fun w => ⟨i0, by omega, yes M3 o3' w⟩, fun w => no M3 o3' w⟩
  -- all are cleared
  have clear_ : ∀ (n : Nat) (i : Int) (M1 : fs_M), 0 ≤ i → i ≤ 6 → 6 - i = n → fs_out fs_F6 M M1 → (∀ j, 0 ≤ j → j < i → M1 261 j = -1 ∧ M1 262 j = -1) → fs_A2 g m_Mo_starts 7 2 [(0, fs_r 226), (1, fs_i i)] [] M1 K := by
    intro n
    induction n with
    | zero =>
      intro i M1 i0 i1 hn o1 hd
      exact L_Mo_starts_2 ⟨fun _ => alone (E 1 5).toNat 0 M1 (by decide) (by omega) (by omega) o1 (fun j j0 j1 => by omega) (fun j j0 j1 => hd j j0 (by omega)), fun z => absurd z (by omega)⟩
    | succ n ih =>
      intro i M1 i0 i1 hn o1 hd
      refine L_Mo_starts_2 ⟨fun z => absurd z (by omega), fun _ => ⟨i0, ?_⟩⟩
      rw [fs_w32_of (by omega) (by omega)]
      refine ih (i + 1) _ (by omega) (by omega) (by omega) ((o1.st (by unfold fs_F6; omega)).st (by unfold fs_F6; omega)) (fun j j0 j1 => ?_)
      by_cases c : j = i
      · rw [c, fs_st_s, fs_st_o (by decide), fs_st_s]
        exact ⟨rfl, rfl⟩
      · rw [fs_st_k c, fs_st_k c, fs_st_k c, fs_st_k c]
        exact hd j j0 (by omega)
  exact E_Mo_starts (clear_ 6 0 M (by decide) (by decide) (by decide) fs_out.rf (fun j j0 j1 => by omega))
theorem sp_walks {E M : fs_M} {K : fs_K} {tr ta wo rf m : Int} (hB : fs_bE E) (hT : fs_rt E) (hE : fs_env E M) (hw : fs_rw E M) (h1 : M 226 42 = tr) (h2 : M 226 43 = ta) (h3 : M 226 44 = wo) (hrf : M 226 47 = rf) (hm : m ≤ 240)
    (hK : ∀ M', fs_out fs_F6 M M' → fs_rI E (fs_go E tr rf m 27 (fs_mrows E M tr ta wo, fs_S0 E tr (fs_mal E tr ta wo (M 244 0)) (fs_mrows E M tr ta wo))) → fs_mR E M' tr ta wo (fs_go E tr rf m 27 (fs_mrows E M tr ta wo, fs_S0 E tr (fs_mal E tr ta wo (M 244 0)) (fs_mrows E M tr ta wo))) → K none M') : fs_C2 g m_Mo_walks 8 [fs_r 226, fs_i m] M K := by
  refine E_Mo_walks (sp_starts hB hT hE hw h1 h2 h3 (fun M1 o1 r1 => ⟨rfl, ?_⟩))
  have hI := fs_bR.start (tr := tr) (al := fs_mal E tr ta wo (M 244 0)) hB (hw.rows (tr := tr) (ta := ta) (wo := wo))
  refine sp_next hI r1 ⟨_, rfl, ?_⟩
  exact sp_walksLoop (rf := rf) hB hT hm 27 M1 _ hI r1 (by rw [o1 226 47 (by unfold fs_F6 fs_F4; omega)]; exact hrf) (hw.rows.tot) (fun M2 o2 i2 r2 => hK M2 (o1.tr o2) i2 r2)
end MOWALKS
