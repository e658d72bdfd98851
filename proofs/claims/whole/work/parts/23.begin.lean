-- ===== begin, run =====
def fs_alone (E : fs_M) (tr out h : Int) : Int := if fs_bit out h = 1 then (if tr = 5 then 1 else fs_may E 1 0 0 (E 4 h) 1) else 0
def fs_S0 (E : fs_M) (tr : Int) (al : Int → Int) (R : Int → List Int) : fs_M := fun c i =>
  if c = 0 then fs_nx E tr (R i) (E 7 i) 1 0 (E 8 i) else if c = 1 then 0 else if c = 2 then E 7 i else if c = 3 then 0 else if c = 4 then E 8 i else if c = 5 then 1
  else if c = 6 then 0 else if c = 7 then (if 0 ≤ i ∧ i < 6 ∧ ¬ al i = 0 then -2 else -1) else if c = 8 then (if 0 ≤ i ∧ i < 6 ∧ ¬ al i = 0 then 1 else -1) else 0
theorem fs_S0_78 {E : fs_M} {tr : Int} {al : Int → Int} {R : Int → List Int} {M : fs_M} {j a b : Int} (h0 : 0 ≤ j) (h6 : j < 6) (h : M a j = (if al j = 0 then -1 else -2) ∧ M b j = (if al j = 0 then -1 else 1)) : M a j = fs_S0 E tr al R 7 j ∧ M b j = fs_S0 E tr al R 8 j := by
  rw [h.1, h.2]
  have e7 : fs_S0 E tr al R 7 j = (if 0 ≤ j ∧ j < 6 ∧ ¬ al j = 0 then -2 else -1) := rfl
  have e8 : fs_S0 E tr al R 8 j = (if 0 ≤ j ∧ j < 6 ∧ ¬ al j = 0 then 1 else -1) := rfl
  rw [e7, e8]
  by_cases c : al j = 0
  · rw [if_pos c, if_pos c, if_neg (by omega), if_neg (by omega)]
    exact ⟨rfl, rfl⟩
  · rw [if_neg c, if_neg c, if_pos ⟨h0, h6, c⟩, if_pos ⟨h0, h6, c⟩]
    exact ⟨rfl, rfl⟩
theorem fs_S0_al {E : fs_M} {tr : Int} {al al2 : Int → Int} {R : Int → List Int} (h : ∀ i, 0 ≤ i → i < 6 → al i = al2 i) : fs_S0 E tr al R = fs_S0 E tr al2 R := by
  funext c i
  unfold fs_S0
  by_cases q : 0 ≤ i ∧ i < 6
  · rw [h i q.1 q.2]
  · simp only [show ¬ (0 ≤ i ∧ i < 6 ∧ ¬ al i = 0) by omega, show ¬ (0 ≤ i ∧ i < 6 ∧ ¬ al2 i = 0) by omega]
def fs_rows (E M : fs_M) (pl : Int) (d : Int) : List Int := if 0 ≤ d ∧ d < E 1 9 then fs_lst (M (pl + 2 + d)) (M (pl + 5) d).toNat 0 else []
def fs_bP (E M : fs_M) (pl : Int) : Prop := ∀ d, 0 ≤ d → d < E 1 9 → 0 ≤ M (pl + 5) d ∧ M (pl + 5) d ≤ 9 ∧ ∀ k, 0 ≤ k → k < M (pl + 5) d → 0 ≤ M (pl + 2 + d) k ∧ M (pl + 2 + d) k < E 1 5
def fs_bR (E : fs_M) (R : Int → List Int) : Prop := (∀ d, 0 ≤ d → d < E 1 9 → (R d).length ≤ 9 ∧ ∀ h, h ∈ R d → 0 ≤ h ∧ h < E 1 5) ∧ ∀ d, 0 ≤ d → d < 3 → E 1 9 ≤ d → R d = []
theorem fs_alone01 (E : fs_M) (tr out h : Int) : fs_alone E tr out h = 0 ∨ fs_alone E tr out h = 1 := by
  unfold fs_alone
  split
  · split
    · exact Or.inr rfl
    · exact fs_may01 _ _ _ _ _ _
  · exact Or.inl rfl
theorem fs_bP.rows {E M : fs_M} {pl : Int} (h : fs_bP E M pl) : fs_bR E (fs_rows E M pl) := by
  refine ⟨fun d d0 d1 => ?_, fun d d0 d1 d2 => ?_⟩
  · obtain ⟨a, b, c⟩ := h d d0 d1
    unfold fs_rows
    rw [if_pos ⟨d0, d1⟩, fs_lst_len]
    refine ⟨by omega, fun x hx => ?_⟩
    obtain ⟨k, k0, k1, e⟩ := fs_lst_mem hx
    rw [← e]
    exact c k k0 (by omega)
  · unfold fs_rows
    rw [if_neg (by omega)]
theorem fs_bR.tot {E : fs_M} {R : Int → List Int} {S : fs_M} (h : fs_bR E R) : fs_tot (R, S) ≤ 27 := by
  have l : ∀ d, 0 ≤ d → d < 3 → (R d).length ≤ 9 := fun d d0 d1 => by
    by_cases c : d < E 1 9
    · exact (h.1 d d0 c).1
    · rw [h.2 d d0 d1 (by omega)]
      exact Nat.zero_le _
  have a := l 0 (by decide) (by decide)
  have b := l 1 (by decide) (by decide)
  have c := l 2 (by decide) (by decide)
  unfold fs_tot
  dsimp only
  omega
theorem fs_bR.start {E : fs_M} {tr : Int} {al : Int → Int} {R : Int → List Int} (hB : fs_bE E) (h : fs_bR E R) : fs_rI E (R, fs_S0 E tr al R) := by
  obtain ⟨B1, B2, B3, B4, B5, B6, B7⟩ := hB
  refine ⟨fun d d0 d1 => ?_, fun d d0 d1 d2 => ?_⟩
  · obtain ⟨a, b⟩ := h.1 d d0 d1
    have c := B6 d d0 d1
    have e0 : fs_S0 E tr al R 0 d = fs_nx E tr (R d) (E 7 d) 1 0 (E 8 d) := rfl
    have e1 : fs_S0 E tr al R 1 d = 0 := rfl
    have e2 : fs_S0 E tr al R 2 d = E 7 d := rfl
    have e3 : fs_S0 E tr al R 3 d = 0 := rfl
    have e4 : fs_S0 E tr al R 4 d = E 8 d := rfl
    have e5 : fs_S0 E tr al R 5 d = 1 := rfl
    have e6 : fs_S0 E tr al R 6 d = 0 := rfl
    show fs_rI1 E (R d) (fs_S0 E tr al R) d
    unfold fs_rI1
    rw [e0, e1, e2, e3, e4, e5, e6]
    refine ⟨fun z => by rw [z]; rfl, ?_, by omega, by omega, by omega, by omega, by omega, by omega, by omega, by omega, by omega, by omega, by omega, by omega, b⟩
    cases hr : R d with
    | nil => exact Or.inl rfl
    | cons x t =>
      rw [hr] at b
      have hx := b x List.mem_cons_self
      have hy := B5 x hx.1 hx.2
      exact fs_comes_b (by omega) (by omega) (by omega) (by omega) (by omega)
  · have hr := h.2 d d0 d1 d2
    refine ⟨?_, hr⟩
    show fs_nx E tr (R d) (E 7 d) 1 0 (E 8 d) = 1000
    rw [hr]
    rfl
section BEGIN
variable {g : fs_G}
theorem sp_alone {E M : fs_M} {K : fs_K} {pl tr out h : Int} (hB : fs_bE E) (hP : fs_pl pl) (hE : fs_env E M) (h1 : M 43 1 = pl) (h2 : M 43 2 = tr) (h3 : M pl 3 = out) (h0 : 0 ≤ h) (h6 : h < 6) (hK : ∀ M', fs_out fs_F2 M M' → K (some (fs_i (fs_alone E tr out h))) M') : fs_C2 g m_Course_isDoneByItself 5 [fs_r 43, fs_i h] M K := by
  have e4 : M 4 h = E 4 h := hE 4 h (Or.inl (by decide))
  refine E_Course_isDoneByItself ⟨by rw [h1]; exact hP.1, E_Fs_bit ⟨_, rfl, ?_⟩⟩
  rw [h1, h2, h3, e4]
  unfold fs_alone at hK
  refine ⟨fun z => ?_, fun z => ?_⟩
  · have z2 : ¬ fs_bit out h = 1 := z
    have hh := hK M fs_out.rf
    rw [if_neg z2] at hh
    exact hh
  · have z2 : fs_bit out h = 1 := z
    simp only [if_pos z2] at hK
    refine ⟨fun w => ?_, fun w => ⟨h0, h6, ?_⟩⟩
    · have hh := hK M fs_out.rf
      rw [if_pos w] at hh
      exact hh
    · simp only [if_neg w] at hK
      refine sp_allows (hE.law.2 2 (hB.2.2.2.2.2.2 2 (by decide) (by decide))) (fun M' ho => ⟨_, rfl, ?_⟩)
      have hh := hK M' ho
      rw [hE.may]
      refine ⟨fun q => ?_, fun q => ?_⟩
      · rw [q] at hh; exact hh
      · have := fs_may01 E 1 0 0 (E 4 h) 1
        rw [(by omega : fs_may E 1 0 0 (E 4 h) 1 = 1)] at hh
        exact hh
theorem sp_begin {E M : fs_M} {K : fs_K} {pl tr out : Int} (hB : fs_bE E) (hP : fs_pl pl) (hE : fs_env E M) (hL : fs_bP E M pl) (ho : M pl 3 = out)
    (hK : ∀ M', fs_out fs_F5 M M' → fs_cR E M' pl tr (fs_rows E M pl, fs_S0 E tr (fs_alone E tr out) (fs_rows E M pl)) → K none M') : fs_C2 g m_Course_begin 6 [fs_r 43, fs_r pl, fs_i tr] M K := by
  have p1 := hP.2
  have hB' := hB
  obtain ⟨B1, B2, B3, B4, B5, B6, B7⟩ := hB
  refine E_Course_begin hP.1 ?_
  have houses : ∀ (n : Nat) (i : Int) (M1 : fs_M), 0 ≤ i → i ≤ E 1 5 → E 1 5 - i = n → fs_out fs_F5 M M1 → M1 43 1 = pl → M1 43 2 = tr → M1 43 7 = 0 → (∀ j, 0 ≤ j → j < i → M1 49 j = (if fs_alone E tr out j = 0 then -1 else -2) ∧ M1 50 j = (if fs_alone E tr out j = 0 then -1 else 1)) →
      fs_A2 g m_Course_begin 6 17 [(0, fs_r 43), (1, fs_r pl), (3, fs_i i)] [] M1 K := by
    intro n
    induction n with
    | zero =>
      intro i M1 i0 i1 hn o1 g1 g2 g7 hd
      have e5 : M1 1 5 = E 1 5 := by rw [o1 1 5 (by unfold fs_F5 fs_F2; omega)]; exact hE 1 5 (Or.inl (by decide))
      refine L_Course_begin_17 hP.1 ⟨fun _ => ?_, fun z => absurd z (by omega)⟩
      -- the darks
      have darks : ∀ (n : Nat) (i : Int) (M1 : fs_M), 0 ≤ i → i ≤ E 1 9 → E 1 9 - i = n → fs_out fs_F5 M M1 → M1 43 1 = pl → M1 43 2 = tr → M1 43 7 = 0 → (∀ j, 0 ≤ j → j < E 1 5 → M1 49 j = (if fs_alone E tr out j = 0 then -1 else -2) ∧ M1 50 j = (if fs_alone E tr out j = 0 then -1 else 1)) →
          (∀ j, 0 ≤ j → j < i → M1 (51 + j) 6 = fs_nx E tr (fs_rows E M pl j) (E 7 j) 1 0 (E 8 j) ∧ M1 (51 + j) 5 = 0 ∧ M1 (51 + j) 0 = E 7 j ∧ M1 (51 + j) 2 = 0 ∧ M1 (51 + j) 3 = E 8 j ∧ M1 (51 + j) 1 = 1 ∧ M1 (51 + j) 4 = 0) →
          fs_A2 g m_Course_begin 6 76 [(0, fs_r 43), (1, fs_r pl), (3, fs_i i)] [] M1 K := by
        intro n
        induction n with
        | zero =>
          intro i M1 i0 i1 hn o1 g1 g2 g7 hd hg
          have e9 : M1 1 9 = E 1 9 := by rw [o1 1 9 (by unfold fs_F5 fs_F2; omega)]; exact hE 1 9 (Or.inl (by decide))
          refine L_Course_begin_76 hP.1 ⟨fun _ => ?_, fun z => absurd z (by omega)⟩
          refine hK M1 o1 ⟨fs_F5_env hE o1, g1, g2, fun j j0 j1 => ?_, fun j j0 j1 => fs_S0_78 (E := E) (tr := tr) (R := fs_rows E M pl) j0 (by omega) (hd j j0 j1), g7⟩
          obtain ⟨a1, a2, a3, a4, a5, a6, a7⟩ := hg j j0 (by omega)
          obtain ⟨l1, l2, l3⟩ := hL j j0 j1
          have rl : M1 (pl + 5) j = M (pl + 5) j := o1 _ _ (by unfold fs_F5 fs_F2; omega)
          have fw : M1 (pl + 2 + j) = M (pl + 2 + j) := funext (fun k => o1 _ _ (by unfold fs_F5 fs_F2; omega))
          rw [rl, fw]
          refine ⟨a1, a2, a3, a4, a5, a6, a7, l1, l2, ?_, fun k k0 k1 => ?_⟩
          · show fs_rows E M pl j = fs_lst (M (pl + 2 + j)) (M (pl + 5) j - 0).toNat 0
            unfold fs_rows
            rw [if_pos ⟨j0, j1⟩, Int.sub_zero]
          · have k1' : k < 0 := k1
            omega
        | succ n ih =>
          intro i M1 i0 i1 hn o1 g1 g2 g7 hd hg
          have e9 : M1 1 9 = E 1 9 := by rw [o1 1 9 (by unfold fs_F5 fs_F2; omega)]; exact hE 1 9 (Or.inl (by decide))
          have e7 : M1 7 i = E 7 i := by rw [o1 7 i (by unfold fs_F5 fs_F2; omega)]; exact hE 7 i (Or.inl (by decide))
          have e8 : M1 8 i = E 8 i := by rw [o1 8 i (by unfold fs_F5 fs_F2; omega)]; exact hE 8 i (Or.inl (by decide))
          have i3 : i < 3 := by omega
          have goer := fs_goer i0 i3
          obtain ⟨l1, l2, l3⟩ := hL i i0 (by omega)
          obtain ⟨c1, c2, c3, c4⟩ := B6 i i0 (by omega)
          refine L_Course_begin_76 hP.1 ⟨fun z => absurd z (by omega), fun _ => ⟨i0, i3, E_Goer_begin goer ⟨rfl, ?_⟩⟩⟩
          rw [e7, e8]
          generalize hM2 : fs_st (fs_st (fs_st (fs_st (fs_st (fs_st (fs_st M1 (51 + i) 0 (E 7 i)) (51 + i) 3 (E 8 i)) (51 + i) 1 1) (51 + i) 2 0) (51 + i) 4 0) (51 + i) 5 0) (51 + i) 6 0 = M2
          have m2o : ∀ o k, o ≠ 51 + i → M2 o k = M1 o k := fun o k a => by
            rw [← hM2]
            simp only [fs_st_o a]
          have v0 : M2 (51 + i) 0 = E 7 i := by rw [← hM2]; simp [fs_st]
          have v1 : M2 (51 + i) 1 = 1 := by rw [← hM2]; simp [fs_st]
          have v2 : M2 (51 + i) 2 = 0 := by rw [← hM2]; simp [fs_st]
          have v3 : M2 (51 + i) 3 = E 8 i := by rw [← hM2]; simp [fs_st]
          have v4 : M2 (51 + i) 4 = 0 := by rw [← hM2]; simp [fs_st]
          have v5 : M2 (51 + i) 5 = 0 := by rw [← hM2]; simp [fs_st]
          have o2 : fs_out fs_F5 M M2 := fun o k nF => by
            rw [m2o o k (fun z => nF (Or.inr (Or.inl (by omega))))]
            exact o1 o k nF
          have rl : M2 (pl + 5) i = M (pl + 5) i := o2 _ _ (by unfold fs_F5 fs_F2; omega)
          have fw : ∀ k, M2 (pl + 2 + i) k = M (pl + 2 + i) k := fun k => o2 _ _ (by unfold fs_F5 fs_F2; omega)
          have leg : ∀ nxt, (nxt = -1 ∧ fs_rows E M pl i = [] ∨ 0 ≤ nxt ∧ nxt < E 1 5 ∧ ∃ t2, fs_rows E M pl i = nxt :: t2) → fs_C2 g m_Course_setOut 5 [fs_r 43, fs_r (51 + i), fs_i nxt] M2 (fun v M4 => v = none ∧ fs_A2 g m_Course_begin 6 76 [(0, fs_r 43), (1, fs_r pl), (3, fs_i (fs_w32 (i + 1)))] [] M4 K) := by
            intro nxt hnx
            refine sp_setOut (tr := tr) goer (by omega) (by omega) (fs_F5_env hE o2) (B7 0 (by decide) (by decide)) (by rw [m2o _ _ (by omega)]; exact g2) (fun z => ?_) (fun M3 o3 => ⟨rfl, ?_⟩)
            · rcases hnx with ⟨z2, _⟩ | ⟨z1, z2, _⟩
              · exact absurd z2 z
              · have hb2 := B5 nxt z1 z2
                exact ⟨z1, by omega, by omega, by omega, by omega, by omega, by omega, by omega⟩
            · rw [fs_w32_of (by omega) (by omega), v0, v1, v2, v3]
              have nx : (if nxt = -1 then 1000 else fs_comes E tr nxt (E 7 i) 1 0 (E 8 i)) = fs_nx E tr (fs_rows E M pl i) (E 7 i) 1 0 (E 8 i) := by
                rcases hnx with ⟨z2, z3⟩ | ⟨z1, z2, t2, z3⟩
                · rw [if_pos z2, z3]; rfl
                · rw [if_neg (by omega), z3]; rfl
              rw [nx]
              have r6 : ∀ o k, ¬ fs_F2 o k → (o ≠ 51 + i ∨ k ≠ 6) → ∀ v, fs_st M3 (51 + i) 6 v o k = M2 o k := fun o k a b v => by
                rcases b with b | b
                · rw [fs_st_o b, o3 o k a]
                · rw [fs_st_k b, o3 o k a]
              refine ih (i + 1) _ (by omega) (by omega) (by omega) ((o2.tr (o3.wk (fun _ _ => fs_F2_F5))).st (by unfold fs_F5; omega)) ?_ ?_ ?_ (fun j j0 j1 => ?_) (fun j j0 j1 => ?_)
              · rw [r6 _ _ (by unfold fs_F2; omega) (Or.inl (by omega)), m2o _ _ (by omega)]; exact g1
              · rw [r6 _ _ (by unfold fs_F2; omega) (Or.inl (by omega)), m2o _ _ (by omega)]; exact g2
              · rw [r6 _ _ (by unfold fs_F2; omega) (Or.inl (by omega)), m2o _ _ (by omega)]; exact g7
              · rw [r6 _ _ (by unfold fs_F2; omega) (Or.inl (by omega)), m2o _ _ (by omega), r6 _ _ (by unfold fs_F2; omega) (Or.inl (by omega)), m2o _ _ (by omega)]; exact hd j j0 j1
              · by_cases c : j = i
                · rw [c, fs_st_s]
                  have r7 : ∀ k v, k ≠ 6 → fs_st M3 (51 + i) 6 v (51 + i) k = M2 (51 + i) k := fun k v a => r6 _ _ (by unfold fs_F2; omega) (Or.inr a) v
                  rw [r7 5 _ (by decide), r7 0 _ (by decide), r7 2 _ (by decide), r7 3 _ (by decide), r7 1 _ (by decide), r7 4 _ (by decide)]
                  exact ⟨rfl, v5, v0, v2, v3, v1, v4⟩
                · have r7 : ∀ k v, fs_st M3 (51 + i) 6 v (51 + j) k = M1 (51 + j) k := fun k v => by
                    rw [r6 _ _ (by unfold fs_F2; omega) (Or.inl (by omega)) v]
                    exact m2o _ _ (by omega)
                  rw [r7, r7, r7, r7, r7, r7, r7]
                  exact hg j j0 (by omega)
          refine E_Plan_houseOf hP.1 ⟨i0, i3, fun z => ?_, fun z => ⟨by decide, by decide, ?_⟩⟩
          · rw [rl] at z
            refine ⟨_, rfl, leg (-1) (Or.inl ⟨rfl, ?_⟩)⟩
            unfold fs_rows
            rw [if_pos ⟨i0, by omega⟩, (by omega : (M (pl + 5) i).toNat = 0)]
            rfl
          · rw [rl] at z
            have hh := l3 0 (by decide) (by omega)
            rw [fw 0]
            refine ⟨_, rfl, leg _ (Or.inr ⟨hh.1, hh.2, fs_lst (M (pl + 2 + i)) (M (pl + 5) i - 1).toNat (0 + 1), ?_⟩)⟩
            unfold fs_rows
            rw [if_pos ⟨i0, by omega⟩, (by omega : (M (pl + 5) i).toNat = (M (pl + 5) i - 1).toNat + 1)]
            rfl
      exact darks (E 1 9).toNat 0 M1 (by decide) (by omega) (by omega) o1 g1 g2 g7 (fun j j0 j1 => hd j j0 (by omega)) (fun j j0 j1 => by omega)
    | succ n ih =>
      intro i M1 i0 i1 hn o1 g1 g2 g7 hd
      have e5 : M1 1 5 = E 1 5 := by rw [o1 1 5 (by unfold fs_F5 fs_F2; omega)]; exact hE 1 5 (Or.inl (by decide))
      refine L_Course_begin_17 hP.1 ⟨fun z => absurd z (by omega), fun _ => ?_⟩
      refine sp_alone (tr := tr) (out := out) hB' hP (fs_F5_env hE o1) g1 g2 (by rw [o1 pl 3 (by unfold fs_F5 fs_F2; omega)]; exact ho) i0 (by omega) (fun M2 o2 => ⟨_, rfl, ?_⟩)
      have go : ∀ (a b : Int), a = (if fs_alone E tr out i = 0 then -1 else -2) → b = (if fs_alone E tr out i = 0 then -1 else 1) → fs_A2 g m_Course_begin 6 17 [(0, fs_r 43), (1, fs_r pl), (3, fs_i (fs_w32 (i + 1)))] [] (fs_st (fs_st M2 49 i a) 50 i b) K := by
        intro a b ha hb
        have r2 : ∀ o k, ¬ fs_F2 o k → (o ≠ 49 ∨ k ≠ i) → (o ≠ 50 ∨ k ≠ i) → fs_st (fs_st M2 49 i a) 50 i b o k = M1 o k := fun o k q x y => by
          have e : fs_st (fs_st M2 49 i a) 50 i b o k = fs_st M2 49 i a o k := by
            rcases y with y | y
            · exact fs_st_o y
            · exact fs_st_k y
          have e2 : fs_st M2 49 i a o k = M2 o k := by
            rcases x with x | x
            · exact fs_st_o x
            · exact fs_st_k x
          rw [e, e2, o2 o k q]
        rw [fs_w32_of (by omega) (by omega)]
        refine ih (i + 1) _ (by omega) (by omega) (by omega) (((o1.tr (o2.wk (fun _ _ => fs_F2_F5))).st (by unfold fs_F5; omega)).st (by unfold fs_F5; omega)) ?_ ?_ ?_ (fun j j0 j1 => ?_)
        · rw [r2 _ _ (by unfold fs_F2; omega) (Or.inl (by decide)) (Or.inl (by decide))]; exact g1
        · rw [r2 _ _ (by unfold fs_F2; omega) (Or.inl (by decide)) (Or.inl (by decide))]; exact g2
        · rw [r2 _ _ (by unfold fs_F2; omega) (Or.inl (by decide)) (Or.inl (by decide))]; exact g7
        · by_cases c : j = i
          · rw [c, fs_st_o (by decide), fs_st_s, fs_st_s]
            exact ⟨ha, hb⟩
          · rw [r2 _ _ (by unfold fs_F2; omega) (Or.inr c) (Or.inr c), r2 _ _ (by unfold fs_F2; omega) (Or.inr c) (Or.inr c)]
            exact hd j j0 (by omega)
      refine ⟨fun z => L_Course_begin_51 hP.1 ⟨i0, by omega, fun _ => ⟨i0, by omega, go _ _ ?_ ?_⟩, fun w => absurd z w⟩, fun z => L_Course_begin_51 hP.1 ⟨i0, by omega, fun w => absurd w z, fun _ => ⟨i0, by omega, go _ _ ?_ ?_⟩⟩⟩
      · rw [if_pos z]
      · rw [if_pos z]
      · rw [if_neg z]
      · rw [if_neg z]
  refine houses (E 1 5).toNat 0 _ (by decide) (by omega) (by omega) (((fs_out.rf.st ?_).st ?_).st ?_) ?_ ?_ ?_ (fun j j0 j1 => by omega)
  · unfold fs_F5; omega
  · unfold fs_F5; omega
  · unfold fs_F5; omega
  · rw [fs_st_k (by decide), fs_st_k (by decide), fs_st_s]
  · rw [fs_st_k (by decide), fs_st_s]
  · rw [fs_st_s]
/-- the whole run of a plan -/
def fs_run (E : fs_M) (tr rf : Int) (al : Int → Int) (R : Int → List Int) : (Int → List Int) × fs_M := fs_go E tr rf 240 27 (R, fs_S0 E tr al R)
theorem sp_run {E M : fs_M} {K : fs_K} {pl tr : Int} (hB : fs_bE E) (hP : fs_pl pl) (hE : fs_env E M) (hL : fs_bP E M pl)
    (hK : ∀ M', fs_out fs_F5 M M' → fs_cR E M' pl tr (fs_run E tr (M pl 2) (fs_alone E tr (M pl 3)) (fs_rows E M pl)) → K none M') : fs_C2 g m_Course_run 7 [fs_r 43, fs_r pl, fs_i tr] M K := by
  have p1 := hP.2
  refine E_Course_run hP.1 (sp_begin hB hP hE hL rfl (fun M1 o1 r1 => ⟨rfl, E_Course_comeUntil ?_⟩))
  refine sp_comeUntil (rf := M pl 2) hB hP (by decide) 27 M1 _ 0 (fs_bR.start hB hL.rows) r1 (o1 pl 2 (by unfold fs_F5 fs_F2; omega)) hL.rows.tot (by decide) (by decide) (fun M2 o2 r2 => ⟨rfl, hK M2 (o1.tr o2) r2⟩)
end BEGIN
