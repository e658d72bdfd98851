-- ===== the class's Course goes =====
def fs_F5 (o k : Int) : Prop := fs_F2 o k ∨ (46 ≤ o ∧ o ≤ 53) ∨ (o = 43 ∧ (k = 1 ∨ k = 2 ∨ k = 7))
theorem fs_F2_F5 {o k : Int} (h : fs_F2 o k) : fs_F5 o k := Or.inl h
theorem fs_F5_env {E M M' : fs_M} (h : fs_env E M) (ho : fs_out fs_F5 M M') : fs_env E M' := fun o k q => by
  rw [ho o k (by unfold fs_F5 fs_F2; unfold fs_eC at q; omega)]
  exact h o k q
def fs_cR (E M : fs_M) (pl tr : Int) (X : (Int → List Int) × fs_M) : Prop :=
  fs_env E M ∧ M 43 1 = pl ∧ M 43 2 = tr ∧
  (∀ d, 0 ≤ d → d < E 1 9 → M (51 + d) 6 = X.2 0 d ∧ M (51 + d) 5 = X.2 1 d ∧ M (51 + d) 0 = X.2 2 d ∧ M (51 + d) 2 = X.2 3 d ∧ M (51 + d) 3 = X.2 4 d ∧ M (51 + d) 1 = X.2 5 d ∧ M (51 + d) 4 = X.2 6 d ∧
    X.2 1 d ≤ M (pl + 5) d ∧ M (pl + 5) d ≤ 9 ∧ X.1 d = fs_lst (M (pl + 2 + d)) (M (pl + 5) d - X.2 1 d).toNat (X.2 1 d) ∧ ∀ k, 0 ≤ k → k < X.2 1 d → M (46 + d) k = X.2 (10 + d) k) ∧
  (∀ h, 0 ≤ h → h < E 1 5 → M 49 h = X.2 7 h ∧ M 50 h = X.2 8 h) ∧ M 43 7 = X.2 9 0
def fs_pl (pl : Int) : Prop := fs_isO 6 pl ∧ ((pl = 31 ∨ pl = 37) ∨ (97 ≤ pl ∧ pl ≤ 217))
theorem fs_stp_d {E : fs_M} {tr rf d h : Int} {r : List Int} {S : fs_M} {c : Int} (hc0 : 0 ≤ c) (hc : c < 7) (hd : 0 ≤ d) : fs_stp E tr rf d h r S c d = (if c = 0 then fs_nx E tr r (E 3 h) (fs_vlv E tr rf (if S 7 h = -1 then 1 else 0) (S 0 d) (S 3 d) (S 4 d) h) (fs_vgl E tr rf (if S 7 h = -1 then 1 else 0) (S 0 d) (S 3 d) (S 4 d) h) (fs_vco E tr (if S 7 h = -1 then 1 else 0) (S 0 d) (S 3 d) (S 4 d) h)
    else if c = 1 then S 1 d + 1 else if c = 2 then E 3 h
    else if c = 3 then fs_vgl E tr rf (if S 7 h = -1 then 1 else 0) (S 0 d) (S 3 d) (S 4 d) h
    else if c = 4 then fs_vco E tr (if S 7 h = -1 then 1 else 0) (S 0 d) (S 3 d) (S 4 d) h
    else if c = 5 then fs_vlv E tr rf (if S 7 h = -1 then 1 else 0) (S 0 d) (S 3 d) (S 4 d) h
    else if c = 6 then S 6 d + fs_vok E tr d h S else S c d) := by
  unfold fs_stp
  rw [if_neg (by omega), if_neg (by omega), if_neg (by omega), if_neg (by omega), if_pos rfl]
theorem fs_stp_n {E : fs_M} {tr rf d h : Int} {r : List Int} {S : fs_M} {c i : Int} (hc : c < 7) (hd : 0 ≤ d) (hi : i ≠ d) : fs_stp E tr rf d h r S c i = S c i := by
  unfold fs_stp
  rw [if_neg (by omega), if_neg (by omega), if_neg (by omega), if_neg (by omega), if_neg hi]
theorem fs_stp_7 {E : fs_M} {tr rf d h : Int} {r : List Int} {S : fs_M} {i : Int} : fs_stp E tr rf d h r S 7 i = (if i = h then (if fs_vok E tr d h S = 0 then S 7 i else d) else S 7 i) := rfl
theorem fs_stp_8 {E : fs_M} {tr rf d h : Int} {r : List Int} {S : fs_M} {i : Int} : fs_stp E tr rf d h r S 8 i = (if i = h then (if fs_vok E tr d h S = 0 then S 8 i else S 0 d) else S 8 i) := rfl
theorem fs_stp_9 {E : fs_M} {tr rf d h : Int} {r : List Int} {S : fs_M} {i : Int} : fs_stp E tr rf d h r S 9 i = (if fs_vok E tr d h S = 0 then fs_or (S 9 i) (fs_shl 1 h) else S 9 i) := rfl
theorem fs_stp_10 {E : fs_M} {tr rf d h : Int} {r : List Int} {S : fs_M} {j i : Int} (hd : 0 ≤ d) (hj : 0 ≤ j) : fs_stp E tr rf d h r S (10 + j) i = (if j = d ∧ i = S 1 d then S 0 d else S (10 + j) i) := by
  unfold fs_stp
  rw [if_neg (by omega), if_neg (by omega), if_neg (by omega)]
  by_cases c : j = d
  · subst c
    rw [if_pos rfl]
    simp
  · rw [if_neg (by omega), if_neg (by omega : ¬ (j = d ∧ i = S 1 d))]
    split
    · rw [if_neg (by omega), if_neg (by omega), if_neg (by omega), if_neg (by omega), if_neg (by omega), if_neg (by omega), if_neg (by omega)]
    · rfl
/-- the relation holds behind a visit -/
theorem fs_cR.step {E M Mf : fs_M} {pl tr rf d h : Int} {tl : List Int} {X : (Int → List Int) × fs_M} (hB : E 1 9 ≤ 3) (hP : fs_pl pl) (hR : fs_cR E M pl tr X) (hd0 : 0 ≤ d) (hd1 : d < 3) (h9 : d < E 1 9) (hw : fs_who X.2 = d) (hX : X.1 d = h :: tl) (hE : fs_env E Mf)
    (ha : ∀ o k, ¬ fs_F2 o k → o ≠ 51 + d → o ≠ 46 + d → o ≠ 49 → o ≠ 50 → o ≠ 43 → Mf o k = M o k)
    (hb : Mf (51 + d) 5 = X.2 1 d + 1 ∧ ∀ c, c = 6 ∨ c = 0 ∨ c = 2 ∨ c = 3 ∨ c = 1 ∨ c = 4 → Mf (51 + d) c = fs_stp E tr rf d h tl X.2 (if c = 6 then 0 else if c = 0 then 2 else if c = 2 then 3 else if c = 3 then 4 else if c = 1 then 5 else 6) d)
    (hc : ∀ k, Mf (46 + d) k = if k = X.2 1 d then X.2 0 d else M (46 + d) k)
    (he : ∀ i, Mf 49 i = (if i = h then (if fs_vok E tr d h X.2 = 0 then M 49 i else d) else M 49 i) ∧ Mf 50 i = (if i = h then (if fs_vok E tr d h X.2 = 0 then M 50 i else X.2 0 d) else M 50 i))
    (h1 : Mf 43 1 = pl) (h2 : Mf 43 2 = tr) (h7 : Mf 43 7 = (if fs_vok E tr d h X.2 = 0 then fs_or (M 43 7) (fs_shl 1 h) else M 43 7)) : fs_cR E Mf pl tr (fs_step E tr rf X) := by
  obtain ⟨R1, R2, R3, R4, R5, R6⟩ := hR
  obtain ⟨R, S⟩ := X
  unfold fs_step
  dsimp only at R4 R5 R6 hw hX hb hc he h7 ⊢
  rw [hw, hX]
  show fs_cR E Mf pl tr (fun i => if i = d then tl else R i, fs_stp E tr rf d h tl S)
  have p1 := hP.2
  refine ⟨hE, h1, h2, fun j j0 j1 => ?_, fun i i0 i1 => ?_, ?_⟩
  · dsimp only
    have rl : Mf (pl + 5) j = M (pl + 5) j := ha _ _ (by unfold fs_F2; omega) (by omega) (by omega) (by omega) (by omega) (by omega)
    have rw_ : ∀ k, Mf (pl + 2 + j) k = M (pl + 2 + j) k := fun k => ha _ _ (by unfold fs_F2; omega) (by omega) (by omega) (by omega) (by omega) (by omega)
    have fw : Mf (pl + 2 + j) = M (pl + 2 + j) := funext rw_
    obtain ⟨q1, q2, q3, q4, q5, q6, q7, q8, q9, q10, q11⟩ := R4 j j0 j1
    by_cases c : j = d
    · subst c
      have b1 := hb.2 6 (by decide)
      have b2 := hb.2 0 (by decide)
      have b3 := hb.2 2 (by decide)
      have b4 := hb.2 3 (by decide)
      have b5 := hb.2 1 (by decide)
      have b6 := hb.2 4 (by decide)
      rw [hX] at q10
      have len1 : (h :: tl).length = (M (pl + 5) j - S 1 j).toNat := by
        rw [q10, fs_lst_len]
      rw [List.length_cons] at len1
      have hn : (M (pl + 5) j - S 1 j).toNat = (M (pl + 5) j - (S 1 j + 1)).toNat + 1 := by omega
      rw [hn] at q10
      have q10b : h :: tl = M (pl + 2 + j) (S 1 j) :: fs_lst (M (pl + 2 + j)) (M (pl + 5) j - (S 1 j + 1)).toNat (S 1 j + 1) := q10
      have e1 : fs_stp E tr rf j h tl S 1 j = S 1 j + 1 := by rw [fs_stp_d (by decide) (by decide) hd0]; rfl
      rw [if_pos rfl, e1, rl, fw]
      refine ⟨b1, hb.1, b2, b3, b4, b5, b6, by omega, q9, (List.cons.inj q10b).2, fun k k0 k1 => ?_⟩
      rw [hc, fs_stp_10 hd0 hd0]
      by_cases z : k = S 1 j
      · rw [if_pos z, if_pos ⟨rfl, z⟩]
      · rw [if_neg z, if_neg (by omega)]
        exact q11 k k0 (by omega)
    · rw [if_neg c, fs_stp_n (by decide) hd0 c, fs_stp_n (by decide) hd0 c, fs_stp_n (by decide) hd0 c, fs_stp_n (by decide) hd0 c, fs_stp_n (by decide) hd0 c, fs_stp_n (by decide) hd0 c, fs_stp_n (by decide) hd0 c, rl, fw]
      have r51 : ∀ k, Mf (51 + j) k = M (51 + j) k := fun k => ha _ _ (by unfold fs_F2; omega) (by omega) (by omega) (by omega) (by omega) (by omega)
      have r46 : ∀ k, Mf (46 + j) k = M (46 + j) k := fun k => ha _ _ (by unfold fs_F2; omega) (by omega) (by omega) (by omega) (by omega) (by omega)
      rw [r51, r51, r51, r51, r51, r51, r51]
      refine ⟨q1, q2, q3, q4, q5, q6, q7, q8, q9, q10, fun k k0 k1 => ?_⟩
      rw [r46, fs_stp_10 hd0 j0, if_neg (by omega)]
      exact q11 k k0 k1
  · obtain ⟨q1, q2⟩ := R5 i i0 i1
    rw [(he i).1, (he i).2, q1, q2]
    exact ⟨(fs_stp_7 (rf := rf) (r := tl)).symm, (fs_stp_8 (rf := rf) (r := tl)).symm⟩
  · show Mf 43 7 = fs_stp E tr rf d h tl S 9 0
    rw [h7, R6]
    exact (fs_stp_9 (rf := rf) (r := tl)).symm
section COURSE
variable {g : fs_G}
theorem sp_firstToCome {E M : fs_M} {K : fs_K} {pl tr : Int} {X : (Int → List Int) × fs_M} (hB : fs_bE E) (hI : fs_rI E X) (hR : fs_cR E M pl tr X) (hK : K (some (fs_i (if X.2 0 (fs_who X.2) ≤ 240 then fs_who X.2 else -1))) M) : fs_C2 g m_Course_firstToCome 1 [fs_r 43] M K := by
  obtain ⟨R1, R2, R3, R4, R5, R6⟩ := hR
  obtain ⟨B1, B2, B3, B4, -⟩ := hB
  have e9 : M 1 9 = E 1 9 := R1 1 9 (Or.inl (by decide))
  have loop : ∀ (n : Nat) (i x1 x2 : Int), 0 ≤ i → i ≤ E 1 9 → E 1 9 - i = n → (x1 = -1 ∧ x2 = 1000 ∨ 0 ≤ x1 ∧ x1 < i ∧ x2 = X.2 0 x1 ∧ x2 ≤ 240) → (∀ j, 0 ≤ j → j < i → x2 ≤ X.2 0 j ∧ (j < x1 → x2 < X.2 0 j)) → fs_A2 g m_Course_firstToCome 1 8 [(0, fs_r 43), (1, fs_i x1), (2, fs_i x2), (3, fs_i i)] [] M K := by
    intro n
    induction n with
    | zero =>
      intro i x1 x2 i0 i1 hn hx hj
      refine L_Course_firstToCome_8 ⟨fun _ => ?_, fun z => absurd z (by omega)⟩
      have hw : x1 = (if X.2 0 (fs_who X.2) ≤ 240 then fs_who X.2 else -1) := by
        have j0 := hj 0
        have j1 := hj 1
        have j2 := hj 2
        have s0 := hI.2 0
        have s1 := hI.2 1
        have s2 := hI.2 2
        have t0 := hI.1 0
        have t1 := hI.1 1
        have t2 := hI.1 2
        unfold fs_rI1 at t0 t1 t2
        have g0 : E 1 9 ≤ 0 → X.2 0 0 = 1000 := fun z => (s0 (by decide) (by decide) z).1
        have g1 : E 1 9 ≤ 1 → X.2 0 1 = 1000 := fun z => (s1 (by decide) (by decide) z).1
        have g2 : E 1 9 ≤ 2 → X.2 0 2 = 1000 := fun z => (s2 (by decide) (by decide) z).1
        have k0 : X.2 0 0 = 1000 ∨ X.2 0 0 ≤ 240 := by
          by_cases c : E 1 9 ≤ 0
          · exact Or.inl (g0 c)
          · have := (t0 (by decide) (by omega)).2.1; omega
        have k1 : X.2 0 1 = 1000 ∨ X.2 0 1 ≤ 240 := by
          by_cases c : E 1 9 ≤ 1
          · exact Or.inl (g1 c)
          · have := (t1 (by decide) (by omega)).2.1; omega
        have k2 : X.2 0 2 = 1000 ∨ X.2 0 2 ≤ 240 := by
          by_cases c : E 1 9 ≤ 2
          · exact Or.inl (g2 c)
          · have := (t2 (by decide) (by omega)).2.1; omega
        clear s0 s1 s2 t0 t1 t2
        have hx2 : x1 = -1 ∧ x2 = 1000 ∨ x1 = 0 ∧ x2 = X.2 0 0 ∧ x2 ≤ 240 ∧ 1 ≤ E 1 9 ∨ x1 = 1 ∧ x2 = X.2 0 1 ∧ x2 ≤ 240 ∧ 2 ≤ E 1 9 ∨ x1 = 2 ∧ x2 = X.2 0 2 ∧ x2 ≤ 240 ∧ 3 ≤ E 1 9 := by
          rcases hx with hx | ⟨a, b, c, d⟩
          · exact Or.inl hx
          · rcases (by omega : x1 = 0 ∨ x1 = 1 ∨ x1 = 2) with z | z | z
            · rw [z] at c; exact Or.inr (Or.inl ⟨z, c, d, by omega⟩)
            · rw [z] at c; exact Or.inr (Or.inr (Or.inl ⟨z, c, d, by omega⟩))
            · rw [z] at c; exact Or.inr (Or.inr (Or.inr ⟨z, c, d, by omega⟩))
        clear hx hj
        unfold fs_who
        split
        · split <;> split <;> omega
        · split <;> split <;> omega
      rw [hw]
      exact hK
    | succ n ih =>
      intro i x1 x2 i0 i1 hn hx hj
      have e6 := (R4 i i0 (by omega)).1
      refine L_Course_firstToCome_8 ⟨fun z => absurd z (by omega), fun _ => ⟨i0, by omega, ?_⟩⟩
      rw [e6, fs_w32_of (by omega) (by omega)]
      refine ⟨fun z => ih (i + 1) x1 x2 (by omega) (by omega) (by omega) (by omega) (fun j a b => ?_), fun z => ih (i + 1) i (X.2 0 i) (by omega) (by omega) (by omega) ?_ (fun j a b => ?_)⟩
      · by_cases c : j = i
        · subst c; omega
        · exact hj j a (by omega)
      · have := (hI.1 i i0 (by omega)).2.1
        omega
      · by_cases c : j = i
        · subst c; omega
        · have := hj j a (by omega)
          omega
  refine E_Course_firstToCome (loop (E 1 9).toNat 0 (-1) 1000 (by decide) (by omega) (by omega) (Or.inl ⟨rfl, rfl⟩) (fun j a b => by omega))
end COURSE
