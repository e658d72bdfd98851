-- ===== the class's Course goes =====
def fs_F5 (o k : Int) : Prop := fs_F2 o k ∨ (46 ≤ o ∧ o ≤ 53) ∨ (o = 43 ∧ (k = 1 ∨ k = 2 ∨ k = 7))
theorem fs_F2_F5 {o k : Int} (h : fs_F2 o k) : fs_F5 o k := Or.inl h
theorem fs_F5_env {E M M' : fs_M} (h : fs_env E M) (ho : fs_out fs_F5 M M') : fs_env E M' := fun o k q => by
  rw [ho o k (by unfold fs_F5 fs_F2; unfold fs_eC at q; omega)]
  exact h o k q
def fs_cR (E M : fs_M) (pl tr : Int) (X : (Int → List Int) × fs_M) : Prop :=
  fs_env E M ∧ M 43 1 = pl ∧ M 43 2 = tr ∧
  (∀ d, 0 ≤ d → d < E 1 9 → M (51 + d) 6 = X.2 0 d ∧ M (51 + d) 5 = X.2 1 d ∧ M (51 + d) 0 = X.2 2 d ∧ M (51 + d) 2 = X.2 3 d ∧ M (51 + d) 3 = X.2 4 d ∧ M (51 + d) 1 = X.2 5 d ∧ M (51 + d) 4 = X.2 6 d ∧
    X.2 1 d ≤ M (pl + 5) d ∧ M (pl + 5) d ≤ 9 ∧ X.1 d = fs_lst (M (pl + 2 + d)) (M (pl + 5) d - X.2 1 d).toNat (X.2 1 d) ∧ ∀ k, 0 ≤ k → k < X.2 1 d → M (46 + d) k = X.2 (10 + d) k) ∧
  (∀ h, 0 ≤ h → h < E 1 5 → M 49 h = X.2 7 h ∧ M 50 h = X.2 8 h) ∧ M 43 7 = X.2 9 0
def fs_pl (pl : Int) : Prop := fs_isO 6 pl ∧ ((pl = 31 ∨ pl = 37) ∨ (97 ≤ pl ∧ pl ≤ 217))
section COURSE
variable {g : fs_G}
theorem sp_firstToCome {E M : fs_M} {K : fs_K} {pl tr : Int} {X : (Int → List Int) × fs_M} (hB : fs_bE E) (hI : fs_rI E X) (hR : fs_cR E M pl tr X) (hK : K (some (fs_i (if X.2 0 (fs_who X.2) ≤ 240 then fs_who X.2 else -1))) M) : fs_C2 g m_Course_firstToCome 1 [fs_r 43] M K := by
  obtain ⟨R1, R2, R3, R4, R5, R6⟩ := hR
  obtain ⟨B1, B2, B3, B4, -⟩ := hB
  have e9 : M 1 9 = E 1 9 := R1 1 9 (Or.inl (by decide))
  have loop : ∀ (n : Nat) (i x1 x2 : Int), 0 ≤ i → i ≤ E 1 9 → E 1 9 - i = n → (x1 = -1 ∧ x2 = 1000 ∨ 0 ≤ x1 ∧ x1 < i ∧ x2 = X.2 0 x1 ∧ x2 ≤ 240) → (∀ j, 0 ≤ j → j < i → x2 ≤ X.2 0 j ∧ (j < x1 → x2 < X.2 0 j)) → fs_A2 g m_Course_firstToCome 1 8 [(0, fs_r 43), (1, fs_i x1), (2, fs_i x2), (3, fs_i i)] [] M K := by
    intro n
    induction n with
    | zero =>
      intro i x1 x2 i0 i1 hn hx hj
      refine L_Course_firstToCome_8 ⟨fun _ => ?_, fun z => absurd z (by omega)⟩
      have hw : x1 = (if X.2 0 (fs_who X.2) ≤ 240 then fs_who X.2 else -1) := by
        have j0 := hj 0
        have j1 := hj 1
        have j2 := hj 2
        have s0 := hI.2 0
        have s1 := hI.2 1
        have s2 := hI.2 2
        have t0 := hI.1 0
        have t1 := hI.1 1
        have t2 := hI.1 2
        unfold fs_rI1 at t0 t1 t2
        have g0 : E 1 9 ≤ 0 → X.2 0 0 = 1000 := fun z => (s0 (by decide) (by decide) z).1
        have g1 : E 1 9 ≤ 1 → X.2 0 1 = 1000 := fun z => (s1 (by decide) (by decide) z).1
        have g2 : E 1 9 ≤ 2 → X.2 0 2 = 1000 := fun z => (s2 (by decide) (by decide) z).1
        have k0 : X.2 0 0 = 1000 ∨ X.2 0 0 ≤ 240 := by
          by_cases c : E 1 9 ≤ 0
          · exact Or.inl (g0 c)
          · have := (t0 (by decide) (by omega)).2.1; omega
        have k1 : X.2 0 1 = 1000 ∨ X.2 0 1 ≤ 240 := by
          by_cases c : E 1 9 ≤ 1
          · exact Or.inl (g1 c)
          · have := (t1 (by decide) (by omega)).2.1; omega
        have k2 : X.2 0 2 = 1000 ∨ X.2 0 2 ≤ 240 := by
          by_cases c : E 1 9 ≤ 2
          · exact Or.inl (g2 c)
          · have := (t2 (by decide) (by omega)).2.1; omega
        clear s0 s1 s2 t0 t1 t2
        have hx2 : x1 = -1 ∧ x2 = 1000 ∨ x1 = 0 ∧ x2 = X.2 0 0 ∧ x2 ≤ 240 ∧ 1 ≤ E 1 9 ∨ x1 = 1 ∧ x2 = X.2 0 1 ∧ x2 ≤ 240 ∧ 2 ≤ E 1 9 ∨ x1 = 2 ∧ x2 = X.2 0 2 ∧ x2 ≤ 240 ∧ 3 ≤ E 1 9 := by
          rcases hx with hx | ⟨a, b, c, d⟩
          · exact Or.inl hx
          · rcases (by omega : x1 = 0 ∨ x1 = 1 ∨ x1 = 2) with z | z | z
            · rw [z] at c; exact Or.inr (Or.inl ⟨z, c, d, by omega⟩)
            · rw [z] at c; exact Or.inr (Or.inr (Or.inl ⟨z, c, d, by omega⟩))
            · rw [z] at c; exact Or.inr (Or.inr (Or.inr ⟨z, c, d, by omega⟩))
        clear hx hj
        unfold fs_who
        split
        · split <;> split <;> omega
        · split <;> split <;> omega
      rw [hw]
      exact hK
    | succ n ih =>
      intro i x1 x2 i0 i1 hn hx hj
      have e6 := (R4 i i0 (by omega)).1
      refine L_Course_firstToCome_8 ⟨fun z => absurd z (by omega), fun _ => ⟨i0, by omega, ?_⟩⟩
      rw [e6, fs_w32_of (by omega) (by omega)]
      refine ⟨fun z => ih (i + 1) x1 x2 (by omega) (by omega) (by omega) (by omega) (fun j a b => ?_), fun z => ih (i + 1) i (X.2 0 i) (by omega) (by omega) (by omega) ?_ (fun j a b => ?_)⟩
      · by_cases c : j = i
        · subst c; omega
        · exact hj j a (by omega)
      · have := (hI.1 i i0 (by omega)).2.1
        omega
      · by_cases c : j = i
        · subst c; omega
        · have := hj j a (by omega)
          omega
  refine E_Course_firstToCome (loop (E 1 9).toNat 0 (-1) 1000 (by decide) (by omega) (by omega) (Or.inl ⟨rfl, rfl⟩) (fun j a b => by omega))
end COURSE
