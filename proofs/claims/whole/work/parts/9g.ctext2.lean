-- ===== the class's text() =====
theorem fs_cpy_y {M : fs_M} {a b n k : Int} (h0 : 0 ≤ k) (h1 : k < n) : fs_cpy M a 0 b 0 n b k = M a k := by
  unfold fs_cpy
  rw [if_pos rfl, if_pos ⟨h0, by omega⟩, show 0 + (k - 0) = k from by omega]
theorem fs_qTx_l {T : Int → Int} {E : Int} : ∀ (n : Nat) (l : Int) (S : fs_qS) (l' : Int) (S' : fs_qS), fs_qTx T E n l S = .inr (l', S') → l ≤ l'
  | 0, l, S, l', S', h => by
    cases h
    omega
  | n + 1, l, S, l', S', h => by
    by_cases c : fs_lxt T E S.2.1 = 1035
    · have e : fs_qTx T E (n + 1) l S = .inr (l, S) := if_pos c
      rw [e] at h
      cases h
      omega
    · have e : fs_qTx T E (n + 1) l S = fs_qX (fs_qLine T E S.1 S.2) (fun S' => fs_qTx T E n (l + 1) S') := if_neg c
      rw [e] at h
      obtain ⟨S1, _, h2⟩ := fs_qX_inr h
      have := fs_qTx_l n (l + 1) S1 l' S' h2
      omega
section CTEXT2
variable {g : fs_G} {M : fs_M}
theorem sp_lawsCopy {K : fs_K} {n : Int} (hn : M 23 2 = n) (n0 : 0 ≤ n) (n64 : n ≤ 64) (ht : ∀ j, 0 ≤ j → j < n → fs_tk (M 24 j))
    (hK : ∀ M', fs_out (fun o k => (o = 9 ∧ k = 2) ∨ (10 ≤ o ∧ o ≤ 13)) M M' → M' 9 2 = n → (∀ j, 0 ≤ j → j < n → M' 10 j = M 24 j ∧ M' 11 j = M 25 j) → (∀ k, 0 ≤ k → k < 4 → M' 12 k = M 26 k ∧ M' 13 k = M 27 k) → K none M') : fs_C2 g m_Laws_copyFrom 1 [fs_r (1 + 8), fs_r (15 + 8)] M K := by
  have lp : ∀ (m : Nat) (i : Int) (N : fs_M), n - i = m → 0 ≤ i → fs_out (fun o k => (o = 9 ∧ k = 2) ∨ (10 ≤ o ∧ o ≤ 13)) M N → N 9 2 = n → (∀ j, 0 ≤ j → j < i → N 10 j = M 24 j ∧ N 11 j = M 25 j) → fs_A2 g m_Laws_copyFrom 1 10 [(0, fs_r 9), (1, fs_r 23), (2, fs_i i)] [] N K := by
    intro m
    induction m with
    | zero =>
      intro i N hm i0 oN e9 ej
      have p : ∀ o k, ¬ ((o = 9 ∧ k = 2) ∨ (10 ≤ o ∧ o ≤ 13)) → N o k = M o k := oN
      refine L_Laws_copyFrom_10 io_9 io_23 ⟨fun _ => ?_, fun z => absurd z (by omega)⟩
      obtain ⟨C, hC⟩ : ∃ C, fs_cpy (fs_cpy N (23 + 3) 0 (9 + 3) 0 4) (23 + 4) 0 (9 + 4) 0 4 = C := ⟨_, rfl⟩
      rw [hC]
      have c1 : ∀ o k, o ≠ 12 → o ≠ 13 → C o k = N o k := fun o k a b => by
        rw [← hC, fs_cpy_o (by omega), fs_cpy_o (by omega)]
      refine hK C (fun o k q => by rw [c1 o k (by omega) (by omega)]; exact oN o k q) ?_ (fun j j0 j1 => ?_) (fun k k0 k4 => ⟨?_, ?_⟩)
      · rw [c1 9 2 (by omega) (by omega)]
        exact e9
      · rw [c1 10 j (by omega) (by omega), c1 11 j (by omega) (by omega)]
        exact ej j j0 (by omega)
      · have z : C 12 k = fs_cpy N (23 + 3) 0 (9 + 3) 0 4 (9 + 3) k := by
          rw [← hC]
          exact fs_cpy_o (by omega)
        rw [z, fs_cpy_y k0 k4]
        exact p 26 k (by omega)
      · have z : C 13 k = fs_cpy N (23 + 3) 0 (9 + 3) 0 4 (23 + 4) k := by
          rw [← hC]
          exact fs_cpy_y k0 k4
        rw [z, fs_cpy_o (by omega)]
        exact p 27 k (by omega)
    | succ m ih =>
      intro i N hm i0 oN e9 ej
      have p : ∀ o k, ¬ ((o = 9 ∧ k = 2) ∨ (10 ≤ o ∧ o ≤ 13)) → N o k = M o k := oN
      refine L_Laws_copyFrom_10 io_9 io_23 ⟨fun z => absurd z (by omega), fun _ => ⟨i0, by omega, ?_, ?_⟩⟩
      · show fs_tk (N 24 i)
        rw [p 24 i (by omega)]
        exact ht i i0 (by omega)
      · rw [fs_w32_of (x := i + 1) (by omega) (by omega)]
        have e24 : N (23 + 1) i = M 24 i := p 24 i (by omega)
        have e25 : fs_st N (9 + 1) i (N (23 + 1) i) (23 + 2) i = M 25 i := by
          rw [fs_st_o (by omega)]
          exact p 25 i (by omega)
        rw [e25, e24]
        refine ih (i + 1) _ (by omega) (by omega) ((oN.st (Or.inr ⟨by omega, by omega⟩)).st (Or.inr ⟨by omega, by omega⟩)) ?_ (fun j j0 j1 => ?_)
        · rw [fs_st_o (by omega), fs_st_o (by omega)]
          exact e9
        · by_cases c : j = i
          · rw [c]
            refine ⟨?_, fs_st_s⟩
            rw [fs_st_o (by omega)]
            exact fs_st_s
          · rw [fs_st_o (by omega), fs_st_k c, fs_st_k c, fs_st_o (by omega)]
            exact ej j j0 (by omega)
  have e0 : fs_C2 g m_Laws_copyFrom 1 [fs_r 9, fs_r 23] M K := by
    refine E_Laws_copyFrom io_9 io_23 ?_
    rw [hn]
    exact lp n.toNat 0 _ (by omega) (by omega) (fs_out.rf.st (Or.inl ⟨rfl, rfl⟩)) fs_st_s (fun j j0 j1 => absurd j1 (by omega))
  exact e0
theorem sp_scriptCopy {K : fs_K} {n : Int} (hn : M 23 2 = n) (n0 : 0 ≤ n) (n64 : n ≤ 64) (ht : ∀ j, 0 ≤ j → j < n → fs_tk (M 24 j)) (h11 : M 15 11 = 0 ∨ M 15 11 = 1)
    (hK : ∀ M', fs_out (fun o k => (1 ≤ o ∧ o ≤ 8) ∨ (o = 9 ∧ k = 2) ∨ (10 ≤ o ∧ o ≤ 13)) M M' → M' 1 4 = M 15 4 → M' 1 5 = M 15 5 → M' 1 9 = M 15 9 → M' 1 10 = M 15 10 → (∀ o k, 2 ≤ o → o ≤ 5 → 0 ≤ k → k < 6 → M' o k = M (o + 14) k) → (∀ o k, 6 ≤ o → o ≤ 8 → 0 ≤ k → k < 3 → M' o k = M (o + 14) k) → M' 9 2 = n → (∀ j, 0 ≤ j → j < n → M' 10 j = M 24 j ∧ M' 11 j = M 25 j) → (∀ k, 0 ≤ k → k < 4 → M' 12 k = M 26 k ∧ M' 13 k = M 27 k) → K none M') : fs_C2 g m_Script_copyFrom 2 [fs_r 1, fs_r 15] M K := by
  refine E_Script_copyFrom io_1 io_15 ?_
  obtain ⟨C4, h4⟩ : ∃ C, fs_cpy (fs_cpy (fs_cpy (fs_cpy M (15 + 1) 0 (1 + 1) 0 6) (15 + 2) 0 (1 + 2) 0 6) (15 + 3) 0 (1 + 3) 0 6) (15 + 4) 0 (1 + 4) 0 6 = C := ⟨_, rfl⟩
  rw [h4]
  have c4o : ∀ o k, ¬ (2 ≤ o ∧ o ≤ 5) → C4 o k = M o k := fun o k c => by
    rw [← h4, fs_cpy_o (by omega), fs_cpy_o (by omega), fs_cpy_o (by omega), fs_cpy_o (by omega)]
  have c4y : ∀ o k, 2 ≤ o → o ≤ 5 → 0 ≤ k → k < 6 → C4 o k = M (o + 14) k := fun o k a b k0 k6 => by
    rw [← h4]
    rcases (by omega : o = 2 ∨ o = 3 ∨ o = 4 ∨ o = 5) with rfl | rfl | rfl | rfl
    · rw [fs_cpy_o (by omega), fs_cpy_o (by omega), fs_cpy_o (by omega)]
      exact fs_cpy_y (b := 1 + 1) k0 k6
    · rw [fs_cpy_o (by omega), fs_cpy_o (by omega)]
      refine (fs_cpy_y (b := 1 + 2) k0 k6).trans ?_
      rw [fs_cpy_o (by omega)]
      rfl
    · rw [fs_cpy_o (by omega)]
      refine (fs_cpy_y (b := 1 + 3) k0 k6).trans ?_
      rw [fs_cpy_o (by omega), fs_cpy_o (by omega)]
      rfl
    · refine (fs_cpy_y (b := 1 + 4) k0 k6).trans ?_
      rw [fs_cpy_o (by omega), fs_cpy_o (by omega), fs_cpy_o (by omega)]
      rfl
  obtain ⟨C6, h6⟩ : ∃ C, fs_st (fs_st C4 1 4 (C4 15 4)) 1 5 (C4 15 5) = C := ⟨_, rfl⟩
  rw [h6]
  have c6o : ∀ o k, ¬ (o = 1 ∧ (k = 4 ∨ k = 5)) → C6 o k = C4 o k := fun o k c => by
    rw [← h6]
    by_cases d : o = 1
    · rw [fs_st_k (by omega), fs_st_k (by omega)]
    · rw [fs_st_o d, fs_st_o d]
  have c64 : C6 1 4 = M 15 4 := by
    rw [← h6, fs_st_k (by omega), fs_st_s]
    exact c4o 15 4 (by omega)
  have c65 : C6 1 5 = M 15 5 := by
    rw [← h6, fs_st_s]
    exact c4o 15 5 (by omega)
  obtain ⟨C9, h9⟩ : ∃ C, fs_cpy (fs_cpy (fs_cpy C6 (15 + 5) 0 (1 + 5) 0 3) (15 + 6) 0 (1 + 6) 0 3) (15 + 7) 0 (1 + 7) 0 3 = C := ⟨_, rfl⟩
  rw [h9]
  have c9o : ∀ o k, ¬ (6 ≤ o ∧ o ≤ 8) → C9 o k = C6 o k := fun o k c => by
    rw [← h9, fs_cpy_o (by omega), fs_cpy_o (by omega), fs_cpy_o (by omega)]
  have c9y : ∀ o k, 6 ≤ o → o ≤ 8 → 0 ≤ k → k < 3 → C9 o k = C6 (o + 14) k := fun o k a b k0 k6 => by
    rw [← h9]
    rcases (by omega : o = 6 ∨ o = 7 ∨ o = 8) with rfl | rfl | rfl
    · rw [fs_cpy_o (by omega), fs_cpy_o (by omega)]
      exact fs_cpy_y (b := 1 + 5) k0 k6
    · rw [fs_cpy_o (by omega)]
      refine (fs_cpy_y (b := 1 + 6) k0 k6).trans ?_
      rw [fs_cpy_o (by omega)]
      rfl
    · refine (fs_cpy_y (b := 1 + 7) k0 k6).trans ?_
      rw [fs_cpy_o (by omega), fs_cpy_o (by omega)]
      rfl
  have z : ∀ k, C9 15 k = M 15 k := fun k => by
    rw [c9o 15 k (by omega), c6o 15 k (by omega), c4o 15 k (by omega)]
  obtain ⟨D, hD⟩ : ∃ C, fs_st (fs_st (fs_st C9 1 9 (C9 15 9)) 1 10 (C9 15 10)) 1 11 (C9 15 11) = C := ⟨_, rfl⟩
  rw [hD]
  have dO : ∀ o k, ¬ (o = 1 ∧ (k = 9 ∨ k = 10 ∨ k = 11)) → D o k = C9 o k := fun o k c => by
    rw [← hD]
    by_cases d : o = 1
    · rw [fs_st_k (by omega), fs_st_k (by omega), fs_st_k (by omega)]
    · rw [fs_st_o d, fs_st_o d, fs_st_o d]
  have d9 : D 1 9 = M 15 9 := by
    rw [← hD, fs_st_k (by omega), fs_st_k (by omega), fs_st_s]
    exact z 9
  have d10 : D 1 10 = M 15 10 := by
    rw [← hD, fs_st_k (by omega), fs_st_s]
    exact z 10
  have dM : ∀ o k, 9 ≤ o → D o k = M o k := fun o k a => by
    rw [dO o k (by omega), c9o o k (by omega), c6o o k (by omega), c4o o k (by omega)]
  refine ⟨by rw [z]; exact h11, sp_lawsCopy (n := n) (by rw [dM 23 2 (by omega)]; exact hn) n0 n64 (fun j j0 j1 => by rw [dM 24 j (by omega)]; exact ht j j0 j1) (fun M' o' e9 ej ek => ⟨rfl, ?_⟩)⟩
  have p' : ∀ o k, ¬ ((o = 9 ∧ k = 2) ∨ (10 ≤ o ∧ o ≤ 13)) → M' o k = D o k := o'
  refine hK M' (fun o k q => ?_) ?_ ?_ ?_ ?_ (fun o k a b k0 k6 => ?_) (fun o k a b k0 k6 => ?_) e9 (fun j j0 j1 => ?_) (fun k k0 k4 => ?_)
  · rw [p' o k (fun w => q (by omega)), dO o k (fun w => q (by omega)), c9o o k (fun w => q (by omega)), c6o o k (fun w => q (by omega)), c4o o k (fun w => q (by omega))]
  · rw [p' 1 4 (by omega), dO 1 4 (by omega), c9o 1 4 (by omega)]
    exact c64
  · rw [p' 1 5 (by omega), dO 1 5 (by omega), c9o 1 5 (by omega)]
    exact c65
  · rw [p' 1 9 (by omega)]
    exact d9
  · rw [p' 1 10 (by omega)]
    exact d10
  · rw [p' o k (by omega), dO o k (by omega), c9o o k (by omega), c6o o k (by omega)]
    exact c4y o k a b k0 k6
  · rw [p' o k (by omega), dO o k (by omega), c9y o k a b k0 k6, c6o _ k (by omega), c4o _ k (by omega)]
  · rw [(ej j j0 j1).1, (ej j j0 j1).2, dM 24 j (by omega), dM 25 j (by omega)]
    exact ⟨rfl, rfl⟩
  · rw [(ek k k0 k4).1, (ek k k0 k4).2, dM 26 k (by omega), dM 27 k (by omega)]
    exact ⟨rfl, rfl⟩
theorem sp_planClear {K : fs_K} (hK : ∀ M', fs_out (fun o k => (o = 31 ∧ (k = 2 ∨ k = 3)) ∨ o = 36) M M' → (∀ d, 0 ≤ d → d < 3 → M' 36 d = 0) → M' 31 2 = 0 → M' 31 3 = 0 → K none M') : fs_C2 g m_Plan_clear 1 [fs_r 31] M K := by
  have lp : ∀ (m : Nat) (i : Int) (N : fs_M), 3 - i = m → 0 ≤ i → fs_out (fun o k => (o = 31 ∧ (k = 2 ∨ k = 3)) ∨ o = 36) M N → (∀ d, 0 ≤ d → d < i → N 36 d = 0) → fs_A2 g m_Plan_clear 1 2 [(0, fs_r 31), (1, fs_i i)] [] N K := by
    intro m
    induction m with
    | zero =>
      intro i N hm i0 oN ez
      refine L_Plan_clear_2 io_31 ⟨fun _ => hK _ ((oN.st (Or.inl ⟨rfl, Or.inl rfl⟩)).st (Or.inl ⟨rfl, Or.inr rfl⟩)) (fun d d0 d3 => ?_) ?_ fs_st_s, fun z => absurd z (by omega)⟩
      · rw [fs_st_o (by omega), fs_st_o (by omega)]
        exact ez d d0 (by omega)
      · rw [fs_st_k (by omega)]
        exact fs_st_s
    | succ m ih =>
      intro i N hm i0 oN ez
      refine L_Plan_clear_2 io_31 ⟨fun z => absurd z (by omega), fun _ => ⟨i0, ?_⟩⟩
      rw [fs_w32_of (x := i + 1) (by omega) (by omega)]
      refine ih (i + 1) _ (by omega) (by omega) (oN.st (Or.inr rfl)) (fun d d0 d1 => ?_)
      by_cases c : d = i
      · rw [c]
        exact fs_st_s
      · have w : fs_st N (31 + 5) i 0 36 d = N 36 d := fs_st_k c
        rw [w]
        exact ez d d0 (by omega)
  exact E_Plan_clear io_31 (lp 3 0 M rfl (by omega) fs_out.rf (fun d d0 d1 => absurd d1 (by omega)))
end CTEXT2
