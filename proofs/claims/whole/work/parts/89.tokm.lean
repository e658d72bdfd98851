-- ===== the model's token() =====
section TOKM
variable {g : fs_G} {M : fs_M}
theorem sp_tokenM {K : fs_K} {E i : Int} (hE : M 226 18 = E) (hi : M 226 19 = i) (i0 : 0 ≤ i) (i1 : i ≤ E) (E1 : E ≤ 600) (hb : ∀ x, 0 ≤ x → x < E → 0 ≤ M 227 x ∧ M 227 x ≤ 255)
    (hK : ∀ M', fs_out (fun o k => o = 226 ∧ 19 ≤ k ∧ k ≤ 22) M M' → fs_tM M' (M 227) E (fs_lxp (M 227) E i) → K none M') : fs_C2 g m_Mo_token 6 [fs_r 226] M K := by
  obtain ⟨p, hp⟩ : ∃ p, fs_lxp (M 227) E i = p := ⟨_, rfl⟩
  have pb : i ≤ p ∧ p ≤ E := by
    rw [← hp]
    exact fs_lxp_b i1
  rw [hp] at hK
  -- a word, its letters read
  have done : ∀ (N : fs_M) (q : Int), p < E → fs_ilt (M 227 p) = true → fs_scan fs_ilt (M 227) E (E - p).toNat p = q → fs_out (fun o k => o = 226 ∧ 19 ≤ k ∧ k ≤ 22) M N → N 226 20 = p → N 226 19 = q → fs_C2 g m_Mo_word 5 [fs_r 226] N (fun v M9 => ∃ r9, v = some (fs_i r9) ∧ ((r9 = (-1) → ((fs_w32 ((M9 226 19) - (M9 226 20)) ≤ 6 → fs_A2 g m_Mo_token 6 127 [(0, fs_r 226)] [fs_i 1, fs_r 226] (fs_st M9 226 22 r9) K) ∧ (¬ fs_w32 ((M9 226 19) - (M9 226 20)) ≤ 6 → fs_A2 g m_Mo_token 6 127 [(0, fs_r 226)] [fs_i 5, fs_r 226] (fs_st M9 226 22 r9) K))) ∧ (¬ r9 = (-1) → fs_A2 g m_Mo_token 6 127 [(0, fs_r 226)] [fs_i 0, fs_r 226] (fs_st M9 226 22 r9) K))) := by
    intro N q lt hl hq oN e20 e19
    obtain ⟨a1, a2, a3, a4, a5, a6, a7⟩ := fs_lx_word lt hl hq
    have x227 : N 227 = M 227 := by
      funext x
      exact oN 227 x (by omega)
    have w : fs_w32 (q - p) = q - p := fs_w32_of (by omega) (by omega)
    refine sp_wordM e20 e19 (by omega) a1 (by omega) (by rw [x227]; exact a3) ⟨_, rfl, ?_⟩
    rw [x227, ← a4, e19, e20, w]
    have fin : ∀ s, s = fs_ms (fs_lxt (M 227) E p) → (s = 0 ∨ s = 5) → K none (fs_st (fs_st N 226 22 (fs_wno (fs_lxt (M 227) E p))) 226 21 s) := fun s hs hs2 => by
      refine hK _ ((oN.st ⟨rfl, by omega, by omega⟩).st ⟨rfl, by omega, by omega⟩) ⟨?_, ?_, ?_, ?_⟩
      · rw [fs_st_k (by omega), fs_st_k (by omega)]
        exact e20
      · rw [fs_st_k (by omega), fs_st_k (by omega), a5]
        exact e19
      · rw [fs_st_s, hs]
      · rw [fs_st_k (by omega), fs_st_s]
        refine ⟨fun z => ?_, fun z => ?_, fun _ => rfl, fun z => ?_⟩
        · rw [z] at hs
          have y : fs_ms 1034 = 1 := rfl
          omega
        · rw [z] at hs
          have y : fs_ms 1017 = 2 := rfl
          omega
        · omega
    refine ⟨fun z => ⟨fun z2 => L_Mo_token_127 ⟨fun y => absurd rfl y, fun _ => ?_⟩, fun z2 => L_Mo_token_127 ⟨fun _ => fin 5 ?_ (Or.inr rfl), fun y => absurd y (by decide)⟩⟩, fun z => L_Mo_token_127 ⟨fun _ => fin 0 ?_ (Or.inl rfl), fun y => absurd y (by decide)⟩⟩
    · have t34 : fs_lxt (M 227) E p = 1034 := by
        rcases a7 with y | y | y <;> omega
      obtain ⟨N2, hN2⟩ : ∃ N2, fs_st (fs_st N 226 22 (fs_wno (fs_lxt (M 227) E p))) 226 21 1 = N2 := ⟨_, rfl⟩
      rw [hN2]
      have o2 : fs_out (fun o k => o = 226 ∧ 19 ≤ k ∧ k ≤ 22) M N2 := by
        rw [← hN2]
        exact (oN.st ⟨rfl, by omega, by omega⟩).st ⟨rfl, by omega, by omega⟩
      have y20 : N2 226 20 = p := by
        rw [← hN2, fs_st_k (by omega), fs_st_k (by omega)]
        exact e20
      have y19 : N2 226 19 = q := by
        rw [← hN2, fs_st_k (by omega), fs_st_k (by omega)]
        exact e19
      have y21 : N2 226 21 = 1 := by
        rw [← hN2]
        exact fs_st_s
      have y227 : N2 227 = M 227 := by
        funext x
        exact o2 227 x (by omega)
      refine sp_nameM y20 y19 (by omega) (by omega) (by rw [y227]; exact a3) (fun M' o' v' => ⟨rfl, ?_⟩) (by omega)
      have p' : ∀ o k, ¬ (o = 226 ∧ k = 22) → M' o k = N2 o k := o'
      refine hK M' (o2.tr (o'.wk (fun o k y => ?_))) ⟨?_, ?_, ?_, ?_⟩
      · have y2 : o = 226 ∧ k = 22 := y
        exact ⟨y2.1, by omega, by omega⟩
      · rw [p' 226 20 (by omega)]
        exact y20
      · rw [p' 226 19 (by omega), a5]
        exact y19
      · rw [p' 226 21 (by omega), t34]
        exact y21
      · unfold fs_mv
        rw [v', y227, t34, a6 z2]
        exact ⟨fun _ => rfl, fun y => absurd y (by decide), fun y => absurd y (by decide), fun y => absurd y (by decide)⟩
    · have t36 : fs_lxt (M 227) E p = 1036 := by
        rcases a7 with y | y | y <;> omega
      rw [t36]
      rfl
    · have t0 : fs_ms (fs_lxt (M 227) E p) = 0 := by
        rcases a7 with y | y | y
        · exact y.1
        · rw [y.1] at z
          exact absurd rfl z
        · rw [y.1] at z
          exact absurd rfl z
      exact t0.symm
  -- the letters
  have w64 : ∀ (n : Nat) (q : Int), p < E → fs_ilt (M 227 p) = true → fs_scan fs_ilt (M 227) E (E - p).toNat p = q → ∀ (j : Int) (N : fs_M), p ≤ j → j ≤ E → E - j = n → fs_out (fun o k => o = 226 ∧ 19 ≤ k ∧ k ≤ 22) M N → N 226 20 = p → N 226 19 = j → fs_scan fs_ilt (M 227) E n j = q → fs_A2 g m_Mo_token 6 64 [(0, fs_r 226)] [] N K := by
    intro n q lt hl hq
    induction n with
    | zero =>
      intro j N j0 j1 hn oN e20 e19 sc
      have z18 : N 226 18 = E := by rw [oN 226 18 (by omega)]; exact hE
      refine L_Mo_token_64 (sp_here z18 e19 (by omega) E1 (fun _ => ⟨_, rfl, E_Mo_isSmall ⟨fun _ => ⟨_, rfl, fun _ => ?_, fun z => absurd rfl z⟩, fun z => absurd (by decide) z⟩⟩) (fun z => absurd z (by omega)))
      have sc2 : j = q := sc
      exact done N q lt hl hq oN e20 (by rw [e19]; exact sc2)
    | succ n ih =>
      intro j N j0 j1 hn oN e20 e19 sc
      have z18 : N 226 18 = E := by rw [oN 226 18 (by omega)]; exact hE
      have z227 : N 227 j = M 227 j := oN 227 j (by omega)
      refine L_Mo_token_64 (sp_here z18 e19 (by omega) E1 (fun z => absurd z (by omega)) (fun lt2 => ⟨_, rfl, ?_⟩))
      rw [z227]
      have stop : ¬ (97 ≤ M 227 j ∧ M 227 j ≤ 122) → j = q := fun y => by
        have c : ¬ (j < E ∧ fs_ilt (M 227 j) = true) := fun c => y (of_decide_eq_true c.2)
        rw [fs_scan_n c] at sc
        exact sc
      refine E_Mo_isSmall ⟨fun z => ⟨_, rfl, fun _ => ?_, fun y => absurd rfl y⟩, fun z => ⟨fun z2 => ⟨_, rfl, fun _ => ?_, fun y => absurd rfl y⟩, fun z2 => ⟨_, rfl, fun y => absurd y (by decide), fun _ => ?_⟩⟩⟩
      · exact done N q lt hl hq oN e20 (by rw [e19]; exact stop (by omega))
      · exact done N q lt hl hq oN e20 (by rw [e19]; exact stop (by omega))
      · have c : fs_ilt (M 227 j) = true := decide_eq_true (by omega)
        rw [fs_scan_y lt2 c] at sc
        rw [e19, fs_w32_of (x := j + 1) (by omega) (by omega)]
        refine ih (j + 1) _ (by omega) (by omega) (by omega) (oN.st ⟨rfl, by omega, by omega⟩) ?_ fs_st_s sc
        rw [fs_st_k (by omega)]
        exact e20
  -- behind the blanks
  have body : ∀ N, fs_out (fun o k => o = 226 ∧ 19 ≤ k ∧ k ≤ 22) M N → N 226 19 = p → fs_C2 g m_Mo_here 1 [fs_r 226] (fs_st N 226 20 (N 226 19)) (fun v M16 => ∃ r16, v = some (fs_i r16) ∧ ((¬ r16 = (-1) → fs_C2 g m_Mo_isSmall 1 [fs_i r16] M16 (fun v M17 => ∃ r17, v = some (fs_i r17) ∧ ((r17 = 0 → fs_C2 g m_Mo_isDigit 1 [fs_i r16] M17 (fun v M18 => ∃ r18, v = some (fs_i r18) ∧ ((r18 = 0 → fs_C2 g m_Mo_sign 2 [fs_r 226, fs_i r16] M18 (fun v M19 => v = none ∧ K none M19)) ∧ (¬ r18 = 0 → fs_A2 g m_Mo_token 6 162 [(0, fs_r 226)] [] (fs_st (fs_st M18 226 21 2) 226 22 0) K)))) ∧ (¬ r17 = 0 → fs_A2 g m_Mo_token 6 64 [(0, fs_r 226)] [] M17 K)))) ∧ (r16 = (-1) → K none (fs_st M16 226 21 4)))) := by
    intro N oN e19
    rw [e19]
    obtain ⟨N2, hN2⟩ : ∃ N2, fs_st N 226 20 p = N2 := ⟨_, rfl⟩
    rw [hN2]
    have o2 : fs_out (fun o k => o = 226 ∧ 19 ≤ k ∧ k ≤ 22) M N2 := by
      rw [← hN2]
      exact oN.st ⟨rfl, by omega, by omega⟩
    have x18 : N2 226 18 = E := by rw [o2 226 18 (by omega)]; exact hE
    have x19 : N2 226 19 = p := by rw [← hN2, fs_st_k (by omega)]; exact e19
    have x20 : N2 226 20 = p := by rw [← hN2]; exact fs_st_s
    have x227 : N2 227 = M 227 := by
      funext x
      exact o2 227 x (by omega)
    refine sp_here x18 x19 (by omega) E1 (fun ge => ⟨_, rfl, fun z => absurd rfl z, fun _ => ?_⟩) (fun lt => ⟨_, rfl, fun _ => ?_, fun z => ?_⟩)
    · have t35 : fs_lxt (M 227) E p = 1035 := if_pos ge
      refine hK _ (o2.st ⟨rfl, by omega, by omega⟩) ⟨?_, ?_, ?_, ?_⟩
      · rw [fs_st_k (by omega)]
        exact x20
      · have q : fs_lxq (M 227) E p = p := if_pos ge
        rw [fs_st_k (by omega), q]
        exact x19
      · rw [fs_st_s, t35]
        rfl
      · unfold fs_mv
        rw [t35]
        exact ⟨fun y => absurd y (by decide), fun y => absurd y (by decide), fun y => absurd y (by decide), fun y => absurd y (by decide)⟩
    · rw [x227]
      have bp := hb p (by omega) lt
      have nosm : ¬ (97 ≤ M 227 p ∧ M 227 p ≤ 122) → fs_C2 g m_Mo_isDigit 1 [fs_i (M 227 p)] N2 (fun v M18 => ∃ r18, v = some (fs_i r18) ∧ ((r18 = 0 → fs_C2 g m_Mo_sign 2 [fs_r 226, fs_i (M 227 p)] M18 (fun v M19 => v = none ∧ K none M19)) ∧ (¬ r18 = 0 → fs_A2 g m_Mo_token 6 162 [(0, fs_r 226)] [] (fs_st (fs_st M18 226 21 2) 226 22 0) K))) := fun nl => by
        have fl : fs_ilt (M 227 p) = false := decide_eq_false nl
        have sgn : ¬ (48 ≤ M 227 p ∧ M 227 p ≤ 57) → fs_C2 g m_Mo_sign 2 [fs_r 226, fs_i (M 227 p)] N2 (fun v M19 => v = none ∧ K none M19) := fun nd => by
          have fd : fs_idg (M 227 p) = false := decide_eq_false nd
          obtain ⟨a, b⟩ := fs_lx_sgn lt fl fd
          have hrel : (if E ≤ p + 1 then -1 else M 227 (p + 1)) = (if E ≤ p + 1 then 0 else M 227 (p + 1)) ∨ ((if E ≤ p + 1 then 0 else M 227 (p + 1)) = 0 ∧ (if E ≤ p + 1 then -1 else M 227 (p + 1)) = -1) := by
            by_cases y : E ≤ p + 1
            · rw [if_pos y, if_pos y]
              exact Or.inr ⟨rfl, rfl⟩
            · rw [if_neg y, if_neg y]
              exact Or.inl rfl
          obtain ⟨r1, r2, r3, r4, r5, r6, r7, _⟩ := fs_sg_rel (c := M 227 p) hrel
          rw [← a] at r2 r3 r4 r5 r6 r7
          refine sp_signM x18 x19 (by omega) lt E1 bp.2 (fun M' o' e1 e2 e3 => ⟨rfl, ?_⟩)
          have p' : ∀ o k, ¬ (o = 226 ∧ (k = 19 ∨ k = 21 ∨ k = 22)) → M' o k = N2 o k := o'
          rw [x227] at e1 e3
          refine hK M' (o2.tr (o'.wk (fun o k y => ?_))) ⟨?_, ?_, ?_, ?_⟩
          · have y2 : o = 226 ∧ (k = 19 ∨ k = 21 ∨ k = 22) := y
            exact ⟨y2.1, by omega, by omega⟩
          · rw [p' 226 20 (by omega)]
            exact x20
          · rw [e1, b, r1]
          · rw [e2, r2]
          · refine ⟨fun y => absurd y r6, fun y => by omega, fun y => ?_, fun y => ?_⟩
            · exfalso
              unfold fs_ms at y
              rw [if_neg r7] at y
              by_cases y36 : fs_lxt (M 227) E p = 1036
              · rw [if_pos y36] at y
                omega
              · rw [if_neg y36, if_neg r6, if_neg (by omega), if_neg (by omega)] at y
                omega
            · rw [e3]
              exact r3 y
        refine E_Mo_isDigit ⟨fun z => ⟨_, rfl, fun _ => sgn (by omega), fun y => absurd rfl y⟩, fun z => ⟨fun z2 => ⟨_, rfl, fun _ => sgn (by omega), fun y => absurd rfl y⟩, fun z2 => ⟨_, rfl, fun y => absurd y (by decide), fun _ => ?_⟩⟩⟩
        have fd : fs_idg (M 227 p) = true := decide_eq_true (by omega)
        obtain ⟨a, b⟩ := fs_lx_num lt fl fd
        obtain ⟨N3, hN3⟩ : ∃ N3, fs_st (fs_st N2 226 21 2) 226 22 0 = N3 := ⟨_, rfl⟩
        rw [hN3]
        have o3 : fs_out (fun o k => o = 226 ∧ 19 ≤ k ∧ k ≤ 22) M N3 := by
          rw [← hN3]
          exact (o2.st ⟨rfl, by omega, by omega⟩).st ⟨rfl, by omega, by omega⟩
        have y18 : N3 226 18 = E := by rw [o3 226 18 (by omega)]; exact hE
        have y19 : N3 226 19 = p := by rw [← hN3, fs_st_k (by omega), fs_st_k (by omega)]; exact x19
        have y20 : N3 226 20 = p := by rw [← hN3, fs_st_k (by omega), fs_st_k (by omega)]; exact x20
        have y21 : N3 226 21 = 2 := by rw [← hN3, fs_st_k (by omega)]; exact fs_st_s
        have y22 : N3 226 22 = 0 := by rw [← hN3]; exact fs_st_s
        have y227 : N3 227 = M 227 := by
          funext x
          exact o3 227 x (by omega)
        refine sp_numM y18 y19 y22 (by omega) (by omega) E1 (fun M' o' e1 e2 => ?_)
        have p' : ∀ o k, ¬ (o = 226 ∧ (k = 19 ∨ k = 22)) → M' o k = N3 o k := o'
        rw [y227] at e1 e2
        have md := fs_mnum_dnum (T := M 227) (E := E) (E - p).toNat p 0 0 (by omega) (by omega)
        refine hK M' (o3.tr (o'.wk (fun o k y => ?_))) ⟨?_, ?_, ?_, ?_⟩
        · have y2 : o = 226 ∧ (k = 19 ∨ k = 22) := y
          exact ⟨y2.1, by omega, by omega⟩
        · rw [p' 226 20 (by omega)]
          exact y20
        · rw [e1, b]
        · rw [p' 226 21 (by omega), a]
          exact y21
        · unfold fs_mv
          rw [a, e2]
          refine ⟨fun y => absurd y (by decide), fun _ => ⟨md.1.symm, md.2⟩, fun y => absurd y (by decide), fun y => absurd y (by decide)⟩
      refine E_Mo_isSmall ⟨fun z => ⟨_, rfl, fun _ => nosm (by omega), fun y => absurd rfl y⟩, fun z => ⟨fun z2 => ⟨_, rfl, fun _ => nosm (by omega), fun y => absurd rfl y⟩, fun z2 => ⟨_, rfl, fun y => absurd y (by decide), fun _ => ?_⟩⟩⟩
      have c : fs_ilt (M 227 p) = true := decide_eq_true (by omega)
      exact w64 (E - p).toNat _ lt c rfl p N2 (by omega) (by omega) (by omega) o2 x20 x19 rfl
    · rw [x227] at z
      have bp := hb p (by omega) lt
      omega
  have bd : ∀ (n : Nat) (j : Int) (N : fs_M), i ≤ j → j ≤ E → E - j = n → fs_out (fun o k => o = 226 ∧ 19 ≤ k ∧ k ≤ 22) M N → N 226 19 = j → fs_scan fs_isp (M 227) E n j = p → fs_A2 g m_Mo_token 6 0 [(0, fs_r 226)] [] N K := by
    intro n
    induction n with
    | zero =>
      intro j N j0 j1 hn oN e19 sc
      have z18 : N 226 18 = E := by rw [oN 226 18 (by omega)]; exact hE
      have sc2 : j = p := sc
      refine L_Mo_token_0 (sp_here z18 e19 (by omega) E1 (fun _ => ⟨_, rfl, fun z => absurd z (by decide), fun _ => sp_here z18 e19 (by omega) E1 (fun _ => ⟨_, rfl, fun _ => ?_, fun z => absurd z (by decide)⟩) (fun z => absurd z (by omega))⟩) (fun z => absurd z (by omega)))
      exact body N oN (by rw [e19]; exact sc2)
    | succ n ih =>
      intro j N j0 j1 hn oN e19 sc
      have z18 : N 226 18 = E := by rw [oN 226 18 (by omega)]; exact hE
      have z227 : N 227 j = M 227 j := oN 227 j (by omega)
      have more : M 227 j = 32 ∨ M 227 j = 10 → fs_A2 g m_Mo_token 6 18 [(0, fs_r 226)] [] N K := fun q => by
        have y : fs_isp (M 227 j) = true := decide_eq_true q
        rw [fs_scan_y (by omega) y] at sc
        refine L_Mo_token_18 ?_
        rw [e19, fs_w32_of (x := j + 1) (by omega) (by omega)]
        exact ih (j + 1) _ (by omega) (by omega) (by omega) (oN.st ⟨rfl, by omega, by omega⟩) fs_st_s sc
      refine L_Mo_token_0 (sp_here z18 e19 (by omega) E1 (fun z => absurd z (by omega)) (fun lt => ⟨_, rfl, fun z => ?_, fun z => sp_here z18 e19 (by omega) E1 (fun z => absurd z (by omega)) (fun lt => ⟨_, rfl, fun z2 => ?_, fun z2 => ?_⟩)⟩))
      · rw [z227] at z
        exact more (Or.inr z)
      · rw [z227] at z z2
        have nn : ¬ (j < E ∧ fs_isp (M 227 j) = true) := fun c => by
          have c2 := of_decide_eq_true c.2
          omega
        rw [fs_scan_n nn] at sc
        exact body N oN (by rw [e19]; exact sc)
      · rw [z227] at z2
        exact more (Or.inl z2)
  exact b_enter2 (ls := [(0, fs_r 226)]) (plainFor_of_name pn_Mo) (Nat.le_of_ble_eq_true rfl) rfl (bd (E - i).toNat i M (by omega) i1 (by omega) fs_out.rf hi hp)
end TOKM
