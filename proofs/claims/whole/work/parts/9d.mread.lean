-- ===== the model reads lines, whole TEXTS =====
theorem fs_ms0_key : ∀ j : Fin 37, fs_ms ((1000 + j.val : Nat) : Int) = 0 → 0 ≤ fs_wno ((1000 + j.val : Nat) : Int) := by decide +kernel
theorem fs_ms0 {t : Int} (h : fs_tk t) (z : fs_ms t = 0) : 0 ≤ fs_wno t := by
  obtain ⟨a, b⟩ := h
  obtain ⟨n, hn⟩ : ∃ n : Nat, t = ((1000 + n : Nat) : Int) := ⟨(t - 1000).toNat, by omega⟩
  rw [hn] at z ⊢
  exact fs_ms0_key ⟨n, by omega⟩ z
def fs_FmX (o k : Int) : Prop := fs_FmL o k ∨ (o = 226 ∧ k = 17)
def fs_oX (M M' : fs_M) : Prop := fs_out fs_FmX M M' ∧ (fs_b01 M → fs_b01 M')
theorem fs_oX.rf {M : fs_M} : fs_oX M M := ⟨fs_out.rf, fun h => h⟩
theorem fs_oX.tr {M M1 M2 : fs_M} (h1 : fs_oX M M1) (h2 : fs_oX M1 M2) : fs_oX M M2 := ⟨h1.1.tr h2.1, fun h => h2.2 (h1.2 h)⟩
section MREAD
variable {g : fs_G} {M A : fs_M} {T : Int → Int} {E : Int}
theorem sp_82h {K : fs_K} {s : fs_q3} (h : fs_mL M T E (A, s)) (hi : fs_inv E (A, s)) (t : fs_lxt T E s.1 = 1000) (lt : A 15 5 < 6) (good : ∀ M1 S1, fs_qKind T E A s = .inr S1 → fs_oB M M1 → fs_mL M1 T E S1 → fs_A2 g m_Mo_line 159 233 [(0, fs_r 226)] [] M1 K) (bad : ∀ M1 e, fs_qKind T E A s = .inl e → fs_oB M M1 → M1 226 23 = e.1 → M1 226 24 = e.2 → e.1 ≠ 0 → fs_A2 g m_Mo_line 159 233 [(0, fs_r 226)] [] M1 K) :
    fs_A2 g m_Mo_line 159 82 [(0, fs_r 226), (1, fs_i 0)] [] M K := by
  have hs : fs_mS M T E 8 s := h.1
  have hf := hs.2.2.2.2.1
  have ek : fs_qKind T E A s = fs_qHT T E A (A 15 5) (fs_qA T E s) := by
    unfold fs_qKind fs_qHouse
    rw [if_pos t, if_pos lt]
    rfl
  rw [ek] at good bad
  obtain ⟨x, hx⟩ : ∃ x, A 15 5 = x := ⟨_, rfl⟩
  rw [hx] at good bad lt
  have x0 : 0 ≤ x := by
    rw [← hx]
    exact hi.2.2.2.2.1.1
  have hb := hi.2.2.2.2.1.2.2.2.2.2.2
  have w4 : fs_w32 (4 + 0) = 4 := by decide
  refine L_Mo_line_82 ⟨fun _ => sp_tokS hs (fun M5 o5 h5 => ⟨rfl, fun _ => E_Mo_fresher ?_, fun z => absurd z (by decide), fun z => absurd z (by decide), fun z => absurd rfl z.1⟩), fun z => absurd hf z⟩
  have h5' : fs_mL M5 T E (A, fs_qA T E s) := h.step o5 h5
  have m5 : fs_mr M5 A := h5'.2
  have e4 : M5 228 4 = x := m5.1.trans hx
  rw [w4, e4]
  refine ⟨by omega, by omega, x, rfl, ?_⟩
  rw [fs_w32_of (x := 6 + x) (by omega) (by omega)]
  refine sp_houseM h5' hx x0 lt (fun h a b => hb h (by show A 15 5 ≤ h; omega) b) (fun M7 S' y o7 h7 => ⟨rfl, good M7 S' y ((fs_FmL_q o5).tr o7) h7⟩) (fun M7 e y o7 e1 e2 e3 => ⟨rfl, bad M7 e y ((fs_FmL_q o5).tr o7) e1 e2 e3⟩)
theorem sp_82d {K : fs_K} {s : fs_q3} (h : fs_mL M T E (A, s)) (hi : fs_inv E (A, s)) (t : fs_lxt T E s.1 = 1001) (lt : A 15 9 < 3) (good : ∀ M1 S1, fs_qKind T E A s = .inr S1 → fs_oB M M1 → fs_mL M1 T E S1 → fs_A2 g m_Mo_line 159 233 [(0, fs_r 226)] [] M1 K) (bad : ∀ M1 e, fs_qKind T E A s = .inl e → fs_oB M M1 → M1 226 23 = e.1 → M1 226 24 = e.2 → e.1 ≠ 0 → fs_A2 g m_Mo_line 159 233 [(0, fs_r 226)] [] M1 K) :
    fs_A2 g m_Mo_line 159 82 [(0, fs_r 226), (1, fs_i 1)] [] M K := by
  have hs : fs_mS M T E 8 s := h.1
  have hf := hs.2.2.2.2.1
  obtain ⟨x, hx⟩ : ∃ x, A 15 9 = x := ⟨_, rfl⟩
  rw [hx] at lt
  have ek : fs_qKind T E A s = fs_qX (fs_qNam T E A 20 x (fs_qA T E s)) (fun q => fs_qX (fs_qNum T E 0 99 q.2) (fun r => fs_qX (fs_qNum T E 0 9 r.2) (fun w => .inr (fs_st (fs_st (fs_st (fs_st A 20 x q.1) 21 x r.1) 22 x w.1) 15 9 (x + 1), w.2)))) := by
    unfold fs_qKind fs_qDark
    rw [if_neg (by omega), if_pos t, hx, if_pos lt]
  rw [ek] at good bad
  have x0 : 0 ≤ x := by
    rw [← hx]
    exact hi.2.2.2.2.1.2.2.1
  have w5 : fs_w32 (4 + 1) = 5 := by decide
  have F : ∀ o, 234 ≤ o → o ≤ 236 → fs_FmW o (3 + x) := fun o a b => by
    unfold fs_FmW
    omega
  have F5 : fs_FmW 228 5 := by
    unfold fs_FmW
    omega
  have e226 : ∀ {N : fs_M} {o k v a : Int}, 228 ≤ o → fs_st N o k v 226 a = N 226 a := fun {N o k v a} c => fs_st_o (by omega)
  refine L_Mo_line_82 ⟨fun _ => sp_tokS hs (fun M5 o5 h5 => ⟨rfl, fun z => absurd z (by decide), fun _ => E_Mo_fresher ?_, fun z => absurd z (by decide), fun z => absurd rfl z.2.1⟩), fun z => absurd hf z⟩
  have h5' : fs_mL M5 T E (A, fs_qA T E s) := h.step o5 h5
  have m5 : fs_mr M5 A := h5'.2
  have e5 : M5 228 5 = x := m5.2.1.trans hx
  rw [w5, e5]
  refine ⟨by omega, by omega, x, rfl, E_Mo_fresher ?_⟩
  rw [w5, e5]
  refine ⟨by omega, by omega, x, rfl, ?_⟩
  rw [fs_w32_of (x := 3 + x) (by omega) (by omega)]
  refine sp_freshM ia_234 h5' (by omega) (by omega) x0 (by omega) (by omega) (arrC := 20) (fun j j0 j1 => (m5.2.2.2.2.1 j j0 (by omega)).1) (fun M10 q eq o10 h10 => ⟨_, rfl, by omega, by omega, ?_⟩) (fun M10 e eq o10 e1 e2 e3 => ⟨_, rfl, by omega, by omega, ?_⟩)
  · have u : ∀ F : (Int × fs_q3) → fs_qQ, fs_qX (fs_qNam T E A 20 x (fs_qA T E s)) F = F q := fun F => by
      rw [eq]
      rfl
    rw [u] at good bad
    have on1 : fs_oB M (fs_st M10 234 (3 + x) q.1) := fs_FmL_st ((fs_FmL_q o5).tr (fs_FmL_q o10)) (F 234 (by omega) (by omega))
    refine sp_numeM (h10.std (by omega) (by omega) (by omega)) (by omega) (by omega) (fun M11 r eq3 o3 h3 => ⟨_, rfl, ?_⟩) (fun M11 e eq3 o3 e1 e2 e3 => ⟨_, rfl, ?_⟩)
    · rw [eq3] at good bad
      have on2 : fs_oB M (fs_st M11 235 (3 + x) r.1) := fs_FmL_st (on1.tr (fs_FmL_q o3)) (F 235 (by omega) (by omega))
      have p3 : ∀ o k, ¬ fs_FqM o k → M11 o k = fs_st M10 234 (3 + x) q.1 o k := o3
      refine sp_numeM (h3.std (by omega) (by omega) (by omega)) (by omega) (by omega) (fun M12 w eq4 o4 h4 => ⟨_, rfl, ?_⟩) (fun M12 e eq4 o4 e1 e2 e3 => ⟨_, rfl, ?_⟩)
      · have good2 : ∀ M1 S1, (Sum.inr (fs_st (fs_st (fs_st (fs_st A 20 x q.1) 21 x r.1) 22 x w.1) 15 9 (x + 1), w.2) : fs_qQ) = .inr S1 → fs_oB M M1 → fs_mL M1 T E S1 → fs_A2 g m_Mo_line 159 233 [(0, fs_r 226)] [] M1 K := fun M1 S1 y => good M1 S1 (by
          show fs_qX (fs_qNum T E 0 9 r.2) _ = _
          rw [eq4]
          exact y)
        have p4 : ∀ o k, ¬ fs_FqM o k → M12 o k = fs_st M11 235 (3 + x) r.1 o k := o4
        have h4' := h4.std (v := w.1) (o := 236) (k := 3 + x) (by omega) (by omega) (by omega)
        obtain ⟨N, hN⟩ : ∃ N, fs_st M12 236 (3 + x) w.1 = N := ⟨_, rfl⟩
        rw [hN] at h4' ⊢
        have mN : fs_mr N A := h4'.2
        obtain ⟨m1, m2, m3, m4, m5', m6, m7⟩ := mN
        have n12 : M12 228 5 = x := by
          have z : N 228 5 = M12 228 5 := by
            rw [← hN, fs_st_o (by omega)]
          rw [← z, m2]
          exact hx
        rw [n12, fs_w32_of (x := x + 1) (by omega) (by omega)]
        have n34 : N 234 (3 + x) = q.1 := by
          rw [← hN, fs_st_o (by omega), p4 234 _ (by unfold fs_FqM; omega), fs_st_o (by omega), p3 234 _ (by unfold fs_FqM; omega)]
          exact fs_st_s
        have n35 : N 235 (3 + x) = r.1 := by
          rw [← hN, fs_st_o (by omega), p4 235 _ (by unfold fs_FqM; omega)]
          exact fs_st_s
        have n36 : N 236 (3 + x) = w.1 := by
          rw [← hN]
          exact fs_st_s
        obtain ⟨A', hA⟩ : ∃ A', fs_st (fs_st (fs_st (fs_st A 20 x q.1) 21 x r.1) 22 x w.1) 15 9 (x + 1) = A' := ⟨_, rfl⟩
        rw [hA] at good2
        have oth : ∀ o k, ¬ (o = 15 ∧ k = 9) → ¬ (20 ≤ o ∧ o ≤ 22 ∧ k = x) → A' o k = A o k := fun o k n1 n2 => by
          have st1 : ∀ (M : fs_M) (c v : Int), 20 ≤ c → c ≤ 22 → fs_st M c x v o k = M o k := fun M c v c1 c2 => by
            by_cases g : o = c
            · exact fs_st_k (by omega)
            · exact fs_st_o g
          rw [← hA]
          by_cases g : o = 15
          · rw [fs_st_k (by omega), st1 _ _ _ (by omega) (by omega), st1 _ _ _ (by omega) (by omega), st1 _ _ _ (by omega) (by omega)]
          · rw [fs_st_o g, st1 _ _ _ (by omega) (by omega), st1 _ _ _ (by omega) (by omega), st1 _ _ _ (by omega) (by omega)]
        have x9 : A' 15 9 = x + 1 := by
          rw [← hA]
          exact fs_st_s
        have x20 : A' 20 x = q.1 := by
          rw [← hA, fs_st_o (by omega), fs_st_o (by omega), fs_st_o (by omega)]
          exact fs_st_s
        have x21 : A' 21 x = r.1 := by
          rw [← hA, fs_st_o (by omega), fs_st_o (by omega)]
          exact fs_st_s
        have x22 : A' 22 x = w.1 := by
          rw [← hA, fs_st_o (by omega)]
          exact fs_st_s
        have onN : fs_oB M N := by
          rw [← hN]
          exact fs_FmL_st (on2.tr (fs_FmL_q o4)) (F 236 (by omega) (by omega))
        refine good2 _ (A', w.2) rfl (fs_FmL_st onN F5) ⟨h4'.1.cg (fun o k c => ?_), ?_⟩
        · by_cases d : o = 228
          · rw [d, fs_st_k (by omega)]
          · exact fs_st_o d
        · show fs_mr (fs_st N 228 5 (x + 1)) A'
          unfold fs_mr fs_td
          rw [fs_st_s, fs_st_k (by omega), fs_st_k (by omega), fs_st_o (by omega), x9, oth 15 5 (by omega) (by omega), oth 15 10 (by omega) (by omega), oth 15 11 (by omega) (by omega), oth 15 4 (by omega) (by omega)]
          refine ⟨m1, rfl, m3, fun h a b => ?_, fun d a b => ?_, fun k a b => ?_, m7.1, m7.2.1, m7.2.2.1, fun k a b => ?_⟩
          · rw [fs_st_o (by omega), fs_st_o (by omega), fs_st_o (by omega), fs_st_o (by omega), fs_st_o (by omega), oth 16 h (by omega) (by omega), oth 17 h (by omega) (by omega), oth 18 h (by omega) (by omega), oth 19 h (by omega) (by omega)]
            exact m4 h a b
          · rw [fs_st_o (by omega), fs_st_o (by omega), fs_st_o (by omega)]
            by_cases c : d = x
            · rw [c, n34, n35, n36, x20, x21, x22]
              exact ⟨rfl, rfl, rfl⟩
            · rw [oth 20 d (by omega) (by omega), oth 21 d (by omega) (by omega), oth 22 d (by omega) (by omega)]
              exact m5' d a (by omega)
          · rw [fs_st_o (by omega), fs_st_o (by omega), oth 26 k (by omega) (by omega), oth 27 k (by omega) (by omega)]
            exact m6 k a b
          · rw [oth 26 k (by omega) (by omega), oth 27 k (by omega) (by omega)]
            exact m7.2.2.2 k a b
      · refine bad _ e ?_ (fs_FmL_st (fs_FmL_st (on2.tr (fs_FmL_q o4)) (F 236 (by omega) (by omega))) F5) ?_ ?_ e3
        · show fs_qX (fs_qNum T E 0 9 r.2) _ = _
          rw [eq4]
          rfl
        · rw [e226 (by omega), e226 (by omega)]
          exact e1
        · rw [e226 (by omega), e226 (by omega)]
          exact e2
    · have f3 : ¬ M11 226 23 = 0 := by rw [e1]; exact e3
      refine fi_numeral (fz (by omega) f3) ⟨_, rfl, ?_⟩
      refine bad _ e ?_ (fs_FmL_st (fs_FmL_st (fs_FmL_st (on1.tr (fs_FmL_q o3)) (F 235 (by omega) (by omega))) (F 236 (by omega) (by omega))) F5) ?_ ?_ e3
      · rw [eq3]
        rfl
      · rw [e226 (by omega), e226 (by omega), e226 (by omega)]
        exact e1
      · rw [e226 (by omega), e226 (by omega), e226 (by omega)]
        exact e2
  · have f2 : ¬ M10 226 23 = 0 := by rw [e1]; exact e3
    refine fi_numeral (fz (by omega) f2) ⟨_, rfl, fi_numeral (fz (by omega) (fz (by omega) f2)) ⟨_, rfl, ?_⟩⟩
    refine bad _ e ?_ (fs_FmL_st (fs_FmL_st (fs_FmL_st (fs_FmL_st ((fs_FmL_q o5).tr (fs_FmL_q o10)) (F 234 (by omega) (by omega))) (F 235 (by omega) (by omega))) (F 236 (by omega) (by omega))) F5) ?_ ?_ e3
    · rw [eq]
      rfl
    · rw [e226 (by omega), e226 (by omega), e226 (by omega), e226 (by omega)]
      exact e1
    · rw [e226 (by omega), e226 (by omega), e226 (by omega), e226 (by omega)]
      exact e2
theorem sp_82s {K : fs_K} {s : fs_q3} (h : fs_mL M T E (A, s)) (t : fs_lxt T E s.1 = 1002) (z0 : A 15 11 = 0) (good : ∀ M1 S1, fs_qKind T E A s = .inr S1 → fs_oB M M1 → fs_mL M1 T E S1 → fs_A2 g m_Mo_line 159 233 [(0, fs_r 226)] [] M1 K) (bad : ∀ M1 e, fs_qKind T E A s = .inl e → fs_oB M M1 → M1 226 23 = e.1 → M1 226 24 = e.2 → e.1 ≠ 0 → fs_A2 g m_Mo_line 159 233 [(0, fs_r 226)] [] M1 K) :
    fs_A2 g m_Mo_line 159 82 [(0, fs_r 226), (1, fs_i 2)] [] M K := by
  have hs : fs_mS M T E 8 s := h.1
  have hf := hs.2.2.2.2.1
  have ek : fs_qKind T E A s = fs_qX (fs_qNum T E 0 99999 (fs_qA T E s)) (fun w => .inr (fs_st (fs_st A 15 10 w.1) 15 11 1, w.2)) := by
    unfold fs_qKind fs_qSeed
    rw [if_neg (by omega), if_neg (by omega), if_pos t, if_pos z0]
  rw [ek] at good bad
  have F6 : fs_FmW 228 6 := by
    unfold fs_FmW
    omega
  refine L_Mo_line_82 ⟨fun _ => sp_tokS hs (fun M5 o5 h5 => ⟨rfl, fun z => absurd z (by decide), fun z => absurd z (by decide), fun _ => ?_, fun z => absurd rfl z.2.2⟩), fun z => absurd hf z⟩
  have h5' : fs_mL M5 T E (A, fs_qA T E s) := h.step o5 h5
  obtain ⟨m1, m2, m3, m4, m5, m6, m7⟩ := h5'.2
  obtain ⟨N, hN⟩ : ∃ N, fs_st M5 226 16 (fs_or (M5 226 16) 1) = N := ⟨_, rfl⟩
  rw [hN]
  have pN : ∀ o k, ¬ (o = 226 ∧ k = 16) → N o k = M5 o k := fun o k c => by
    rw [← hN]
    by_cases d : o = 226
    · exact fs_st_k (by omega)
    · exact fs_st_o d
  have n16 : N 226 16 = fs_or (M5 226 16) 1 := by
    rw [← hN]
    exact fs_st_s
  have oA : ∀ o k, ¬ (o = 15 ∧ k = 11) → fs_st A 15 11 1 o k = A o k := fun o k c => by
    by_cases d : o = 15
    · exact fs_st_k (by omega)
    · exact fs_st_o d
  have hN' : fs_mL N T E (fs_st A 15 11 1, fs_qA T E s) := by
    refine ⟨h5.cg (fun o k c => pN o k (by omega)), ?_⟩
    show fs_mr N (fs_st A 15 11 1)
    unfold fs_mr
    rw [pN 228 4 (by omega), pN 228 5 (by omega), pN 228 6 (by omega), n16, oA 15 5 (by omega), oA 15 9 (by omega), oA 15 10 (by omega), oA 15 4 (by omega)]
    refine ⟨m1, m2, m3, fun h a b => ?_, fun d a b => ?_, fun k a b => ?_, ?_⟩
    · rw [pN 229 _ (by omega), pN 230 _ (by omega), pN 231 _ (by omega), pN 232 _ (by omega), pN 233 _ (by omega), oA 16 h (by omega), oA 17 h (by omega), oA 18 h (by omega), oA 19 h (by omega)]
      exact m4 h a b
    · rw [pN 234 _ (by omega), pN 235 _ (by omega), pN 236 _ (by omega), oA 20 d (by omega), oA 21 d (by omega), oA 22 d (by omega)]
      exact m5 d a b
    · rw [pN 237 _ (by omega), pN 238 _ (by omega), oA 26 k (by omega), oA 27 k (by omega)]
      exact m6 k a b
    · exact m7.seed (by rw [fs_st_s]; decide) (fun k => ⟨oA 26 k (by omega), oA 27 k (by omega)⟩)
  have oN : fs_oB M N := by
    rw [← hN]
    exact (fs_FmL_q o5).tr fs_oB.s16
  refine sp_numeM hN' (by omega) (by omega) (fun M13 r eq3 o3 h3 => ⟨_, rfl, ?_⟩) (fun M13 e eq3 o3 e1 e2 e3 => ⟨_, rfl, ?_⟩)
  · rw [eq3] at good
    have mm : fs_mr M13 (fs_st A 15 11 1) := h3.2
    have hs13 : fs_mS M13 T E 8 r.2 := h3.1
    obtain ⟨k1, k2, k3, k4, k5, k6, k7⟩ := mm
    rw [oA 15 5 (by omega)] at k1
    rw [oA 15 9 (by omega)] at k2
    refine good _ (fs_st (fs_st A 15 10 r.1) 15 11 1, r.2) rfl (fs_FmL_st (oN.tr (fs_FmL_q o3)) F6) ⟨hs13.cg (fun o k c => ?_), ?_⟩
    · by_cases d : o = 228
      · rw [d, fs_st_k (by omega)]
      · exact fs_st_o d
    · have oB : ∀ o k, ¬ (o = 15 ∧ k = 10) → fs_st (fs_st A 15 10 r.1) 15 11 1 o k = fs_st A 15 11 1 o k := fun o k c => by
        by_cases d : o = 15
        · by_cases e : k = 11
          · rw [d, e, fs_st_s, fs_st_s]
          · rw [fs_st_k e, fs_st_k (by omega), fs_st_k e]
        · rw [fs_st_o d, fs_st_o d, fs_st_o d]
      have pM : ∀ o k, o ≠ 228 → fs_st M13 228 6 r.1 o k = M13 o k := fun o k c => fs_st_o c
      have b10 : fs_st (fs_st A 15 10 r.1) 15 11 1 15 10 = r.1 := by
        rw [fs_st_k (by omega)]
        exact fs_st_s
      show fs_mr (fs_st M13 228 6 r.1) (fs_st (fs_st A 15 10 r.1) 15 11 1)
      unfold fs_mr fs_td
      rw [fs_st_s, fs_st_k (show (4 : Int) ≠ 6 by omega), fs_st_k (show (5 : Int) ≠ 6 by omega), fs_st_o (show (226 : Int) ≠ 228 by omega), b10, oB 15 5 (by omega), oB 15 9 (by omega), oB 15 4 (by omega), oB 15 11 (by omega), oA 15 5 (by omega), oA 15 9 (by omega), oA 15 4 (by omega)]
      refine ⟨k1, k2, rfl, fun h a b => ?_, fun d a b => ?_, fun k a b => ?_, k7.1, k7.2.1, k7.2.2.1, fun k a b => ?_⟩
      · have z := k4 h a (by rw [oA 15 5 (by omega)]; exact b)
        rw [oA 16 h (by omega), oA 17 h (by omega), oA 18 h (by omega), oA 19 h (by omega), oA 15 4 (by omega)] at z
        rw [pM 229 _ (by omega), pM 230 _ (by omega), pM 231 _ (by omega), pM 232 _ (by omega), pM 233 _ (by omega), oB 16 h (by omega), oB 17 h (by omega), oB 18 h (by omega), oB 19 h (by omega), oA 16 h (by omega), oA 17 h (by omega), oA 18 h (by omega), oA 19 h (by omega)]
        exact z
      · have z := k5 d a (by rw [oA 15 9 (by omega)]; exact b)
        rw [pM 234 _ (by omega), pM 235 _ (by omega), pM 236 _ (by omega), oB 20 d (by omega), oB 21 d (by omega), oB 22 d (by omega)]
        exact z
      · rw [pM 237 _ (by omega), pM 238 _ (by omega), oB 26 k (by omega), oB 27 k (by omega)]
        exact k6 k a b
      · rw [oB 26 k (by omega), oB 27 k (by omega)]
        exact k7.2.2.2 k a b
  · rw [eq3] at bad
    refine bad _ e rfl (fs_FmL_st (oN.tr (fs_FmL_q o3)) F6) ?_ ?_ e3
    · rw [fs_st_o (by omega)]
      exact e1
    · rw [fs_st_o (by omega)]
      exact e2
end MREAD
