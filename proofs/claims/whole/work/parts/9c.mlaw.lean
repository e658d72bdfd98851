-- ===== the model reads laws, DARK ones, the seed =====
theorem fs_td.seed {w : Int} {A A' : fs_M} (h : fs_td w A) (h11 : A' 15 11 ≠ 0) (he : ∀ k, A' 26 k = A 26 k ∧ A' 27 k = A 27 k) : fs_td (fs_or w 1) A' := by
  obtain ⟨w0, w1, a, b⟩ := h
  obtain ⟨n, hn⟩ : ∃ n : Nat, w = (n : Int) := ⟨w.toNat, by omega⟩
  subst hn
  obtain ⟨c1, c2, c3, c4⟩ := fs_told1 ⟨n, by omega⟩
  refine ⟨c1, c2, ⟨fun _ => h11, fun _ => c3⟩, fun k k0 k4 => ?_⟩
  obtain ⟨m, hm⟩ : ∃ m : Nat, k = (m : Int) := ⟨k.toNat, by omega⟩
  subst hm
  rw [(he _).1, (he _).2]
  exact (c4 ⟨m, by omega⟩).trans (b _ k0 k4)
theorem fs_td.law {w x : Int} {A A' : fs_M} (h : fs_td w A) (x0 : 0 ≤ x) (x4 : x < 4) (h11 : A' 15 11 = A 15 11) (hx : A' 26 x < A' 27 x) (he : ∀ k, k ≠ x → A' 26 k = A 26 k ∧ A' 27 k = A 27 k) : fs_td (fs_or w (fs_shl 2 x)) A' := by
  obtain ⟨w0, w1, a, b⟩ := h
  obtain ⟨n, hn⟩ : ∃ n : Nat, w = (n : Int) := ⟨w.toNat, by omega⟩
  obtain ⟨j, hj⟩ : ∃ j : Nat, x = (j : Int) := ⟨x.toNat, by omega⟩
  subst hn
  subst hj
  obtain ⟨c1, c2, c3, c4⟩ := fs_told2 ⟨n, by omega⟩ ⟨j, by omega⟩
  refine ⟨c1, c2, by rw [h11]; exact c3.trans a, fun k k0 k4 => ?_⟩
  obtain ⟨m, hm⟩ : ∃ m : Nat, k = (m : Int) := ⟨k.toNat, by omega⟩
  subst hm
  refine (c4 ⟨m, by omega⟩).trans ?_
  by_cases c : m = j
  · refine ⟨fun _ => by rw [c]; exact hx, fun _ => Or.inl (by rw [Fin.mk.injEq]; exact c)⟩
  · rw [(he _ (by omega)).1, (he _ (by omega)).2]
    refine ⟨fun z => ?_, fun z => Or.inr ((b _ k0 k4).mpr z)⟩
    rcases z with z | z
    · rw [Fin.mk.injEq] at z
      exact absurd z c
    · exact (b _ k0 k4).mp z
section MLAW
variable {g : fs_G} {M A : fs_M} {T : Int → Int} {E : Int}
theorem sp_lawLineM {K : fs_K} {s : fs_q3} (h : fs_mL M T E (A, fs_qA T E s)) (hi : fs_inv E (A, s)) (ok : ∀ M' S', fs_qLaw T E A s = .inr S' → fs_oB M M' → fs_mL M' T E S' → M' 226 17 = M 226 17 → K none M') (no : ∀ M' e, fs_qLaw T E A s = .inl e → fs_oB M M' → M' 226 23 = e.1 → M' 226 24 = e.2 → e.1 ≠ 0 → K none M') : fs_C2 g m_Mo_lawLine 158 [fs_r 226] M K := by
  have hs : fs_mS M T E 8 (fs_qA T E s) := h.1
  obtain ⟨h20, _, e21, _, _, e22, _⟩ := hs.2.1
  have hf := hs.2.2.2.2.1
  have c0 := hs.2.2.2.2.2.2.1
  have tk := hs.tk
  unfold fs_qLaw at ok no
  obtain ⟨t, ht⟩ : ∃ t, fs_lxt T E (fs_qA T E s).1 = t := ⟨_, rfl⟩
  rw [ht] at ok no tk e21 e22
  have bad30 : ∀ (M' : fs_M) (e : Int × Int), M' 226 23 = e.1 → e.1 ≠ 0 → K none M' → fs_A2 g m_Mo_lawLine 158 30 [(0, fs_r 226)] [] M' K := fun M' e e1 e3 k => L_Mo_lawLine_30 ⟨fun _ => L_Mo_lawLine_64 ⟨fun z => absurd (e1.symm.trans z) e3, fun _ => k⟩, fun z => absurd (e1.symm.trans z) e3⟩
  have unfit : ¬ (1006 ≤ t ∧ t ≤ 1009) → fs_C2 g m_Mo_wrong 1 [fs_r 226, fs_i 1] M (fun v M1 => v = none ∧ fs_A2 g m_Mo_lawLine 158 30 [(0, fs_r 226)] [] M1 K) := fun nt => by
    rw [if_neg nt] at no
    exact sp_wrongM hf h20 (fun M' o' e1 e2 => ⟨rfl, bad30 M' (1, (fs_qA T E s).1) e1 fs_n1z (no M' (1, (fs_qA T E s).1) rfl (fs_FmL_q (fs_FqM_w o')) e1 e2 fs_n1z)⟩)
  refine E_Mo_lawLine ?_
  rw [e21]
  refine ⟨fun z => unfit (fun y => ?_), fun z => ?_⟩
  · exact z ((fs_mw tk (w := t - 1000) (by omega) (by omega)).mpr (by omega)).1
  have v22 := e22 z
  rw [v22]
  have lo : fs_wno t < 6 → ¬ (1006 ≤ t ∧ t ≤ 1009) := fun y w => by
    have := ((fs_mw tk (w := t - 1000) (by omega) (by omega)).mpr (by omega)).2
    omega
  have hi9 : ¬ fs_wno t ≤ 9 → ¬ (1006 ≤ t ∧ t ≤ 1009) := fun y w => by
    have := ((fs_mw tk (w := t - 1000) (by omega) (by omega)).mpr (by omega)).2
    omega
  refine ⟨fun y => unfit (lo y), fun y => ⟨fun w => ?_, fun w => unfit (hi9 w)⟩⟩
  have tw := (fs_mw tk (w := fs_wno t) (by omega) (by omega)).mp ⟨z, rfl⟩
  obtain ⟨x, hx⟩ : ∃ x, t - 1006 = x := ⟨_, rfl⟩
  have wx : fs_wno t - 6 = x := by omega
  have x0 : 0 ≤ x := by omega
  have x4 : x < 4 := by omega
  rw [hx, if_pos ⟨by omega, by omega⟩] at ok no
  have hm : fs_mr M A := h.2
  obtain ⟨m1, m2, m3, m4, m5, m6, m7⟩ := hm
  refine L_Mo_lawLine_30 ⟨fun q => absurd hf q, fun _ => ?_⟩
  rw [v22, wx, fs_w32_of (x := x) (by omega) (by omega), fs_w32_of (x := 1 + x) (by omega) (by omega)]
  have td := m7.2.2.2 x x0 x4
  refine ⟨fun q => ?_, fun q => ?_⟩
  · have le : A 27 x ≤ A 26 x := by
      have : ¬ A 26 x < A 27 x := fun r => q (td.mpr r)
      omega
    rw [if_pos le] at ok no
    refine L_Mo_lawLine_64 ⟨fun _ => ?_, fun r => absurd hf r⟩
    obtain ⟨w', hw'⟩ : ∃ w', fs_or (M 226 16) (fs_shl 2 x) = w' := ⟨_, rfl⟩
    rw [hw']
    obtain ⟨N, hN⟩ : ∃ N, fs_st M 226 16 w' = N := ⟨_, rfl⟩
    rw [hN]
    have pN : ∀ o k, ¬ (o = 226 ∧ k = 16) → N o k = M o k := fun o k c => by
      rw [← hN]
      by_cases d : o = 226
      · exact fs_st_k (by omega)
      · exact fs_st_o d
    have sN : fs_mS N T E 8 (fs_qA T E s) := hs.cg (fun o k c => pN o k (by omega))
    have n16 : N 226 16 = w' := by
      rw [← hN]
      exact fs_st_s
    have w7 : fs_w32 (4 + 3) = 7 := by decide
    refine sp_tokS sN (fun M5 o5 h5 => ⟨rfl, E_Mo_fresher ?_⟩)
    have p5 : ∀ o k, ¬ fs_FqM o k → M5 o k = N o k := o5
    have l5 : M5 228 7 = (s.2.2.length : Int) := h5.2.2.2.2.2.2.2.2.1
    rw [w7, l5]
    refine ⟨by omega, by omega, _, rfl, ?_⟩
    rw [fs_w32_of (x := 4 + x) (by omega) (by omega)]
    refine ⟨by omega, by omega, ?_⟩
    obtain ⟨N2, hN2⟩ : ∃ N2, fs_st M5 237 (4 + x) (s.2.2.length : Int) = N2 := ⟨_, rfl⟩
    rw [hN2]
    have pN2 : ∀ o k, ¬ (o = 237 ∧ k = 4 + x) → N2 o k = M5 o k := fun o k c => by
      rw [← hN2]
      by_cases d : o = 237
      · exact fs_st_k (by omega)
      · exact fs_st_o d
    have sN2 : fs_mS N2 T E 8 (fs_qA T E (fs_qA T E s)) := h5.cg (fun o k c => pN2 o k (by omega))
    have n237 : N2 237 (4 + x) = (s.2.2.length : Int) := by
      rw [← hN2]
      exact fs_st_s
    have oN2 : fs_oB M N2 := by
      rw [← hN2]
      refine fs_FmL_st (fs_oB.tr ?_ (fs_FmL_q o5)) (by unfold fs_FmW; omega)
      rw [← hN]
      exact fs_oB.s16
    -- what is where at the end
    have all : ∀ M7, fs_out fs_FqM N2 M7 → ∀ v, ∀ o k, ¬ fs_FqM o k → ¬ ((o = 237 ∨ o = 238) ∧ k = 4 + x) → ¬ (o = 226 ∧ k = 16) → fs_st M7 238 (4 + x) v o k = M o k := fun M7 o7 v o k c1 c2 c3 => by
      have z : fs_st M7 238 (4 + x) v o k = M7 o k := by
        by_cases d : o = 238
        · exact fs_st_k (by omega)
        · exact fs_st_o d
      rw [z, o7 o k c1, pN2 o k (by omega), p5 o k c1, pN o k c3]
    have oM7 : ∀ M7, fs_out fs_FqM N2 M7 → ∀ v, fs_oB M (fs_st M7 238 (4 + x) v) := fun M7 o7 v => fs_FmL_st (oN2.tr (fs_FmL_q o7)) (by unfold fs_FmW; omega)
    refine sp_exprM 8 (by omega) N2 _ _ 157 sN2 (by show ((5 : Nat) : Int) + 6 * ((8 : Nat) : Int) + 73 - (fs_qA T E s).2.1 ≤ ((157 : Nat) : Int); omega) (fun M7 s3 eq7 o7 h7 => ⟨rfl, E_Mo_fresher ?_⟩) (fun M7 e eq7 o7 e1 e2 e3 => ⟨rfl, E_Mo_fresher ?_⟩)
    · have l7 : M7 228 7 = (s3.2.2.length : Int) := h7.2.2.2.2.2.2.2.2.1
      rw [w7, l7]
      refine ⟨by omega, by omega, _, rfl, ?_⟩
      rw [eq7] at ok
      obtain ⟨M8, hM8⟩ : ∃ M8, fs_st M7 238 (4 + x) (s3.2.2.length : Int) = M8 := ⟨_, rfl⟩
      have p8 := all M7 o7 (s3.2.2.length : Int)
      have o8 := oM7 M7 o7 (s3.2.2.length : Int)
      rw [hM8] at p8 o8
      rw [hM8]
      obtain ⟨A', hA⟩ : ∃ A', fs_st (fs_st A 26 x (s.2.2.length : Int)) 27 x (s3.2.2.length : Int) = A' := ⟨_, rfl⟩
      have ok2 : fs_mL M8 T E (A', s3) → M8 226 17 = M 226 17 → K none M8 := fun a b => ok M8 (A', s3) (by rw [← hA]; rfl) o8 a b
      have oth : ∀ o k, ¬ ((o = 26 ∨ o = 27) ∧ k = x) → A' o k = A o k := fun o k n1 => by
        have st1 : ∀ (M : fs_M) (c v : Int), c = 26 ∨ c = 27 → fs_st M c x v o k = M o k := fun M c v c1 => by
          by_cases g : o = c
          · exact fs_st_k (by omega)
          · exact fs_st_o g
        rw [← hA, st1 _ _ _ (Or.inr rfl), st1 _ _ _ (Or.inl rfl)]
      have x26 : A' 26 x = (s.2.2.length : Int) := by
        rw [← hA, fs_st_o (by omega)]
        exact fs_st_s
      have x27 : A' 27 x = (s3.2.2.length : Int) := by
        rw [← hA]
        exact fs_st_s
      have v237 : M8 237 (4 + x) = (s.2.2.length : Int) := by
        rw [← hM8, fs_st_o (by omega), o7 237 _ (by unfold fs_FqM; omega)]
        exact n237
      have v238 : M8 238 (4 + x) = (s3.2.2.length : Int) := by
        rw [← hM8]
        exact fs_st_s
      have v16 : M8 226 16 = w' := by
        rw [← hM8, fs_st_o (by omega), o7 226 16 (by unfold fs_FqM; omega), pN2 226 16 (by omega), p5 226 16 (by unfold fs_FqM; omega)]
        exact n16
      -- the law has a knot
      have c64 := hs.2.2.2.2.2.2.2.1
      obtain ⟨_, _, _, W, w1, w2, w3, w4⟩ := fs_qE_good 8 _ s3 eq7 sN2.2.2.1 sN2.2.2.2.1 c64
      have w1' : s3.2.2 = s.2.2 ++ W := w1
      have lt : (s.2.2.length : Int) < (s3.2.2.length : Int) := by
        rw [w1', List.length_append]
        have ne : W.length ≠ 0 := fun z => by
          have e0 : W = [] := List.length_eq_zero_iff.mp z
          have y := w4 0 (by omega)
          rw [e0] at y
          have y2 : (0 : Int) = 0 + 1 := y
          omega
        omega
      refine ok2 ⟨?_, ?_⟩ (p8 226 17 (by unfold fs_FqM; omega) (by omega) (by omega))
      · rw [← hM8]
        exact h7.cg (fun o k c => fs_st_o (by omega))
      · show fs_mr M8 A'
        unfold fs_mr
        rw [p8 228 4 (by unfold fs_FqM; omega) (by omega) (by omega), p8 228 5 (by unfold fs_FqM; omega) (by omega) (by omega), p8 228 6 (by unfold fs_FqM; omega) (by omega) (by omega), oth 15 5 (by omega), oth 15 9 (by omega), oth 15 10 (by omega), oth 15 4 (by omega), v16]
        refine ⟨m1, m2, m3, fun h a b => ?_, fun d a b => ?_, fun k a b => ?_, ?_⟩
        · rw [p8 229 _ (by unfold fs_FqM; omega) (by omega) (by omega), p8 230 _ (by unfold fs_FqM; omega) (by omega) (by omega), p8 231 _ (by unfold fs_FqM; omega) (by omega) (by omega), p8 232 _ (by unfold fs_FqM; omega) (by omega) (by omega), p8 233 _ (by unfold fs_FqM; omega) (by omega) (by omega), oth 16 h (by omega), oth 17 h (by omega), oth 18 h (by omega), oth 19 h (by omega)]
          exact m4 h a b
        · rw [p8 234 _ (by unfold fs_FqM; omega) (by omega) (by omega), p8 235 _ (by unfold fs_FqM; omega) (by omega) (by omega), p8 236 _ (by unfold fs_FqM; omega) (by omega) (by omega), oth 20 d (by omega), oth 21 d (by omega), oth 22 d (by omega)]
          exact m5 d a b
        · by_cases c : k = x
          · rw [c, v237, v238, x26, x27]
            exact ⟨rfl, rfl⟩
          · rw [p8 237 _ (by unfold fs_FqM; omega) (by omega) (by omega), p8 238 _ (by unfold fs_FqM; omega) (by omega) (by omega), oth 26 k (by omega), oth 27 k (by omega)]
            exact m6 k a b
        · rw [← hw']
          exact m7.law x0 x4 (oth 15 11 (by omega)) (by rw [x26, x27]; exact lt) (fun k c => ⟨oth 26 k (by omega), oth 27 k (by omega)⟩)
    · rw [w7]
      refine ⟨by omega, by omega, _, rfl, ?_⟩
      rw [eq7] at no
      refine no _ e rfl (oM7 M7 o7 _) ?_ ?_ e3
      · rw [fs_st_o (by omega)]
        exact e1
      · rw [fs_st_o (by omega)]
        exact e2
  · have gt : ¬ A 27 x ≤ A 26 x := by
      have := td.mp q
      omega
    rw [if_neg gt] at no
    exact sp_wrongM hf h20 (fun M' o' e1 e2 => ⟨rfl, L_Mo_lawLine_64 ⟨fun r => absurd (e1.symm.trans r) fs_n3z, fun _ => no M' (3, (fs_qA T E s).1) rfl (fs_FmL_q (fs_FqM_w o')) e1 e2 fs_n3z⟩⟩)
end MLAW
