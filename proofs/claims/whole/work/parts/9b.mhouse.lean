-- ===== the model reads HOUSES, DARK ones, the seed, laws =====
def fs_qHT (T : Int → Int) (E : Int) (A : fs_M) (x : Int) (s : fs_q3) : fs_qQ := fs_qX (fs_qNam T E A 16 x s) (fun q => fs_qX (fs_qNum T E 0 99 q.2) (fun r => fs_qX (fs_qNum T E 0 99 r.2) (fun w => fs_qBy T E x (fs_st (fs_st (fs_st A 16 x q.1) 17 x r.1) 18 x w.1) w.2)))
theorem fs_told1 : ∀ w : Fin 32, 0 ≤ fs_or (w.val : Int) 1 ∧ fs_or (w.val : Int) 1 < 32 ∧ fs_and (fs_or (w.val : Int) 1) 1 = 1 ∧ ∀ k : Fin 4, (fs_and (fs_shr (fs_or (w.val : Int) 1) (1 + (k.val : Int))) 1 = 1 ↔ fs_and (fs_shr (w.val : Int) (1 + (k.val : Int))) 1 = 1) := by decide +kernel
theorem fs_told2 : ∀ w : Fin 32, ∀ j : Fin 4, 0 ≤ fs_or (w.val : Int) (fs_shl 2 (j.val : Int)) ∧ fs_or (w.val : Int) (fs_shl 2 (j.val : Int)) < 32 ∧ (fs_and (fs_or (w.val : Int) (fs_shl 2 (j.val : Int))) 1 = 1 ↔ fs_and (w.val : Int) 1 = 1) ∧ ∀ k : Fin 4, (fs_and (fs_shr (fs_or (w.val : Int) (fs_shl 2 (j.val : Int))) (1 + (k.val : Int))) 1 = 1 ↔ (k = j ∨ fs_and (fs_shr (w.val : Int) (1 + (k.val : Int))) 1 = 1)) := by decide +kernel
section MHOUSE
variable {g : fs_G} {M A : fs_M} {T : Int → Int} {E : Int}
theorem sp_houseM {K : fs_K} {s : fs_q3} {x : Int} (h : fs_mL M T E (A, s)) (hx : A 15 5 = x) (x0 : 0 ≤ x) (x6 : x < 6) (hb : ∀ h, x ≤ h → h < 6 → fs_bit (A 15 4) h = 0)
    (ok : ∀ M' S', fs_qHT T E A x s = .inr S' → fs_oB M M' → fs_mL M' T E S' → K none M') (no : ∀ M' e, fs_qHT T E A x s = .inl e → fs_oB M M' → M' 226 23 = e.1 → M' 226 24 = e.2 → e.1 ≠ 0 → K none M') : fs_C2 g m_Mo_houseLine 8 [fs_r 226, fs_i (6 + x)] M K := by
  have hm : fs_mr M A := h.2
  have e4 : M 228 4 = x := hm.1.trans hx
  have w4 : fs_w32 (4 + 0) = 4 := by decide
  refine E_Mo_houseLine (E_Mo_fresher ?_)
  rw [w4, e4]
  refine ⟨by omega, by omega, x, rfl, ?_⟩
  have F : ∀ o, 229 ≤ o → o ≤ 233 → fs_FmW o (6 + x) := fun o a b => by
    unfold fs_FmW
    omega
  have fin : ∀ (N : fs_M) (e : Int × Int), fs_qHT T E A x s = .inl e → N 226 23 = e.1 → N 226 24 = e.2 → e.1 ≠ 0 → fs_oB M N → fs_A2 g m_Mo_houseLine 8 82 [(0, fs_r 226), (1, fs_i (6 + x))] [] N K := fun N e he e1 e2 e3 oN =>
    fi_house82 (by omega) (by omega) (by omega) (by rw [e1]; exact e3) (fun M' o' a' => no M' e he (oN.tr o') (by rw [a' 23]; exact e1) (by rw [a' 24]; exact e2) e3)
  have e226 : ∀ {N : fs_M} {o k v a : Int}, 229 ≤ o → fs_st N o k v 226 a = N 226 a := fun {N o k v a} c => fs_st_o (by omega)
  refine sp_freshM ia_229 h (by omega) (by omega) x0 (by omega) (by omega) (arrC := 16) (fun j j0 j1 => (hm.2.2.2.1 j j0 (by omega)).1) (fun M2 q eq o2 h2 => ⟨_, rfl, by omega, by omega, ?_⟩) (fun M2 e eq o2 e1 e2 e3 => ⟨_, rfl, by omega, by omega, ?_⟩)
  · have u : ∀ F : (Int × fs_q3) → fs_qQ, fs_qX (fs_qNam T E A 16 x s) F = F q := fun F => by
      rw [eq]
      rfl
    have on2 : fs_oB M (fs_st M2 229 (6 + x) q.1) := fs_FmL_st (fs_FmL_q o2) (F 229 (by omega) (by omega))
    refine sp_numeM (h2.sth (by omega) (by omega) (by omega)) (by omega) (by omega) (fun M3 r eq3 o3 h3 => ⟨_, rfl, ?_⟩) (fun M3 e eq3 o3 e1 e2 e3 => ⟨_, rfl, ?_⟩)
    · have u3 : ∀ F : (Int × fs_q3) → fs_qQ, fs_qX (fs_qNum T E 0 99 q.2) F = F r := fun F => by
        rw [eq3]
        rfl
      have p3 : ∀ o k, ¬ fs_FqM o k → M3 o k = fs_st M2 229 (6 + x) q.1 o k := o3
      have on3 : fs_oB M (fs_st M3 230 (6 + x) r.1) := fs_FmL_st (on2.tr (fs_FmL_q o3)) (F 230 (by omega) (by omega))
      refine sp_numeM (h3.sth (by omega) (by omega) (by omega)) (by omega) (by omega) (fun M4 w eq4 o4 h4 => ⟨_, rfl, ?_⟩) (fun M4 e eq4 o4 e1 e2 e3 => ⟨_, rfl, ?_⟩)
      · have u4 : ∀ F : (Int × fs_q3) → fs_qQ, fs_qX (fs_qNum T E 0 99 r.2) F = F w := fun F => by
          rw [eq4]
          rfl
        have p4 : ∀ o k, ¬ fs_FqM o k → M4 o k = fs_st M3 230 (6 + x) r.1 o k := o4
        obtain ⟨B, hB⟩ : ∃ B, fs_st (fs_st (fs_st A 16 x q.1) 17 x r.1) 18 x w.1 = B := ⟨_, rfl⟩
        have eH : fs_qHT T E A x s = fs_qBy T E x B w.2 := by
          unfold fs_qHT
          rw [u, u3, u4, hB]
        have B16 : B 16 x = q.1 := by
          rw [← hB, fs_st_o (by omega), fs_st_o (by omega)]
          exact fs_st_s
        have B17 : B 17 x = r.1 := by
          rw [← hB, fs_st_o (by omega)]
          exact fs_st_s
        have B18 : B 18 x = w.1 := by
          rw [← hB]
          exact fs_st_s
        have Bo : ∀ o k, ¬ (16 ≤ o ∧ o ≤ 18 ∧ k = x) → B o k = A o k := fun o k n2 => by
          have st1 : ∀ (M : fs_M) (c v : Int), 16 ≤ c → c ≤ 18 → fs_st M c x v o k = M o k := fun M c v c1 c2 => by
            by_cases g : o = c
            · exact fs_st_k (by omega)
            · exact fs_st_o g
          rw [← hB, st1 _ _ _ (by omega) (by omega), st1 _ _ _ (by omega) (by omega), st1 _ _ _ (by omega) (by omega)]
        obtain ⟨N, hN⟩ : ∃ N, fs_st (fs_st M4 231 (6 + x) w.1) 232 (6 + x) 240 = N := ⟨_, rfl⟩
        rw [hN]
        have hN' : fs_mL N T E (A, w.2) := by
          rw [← hN]
          exact (h4.sth (by omega) (by omega) (by omega)).sth (by omega) (by omega) (by omega)
        have onN : fs_oB M N := by
          rw [← hN]
          exact fs_FmL_st (fs_FmL_st (on3.tr (fs_FmL_q o4)) (F 231 (by omega) (by omega))) (F 232 (by omega) (by omega))
        have n29 : N 229 (6 + x) = q.1 := by
          rw [← hN, fs_st_o (by omega), fs_st_o (by omega), p4 229 _ (by unfold fs_FqM; omega), fs_st_o (by omega), p3 229 _ (by unfold fs_FqM; omega)]
          exact fs_st_s
        have n30 : N 230 (6 + x) = r.1 := by
          rw [← hN, fs_st_o (by omega), fs_st_o (by omega), p4 230 _ (by unfold fs_FqM; omega)]
          exact fs_st_s
        have n31 : N 231 (6 + x) = w.1 := by
          rw [← hN, fs_st_o (by omega)]
          exact fs_st_s
        have n32 : N 232 (6 + x) = 240 := by
          rw [← hN]
          exact fs_st_s
        rw [eH] at ok no
        have hsN : fs_mS N T E 8 w.2 := hN'.1
        refine sp_isWordM hsN.2.2.2.2.1 hsN.2.1 (fun y => ⟨1, rfl, fun z => absurd z (by decide), fun _ => ?_⟩) (fun y => ⟨0, rfl, fun _ => ?_, fun z => absurd rfl z⟩)
        · have t4 := (fs_mw hsN.tk (w := 4) (by omega) (by omega)).mp y
          have eB : fs_qBy T E x B w.2 = fs_qX (fs_qNum T E 1 240 (fs_qA T E w.2)) (fun q => .inr (fs_qOwn T E x (fs_st (fs_st B 19 x 240) 19 x q.1) q.2)) := if_pos t4
          rw [eB] at ok no
          refine sp_tokS hsN (fun M6 o6 h6 => ⟨rfl, ?_⟩)
          have p6 : ∀ o k, ¬ fs_FqM o k → M6 o k = N o k := o6
          refine sp_numeM (hN'.step o6 h6) (by omega) (by omega) (fun M7 y7 eq7 o7 h7 => ⟨_, rfl, ?_⟩) (fun M7 e eq7 o7 e1 e2 e3 => ⟨_, rfl, ?_⟩)
          · have p7 : ∀ o k, ¬ fs_FqM o k → M7 o k = M6 o k := o7
            have on7 : fs_oB M (fs_st M7 232 (6 + x) y7.1) := fs_FmL_st ((onN.tr (fs_FmL_q o6)).tr (fs_FmL_q o7)) (F 232 (by omega) (by omega))
            have v : ∀ o, 229 ≤ o → o ≤ 231 → fs_st M7 232 (6 + x) y7.1 o (6 + x) = N o (6 + x) := fun o a b => by
              rw [fs_st_o (by omega), p7 o _ (by unfold fs_FqM; omega), p6 o _ (by unfold fs_FqM; omega)]
            rw [eq7] at ok
            refine sp_own82 (B := fs_st (fs_st B 19 x 240) 19 x y7.1) (h7.sth (by omega) (by omega) (by omega)) hx x0 x6 hb (fun o k c => ?_) ?_ ?_ ?_ ?_ (fun M' o' h' => ok M' _ rfl (on7.tr o') h')
            · by_cases d : o = 19
              · rw [fs_st_k (by omega), fs_st_k (by omega)]
                exact Bo o k (by omega)
              · rw [fs_st_o d, fs_st_o d]
                exact Bo o k (by omega)
            · rw [fs_st_o (by omega), fs_st_o (by omega), v 229 (by omega) (by omega), n29]
              exact B16
            · rw [fs_st_o (by omega), fs_st_o (by omega), v 230 (by omega) (by omega), n30]
              exact B17
            · rw [fs_st_o (by omega), fs_st_o (by omega), v 231 (by omega) (by omega), n31]
              exact B18
            · rw [fs_st_s, fs_st_s]
          · rw [eq7] at no
            have onM : fs_oB M (fs_st M7 232 (6 + x) 1) := fs_FmL_st ((onN.tr (fs_FmL_q o6)).tr (fs_FmL_q o7)) (F 232 (by omega) (by omega))
            refine fin _ e ?_ ?_ ?_ e3 onM
            · rw [eH, eB, eq7]
              rfl
            · rw [e226 (by omega)]
              exact e1
            · rw [e226 (by omega)]
              exact e2
        · have t4 : ¬ fs_lxt T E w.2.1 = 1004 := fun z => y ((fs_mw hsN.tk (w := 4) (by omega) (by omega)).mpr z)
          have eB : fs_qBy T E x B w.2 = .inr (fs_qOwn T E x (fs_st B 19 x 240) w.2) := if_neg t4
          refine sp_own82 (B := fs_st B 19 x 240) hN' hx x0 x6 hb (fun o k c => ?_) ?_ ?_ ?_ ?_ (fun M' o' h' => ok M' _ eB (onN.tr o') h')
          · by_cases d : o = 19
            · rw [fs_st_k (by omega)]
              exact Bo o k (by omega)
            · rw [fs_st_o d]
              exact Bo o k (by omega)
          · rw [fs_st_o (by omega), n29]
            exact B16
          · rw [fs_st_o (by omega), n30]
            exact B17
          · rw [fs_st_o (by omega), n31]
            exact B18
          · rw [fs_st_s, n32]
      · have f4 : ¬ M4 226 23 = 0 := by rw [e1]; exact e3
        refine fi_isWord (fz (by omega) (fz (by omega) f4)) ⟨0, rfl, fun _ => fin _ e ?_ ?_ ?_ e3 (fs_FmL_st (fs_FmL_st (on3.tr (fs_FmL_q o4)) (F 231 (by omega) (by omega))) (F 232 (by omega) (by omega))), fun z => absurd rfl z⟩
        · unfold fs_qHT
          rw [u, u3, eq4]
          rfl
        · rw [e226 (by omega), e226 (by omega)]
          exact e1
        · rw [e226 (by omega), e226 (by omega)]
          exact e2
    · have f3 : ¬ M3 226 23 = 0 := by rw [e1]; exact e3
      refine fi_numeral (fz (by omega) f3) ⟨_, rfl, fi_isWord (fz (by omega) (fz (by omega) (fz (by omega) f3))) ⟨0, rfl, fun _ => fin _ e ?_ ?_ ?_ e3 (fs_FmL_st (fs_FmL_st (fs_FmL_st (on2.tr (fs_FmL_q o3)) (F 230 (by omega) (by omega))) (F 231 (by omega) (by omega))) (F 232 (by omega) (by omega))), fun z => absurd rfl z⟩⟩
      · unfold fs_qHT
        rw [u, eq3]
        rfl
      · rw [e226 (by omega), e226 (by omega), e226 (by omega)]
        exact e1
      · rw [e226 (by omega), e226 (by omega), e226 (by omega)]
        exact e2
  · have f2 : ¬ M2 226 23 = 0 := by rw [e1]; exact e3
    refine fi_numeral (fz (by omega) f2) ⟨_, rfl, fi_numeral (fz (by omega) (fz (by omega) f2)) ⟨_, rfl, fi_isWord (fz (by omega) (fz (by omega) (fz (by omega) (fz (by omega) f2)))) ⟨0, rfl, fun _ => fin _ e ?_ ?_ ?_ e3 (fs_FmL_st (fs_FmL_st (fs_FmL_st (fs_FmL_st (fs_FmL_q o2) (F 229 (by omega) (by omega))) (F 230 (by omega) (by omega))) (F 231 (by omega) (by omega))) (F 232 (by omega) (by omega))), fun z => absurd rfl z⟩⟩⟩
    · unfold fs_qHT
      rw [eq]
      rfl
    · rw [e226 (by omega), e226 (by omega), e226 (by omega), e226 (by omega)]
      exact e1
    · rw [e226 (by omega), e226 (by omega), e226 (by omega), e226 (by omega)]
      exact e2
end MHOUSE
