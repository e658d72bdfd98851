-- ===== goOn; write =====
def fs_RS (E : fs_M) : List (List Int) := fs_ext (E 1 5).toNat fs_tt 6 []
/-- what stands of a dark one and a row -/
def fs_PK (E : fs_M) (rf : Int) (al : Int → Int) (d : Int) (M : fs_M) (j : Int) (s : List Int) : Prop := (∀ h, 0 ≤ h → h < E 1 5 → fs_mof (M (64 + d) j) h = fs_ful E (-1) rf al d s h) ∧ M (68 + d) j = fs_col (fs_itm E (-1) rf al d s) (E 1 5).toNat
def fs_FG (d len L o k : Int) : Prop := fs_F2 o k ∨ ((o = 64 + d ∨ o = 68 + d) ∧ L ≤ k) ∨ (84 + len ≤ o ∧ o ≤ 89)
theorem fs_isO_83 : ∀ i : Nat, i < 7 → fs_isO 2 (83 + (i : Int)) := by
  have h : ∀ i : Nat, i < 7 → fs_kinds[(83 + i : Nat)]? = some (.inl 2) := by decide +kernel
  intro i hi
  refine ⟨by omega, ?_⟩
  have e : (83 + (i : Int)).toNat = 83 + i := by omega
  rw [e]
  exact h i hi
def fs_sd (E : fs_M) (rf : Int) (al : Int → Int) (d : Int) (r : List Int) : Option (Int × Int × Int × Int) := fs_stt E (-1) rf al r (E 7 d) 1 0 (E 8 d)
section BOOKW
variable {g : fs_G}
theorem sp_goOn {E : fs_M} {rf d : Int} {al : Int → Int} (hB : fs_bE E) (d0 : 0 ≤ d) (d1 : d < E 1 9) : ∀ (n dd : Nat) (r : List Int) (L did : Int) (M : fs_M) (K : fs_K), n + 7 ≤ dd → r.length + n = 6 → r.Nodup → (∀ h, h ∈ r → 0 ≤ h ∧ h < E 1 5) → fs_ctx E rf al M → 0 ≤ L → L + (fs_ext (E 1 5).toNat fs_tt n r).length ≤ 1957 →
    fs_wrt (fun j s => M 62 j = fs_bts s 0) L (fs_ext (E 1 5).toNat fs_tt n r) → fs_gor M (83 + r.length) r.length (fs_sd E rf al d r) → (∀ h, 0 ≤ h → h < E 1 5 → fs_mof did h = fs_ful E (-1) rf al d r h) →
    (∀ M', fs_out (fs_FG d r.length L) M M' → fs_wrt (fs_PK E rf al d M') L (fs_ext (E 1 5).toNat fs_tt n r) → K (some (fs_i (L + (fs_ext (E 1 5).toNat fs_tt n r).length))) M') →
    fs_C2 g m_Book_goOn dd [fs_r 60, fs_i d, fs_i L, fs_i (r.length : Int), fs_l did] M K := by
  have h5 := hB.1
  have h6 := hB.2.1
  have h3 := hB.2.2.2.1
  intro n
  induction n with
  | zero =>
    intro dd r L did M K hd hr hnd hb hC l0 ll hw hg hdid hK
    obtain ⟨e, rfl⟩ : ∃ e, dd = e + 1 := ⟨dd - 1, by omega⟩
    have ln : (fs_ext (E 1 5).toNat fs_tt 0 r).length = 1 := rfl
    rw [ln] at ll hK
    refine E_Book_goOn (by omega) ⟨fun _ => ⟨d0, by omega, l0, ?_⟩, fun z => by omega⟩
    have env1 : fs_env E (fs_st M (64 + d) L did) := fun o k q => by
      rw [fs_st_o (by unfold fs_eC at q; omega)]
      exact hC.1 o k q
    refine sp_housesInTime (p := fs_itm E (-1) rf al d r) hB env1 (fun h a b => by unfold fs_itm; rw [hdid h a b]) ⟨_, rfl, ?_⟩
    rw [fs_w32_of (by omega) (by omega)]
    have fin : K (some (fs_i (L + 1))) (fs_st (fs_st M (64 + d) L did) (68 + d) L (fs_col (fs_itm E (-1) rf al d r) (E 1 5).toNat)) := by
      refine hK _ ((fs_out.rf.st ?_).st ?_) ⟨⟨fun h a b => ?_, ?_⟩, trivial⟩
      · exact Or.inr (Or.inl ⟨Or.inl rfl, Int.le_refl _⟩)
      · exact Or.inr (Or.inl ⟨Or.inr rfl, Int.le_refl _⟩)
      · rw [fs_st_o (by omega), fs_st_s]
        exact hdid h a b
      · rw [fs_st_s]
    exact L_Book_goOn_41 (by omega) ⟨fun _ => fin, fun _ => ⟨fun _ => fin, fun z => by omega⟩⟩
  | succ n ih =>
    intro dd r L did M K hd hr hnd hb hC l0 ll hw hg hdid hK
    obtain ⟨e, rfl⟩ : ∃ e, dd = e + 1 := ⟨dd - 1, by omega⟩
    rw [fs_ext_s] at hw
    obtain ⟨hw0, hwt⟩ := hw
    rw [fs_ext_s, List.length_cons] at ll
    refine E_Book_goOn (by omega) ⟨fun _ => ⟨d0, by omega, l0, ?_⟩, fun z => by omega⟩
    have env1 : fs_env E (fs_st M (64 + d) L did) := fun o k q => by
      rw [fs_st_o (by unfold fs_eC at q; omega)]
      exact hC.1 o k q
    refine sp_housesInTime (p := fs_itm E (-1) rf al d r) hB env1 (fun h a b => by unfold fs_itm; rw [hdid h a b]) ⟨_, rfl, ?_⟩
    rw [fs_w32_of (by omega) (by omega)]
    have loop : ∀ (m : Nat) (x L1 : Int) (M1 : fs_M), x + m = E 1 5 → 0 ≤ x → fs_ctx E rf al M1 → L + 1 ≤ L1 → L1 + (fs_fmp (fun h => fs_ext (E 1 5).toNat fs_tt n (r ++ [h])) (fs_hf fs_tt r m x)).length ≤ 1957 →
        M1 62 L = fs_bts r 0 → fs_wrt (fun j s => M1 62 j = fs_bts s 0) L1 (fs_fmp (fun h => fs_ext (E 1 5).toNat fs_tt n (r ++ [h])) (fs_hf fs_tt r m x)) → fs_gor M1 (83 + r.length) r.length (fs_sd E rf al d r) →
        (∀ M', fs_out (fs_FG d r.length L1) M1 M' → fs_wrt (fs_PK E rf al d M') L1 (fs_fmp (fun h => fs_ext (E 1 5).toNat fs_tt n (r ++ [h])) (fs_hf fs_tt r m x)) → K (some (fs_i (L1 + (fs_fmp (fun h => fs_ext (E 1 5).toNat fs_tt n (r ++ [h])) (fs_hf fs_tt r m x)).length))) M') →
        fs_A2 g m_Book_goOn (e + 1) 41 [(0, fs_r 60), (1, fs_i d), (2, fs_i L), (3, fs_i (r.length : Int)), (4, fs_l did), (6, fs_i L1), (7, fs_i x)] [] M1 K := by
      intro m
      induction m with
      | zero =>
        intro x L1 M1 hx x0 hC1 hL1 ll1 hs hw1 hg1 hK1
        refine L_Book_goOn_41 (by omega) ⟨fun _ => ?_, fun z => ?_⟩
        · have h := hK1 M1 fs_out.rf trivial
          have e0 : L1 + ((fs_fmp (fun h => fs_ext (E 1 5).toNat fs_tt n (r ++ [h])) (fs_hf fs_tt r 0 x)).length : Int) = L1 := Int.add_zero L1
          rw [e0] at h
          exact h
        · rw [hC1.1 1 5 (by unfold fs_eC; omega)] at z
          omega
      | succ m ihm =>
        intro x L1 M1 hx x0 hC1 hL1 ll1 hs hw1 hg1 hK1
        have e15 : M1 1 5 = E 1 5 := hC1.1 1 5 (by unfold fs_eC; omega)
        have wx : fs_w32 (x + 1) = x + 1 := fs_w32_of (by omega) (by omega)
        have bb := fs_bts_in (i := x) x0 (by omega) (r := r) (fun h hh => ⟨(hb h hh).1, by have := (hb h hh).2; omega⟩)
        have lr : r.length = 5 - n := by omega
        refine L_Book_goOn_41 (by omega) ⟨fun z => by omega, fun _ => ⟨fun z => by omega, fun _ => ⟨l0, by omega, E_Fs_bit ⟨_, rfl, fun z => ?_, fun z => ?_⟩⟩⟩⟩
        · rw [hs] at z
          have xin : x ∈ r := bb.1 (by
            rcases fs_bit01 (fs_bts r 0) x with w | w
            · exact absurd w z
            · exact w)
          rw [fs_hf_n (Or.inr xin)] at ll1 hw1 hK1
          rw [wx]
          exact ihm (x + 1) L1 M1 (by omega) (by omega) hC1 hL1 ll1 hs hw1 hg1 hK1
        · rw [hs] at z
          have xn : x ∉ r := fun w => by
            have q := bb.2 w
            have z2 : fs_bit (fs_bts r 0) x = 0 := z
            omega
          rw [fs_hf_y rfl xn] at ll1 hw1 hK1
          have ea : fs_fmp (fun h => fs_ext (E 1 5).toNat fs_tt n (r ++ [h])) (x :: fs_hf fs_tt r m (x + 1)) = fs_ext (E 1 5).toNat fs_tt n (r ++ [x]) ++ fs_fmp (fun h => fs_ext (E 1 5).toNat fs_tt n (r ++ [h])) (fs_hf fs_tt r m (x + 1)) := rfl
          rw [ea] at ll1 hw1 hK1
          rw [List.length_append] at ll1 hK1
          obtain ⟨hwa, hwb⟩ := (fs_wrt_app _ _ _).1 hw1
          have el2 : ((r ++ [x]).length : Int) = (r.length : Int) + 1 := by
            rw [List.length_append, List.length_singleton]
            omega
          have iq : fs_isO 2 (83 + ((r.length : Int) + 1)) := by
            have := fs_isO_83 (r.length + 1) (by omega)
            rw [show (((r.length + 1 : Nat)) : Int) = (r.length : Int) + 1 by omega] at this
            exact this
          have iq0 : fs_isO 2 (83 + (r.length : Int)) := fs_isO_83 r.length (by omega)
          rw [fs_w32_of (x := (r.length : Int) + 1) (by omega) (by omega), wx]
          refine ⟨by omega, by omega, by omega, E_Goer_copyFrom iq iq0 ⟨rfl, ?_⟩⟩
          -- the goer copied
          generalize hM2 : fs_st (fs_st (fs_st (fs_st (fs_st (fs_st (fs_st M1 (83 + ((r.length : Int) + 1)) 0 (M1 (83 + (r.length : Int)) 0)) (83 + ((r.length : Int) + 1)) 1 (M1 (83 + (r.length : Int)) 1)) (83 + ((r.length : Int) + 1)) 2 (M1 (83 + (r.length : Int)) 2)) (83 + ((r.length : Int) + 1)) 3 (M1 (83 + (r.length : Int)) 3)) (83 + ((r.length : Int) + 1)) 4 (M1 (83 + (r.length : Int)) 4)) (83 + ((r.length : Int) + 1)) 5 (M1 (83 + (r.length : Int)) 5)) (83 + ((r.length : Int) + 1)) 6 (M1 (83 + (r.length : Int)) 6) = M2
          have m2o : ∀ o k, o ≠ 83 + ((r.length : Int) + 1) → M2 o k = M1 o k := fun o k w => by
            rw [← hM2, fs_st_o w, fs_st_o w, fs_st_o w, fs_st_o w, fs_st_o w, fs_st_o w, fs_st_o w]
          have m2q : ∀ k, 0 ≤ k → k ≤ 6 → M2 (83 + ((r.length : Int) + 1)) k = M1 (83 + (r.length : Int)) k := fun k k0 k6 => by
            rw [← hM2]
            have : k = 0 ∨ k = 1 ∨ k = 2 ∨ k = 3 ∨ k = 4 ∨ k = 5 ∨ k = 6 := by omega
            rcases this with w | w | w | w | w | w | w <;> subst w <;> simp [fs_st]
          have C2 : fs_ctx E rf al M2 := hC1.out (fun o k w => m2o o k (by unfold fs_eC at w; omega))
          have g2 : fs_gor M2 (83 + ((r.length : Int) + 1)) r.length (fs_sd E rf al d r) := hg1.cong m2q
          refine sp_doesNext hB iq (by omega) (by omega) C2 x0 (by omega) (by omega) (by omega) g2 (fun M3 o3 g3 => ⟨_, rfl, ?_⟩)
          have e3 : ∀ o k, ¬ fs_F2 o k → o ≠ 83 + ((r.length : Int) + 1) → M3 o k = M1 o k := fun o k a b => by
            rw [o3 o k (fun w => by
              rcases w with w | w
              · exact a w
              · exact b w)]
            exact m2o o k b
          have C3 : fs_ctx E rf al M3 := hC1.out (fun o k w => e3 o k (by unfold fs_F2; unfold fs_eC at w; omega) (by unfold fs_eC at w; omega))
          have g3' : fs_gor M3 (83 + ((r ++ [x]).length : Int)) (r ++ [x]).length (fs_sd E rf al d (r ++ [x])) := by
            unfold fs_sd
            rw [fs_stt_snoc, el2]
            exact g3
          have hmi : fs_nmi E (-1) al x (fs_sd E rf al d r) = fs_ful E (-1) rf al d (r ++ [x]) x := (fs_fut_sx r _ _ _ _ xn).symm
          have fb := fs_ful_b (tr := -1) (rf := rf) (al := al) (h := x) hB d0 d1 (r := r ++ [x]) (fun y hy => by
            rcases List.mem_append.1 hy with w | w
            · exact hb y w
            · rcases List.mem_cons.1 w with w | w
              · rw [w]
                exact ⟨x0, by omega⟩
              · cases w)
          have hd0 : fs_mof did x = 0 := by
            rw [hdid x x0 (by omega)]
            unfold fs_ful
            exact fs_fut_n r _ _ _ xn
          have hdn : ∀ h, 0 ≤ h → h < E 1 5 → fs_mof (fs_lor did (if fs_nmi E (-1) al x (fs_sd E rf al d r) = 0 then 0 else fs_lshl (fs_nmi E (-1) al x (fs_sd E rf al d r)) (fs_w32 (8 * x)))) h = fs_ful E (-1) rf al d (r ++ [x]) h := fun h a b => by
            have other : h ≠ x → fs_ful E (-1) rf al d (r ++ [x]) h = fs_ful E (-1) rf al d r h := fun w => fs_fut_sn w r _ _ _ _
            rw [hmi]
            by_cases c : fs_ful E (-1) rf al d (r ++ [x]) x = 0
            · rw [if_pos c]
              have eo : ∀ v, fs_mof (fs_lor v 0) h = fs_mof v h := fun v => by
                unfold fs_mof
                have : fs_lshr (fs_lor v 0) (fs_w32 (8 * h)) = fs_lshr v (fs_w32 (8 * h)) := by
                  have q : Int64.ofInt (fs_lor v 0) = Int64.ofInt v := by
                    unfold fs_lor
                    rw [Int64.ofInt_toInt]
                    apply Int64.toBitVec_inj.1
                    rw [Int64.toBitVec_or]
                    show (Int64.ofInt v).toBitVec ||| 0#64 = _
                    exact BitVec.or_zero
                  unfold fs_lshr
                  rw [q]
                rw [this]
              rw [eo]
              by_cases w : h = x
              · rw [w, hd0, c]
              · rw [hdid h a b, other w]
            · rw [if_neg c, fs_mof_or a (by omega) x0 (by omega) (by omega) (by omega) hd0]
              by_cases w : h = x
              · rw [if_pos w, w]
              · rw [if_neg w, hdid h a b, other w]
          rw [← el2]
          refine ih e (r ++ [x]) L1 _ M3 _ (by omega) (by rw [List.length_append, List.length_singleton]; omega) (fs_nd_snoc hnd xn) (fun y hy => by
            rcases List.mem_append.1 hy with w | w
            · exact hb y w
            · rcases List.mem_cons.1 w with w | w
              · rw [w]
                exact ⟨x0, by omega⟩
              · cases w) C3 (by omega) (by omega) (fs_wrt_mono _ _ (fun j s _ _ _ hp => by rw [e3 62 j (by unfold fs_F2; omega) (by omega)]; exact hp) hwa) g3' hdn (fun M4 o4 w4 => ⟨_, rfl, ?_⟩)
          rw [el2] at o4
          have e4 : ∀ o k, ¬ fs_FG d ((r.length : Int) + 1) L1 o k → M4 o k = M3 o k := fun o k w => o4 o k w
          have e41 : ∀ o k, ¬ fs_FG d (r.length : Int) L1 o k → M4 o k = M1 o k := fun o k w => by
            rw [e4 o k (by unfold fs_FG fs_F2 at w ⊢; omega), e3 o k (by unfold fs_FG fs_F2 at w; unfold fs_F2; omega) (by unfold fs_FG fs_F2 at w; omega)]
          have C4 : fs_ctx E rf al M4 := hC1.out (fun o k w => e41 o k (by unfold fs_FG fs_F2; unfold fs_eC at w; omega))
          refine ihm (x + 1) _ M4 (by omega) (by omega) C4 (by omega) (by omega) (by rw [e41 62 L (by unfold fs_FG fs_F2; omega)]; exact hs) (fs_wrt_mono _ _ (fun j s _ _ _ hp => by rw [e41 62 j (by unfold fs_FG fs_F2; omega)]; exact hp) hwb) (hg1.cong (fun k _ _ => e41 _ k (by unfold fs_FG fs_F2; omega))) (fun M5 o5 w5 => ?_)
          have h := hK1 M5 ?_ ?_
          · rw [show L1 + ((fs_ext (E 1 5).toNat fs_tt n (r ++ [x])).length : Int) + ((fs_fmp (fun h => fs_ext (E 1 5).toNat fs_tt n (r ++ [h])) (fs_hf fs_tt r m (x + 1))).length : Int) = L1 + (((fs_ext (E 1 5).toNat fs_tt n (r ++ [x])).length + (fs_fmp (fun h => fs_ext (E 1 5).toNat fs_tt n (r ++ [h])) (fs_hf fs_tt r m (x + 1))).length : Nat) : Int) by omega]
            exact h
          · intro o k w
            rw [o5 o k (by unfold fs_FG fs_F2 at w ⊢; omega)]
            exact e41 o k w
          · refine (fs_wrt_app _ _ _).2 ⟨fs_wrt_mono _ _ (fun j s j0 j1 _ hp => ?_) w4, w5⟩
            obtain ⟨p1, p2⟩ := hp
            refine ⟨fun h a b => ?_, ?_⟩
            · rw [o5 (64 + d) j (by unfold fs_FG fs_F2; omega)]
              exact p1 h a b
            · rw [o5 (68 + d) j (by unfold fs_FG fs_F2; omega)]
              exact p2
    have x1 : ∀ o k, o ≠ 64 + d → o ≠ 68 + d → fs_st (fs_st M (64 + d) L did) (68 + d) L (fs_col (fs_itm E (-1) rf al d r) (E 1 5).toNat) o k = M o k := fun o k a b => by rw [fs_st_o b, fs_st_o a]
    refine loop (E 1 5).toNat 0 (L + 1) _ (by omega) (by decide) (hC.out (fun o k w => x1 o k (by unfold fs_eC at w; omega) (by unfold fs_eC at w; omega))) (by omega) (by omega) (by rw [x1 62 L (by omega) (by omega)]; exact hw0) (fs_wrt_mono _ _ (fun j s _ _ _ hp => by rw [x1 62 j (by omega) (by omega)]; exact hp) hwt) (hg.cong (fun k _ _ => x1 _ k (by omega) (by omega))) (fun M3 o3 w3 => ?_)
    have h := hK M3 ?_ ?_
    · rw [fs_ext_s, List.length_cons] at h
      rw [show L + 1 + ((fs_fmp (fun h => fs_ext (E 1 5).toNat fs_tt n (r ++ [h])) (fs_hf fs_tt r (E 1 5).toNat 0)).length : Int) = L + (((fs_fmp (fun h => fs_ext (E 1 5).toNat fs_tt n (r ++ [h])) (fs_hf fs_tt r (E 1 5).toNat 0)).length + 1 : Nat) : Int) by omega]
      exact h
    · refine fs_out.tr ((fs_out.rf.st ?_).st ?_) (o3.wk (fun o k w => ?_))
      · exact Or.inr (Or.inl ⟨Or.inl rfl, Int.le_refl _⟩)
      · exact Or.inr (Or.inl ⟨Or.inr rfl, Int.le_refl _⟩)
      · unfold fs_FG fs_F2 at w ⊢
        omega
    · rw [fs_ext_s]
      refine ⟨⟨fun h a b => ?_, ?_⟩, w3⟩
      · rw [o3 (64 + d) L (by unfold fs_FG fs_F2; omega), fs_st_o (by omega), fs_st_s]
        exact hdid h a b
      · rw [o3 (68 + d) L (by unfold fs_FG fs_F2; omega), fs_st_s]
/-- the book is written for the plan of E -/
def fs_alN (E : fs_M) : Int → Int := fs_alone E (-1) (E 31 3)
def fs_bk (E M : fs_M) : Prop := M 60 8 = E 31 2 ∧ 0 ≤ M 60 9 ∧ M 60 9 < 64 ∧ (∀ h, 0 ≤ h → h < 6 → (fs_bit (M 60 9) h = 1 ↔ h < E 1 5 ∧ fs_alN E h ≠ 0)) ∧ M 60 2 = (fs_RS E).length ∧ fs_wrt (fs_P12 M) 0 (fs_RS E) ∧ ∀ d, 0 ≤ d → d < E 1 9 → fs_wrt (fs_PK E (E 31 2) (fs_alN E) d M) 0 (fs_RS E)
theorem fs_bk.cong {E M M' : fs_M} (h3 : E 1 9 ≤ 3) (h : fs_bk E M) (he : ∀ o k, (o = 60 ∧ (k = 2 ∨ k = 8 ∨ k = 9)) ∨ (61 ≤ o ∧ o ≤ 70) → M' o k = M o k) : fs_bk E M' := by
  obtain ⟨a, b, c, d, e, f, k⟩ := h
  refine ⟨by rw [he 60 8 (by omega)]; exact a, by rw [he 60 9 (by omega)]; exact b, by rw [he 60 9 (by omega)]; exact c, by rw [he 60 9 (by omega)]; exact d, by rw [he 60 2 (by omega)]; exact e, fs_wrt_mono _ _ (fun j s _ _ _ hp => ?_) f, fun x x0 x1 => fs_wrt_mono _ _ (fun j s _ _ _ hp => ?_) (k x x0 x1)⟩
  · unfold fs_P12 at hp ⊢
    rw [he 61 j (by omega), he 62 j (by omega)]
    exact hp
  · unfold fs_PK at hp ⊢
    rw [he (64 + x) j (by omega), he (68 + x) j (by omega)]
    exact hp
theorem fs_RS_len {E : fs_M} (hB : fs_bE E) : (fs_RS E).length ≤ 1957 := by
  have h5 := hB.1
  have h6 := hB.2.1
  exact fs_ext_len (E 1 5).toNat (by omega)
def fs_FB (o k : Int) : Prop := fs_F5 o k ∨ (o = 60 ∧ (k = 2 ∨ k = 5 ∨ k = 8 ∨ k = 9)) ∨ (61 ≤ o ∧ o ≤ 70) ∨ (83 ≤ o ∧ o ≤ 89)
theorem fs_alN01 (E : fs_M) (h : Int) : fs_alN E h = 0 ∨ fs_alN E h = 1 := fs_alone01 E (-1) (E 31 3) h
theorem sp_write {E M : fs_M} {K : fs_K} (hB : fs_bE E) (hp : fs_rp E 31 0) (hE : fs_envC E M) (h0 : M 60 5 ≠ 0 → fs_bk E M ∧ K none M) (hK : ∀ M', fs_out fs_FB M M' → M' 60 5 = 1 → fs_bk E M' → K none M') : fs_C2 g m_Book_write 19 [fs_r 60, fs_r 31] M K := by
  have h5 := hB.1
  have h6 := hB.2.1
  have h9 := hB.2.2.1
  have h3 := hB.2.2.2.1
  refine E_Book_write io_31 ⟨fun z => ?_, fun z => (h0 z).2⟩
  have a1 : ∀ o k, o ≠ 60 → fs_st (fs_st (fs_st M 60 8 (M 31 2)) 60 9 0) 60 2 0 o k = M o k := fun o k q => by rw [fs_st_o q, fs_st_o q, fs_st_o q]
  have E1 : fs_envC E (fs_st (fs_st (fs_st M 60 8 (M 31 2)) 60 9 0) 60 2 0) := fun o k q => by
    rw [a1 o k (by unfold fs_eC at q; omega)]
    exact hE o k q
  have bp : fs_bP E (fs_st (fs_st (fs_st M 60 8 (M 31 2)) 60 9 0) 60 2 0) 31 := fun d d0 d1 => by
    obtain ⟨x1, x2, x3⟩ := hp.bP d d0 d1
    rw [E1 (31 + 5) d (by omega)]
    refine ⟨x1, x2, fun k k0 k1 => ?_⟩
    rw [E1 (31 + 2 + d) k (by omega)]
    exact x3 k k0 k1
  refine sp_begin hB fs_pl31 E1.env bp (E1 31 3 (by omega)) (fun M1 o1 r1 => ⟨rfl, ?_⟩)
  have s7 : ∀ h, 0 ≤ h → h < E 1 5 → M1 49 h = if 0 ≤ h ∧ h < 6 ∧ ¬ fs_alN E h = 0 then -2 else -1 := fun h a b => (r1.2.2.2.2.1 h a b).1
  have o1' : fs_out fs_FB M M1 := by
    refine fs_out.tr (((fs_out.rf.st ?_).st ?_).st ?_) (o1.wk (fun _ _ q => Or.inl q))
    · exact Or.inr (Or.inl (by omega))
    · exact Or.inr (Or.inl (by omega))
    · exact Or.inr (Or.inl (by omega))
  have f1 : ∀ k, M1 60 k = fs_st (fs_st (fs_st M 60 8 (M 31 2)) 60 9 0) 60 2 0 60 k := fun k => o1 60 k (by unfold fs_F5 fs_F2; omega)
  have f8 : M1 60 8 = E 31 2 := by rw [f1, fs_st_k (by decide), fs_st_k (by decide), fs_st_s, hE 31 2 (by omega)]
  have f9 : M1 60 9 = 0 := by rw [f1, fs_st_k (by decide), fs_st_s]
  have f2 : M1 60 2 = 0 := by rw [f1, fs_st_s]
  have c1 : ∀ o k, fs_eC o ∨ (31 ≤ o ∧ o ≤ 36) → M1 o k = E o k := fun o k q => by
    rw [o1 o k (by unfold fs_F5 fs_F2; unfold fs_eC at q; omega)]
    exact E1 o k q
  have m43 : M1 43 1 = 31 ∧ M1 43 2 = -1 := ⟨r1.2.1, r1.2.2.1⟩
  -- behind the houses done by themselves
  have darks : ∀ M2 : fs_M, (∀ o k, (o = 60 ∧ k = 9) ∨ M2 o k = M1 o k) → M2 60 9 = fs_col (fs_alN E) (E 1 5).toNat → fs_C2 g m_Book_addRows 13 [fs_r 60, fs_i 0, fs_i 0, fs_i 0] M2 (fun v M3 => v = none ∧ fs_A2 g m_Book_write 19 89 [(0, fs_r 60), (2, fs_i 0)] [] M3 K) := by
    intro M2 e2 e29
    have e2' : ∀ o k, (o = 60 → k ≠ 9) → M2 o k = M1 o k := fun o k q => by
      rcases e2 o k with w | w
      · exact absurd w.2 (q w.1)
      · exact w
    have env2 : fs_env E M2 := fun o k q => by
      rw [e2' o k (by unfold fs_eC at q; omega)]
      exact c1 o k (Or.inl q)
    have rl := fs_RS_len hB
    have cb := fs_col_b (fs_alN E) (E 1 5).toNat (by omega)
    have p64 := fs_p2_64 (n := ((E 1 5).toNat : Int)) (by omega)
    have bits : ∀ h, 0 ≤ h → h < 6 → (fs_bit (fs_col (fs_alN E) (E 1 5).toNat) h = 1 ↔ h < E 1 5 ∧ fs_alN E h ≠ 0) := fun h a b => by
      rw [fs_col_bit a b (E 1 5).toNat (by omega)]
      have w := fs_alN01 E h
      omega
    refine sp_addRows hB 6 13 [] 0 M2 _ (by decide) rfl (fun h hh => (by cases hh)) env2 (by rw [e2' 60 2 (fun _ => by decide)]; exact f2) (by decide) (by rw [Int.zero_add]; exact Int.ofNat_le.2 rl) (fun M3 o3 l3 w3 => ⟨rfl, ?_⟩)
    rw [Int.zero_add] at l3
    have e3 : ∀ o k, o ≠ 61 → o ≠ 62 → (o = 60 → k ≠ 2) → M3 o k = M2 o k := fun o k a b c => o3 o k (by omega)
    have o3' : fs_out fs_FB M M3 := fun o k nF => by
      have nF2 : ¬ (fs_F5 o k ∨ (o = 60 ∧ (k = 2 ∨ k = 5 ∨ k = 8 ∨ k = 9)) ∨ (61 ≤ o ∧ o ≤ 70) ∨ (83 ≤ o ∧ o ≤ 89)) := nF
      rw [e3 o k (by omega) (by omega) (by omega), e2' o k (by omega)]
      exact o1' o k nF
    have loop : ∀ (m : Nat) (d : Int) (M4 : fs_M), d + m = E 1 9 → 0 ≤ d → fs_out (fun o k => fs_F2 o k ∨ (64 ≤ o ∧ o ≤ 66) ∨ (68 ≤ o ∧ o ≤ 70) ∨ (83 ≤ o ∧ o ≤ 89)) M3 M4 → (∀ c, 0 ≤ c → c < d → fs_wrt (fs_PK E (E 31 2) (fs_alN E) c M4) 0 (fs_RS E)) → fs_A2 g m_Book_write 19 89 [(0, fs_r 60), (2, fs_i d)] [] M4 K := by
      intro m
      induction m with
      | zero =>
        intro d M4 hd d0 o4 w4
        have x4 : ∀ o k, o = 60 ∨ o = 61 ∨ o = 62 → fs_st M4 60 5 1 o k = if o = 60 ∧ k = 5 then 1 else M3 o k := fun o k q => by
          by_cases c : o = 60 ∧ k = 5
          · rw [c.1, c.2, fs_st_s, if_pos ⟨rfl, rfl⟩]
          · rw [if_neg c]
            have : fs_st M4 60 5 1 o k = M4 o k := by
              by_cases c0 : o = 60
              · rw [fs_st_k (fun w => c ⟨c0, w⟩)]
              · rw [fs_st_o c0]
            rw [this]
            exact o4 o k (by unfold fs_F2; omega)
        refine L_Book_write_89 ⟨fun _ => ?_, fun w => ?_⟩
        · refine hK _ (fs_out.st (o3'.tr (o4.wk (fun o k w => ?_))) (Or.inr (Or.inl (by omega)))) fs_st_s ?_
          · have w2 : fs_F2 o k ∨ (64 ≤ o ∧ o ≤ 66) ∨ (68 ≤ o ∧ o ≤ 70) ∨ (83 ≤ o ∧ o ≤ 89) := w
            rcases w2 with w2 | w2 | w2 | w2
            · exact Or.inl (fs_F2_F5 w2)
            · exact Or.inr (Or.inr (Or.inl (by omega)))
            · exact Or.inr (Or.inr (Or.inl (by omega)))
            · exact Or.inr (Or.inr (Or.inr w2))
          · refine ⟨?_, ?_, ?_, ?_, ?_, fs_wrt_mono _ _ (fun j s _ _ _ hp => ?_) w3, fun c c0 c1 => fs_wrt_mono _ _ (fun j s _ _ _ hp => ?_) (w4 c c0 (by omega))⟩
            · rw [x4 60 8 (by omega), if_neg (by decide), e3 60 8 (by decide) (by decide) (by decide), e2' 60 8 (by decide)]
              exact f8
            · rw [x4 60 9 (by omega), if_neg (by decide), e3 60 9 (by decide) (by decide) (by decide), e29]
              exact cb.1
            · rw [x4 60 9 (by omega), if_neg (by decide), e3 60 9 (by decide) (by decide) (by decide), e29]
              omega
            · rw [x4 60 9 (by omega), if_neg (by decide), e3 60 9 (by decide) (by decide) (by decide), e29]
              exact bits
            · rw [x4 60 2 (by omega), if_neg (by decide)]
              exact l3
            · unfold fs_P12 at hp ⊢
              rw [x4 61 j (by omega), x4 62 j (by omega), if_neg (by omega), if_neg (by omega)]
              exact hp
            · unfold fs_PK at hp ⊢
              rw [fs_st_o (by omega), fs_st_o (by omega)]
              exact hp
        · rw [o4 1 9 (by unfold fs_F2; omega), e3 1 9 (by decide) (by decide) (by decide), e2' 1 9 (by decide), c1 1 9 (by unfold fs_eC; omega)] at w
          omega
      | succ m ih =>
        intro d M4 hd d0 o4 w4
        have e4 : ∀ o k, fs_eC o ∨ (31 ≤ o ∧ o ≤ 36) → M4 o k = E o k := fun o k q => by
          rw [o4 o k (by unfold fs_F2; unfold fs_eC at q; omega), e3 o k (by unfold fs_eC at q; omega) (by unfold fs_eC at q; omega) (by unfold fs_eC at q; omega), e2' o k (by unfold fs_eC at q; omega)]
          exact c1 o k q
        refine L_Book_write_89 ⟨fun w => ?_, fun _ => ⟨d0, by omega, ?_⟩⟩
        · rw [e4 1 9 (by unfold fs_eC; omega)] at w
          omega
        · rw [e4 7 d (by unfold fs_eC; omega), e4 8 d (by unfold fs_eC; omega), fs_w32_of (by omega) (by omega)]
          have b78 := hB.2.2.2.2.2.1 d d0 (by omega)
          refine E_Goer_begin (fs_isO_83 0 (by decide)) ⟨rfl, ?_⟩
          generalize hM5 : fs_st (fs_st (fs_st (fs_st (fs_st (fs_st (fs_st M4 83 0 (E 7 d)) 83 3 (E 8 d)) 83 1 1) 83 2 0) 83 4 0) 83 5 0) 83 6 0 = M5
          have m5 : ∀ o k, o ≠ 83 → M5 o k = M4 o k := fun o k q => by
            rw [← hM5, fs_st_o q, fs_st_o q, fs_st_o q, fs_st_o q, fs_st_o q, fs_st_o q, fs_st_o q]
          have g5 : fs_gor M5 (83 + (([] : List Int).length : Int)) (([] : List Int).length : Int) (fs_sd E (E 31 2) (fs_alN E) d []) := by
            show M5 83 6 ≠ 1000 ∧ M5 83 0 = E 7 d ∧ M5 83 1 = 1 ∧ M5 83 2 = 0 ∧ M5 83 3 = E 8 d ∧ 0 ≤ E 7 d ∧ E 7 d ≤ 99 ∧ (1 : Int) ≤ 1 ∧ (1 : Int) ≤ 300 ∧ (0 : Int) ≤ 0 ∧ (0 : Int) ≤ 0 ∧ 0 ≤ E 8 d ∧ E 8 d ≤ 9 ∧ 0 ≤ M5 83 4 ∧ M5 83 4 ≤ 0
            rw [← hM5]
            simp [fs_st]
            omega
          have C5 : fs_ctx E (E 31 2) (fs_alN E) M5 := by
            have m60 : M5 60 9 = fs_col (fs_alN E) (E 1 5).toNat := by
              rw [m5 60 9 (by decide), o4 60 9 (by unfold fs_F2; omega), e3 60 9 (by decide) (by decide) (by decide), e29]
            have m43' : ∀ k, M5 43 k = M1 43 k := fun k => by rw [m5 43 k (by decide), o4 43 k (by unfold fs_F2; omega), e3 43 k (by decide) (by decide) (by omega), e2' 43 k (by omega)]
            refine ⟨fun o k q => by rw [m5 o k (by unfold fs_eC at q; omega)]; exact e4 o k (Or.inl q), by rw [m43']; exact m43.1, by rw [m43']; exact m43.2, by rw [m5 31 2 (by decide)]; exact e4 31 2 (by omega), fun x x0 x1 => ?_⟩
            rw [m60, bits x x0 (by omega)]
            exact ⟨fun q => q.2, fun q => ⟨x1, q⟩⟩
          refine sp_goOn (rf := E 31 2) (al := fs_alN E) hB d0 (by omega) 6 18 [] 0 0 M5 _ (by decide) rfl List.nodup_nil (fun h hh => (by cases hh)) C5 (by decide) (by rw [Int.zero_add]; exact Int.ofNat_le.2 rl) (fs_wrt_mono _ _ (fun j s _ _ _ hp => ?_) w3) g5 (fun h a b => ?_) (fun M6 o6 w6 => ⟨_, rfl, ?_⟩)
          · rw [m5 62 j (by decide), o4 62 j (by unfold fs_F2; omega)]
            exact hp.2
          · have z := fs_mof_0 h.toNat (by omega)
            rw [show ((h.toNat : Nat) : Int) = h by omega] at z
            exact z
          · have o6' : ∀ o k, ¬ (fs_F2 o k ∨ (o = 64 + d ∨ o = 68 + d) ∨ (83 ≤ o ∧ o ≤ 89)) → M6 o k = M4 o k := fun o k q => by
              rw [o6 o k (fun w => by
                have w2 : fs_F2 o k ∨ ((o = 64 + d ∨ o = 68 + d) ∧ 0 ≤ k) ∨ (84 + (0 : Int) ≤ o ∧ o ≤ 89) := w
                unfold fs_F2 at w2 q
                omega)]
              exact m5 o k (by omega)
            refine ih (d + 1) M6 (by omega) (by omega) (fun o k nF => ?_) (fun c c0 c1 => ?_)
            · have nF2 : ¬ (fs_F2 o k ∨ (64 ≤ o ∧ o ≤ 66) ∨ (68 ≤ o ∧ o ≤ 70) ∨ (83 ≤ o ∧ o ≤ 89)) := nF
              rw [o6' o k (by unfold fs_F2 at nF2 ⊢; omega)]
              exact o4 o k nF
            · by_cases q : c = d
              · rw [q]
                exact w6
              · refine fs_wrt_mono _ _ (fun j s _ _ _ hp => ?_) (w4 c c0 (by omega))
                unfold fs_PK at hp ⊢
                rw [o6' (64 + c) j (by unfold fs_F2; omega), o6' (68 + c) j (by unfold fs_F2; omega)]
                exact hp
    exact loop (E 1 9).toNat 0 M3 (by omega) (by decide) fs_out.rf (fun c a b => by omega)
  have loop : ∀ (n : Nat) (i : Nat) (M2 : fs_M), (E 1 5).toNat - i = n → i ≤ (E 1 5).toNat → (∀ o k, (o = 60 ∧ k = 9) ∨ M2 o k = M1 o k) → M2 60 9 = fs_col (fs_alN E) i → fs_A2 g m_Book_write 19 37 [(0, fs_r 60), (2, fs_i (i : Int))] [] M2 K := by
    intro n
    induction n with
    | zero =>
      intro i M2 hn hi e2 e29
      have ei : i = (E 1 5).toNat := by omega
      rw [ei] at e29
      refine L_Book_write_37 ⟨fun _ => darks M2 e2 e29, fun w => ?_⟩
      have e15 : M2 1 5 = E 1 5 := by
        rcases e2 1 5 with q | q
        · omega
        · rw [q]
          exact c1 1 5 (by unfold fs_eC; omega)
      rw [e15] at w
      omega
    | succ n ih =>
      intro i M2 hn hi e2 e29
      have e15 : M2 1 5 = E 1 5 := by
        rcases e2 1 5 with q | q
        · omega
        · rw [q]
          exact c1 1 5 (by unfold fs_eC; omega)
      have e49 : M2 49 i = if 0 ≤ (i : Int) ∧ (i : Int) < 6 ∧ ¬ fs_alN E i = 0 then -2 else -1 := by
        rcases e2 49 i with q | q
        · omega
        · rw [q]
          exact s7 i (by omega) (by omega)
      have a01 := fs_alN01 E i
      refine L_Book_write_37 ⟨fun w => by omega, fun _ => ⟨by omega, by omega, fun w => ?_, fun w => ?_⟩⟩
      · rw [fs_wsucc (by omega)]
        refine ih (i + 1) M2 (by omega) (by omega) e2 ?_
        rw [e29]
        show _ = if fs_alN E i = 1 then _ else fs_col (fs_alN E) i
        rw [if_neg]
        intro q
        rw [e49, if_pos (by omega)] at w
        exact w rfl
      · rw [fs_wsucc (by omega)]
        refine ih (i + 1) _ (by omega) (by omega) (fun o k => ?_) ?_
        · by_cases q : o = 60 ∧ k = 9
          · exact Or.inl q
          · right
            have : fs_st M2 60 9 (fs_or (M2 60 9) (fs_shl 1 (i : Int))) o k = M2 o k := by
              by_cases c0 : o = 60
              · rw [fs_st_k (fun w => q ⟨c0, w⟩)]
              · rw [fs_st_o c0]
            rw [this]
            rcases e2 o k with w2 | w2
            · exact absurd w2 q
            · exact w2
        · rw [fs_st_s, e29]
          show _ = if fs_alN E i = 1 then fs_or (fs_col (fs_alN E) i) (fs_shl 1 i) else _
          rw [if_pos]
          by_cases q : fs_alN E i = 0
          · rw [e49, if_neg (by omega)] at w
            omega
          · omega
  exact loop _ 0 M1 rfl (Nat.zero_le _) (fun _ _ => Or.inr rfl) f9
end BOOKW
