-- ===== feed =====
theorem fs_and255 (x : Int) : 0 ≤ fs_and x 255 ∧ fs_and x 255 ≤ 255 := by
  unfold fs_and
  have e : (Int32.ofInt x &&& Int32.ofInt 255).toInt = ((Int32.ofInt x).toBitVec &&& 255#32).toInt := rfl
  rw [e]
  have n : ((Int32.ofInt x).toBitVec &&& 255#32).toNat ≤ 255 := by
    rw [BitVec.toNat_and]
    exact Nat.and_le_right
  rw [BitVec.toInt_eq_toNat_cond]
  split <;> omega
def fs_wrd (a b c d e i : Int) : Int := if i < 4 then a else if i < 8 then b else if i < 12 then c else if i < 16 then d else e
def fs_fb (a b c d e i : Int) : Int := fs_and (fs_shr (fs_wrd a b c d e i) (24 - 8 * (i % 4))) 255
section OPSJ
variable {g : fs_G} {M : fs_M}
theorem sp_put {K : fs_K} {x L : Int} (hL : M 29 1 = L) (L0 : 0 ≤ L) (L1 : L + 4 ≤ 600) (hK : ∀ M', fs_out (fun o k => (o = 30 ∧ L ≤ k) ∨ (o = 29 ∧ k = 1)) M M' → M' 29 1 = L + 4 → (∀ j, 0 ≤ j → j < 4 → M' 30 (L + j) = fs_and (fs_shr x (24 - 8 * j)) 255) → K none M') : fs_C2 g m_Reader_put 1 [fs_r 29, fs_i x] M K := by
  have lp : ∀ (n : Nat) (j : Int) (M1 : fs_M), 0 ≤ j → j ≤ 4 → 4 - j = n → fs_out (fun o k => (o = 30 ∧ L ≤ k) ∨ (o = 29 ∧ k = 1)) M M1 → M1 29 1 = L + j → (∀ i, 0 ≤ i → i < j → M1 30 (L + i) = fs_and (fs_shr x (24 - 8 * i)) 255) → fs_A2 g m_Reader_put 1 3 [(0, fs_r 29), (1, fs_i x), (2, fs_i (24 - 8 * j))] [] M1 K := by
    intro n
    induction n with
    | zero =>
      intro j M1 j0 j1 hn o1 e1 v1
      exact L_Reader_put_3 ⟨fun _ => hK M1 o1 (by rw [e1]; omega) (fun i i0 i1 => v1 i i0 (by omega)), fun z => absurd z (by omega)⟩
    | succ n ih =>
      intro j M1 j0 j1 hn o1 e1 v1
      refine L_Reader_put_3 ⟨fun z => absurd z (by omega), fun _ => ?_⟩
      rw [e1]
      refine ⟨fun z => absurd z (by omega), fun _ => ⟨by omega, ?_⟩⟩
      rw [fs_w32_of (x := 24 - 8 * j + -8) (by omega) (by omega), fs_w32_of (x := L + j + 1) (by omega) (by omega), show 24 - 8 * j + -8 = 24 - 8 * (j + 1) from by omega]
      refine ih (j + 1) _ (by omega) (by omega) (by omega) ((o1.st (Or.inl ⟨rfl, by omega⟩)).st (Or.inr ⟨rfl, rfl⟩)) ?_ (fun i i0 i1 => ?_)
      · rw [fs_st_s]
        omega
      · rw [fs_st_o (by omega)]
        by_cases c : i = j
        · rw [c, fs_st_s]
        · rw [fs_st_k (by omega)]
          exact v1 i i0 (by omega)
  refine E_Reader_put ?_
  have z := lp 4 0 M (by omega) (by omega) rfl fs_out.rf (by rw [hL]; omega) (fun i i0 i1 => absurd i1 (by omega))
  exact z
theorem fs_fb_at {a b c d e t : Int} : (0 ≤ t → t < 4 → fs_fb a b c d e t = fs_and (fs_shr a (24 - 8 * t)) 255) ∧ (4 ≤ t → t < 8 → fs_fb a b c d e t = fs_and (fs_shr b (24 - 8 * (t - 4))) 255) ∧ (8 ≤ t → t < 12 → fs_fb a b c d e t = fs_and (fs_shr c (24 - 8 * (t - 8))) 255) ∧ (12 ≤ t → t < 16 → fs_fb a b c d e t = fs_and (fs_shr d (24 - 8 * (t - 12))) 255) ∧ (16 ≤ t → t < 20 → fs_fb a b c d e t = fs_and (fs_shr e (24 - 8 * (t - 16))) 255) := by
  unfold fs_fb fs_wrd
  refine ⟨fun q r => ?_, fun q r => ?_, fun q r => ?_, fun q r => ?_, fun q r => ?_⟩
  · rw [if_pos r, show t % 4 = t from by omega]
  · rw [if_neg (by omega), if_pos r, show t % 4 = t - 4 from by omega]
  · rw [if_neg (by omega), if_neg (by omega), if_pos r, show t % 4 = t - 8 from by omega]
  · rw [if_neg (by omega), if_neg (by omega), if_neg (by omega), if_pos r, show t % 4 = t - 12 from by omega]
  · rw [if_neg (by omega), if_neg (by omega), if_neg (by omega), if_neg (by omega), show t % 4 = t - 16 from by omega]
theorem sp_feedC {K : fs_K} {a b c d e L : Int} (hL : M 29 1 = L) (L0 : 0 ≤ L) (L1 : L + 20 ≤ 600) (hK : ∀ M', fs_out (fun o k => (o = 30 ∧ L ≤ k) ∨ (o = 29 ∧ k = 1)) M M' → M' 29 1 = L + 20 → (∀ t, 0 ≤ t → t < 20 → M' 30 (L + t) = fs_fb a b c d e t) → K (some (fs_i (L + 20))) M') : fs_C2 g m_Fs_feed 2 [fs_r 0, fs_i a, fs_i b, fs_i c, fs_i d, fs_i e] M K := by
  have w20 : fs_w32 (L + 20) = L + 20 := fs_w32_of (by omega) (by omega)
  refine E_Fs_feed ?_
  rw [hL, w20]
  refine ⟨fun _ => ?_, fun le => absurd L1 le⟩
  refine sp_put hL L0 (by omega) (fun M1 o1 e1 v1 => ⟨rfl, sp_put e1 (by omega) (by omega) (fun M2 o2 e2 v2 => ⟨rfl, sp_put e2 (by omega) (by omega) (fun M3 o3 e3 v3 => ⟨rfl, sp_put e3 (by omega) (by omega) (fun M4 o4 e4 v4 => ⟨rfl, sp_put e4 (by omega) (by omega) (fun M5 o5 e5 v5 => ⟨rfl, ?_⟩)⟩)⟩)⟩)⟩)
  have p2 : ∀ o k, ¬ ((o = 30 ∧ L + 4 ≤ k) ∨ (o = 29 ∧ k = 1)) → M2 o k = M1 o k := o2
  have p3 : ∀ o k, ¬ ((o = 30 ∧ L + 4 + 4 ≤ k) ∨ (o = 29 ∧ k = 1)) → M3 o k = M2 o k := o3
  have p4 : ∀ o k, ¬ ((o = 30 ∧ L + 4 + 4 + 4 ≤ k) ∨ (o = 29 ∧ k = 1)) → M4 o k = M3 o k := o4
  have p5 : ∀ o k, ¬ ((o = 30 ∧ L + 4 + 4 + 4 + 4 ≤ k) ∨ (o = 29 ∧ k = 1)) → M5 o k = M4 o k := o5
  have e6 : M5 29 1 = L + 20 := by omega
  rw [e6]
  refine hK M5 ?_ e6 (fun t x0 x1 => ?_)
  · refine o1.tr ((fs_out.tr (o2.wk ?_) ((o3.wk ?_).tr ((o4.wk ?_).tr (o5.wk ?_)))))
    all_goals
      intro o k q
      rcases q with q | q
      · exact Or.inl ⟨q.1, by omega⟩
      · exact Or.inr q
  · clear o1 o2 o3 o4 o5 hK e1 e2 e3 e4 e5 e6 w20
    obtain ⟨f1, f2, f3, f4, f5⟩ := fs_fb_at (a := a) (b := b) (c := c) (d := d) (e := e) (t := t)
    by_cases c1 : t < 4
    · rw [f1 x0 c1, p5 _ _ (by omega), p4 _ _ (by omega), p3 _ _ (by omega), p2 _ _ (by omega), v1 t x0 c1]
    · by_cases c2 : t < 8
      · have y := v2 (t - 4) (by omega) (by omega)
        rw [show L + 4 + (t - 4) = L + t from by omega] at y
        rw [f2 (by omega) c2, p5 _ _ (by omega), p4 _ _ (by omega), p3 _ _ (by omega), y]
      · by_cases c3 : t < 12
        · have y := v3 (t - 8) (by omega) (by omega)
          rw [show L + 4 + 4 + (t - 8) = L + t from by omega] at y
          rw [f3 (by omega) c3, p5 _ _ (by omega), p4 _ _ (by omega), y]
        · by_cases c4 : t < 16
          · have y := v4 (t - 12) (by omega) (by omega)
            rw [show L + 4 + 4 + 4 + (t - 12) = L + t from by omega] at y
            rw [f4 (by omega) c4, p5 _ _ (by omega), y]
          · have y := v5 (t - 16) (by omega) (by omega)
            rw [show L + 4 + 4 + 4 + 4 + (t - 16) = L + t from by omega] at y
            rw [f5 (by omega) x1, y]
theorem sp_feedM {K : fs_K} {a b c d e L : Int} (hL : M 226 2 = L) (L0 : 0 ≤ L) (L1 : L + 20 ≤ 600) (hK : ∀ M', fs_out (fun o k => (o = 227 ∧ L ≤ k) ∨ (o = 226 ∧ (k = 0 ∨ k = 2))) M M' → M' 226 2 = L + 20 → (∀ t, 0 ≤ t → t < 20 → M' 227 (L + t) = fs_fb a b c d e t) → K (some (fs_i (L + 20))) M') : fs_C2 g m_Mo_feed 1 [fs_r 226, fs_i a, fs_i b, fs_i c, fs_i d, fs_i e] M K := by
  have w20 : fs_w32 (L + 20) = L + 20 := fs_w32_of (by omega) (by omega)
  have lp : ∀ (n : Nat) (i : Int) (N : fs_M), 0 ≤ i → i ≤ 20 → 20 - i = n → fs_out (fun o k => (o = 227 ∧ L ≤ k) ∨ (o = 226 ∧ (k = 0 ∨ k = 2))) M N → N 226 2 = L → (∀ t, 0 ≤ t → t < i → N 227 (L + t) = fs_fb a b c d e t) → fs_A2 g m_Mo_feed 1 20 [(0, fs_r 226), (1, fs_i a), (2, fs_i b), (3, fs_i c), (4, fs_i d), (5, fs_i e), (6, fs_i i)] [] N K := by
    intro n
    induction n with
    | zero =>
      intro i N i0 i1 hn oN n2 vN
      refine L_Mo_feed_20 ⟨fun _ => ?_, fun z => absurd z (by omega)⟩
      rw [n2, w20]
      refine hK _ (oN.st (Or.inr ⟨rfl, Or.inr rfl⟩)) fs_st_s (fun t t0 t1 => ?_)
      rw [fs_st_o (by omega)]
      exact vN t t0 (by omega)
    | succ n ih =>
      intro i N i0 i1 hn oN n2 vN
      have wi : fs_w32 (L + i) = L + i := fs_w32_of (by omega) (by omega)
      have rm : fs_rem i 4 = i % 4 := fs_remP i0 (by omega) (by omega) (by omega)
      have l73 : ∀ x, fs_wrd a b c d e i = x → fs_A2 g m_Mo_feed 1 73 [(0, fs_r 226), (1, fs_i a), (2, fs_i b), (3, fs_i c), (4, fs_i d), (5, fs_i e), (6, fs_i i)] [fs_i x] N K := by
        intro x hx
        refine L_Mo_feed_73 ?_
        rw [n2, wi, rm, fs_w32_of (x := 8 * (i % 4)) (by omega) (by omega), fs_w32_of (x := 24 - 8 * (i % 4)) (by omega) (by omega), fs_w32_of (x := i + 1) (by omega) (by omega)]
        refine ⟨by omega, by omega, ih (i + 1) _ (by omega) (by omega) (by omega) (oN.st (Or.inl ⟨rfl, by omega⟩)) ?_ (fun t t0 t1 => ?_)⟩
        · rw [fs_st_o (by omega)]
          exact n2
        · by_cases c : t = i
          · rw [c, fs_st_s, ← hx]
            rfl
          · rw [fs_st_k (by omega)]
            exact vN t t0 (by omega)
      refine L_Mo_feed_20 ⟨fun z => absurd z (by omega), fun _ => ⟨fun c4 => ⟨fun c8 => ⟨fun c12 => ⟨fun c16 => l73 e ?_, fun c16 => l73 d ?_⟩, fun c12 => l73 c ?_⟩, fun c8 => l73 b ?_⟩, fun c4 => l73 a ?_⟩⟩
      · unfold fs_wrd
        rw [if_neg (by omega), if_neg (by omega), if_neg (by omega), if_neg (by omega)]
      · unfold fs_wrd
        rw [if_neg (by omega), if_neg (by omega), if_neg (by omega), if_pos (by omega)]
      · unfold fs_wrd
        rw [if_neg (by omega), if_neg (by omega), if_pos (by omega)]
      · unfold fs_wrd
        rw [if_neg (by omega), if_pos (by omega)]
      · unfold fs_wrd
        rw [if_pos (by omega)]
  refine E_Mo_feed ⟨fun _ => ?_, fun z => absurd (by rw [hL]; omega) z⟩
  refine lp 20 0 _ (by omega) (by omega) rfl (fs_out.rf.st (Or.inr ⟨rfl, Or.inl rfl⟩)) ?_ (fun t t0 t1 => absurd t1 (by omega))
  rw [fs_st_k (by omega)]
  exact hL
theorem op_feed {a b c d e : Int} (h : fs_Rl M) : fs_C2 g m_Fs_feed 2 [fs_r 0, fs_i a, fs_i b, fs_i c, fs_i d, fs_i e] M (fs_KK g m_Mo_feed 1 [fs_r 226, fs_i a, fs_i b, fs_i c, fs_i d, fs_i e]) := by
  obtain ⟨t1, t2, t3, t4, t5, t6⟩ := h.2.2.2.2.2.2.2.2.2.1
  obtain ⟨L, hL⟩ : ∃ L, M 29 1 = L := ⟨_, rfl⟩
  rw [hL] at t1 t2 t3 t4
  by_cases le : L + 20 ≤ 600
  · refine sp_feedC hL t2 le (fun M1 o1 e1 v1 => ⟨_, rfl, ?_⟩)
    have p1 : ∀ o k, ¬ ((o = 30 ∧ L ≤ k) ∨ (o = 29 ∧ k = 1)) → M1 o k = M o k := o1
    refine sp_feedM (L := L) (by rw [p1 226 2 (by omega)]; exact t1.symm) t2 le (fun M2 o2 e2 v2 => ⟨rfl, ?_⟩)
    have p2 : ∀ o k, ¬ ((o = 227 ∧ L ≤ k) ∨ (o = 226 ∧ (k = 0 ∨ k = 2))) → M2 o k = M1 o k := o2
    have nf : ∀ o k, ¬ ((o = 30 ∧ L ≤ k) ∨ (o = 29 ∧ k = 1)) → ¬ ((o = 227 ∧ L ≤ k) ∨ (o = 226 ∧ (k = 0 ∨ k = 2))) → M2 o k = M o k := fun o k q r => by
      rw [p2 o k r, p1 o k q]
    have e29 : M2 29 1 = L + 20 := by rw [p2 29 1 (by omega)]; exact e1
    refine h.wT (fun o k q r => ?_) (h.2.2.2.2.2.2.2.2.1.cong (fun o k q => nf o k (by omega) (by omega))) ⟨by rw [e29, e2], by rw [e29]; omega, by rw [e29]; omega, fun i i0 i1 => ?_, ?_, ?_⟩
    · refine nf o k (fun z => r (by unfold fs_supX; omega)) (fun z => ?_)
      rcases z with z | ⟨z1, z2 | z2⟩
      · exact r (by unfold fs_supX; omega)
      · exact fs_nM o k (Or.inr ⟨z1, z2⟩) q
      · exact r (by unfold fs_supX; omega)
    · rw [e29] at i1
      by_cases c : i < L
      · rw [nf 30 i (by omega) (by omega), nf 227 i (by omega) (by omega)]
        exact t4 i i0 c
      · have y := v1 (i - L) (by omega) (by omega)
        have z := v2 (i - L) (by omega) (by omega)
        rw [show L + (i - L) = i from by omega] at y z
        rw [p2 30 i (by omega), y, z]
        exact ⟨rfl, fs_and255 _⟩
    · rw [nf 29 2 (by omega) (by omega), nf 226 25 (by omega) (by omega)]
      exact t5
    · rw [nf 29 3 (by omega) (by omega), nf 226 26 (by omega) (by omega)]
      exact t6
  · have w20 : fs_w32 (L + 20) = L + 20 := fs_w32_of (by omega) (by omega)
    refine E_Fs_feed ?_
    rw [hL, w20]
    exact ⟨fun z => absurd z le, fun _ => ⟨_, rfl, E_Mo_feed ⟨fun z => absurd z (by omega), fun _ => ⟨rfl, h.thr⟩⟩⟩⟩
end OPSJ
