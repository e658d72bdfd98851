-- ===== the model judges rows; its best =====
def fs_alW (E : fs_M) (wo : Int) : Int → Int := fs_mal E (-1) (-1) wo (E 31 3)
theorem fs_alW_is {E : fs_M} {wo h : Int} : fs_alW E wo h = if h = wo then 0 else fs_alN E h := by
  unfold fs_alW fs_mal fs_gn
  by_cases c : h = wo
  · rw [if_pos c, decide_eq_true (Or.inr c.symm), if_pos rfl]
  · rw [if_neg c, decide_eq_false (by omega), if_neg (by decide)]
    rfl
def fs_nR (E : fs_M) (R : Int → List Int) : Int → List Int := fun d => if 0 ≤ d ∧ d < E 1 9 then R d else []
theorem fs_nR_is {E : fs_M} {wo : Int} {R : Int → List Int} (hG : fs_good E wo R) {d : Int} (d0 : 0 ≤ d) (d3 : d < 3) : fs_nR E R d = R d := by
  unfold fs_nR
  by_cases c : d < E 1 9
  · rw [if_pos ⟨d0, c⟩]
  · rw [if_neg (fun q => c q.2), hG.1.2 d d0 d3 (by omega)]
theorem fs_nR_good {E : fs_M} {wo : Int} {R : Int → List Int} (hB : fs_bE E) (hG : fs_good E wo R) : fs_bR E (fs_nR E R) ∧ fs_dj (fs_nR E R) := by
  have h3 := hB.2.2.2.1
  refine ⟨⟨fun d d0 d1 => ?_, fun d d0 d3 d9 => ?_⟩, fun d d0 d3 => ?_⟩
  · rw [fs_nR_is hG d0 (by omega)]
    exact hG.1.1 d d0 d1
  · rw [fs_nR_is hG d0 d3]
    exact hG.1.2 d d0 d3 d9
  · rw [fs_nR_is hG d0 d3]
    refine ⟨(hG.2.1 d d0 d3).1, fun h hh e e0 e3 ne => ?_⟩
    rw [fs_nR_is hG e0 e3]
    exact (hG.2.1 d d0 d3).2 h hh e e0 e3 ne
theorem fs_fut_al {E : fs_M} {tr rf : Int} {al al2 : Int → Int} {h : Int} : ∀ (r : List Int) (c gl co : Int), (∀ x, x ∈ r → fs_opn al x = fs_opn al2 x) → fs_fut E tr rf al r c gl co h = fs_fut E tr rf al2 r c gl co h
  | [], _, _, _, _ => rfl
  | x :: t, c, gl, co, hx => by
    have e := hx x List.mem_cons_self
    by_cases z : c = 1000
    · rw [z, fs_fut_z, fs_fut_z]
    · rw [fs_fut_c z, fs_fut_c z, e, fs_fut_al t _ _ _ (fun y hy => hx y (List.mem_cons_of_mem _ hy))]
theorem fs_itm_al {E : fs_M} {tr rf : Int} {al al2 : Int → Int} {d h : Int} {r : List Int} (hx : ∀ x, x ∈ r → fs_opn al x = fs_opn al2 x) : fs_itm E tr rf al d r h = fs_itm E tr rf al2 d r h := by
  unfold fs_itm fs_ful
  rw [fs_fut_al r _ _ _ hx]
theorem fs_good_opn {E : fs_M} {wo : Int} {R : Int → List Int} (hG : fs_good E wo R) {d : Int} (d0 : 0 ≤ d) (d3 : d < 3) : ∀ x, x ∈ R d → fs_opn (fs_alW E wo) x = fs_opn (fs_alN E) x := fun x hx => by
  unfold fs_opn
  rw [fs_alW_is, if_neg (hG.2.2 d d0 d3 x hx)]
theorem fs_good_V {E : fs_M} {wo : Int} {w : Int → Int} {R : Int → List Int} (hG : fs_good E wo R) {d : Int} (d0 : 0 ≤ d) (d3 : d < 3) : fs_sum w (fs_itm E (-1) (E 31 2) (fs_alW E wo) d (fs_nR E R d)) (E 1 5).toNat = fs_Vw E w d (R d) := by
  rw [fs_nR_is hG d0 d3]
  refine fs_sum_cong _ (fun h _ _ => ⟨rfl, ?_⟩)
  rw [fs_itm_al (fs_good_opn hG d0 d3)]
theorem fs_gain_T {E : fs_M} {wo : Int} {R : Int → List Int} (hB : fs_bE E) (hG : fs_good E wo R) : fs_gain E (fs_run E (-1) (E 31 2) (fs_alW E wo) (fs_nR E R)).2 (E 31 2) (E 1 5).toNat = fs_gbi E (fs_alW E wo) (E 1 5).toNat + fs_T (fs_V1 E) R := by
  have h5 := hB.1
  obtain ⟨n1, n2⟩ := fs_nR_good hB hG
  have h := fs_gain_sum (tr := -1) (rf := E 31 2) (hv := E 31 2) (al := fs_alW E wo) hB n1 n2 (E 1 5).toNat (by omega)
  have e : ∀ d, 0 ≤ d → d < 3 → fs_sum (fs_wbd E (E 31 2)) (fs_itm E (-1) (E 31 2) (fs_alW E wo) d (fs_nR E R d)) (E 1 5).toNat = fs_V1 E d (R d) := fun d d0 d3 => by
    have := fs_good_V (w := fs_wW E) hG d0 d3
    rw [← fs_sum_cong (w := fs_wW E) (f := fs_itm E (-1) (E 31 2) (fs_alW E wo) d (fs_nR E R d)) _ (fun x x0 x1 => ⟨by unfold fs_wW; rw [if_pos ⟨x0, by omega⟩], Iff.rfl⟩)]
    exact this
  rw [h, e 0 (by decide) (by decide), e 1 (by decide) (by decide), e 2 (by decide) (by decide)]
  unfold fs_T
  omega
def fs_hasB (M : fs_M) (R : Int → List Int) : Prop := ∀ d, 0 ≤ d → d < 3 → M 264 d = (R d).length ∧ (R d).length ≤ 9 ∧ fs_lst (M 263) (R d).length (9 * d) = R d
def fs_cW (E : fs_M) (wo : Int) : Int := fs_gbi E (fs_alW E wo) (E 1 5).toNat
def fs_jB (E : fs_M) (wo : Int) : Int × (Int → List Int) → (Int → List Int) → Int × (Int → List Int) := fs_jg (fun R => fs_cW E wo + fs_T (fs_V1 E) R)
def fs_InvB (b : Int × (Int → List Int)) (M : fs_M) : Prop := M 226 63 = b.1 ∧ M 226 66 = -1 ∧ M 226 67 = 0 ∧ -1 ≤ b.1 ∧ (b.1 ≠ -1 → fs_hasB M b.2)
section JUDGES
variable {g : fs_G}
theorem fs_hasR_rw {E M : fs_M} {wo : Int} {R : Int → List Int} (hB : fs_bE E) (hM : fs_hasR M R) (hG : fs_good E wo R) : fs_rw E M ∧ fs_mrows E M (-1) (-1) wo = fs_nR E R := by
  have h3 := hB.2.2.2.1
  refine ⟨fun d d0 d1 => ?_, ?_⟩
  · obtain ⟨a, b, c⟩ := hM d d0 (by omega)
    rw [a]
    refine ⟨by omega, by omega, fun k k0 k1 => ?_⟩
    have m := fs_lst_in (M 251) (R d).length (9 * d) (9 * d + k) (by omega) (by omega)
    rw [c] at m
    exact (hG.1.1 d d0 d1).2 _ m
  · funext d
    unfold fs_mrows fs_nR
    by_cases q : 0 ≤ d ∧ d < E 1 9
    · obtain ⟨a, b, c⟩ := hM d q.1 (by omega)
      rw [if_pos ⟨q.1, q.2, by omega⟩, if_pos q]
      have e : fs_left M d 0 = R d := by
        unfold fs_left
        rw [a, Int.sub_zero, Int.add_zero, Int.toNat_natCast]
        exact c
      rw [e]
      unfold fs_kp
      rw [List.filter_eq_self.2]
      intro x hx
      have ne := hG.2.2 d q.1 (by omega) x hx
      unfold fs_gn
      rw [decide_eq_false (by omega)]
      rfl
    · rw [if_neg (fun z => q ⟨z.1, z.2.1⟩), if_neg q]
theorem sp_walksR {E M : fs_M} {K : fs_K} {wo first : Int} {R : Int → List Int} (hB : fs_bE E) (hT : fs_rt E) (hC : fs_mc E wo first M) (hM : fs_hasR M R) (hG : fs_good E wo R)
    (hK : ∀ M', fs_out fs_F6 M M' → fs_mR E M' (-1) (-1) wo (fs_run E (-1) (E 31 2) (fs_alW E wo) (fs_nR E R)) → K none M') : fs_C2 g m_Mo_walks 8 [fs_r 226, fs_i 240] M K := by
  obtain ⟨w1, w2⟩ := fs_hasR_rw hB hM hG
  obtain ⟨a, b, c, d, e, f, k⟩ := hC
  refine sp_walks hB hT a w1 c d e f (by decide) (fun M2 o2 _ r2 => ?_)
  rw [w2, b] at r2
  exact hK M2 o2 r2
/-- the best so far is kept -/
theorem lp_copyBest {M : fs_M} {K : fs_K} (hK : ∀ M', fs_out (fun o _ => o = 263 ∨ o = 264) M M' → (∀ d, 0 ≤ d → d < 3 → M' 264 d = M 252 d) → (∀ i, 0 ≤ i → i < 27 → M' 263 i = M 251 i) → K none M') : fs_A2 g m_Mo_judges 9 106 [(0, fs_r 226), (2, fs_i 0)] [] M K := by
  have outer : ∀ (n : Nat) (d : Int) (M1 : fs_M), d + n = 3 → 0 ≤ d → fs_out (fun o _ => o = 263 ∨ o = 264) M M1 → (∀ e, 0 ≤ e → e < d → M1 264 e = M 252 e) → (∀ i, 0 ≤ i → i < 9 * d → M1 263 i = M 251 i) → fs_A2 g m_Mo_judges 9 106 [(0, fs_r 226), (2, fs_i d)] [] M1 K := by
    intro n
    induction n with
    | zero =>
      intro d M1 hd d0 o1 h1 h2
      exact L_Mo_judges_106 ⟨fun _ => hK M1 o1 (fun e a b => h1 e a (by omega)) (fun i a b => h2 i a (by omega)), fun z => by omega⟩
    | succ n ih =>
      intro d M1 hd d0 o1 h1 h2
      refine L_Mo_judges_106 ⟨fun z => by omega, fun _ => ⟨d0, ?_⟩⟩
      rw [o1 252 d (by omega)]
      have inner : ∀ (m : Nat) (k : Int) (M2 : fs_M), k + m = 9 → 0 ≤ k → fs_out (fun o _ => o = 263 ∨ o = 264) M M2 → (∀ e, 0 ≤ e → e < d + 1 → M2 264 e = M 252 e) → (∀ i, 0 ≤ i → i < 9 * d + k → M2 263 i = M 251 i) → fs_A2 g m_Mo_judges 9 125 [(0, fs_r 226), (2, fs_i d), (3, fs_i k)] [] M2 K := by
        intro m
        induction m with
        | zero =>
          intro k M2 hk k0 o2 g1 g2
          refine L_Mo_judges_125 ⟨fun _ => ?_, fun z => by omega⟩
          rw [fs_w32_of (by omega) (by omega)]
          exact ih (d + 1) M2 (by omega) (by omega) o2 g1 (fun i a b => g2 i a (by omega))
        | succ m ihm =>
          intro k M2 hk k0 o2 g1 g2
          refine L_Mo_judges_125 ⟨fun z => by omega, fun _ => ?_⟩
          rw [show fs_w32 (9 * d) = 9 * d from fs_w32_of (by omega) (by omega), show fs_w32 (9 * d + k) = 9 * d + k from fs_w32_of (by omega) (by omega), show fs_w32 (k + 1) = k + 1 from fs_w32_of (by omega) (by omega), o2 251 _ (by omega)]
          refine ⟨by omega, by omega, ihm (k + 1) _ (by omega) (by omega) (o2.st (Or.inl rfl)) (fun e a b => ?_) (fun i a b => ?_)⟩
          · rw [fs_st_o (by decide)]
            exact g1 e a b
          · by_cases q : i = 9 * d + k
            · rw [q, fs_st_s]
            · rw [fs_st_k q]
              exact g2 i a (by omega)
      refine inner 9 0 _ rfl (by decide) (o1.st (Or.inr rfl)) (fun e a b => ?_) (fun i a b => ?_)
      · by_cases q : e = d
        · rw [q, fs_st_s]
        · rw [fs_st_k q]
          exact h1 e a (by omega)
      · rw [fs_st_o (by decide)]
        exact h2 i a (by omega)
  exact outer 3 0 M rfl (by decide) fs_out.rf (fun e a b => by omega) (fun i a b => by omega)
theorem sp_judgesB {E : fs_M} {wo first : Int} (hB : fs_bE E) (hT : fs_rt E) (b : Int × (Int → List Int)) (R : Int → List Int) (M : fs_M) (K : fs_K) (hI : fs_InvB b M) (hC : fs_mc E wo first M) (hM : fs_hasR M R) (hG : fs_good E wo R) (hK : ∀ M', fs_out fs_FJ M M' → fs_InvB (fs_jB E wo b R) M' → K none M') : fs_C2 g m_Mo_judges 9 [fs_r 226] M K := by
  obtain ⟨i1, i2, i3, i4, i5⟩ := hI
  refine E_Mo_judges (sp_walksR hB hT hC hM hG (fun M1 o1 r1 => ⟨rfl, fun z => ?_, fun z => ?_⟩))
  · have e47 : M1 226 47 = E 31 2 := by rw [o1 226 47 (by unfold fs_F6 fs_F4; omega)]; exact hC.2.2.2.2.2.1
    have e63 : M1 226 63 = b.1 := by rw [o1 226 63 (by unfold fs_F6 fs_F4; omega)]; exact i1
    have e66 : M1 226 66 = -1 := by rw [o1 226 66 (by unfold fs_F6 fs_F4; omega)]; exact i2
    have e67 : M1 226 67 = 0 := by rw [o1 226 67 (by unfold fs_F6 fs_F4; omega)]; exact i3
    refine sp_gains (hv := E 31 2) (tr := -1) hB hT r1.1 r1.2.2.2.2.2.1 r1.2.1.1 (fun h h0 h1 => by rw [e47]; exact ⟨fun q => ⟨by decide, q⟩, fun q => q.2⟩) ⟨_, rfl, ?_⟩
    rw [fs_gain_T hB hG, e63]
    have ej : fs_jB E wo b R = if b.1 < fs_cW E wo + fs_T (fs_V1 E) R then (fs_cW E wo + fs_T (fs_V1 E) R, R) else b := rfl
    have ec : fs_gbi E (fs_alW E wo) (E 1 5).toNat = fs_cW E wo := rfl
    rw [ec]
    refine ⟨fun lt => lp_copyBest (fun M2 o2 c1 c2 => ?_), fun ge => ?_⟩
    · refine hK M2 (fun o k nF => ?_) ?_
      · have nF2 : ¬ (fs_F6 o k ∨ o = 263 ∨ o = 264 ∨ (o = 226 ∧ (k = 63 ∨ k = 67))) := nF
        rw [o2 o k (by omega)]
        have : fs_st M1 226 63 (fs_cW E wo + fs_T (fs_V1 E) R) o k = M1 o k := by
          by_cases q : o = 226
          · rw [fs_st_k (by omega)]
          · rw [fs_st_o q]
        rw [this]
        exact o1 o k (fun q => nF2 (Or.inl q))
      · rw [ej, if_pos lt]
        have f : ∀ k, M2 226 k = fs_st M1 226 63 (fs_cW E wo + fs_T (fs_V1 E) R) 226 k := fun k => o2 226 k (by omega)
        refine ⟨by rw [f, fs_st_s], by rw [f, fs_st_k (by decide)]; exact e66, by rw [f, fs_st_k (by decide)]; exact e67, by show -1 ≤ fs_cW E wo + fs_T (fs_V1 E) R; omega, fun _ => fun d d0 d3 => ?_⟩
        obtain ⟨a1, a2, a3⟩ := hM d d0 d3
        have l9 : ((R d).length : Int) ≤ 9 := by omega
        rw [c1 d d0 d3, fs_st_o (by decide), o1 252 d (by unfold fs_F6 fs_F4; omega)]
        refine ⟨a1, a2, ?_⟩
        show fs_lst (M2 263) (R d).length (9 * d) = R d
        refine Eq.trans (fs_lst_cong (f2 := M 251) (fun i i0 i1 => ?_)) a3
        rw [c2 i (by omega) (by omega), fs_st_o (by decide), o1 251 i (by unfold fs_F6 fs_F4; omega)]
    · refine hK M1 (o1.wk (fun _ _ q => Or.inl q)) ?_
      rw [ej, if_neg ge]
      refine ⟨e63, e66, e67, i4, fun q d d0 d3 => ?_⟩
      obtain ⟨a1, a2, a3⟩ := i5 q d d0 d3
      rw [o1 264 d (by unfold fs_F6 fs_F4; omega), fs_lst_cong (f2 := M 263) (fun i _ _ => o1 263 i (by unfold fs_F6 fs_F4; omega))]
      exact ⟨a1, a2, a3⟩
  · exact absurd (by rw [o1 226 66 (by unfold fs_F6 fs_F4; omega)]; exact i2) z
def fs_FLB (o k : Int) : Prop := fs_F9 o k ∨ o = 263 ∨ o = 264 ∨ (o = 226 ∧ (k = 62 ∨ k = 63 ∨ k = 66 ∨ k = 67))
def fs_R0 : Int → List Int := fun _ => []
theorem fs_good0 {E : fs_M} {wo : Int} : fs_good E wo fs_R0 := ⟨⟨fun d _ _ => ⟨Nat.zero_le _, fun h hh => (by cases hh)⟩, fun d _ _ _ => rfl⟩, fun d _ _ => ⟨List.nodup_nil, fun h hh => (by cases hh)⟩, fun d _ _ h hh => (by cases hh)⟩
theorem fs_usd0 : fs_usd fs_R0 0 := fun h h0 h1 => by
  have z := fs_bit0 h.toNat (by omega)
  rw [show ((h.toNat : Nat) : Int) = h by omega] at z
  rw [z]
  refine ⟨fun q => absurd q (by decide), fun q => ?_⟩
  obtain ⟨e, _, _, hh⟩ := q
  cases hh
def fs_lbV (E : fs_M) (n wo : Int) : Int := fs_cW E wo + fs_Bm (fs_RS E) (fs_V1 E) n.toNat 0 (fs_Fo E wo 0)
def fs_lbA (E : fs_M) (n wo : Int) : Int → List Int := fs_asg (fs_RS E) (fs_V1 E) n.toNat 0 (fs_Fo E wo 0) fs_R0
theorem fs_V1_nil {E : fs_M} {w : Int → Int} (d : Int) : fs_Vw E w d [] = 0 := by
  unfold fs_Vw
  have : ∀ n : Nat, fs_sum w (fs_itm E (-1) (E 31 2) (fs_alN E) d []) n = 0 := by
    intro n
    induction n with
    | zero => rfl
    | succ n ih =>
      show fs_sum w (fs_itm E (-1) (E 31 2) (fs_alN E) d []) n + (if fs_itm E (-1) (E 31 2) (fs_alN E) d [] n = 1 then w n else 0) = 0
      rw [ih, fs_itm_n (fun q => (by cases q)), if_neg (by decide)]
      rfl
  exact this _
theorem fs_cW_b {E : fs_M} (hB : fs_bE E) {wo : Int} : 0 ≤ fs_cW E wo ∧ fs_cW E wo ≤ 594 := by
  have h5 := hB.1
  have h6 := hB.2.1
  have := fs_gbi_b hB (al := fs_alW E wo) (E 1 5).toNat (by omega)
  unfold fs_cW
  omega
theorem sp_layBest {E M : fs_M} {K : fs_K} {n wo : Int} (hB : fs_bE E) (hT : fs_rt E) (hp : fs_rp E 31 0) (hE : fs_envM E M) (n0 : 0 ≤ n) (n1 : n ≤ E 1 9)
    (hK : ∀ M', fs_out fs_FLB M M' → fs_mc E wo n M' → M' 226 63 = fs_lbV E n wo → fs_hasB M' (fs_lbA E n wo) → M' 226 66 = -1 → M' 226 67 = 0 → K none M') : fs_C2 g m_Mo_layBest 22 [fs_r 226, fs_i n, fs_i wo] M K := by
  have h5 := hB.1
  have h6 := hB.2.1
  have h3 := hB.2.2.2.1
  have cwb := fs_cW_b hB (wo := wo)
  refine E_Mo_layBest (sp_asIsM hp hE (fun M1 o1 q1 => ⟨rfl, ?_⟩))
  have loop : ∀ (m : Nat) (d : Int) (M2 : fs_M), d + m = 3 → 0 ≤ d → fs_out (fun o _ => o = 252) M1 M2 → (∀ e, 0 ≤ e → e < d → M2 252 e = 0) → fs_A2 g m_Mo_layBest 22 6 [(0, fs_r 226), (1, fs_i n), (2, fs_i wo), (3, fs_i d)] [] M2 K := by
    intro m
    induction m with
    | succ m ih =>
      intro d M2 hd d0 o2 h2
      refine L_Mo_layBest_6 ⟨fun z => by omega, fun _ => ⟨d0, ?_⟩⟩
      rw [fs_w32_of (by omega) (by omega)]
      refine ih (d + 1) _ (by omega) (by omega) (o2.st rfl) (fun e a b => ?_)
      by_cases q : e = d
      · rw [q, fs_st_s]
      · rw [fs_st_k q]
        exact h2 e a (by omega)
    | zero =>
      intro d M2 hd d0 o2 h2
      refine L_Mo_layBest_6 ⟨fun _ => ?_, fun z => by omega⟩
      generalize hM3 : fs_st (fs_st (fs_st (fs_st (fs_st M2 226 44 wo) 226 62 n) 226 63 (-1)) 226 66 (-1)) 226 67 0 = M3
      have m3o : ∀ o k, o ≠ 226 → M3 o k = M2 o k := fun o k q => by rw [← hM3, fs_st_o q, fs_st_o q, fs_st_o q, fs_st_o q, fs_st_o q]
      have m3k : ∀ k, k ≠ 44 → k ≠ 62 → k ≠ 63 → k ≠ 66 → k ≠ 67 → M3 226 k = M2 226 k := fun k a b c d e => by rw [← hM3, fs_st_k e, fs_st_k d, fs_st_k c, fs_st_k b, fs_st_k a]
      obtain ⟨p42, p43, p44, p47, pr⟩ := q1
      have cE : ∀ o k, fs_eC o ∨ fs_mlc 0 o k → M3 o k = E o k := fun o k q => by
        rw [m3o o k (by unfold fs_eC fs_mlc at q; omega), o2 o k (by unfold fs_eC fs_mlc at q; omega), o1 o k (by unfold fs_F8; unfold fs_eC fs_mlc at q; omega)]
        exact hE o k q
      have C3 : fs_mc E wo n M3 := by
        refine ⟨fun o k q => cE o k (Or.inl q), by rw [cE 244 0 (Or.inr (by unfold fs_mlc; omega)), hp.2.1], by rw [m3k 42 (by decide) (by decide) (by decide) (by decide) (by decide), o2 226 42 (by omega)]; exact p42, by rw [m3k 43 (by decide) (by decide) (by decide) (by decide) (by decide), o2 226 43 (by omega)]; exact p43, ?_, by rw [m3k 47 (by decide) (by decide) (by decide) (by decide) (by decide), o2 226 47 (by omega)]; exact p47, ?_⟩
        · rw [← hM3]
          simp [fs_st]
        · rw [← hM3]
          simp [fs_st]
      have R3 : fs_hasR M3 fs_R0 := fun e e0 e3 => by
        rw [m3o 252 e (by decide), h2 e e0 (by omega)]
        exact ⟨rfl, Nat.zero_le _, rfl⟩
      have I3 : fs_InvB (-1, fs_R0) M3 := by
        refine ⟨?_, ?_, ?_, Int.le_refl _, fun q => absurd rfl q⟩
        · rw [← hM3]
          simp [fs_st]
        · rw [← hM3]
          simp [fs_st]
        · rw [← hM3]
          simp [fs_st]
      have o3 : fs_out fs_FLB M M3 := fun o k nF => by
        have nF2 : ¬ ((fs_F6 o k ∨ (o = 251 ∨ o = 252 ∨ (o = 226 ∧ (k = 42 ∨ k = 43 ∨ k = 44 ∨ k = 47)))) ∨ o = 263 ∨ o = 264 ∨ (o = 226 ∧ (k = 62 ∨ k = 63 ∨ k = 66 ∨ k = 67))) := nF
        have s2 : M2 o k = M o k := by
          rw [o2 o k (by omega)]
          exact o1 o k (by unfold fs_F8; omega)
        by_cases q : o = 226
        · rw [q] at nF2 s2 ⊢
          rw [m3k k (by omega) (by omega) (by omega) (by omega) (by omega)]
          exact s2
        · rw [m3o o k q]
          exact s2
      have fl : (fs_hf (fs_okU wo 0) [] (E 1 5).toNat 0).length ≤ 6 := by
        have := List.length_filter_le (fun h => fs_okU wo 0 h && !decide (h ∈ ([] : List Int))) (fs_lst (fun k => k) (E 1 5).toNat 0)
        rw [fs_lst_len] at this
        unfold fs_hf
        omega
      refine sp_rows (j := fs_jB E wo) (Inv := fs_InvB) (stop := fun _ => false) (wo := wo) (first := n) hB hT n1 (fun b q => absurd q (by decide)) (fun b M' i => ⟨fun _ => rfl, fun _ => i.2.2.1⟩) (fun b Ma Mb i he => ?_) (fun b R Ma Ka _ i c m gd k => sp_judgesB hB hT b R Ma Ka i c m gd k) n.toNat 21 0 0 fs_R0 (-1, fs_R0) M3 _ (by omega) (by omega) (by decide) (fun e a b => rfl) fs_usd0 fs_good0 R3 C3 I3 (fun M4 o4 i4 m4 => ⟨rfl, ?_⟩)
      · have q : ∀ o k, o = 263 ∨ o = 264 ∨ (o = 226 ∧ (k = 63 ∨ k = 66 ∨ k = 67)) → Mb o k = Ma o k := fun o k w => he o k (by unfold fs_F6 fs_F4; omega)
        obtain ⟨a1, a2, a3, a4, a5⟩ := i
        refine ⟨by rw [q 226 63 (by omega)]; exact a1, by rw [q 226 66 (by omega)]; exact a2, by rw [q 226 67 (by omega)]; exact a3, a4, fun z d d0 d3 => ?_⟩
        obtain ⟨b1, b2, b3⟩ := a5 z d d0 d3
        rw [q 264 d (by omega), fs_lst_cong (f2 := Ma 263) (fun i _ _ => q 263 i (by omega))]
        exact ⟨b1, b2, b3⟩
      · have sr := fs_search hB (V := fs_V1 E) (wo := wo) (c := fs_cW E wo) (fun d r => (fs_Vw_b hB (fs_wW_b hB) d r).1) fs_V1_nil n.toNat 0 0 fs_R0 (by decide) (by omega) (fun e a b => rfl) (-1, fs_R0)
        have t0 : fs_T (fs_V1 E) fs_R0 = 0 := by
          unfold fs_T
          show fs_Vw E (fs_wW E) 0 [] + fs_Vw E (fs_wW E) 1 [] + fs_Vw E (fs_wW E) 2 [] = 0
          rw [fs_V1_nil, fs_V1_nil, fs_V1_nil]
          rfl
        have bm := fs_Bm_0 (RS := fs_RS E) (V := fs_V1 E) (k := n.toNat) (d := 0) (F := fs_Fo E wo 0)
        rw [t0, Int.add_zero, if_pos (by show (-1 : Int) < _; omega)] at sr
        have i4' : fs_InvB (((fs_enm (E 1 5).toNat wo n.toNat 0 0 fs_R0).foldl (fs_jg (fun R => fs_cW E wo + fs_T (fs_V1 E) R)) (-1, fs_R0))) M4 := i4
        rw [sr] at i4'
        obtain ⟨a1, a2, a3, a4, a5⟩ := i4'
        refine hK M4 (o3.tr (o4.wk (fun o k q => ?_))) (C3.out o4) a1 (a5 (by show fs_cW E wo + fs_Bm (fs_RS E) (fs_V1 E) n.toNat 0 (fs_Fo E wo 0) ≠ -1; omega)) a2 a3
        have q2 : (fs_F6 o k ∨ o = 263 ∨ o = 264 ∨ (o = 226 ∧ (k = 63 ∨ k = 67))) ∨ o = 251 ∨ o = 252 := q
        show (fs_F6 o k ∨ (o = 251 ∨ o = 252 ∨ (o = 226 ∧ (k = 42 ∨ k = 43 ∨ k = 44 ∨ k = 47)))) ∨ o = 263 ∨ o = 264 ∨ (o = 226 ∧ (k = 62 ∨ k = 63 ∨ k = 66 ∨ k = 67))
        rcases q2 with (q2 | q2 | q2 | q2) | q2 | q2
        · exact Or.inl (Or.inl q2)
        · exact Or.inr (Or.inl q2)
        · exact Or.inr (Or.inr (Or.inl q2))
        · exact Or.inr (Or.inr (Or.inr (by omega)))
        · exact Or.inl (Or.inr (Or.inl q2))
        · exact Or.inl (Or.inr (Or.inr (Or.inl q2)))
  exact loop 3 0 M1 rfl (by decide) fs_out.rf (fun e a b => by omega)
end JUDGES
