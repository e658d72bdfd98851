-- ===== the model: many, price =====
section MOPRI
variable {g : fs_G}
theorem om_many {E M : fs_M} {K : fs_K} (hB : fs_bE E) (hT : fs_rt E) (hp : fs_rp E 31 0) (hE : fs_envM E M) (hK : ∀ M', fs_out fs_FMb M M' → K (some (fs_i (fs_vMany E))) M') : fs_C2 g m_Mo_many 23 [fs_r 226] M K := by
  have h5 := hB.1
  have h6 := hB.2.1
  have h9 := hB.2.2.1
  have h3 := hB.2.2.2.1
  refine E_Mo_many (sp_asIsM hp (fs_envM0 hE) (fun M1 o1 q1 => ⟨rfl, ?_⟩))
  have o1' : fs_out fs_FMb M M1 := fs_outb.tr (o1.wk (fun _ _ q => Or.inl (Or.inl (Or.inr q))))
  have E1 : fs_envM E M1 := fun o k q => by
    rw [o1 o k (by unfold fs_F8; unfold fs_eC fs_mlc at q; omega)]
    exact fs_envM0 hE o k q
  obtain ⟨p42, p43, p44, p47, pr⟩ := q1
  obtain ⟨w1, w2⟩ := fs_rows_now hp pr h3
  refine sp_starts hB hT E1.env w1 p42 p43 p44 (fun M2 o2 r2 => ⟨rfl, ?_⟩)
  have E2 : fs_envM E M2 := fun o k q => by
    rw [o2 o k (by unfold fs_F6 fs_F4; unfold fs_eC fs_mlc at q; omega)]
    exact E1 o k q
  have o2' : fs_out fs_FMb M M2 := o1'.tr (o2.wk (fun _ _ q => Or.inl (Or.inl (Or.inl q))))
  have e228 : M2 228 0 = E 1 5 := by rw [E2.env 228 0 (by unfold fs_eC; omega), hT.1]
  have e243 : M2 243 0 = E 31 2 := by rw [E2 243 0 (Or.inr (by unfold fs_mlc; omega)), hp.1]
  have e244 : M1 244 0 = E 31 3 := by rw [E1 244 0 (Or.inr (by unfold fs_mlc; omega)), hp.2.1]
  have s7 : ∀ h, 0 ≤ h → h < E 1 5 → (M2 261 h = -2 ↔ fs_alN E h ≠ 0) := fun h a b => by
    have x := (r2.2.2.2.2.2.1 h a b).1
    rw [e244] at x
    have y : fs_S0 E (-1) (fs_mal E (-1) (-1) (-1) (E 31 3)) (fs_mrows E M1 (-1) (-1) (-1)) 7 h = if 0 ≤ h ∧ h < 6 ∧ ¬ fs_mal E (-1) (-1) (-1) (E 31 3) h = 0 then -2 else -1 := rfl
    have z : fs_mal E (-1) (-1) (-1) (E 31 3) h = fs_alN E h := by
      have := fs_alW_is (E := E) (wo := -1) (h := h)
      rw [if_neg (by omega)] at this
      exact this
    have x2 : M2 261 h = if 0 ≤ h ∧ h < 6 ∧ ¬ fs_alN E h = 0 then -2 else -1 := by
      rw [← z]
      exact x
    rw [x2]
    by_cases c : fs_alN E h = 0
    · rw [if_neg (fun q => q.2.2 c)]
      exact ⟨fun q => absurd q (by decide), fun q => absurd c q⟩
    · rw [if_pos ⟨a, by omega, c⟩]
      exact ⟨fun _ => c, fun _ => rfl⟩
  have find : ∀ (k : Nat) (n : Int) (M3 : fs_M), n + k = E 1 9 + 1 → 0 ≤ n → fs_out fs_FMb M M3 → fs_envM E M3 → fs_vMany E = fs_mnyF E k n → fs_A2 g m_Mo_many 23 80 [(0, fs_r 226), (1, fs_i (fs_whole E)), (2, fs_i n)] [] M3 K := by
    intro k
    induction k with
    | zero =>
      intro n M3 hn n0 o3 E3 hv
      have h := hK M3 o3
      rw [hv] at h
      have e9 : M3 228 1 = E 1 9 := by rw [E3.env 228 1 (by unfold fs_eC; omega), hT.2.1]
      exact L_Mo_many_80 ⟨fun _ => h, fun z => by omega⟩
    | succ k ih =>
      intro n M3 hn n0 o3 E3 hv
      have e9 : M3 228 1 = E 1 9 := by rw [E3.env 228 1 (by unfold fs_eC; omega), hT.2.1]
      refine L_Mo_many_80 ⟨fun z => by omega, fun _ => sp_layBest hB hT hp E3 n0 (by omega) (fun M4 o4 c4 v4 _ _ _ => ⟨rfl, fun ne => ?_, fun eq => ?_⟩)⟩
      · rw [v4, fs_lbV_1 hB] at ne
        rw [fs_w32_of (by omega) (by omega)]
        refine ih (n + 1) M4 (by omega) (by omega) (o3.tr (o4.wk (fun _ _ q => Or.inl q))) (fun o k q => ?_) ?_
        · rw [o4 o k (by unfold fs_FLB fs_F9 fs_F6 fs_F8 fs_F4; unfold fs_eC fs_mlc at q; omega)]
          exact E3 o k q
        · rw [hv]
          show (if fs_bestV E n = fs_whole E then n else fs_mnyF E k (n + 1)) = _
          rw [if_neg ne]
      · rw [v4, fs_lbV_1 hB] at eq
        have h := hK M4 (o3.tr (o4.wk (fun _ _ q => Or.inl q)))
        rw [hv] at h
        have e : fs_mnyF E (k + 1) n = n := by
          show (if fs_bestV E n = fs_whole E then n else fs_mnyF E k (n + 1)) = n
          rw [if_pos eq]
        rw [e] at h
        exact h
  have loop : ∀ (n : Nat) (i : Nat), (E 1 5).toNat - i = n → i ≤ (E 1 5).toNat → fs_A2 g m_Mo_many 23 17 [(0, fs_r 226), (1, fs_i (fs_gbi E (fs_alN E) i + fs_sum (fs_wW E) (fun h => if fs_alN E h = 0 then 1 else 0) i)), (2, fs_i (i : Int))] [] M2 K := by
    intro n
    induction n with
    | zero =>
      intro i hn hi
      refine L_Mo_many_17 ⟨fun _ => ?_, fun z => by omega⟩
      rw [show i = (E 1 5).toNat by omega]
      exact find ((E 1 9).toNat + 1) 0 M2 (by omega) (by decide) o2' E2 rfl
    | succ n ih =>
      intro i hn hi
      have nx := ih (i + 1) (by omega) (by omega)
      have sb := fs_sum_b (w := fs_wW E) (f := fun h => if fs_alN E h = 0 then 1 else 0) (fs_wW_b hB) i (by omega)
      have gb := fs_gbi_b hB (al := fs_alN E) i (by omega)
      have b4 := hB.2.2.2.2.1 i (by omega) (by omega)
      have s := s7 i (by omega) (by omega)
      have e231 : M2 231 i = E 4 i := by rw [E2.env 231 i (by unfold fs_eC; omega), (hT.2.2.1 i (by omega) (by omega)).2.1]
      have es : fs_gbi E (fs_alN E) (i + 1) + fs_sum (fs_wW E) (fun h => if fs_alN E h = 0 then 1 else 0) (i + 1) = (fs_gbi E (fs_alN E) i + (if fs_alN E i = 0 then 0 else E 4 i)) + (fs_sum (fs_wW E) (fun h => if fs_alN E h = 0 then 1 else 0) i + (if (if fs_alN E i = 0 then (1 : Int) else 0) = 1 then fs_wW E i else 0)) := rfl
      have ew : fs_wW E i = fs_wbd E (E 31 2) i := by
        unfold fs_wW
        rw [if_pos ⟨by omega, by omega⟩]
      rw [es, ew] at nx
      have full : (fs_alN E i ≠ 0 ∨ ¬ fs_bit (E 31 2) i = 1) → fs_A2 g m_Mo_many 23 64 [(0, fs_r 226), (2, fs_i (i : Int))] [fs_i (fs_gbi E (fs_alN E) i + fs_sum (fs_wW E) (fun h => if fs_alN E h = 0 then 1 else 0) i)] M2 K := fun q => by
        refine L_Mo_many_64 ⟨by omega, by omega, ?_⟩
        rw [e231, fs_wsucc (by omega), fs_w32_of (by omega) (by omega)]
        have e : fs_gbi E (fs_alN E) i + (if fs_alN E i = 0 then 0 else E 4 i) + (fs_sum (fs_wW E) (fun h => if fs_alN E h = 0 then 1 else 0) i + (if (if fs_alN E i = 0 then (1 : Int) else 0) = 1 then fs_wbd E (E 31 2) i else 0)) = fs_gbi E (fs_alN E) i + fs_sum (fs_wW E) (fun h => if fs_alN E h = 0 then 1 else 0) i + E 4 i := by
          by_cases c : fs_alN E i = 0
          · rw [if_pos c, if_pos c, if_pos rfl]
            unfold fs_wbd
            rcases q with q | q
            · exact absurd c q
            · rw [if_neg q]
              omega
          · rw [if_neg c, if_neg c, if_neg (by decide)]
            omega
        rw [e] at nx
        exact nx
      refine L_Mo_many_17 ⟨fun z => by omega, fun _ => ?_⟩
      rw [e243]
      refine ⟨fun z => full (Or.inr z), fun z => ⟨by omega, by omega, fun z2 => full (Or.inl (s.1 z2)), fun z2 => ?_⟩⟩
      have z' : fs_bit (E 31 2) i = 1 := z
      have c : fs_alN E i = 0 := by
        by_cases q : fs_alN E i = 0
        · exact q
        · exact absurd (s.2 q) z2
      have wb := fs_wbd_b hB (hv := E 31 2) (h := (i : Int)) (by omega) (by omega)
      have ewb : fs_wbd E (E 31 2) i = fs_div (E 4 i) 2 := by
        unfold fs_wbd
        rw [if_pos z']
      rw [if_pos c, if_pos c, if_pos rfl, ewb] at nx
      rw [ewb] at wb
      rw [e231, fs_wsucc (by omega), fs_w32_of (by omega) (by omega), Int.add_assoc]
      rw [Int.add_zero] at nx
      exact nx
  have := loop _ 0 rfl (Nat.zero_le _)
  exact this
theorem sp_gainOf {E M S : fs_M} {K : fs_K} {h : Int} (hB : fs_bE E) (hT : fs_rt E) (hE : fs_env E M) (hS : M 261 h = S 7 h ∧ M 262 h = S 8 h) (h42 : M 226 42 = -1) (h47 : M 226 47 = E 31 2) (h0 : 0 ≤ h) (h1 : h < E 1 5) (hK : K (some (fs_i (fs_gnOf E S (E 31 2) h))) M) : fs_C2 g m_Mo_gainOf 1 [fs_r 226, fs_i h] M K := by
  have h6 := hB.2.1
  obtain ⟨s7, s8⟩ := hS
  obtain ⟨t3, t4, t5⟩ := hT.2.2.1 h h0 h1
  have e4 : M 231 h = E 4 h := by rw [hE 231 h (by unfold fs_eC; omega), t4]
  have e5' : M 232 h = E 5 h := by rw [hE 232 h (by unfold fs_eC; omega), t5]
  refine E_Mo_gainOf ⟨h0, by omega, fun z => ?_, fun z => ⟨fun z2 => ?_, fun z2 => ⟨fun le => ⟨fun tr0 => ?_, fun tr1 => ⟨fun nb => ?_, fun yb => ⟨fun ng => ?_, fun ps => ?_⟩⟩⟩, fun gt => ?_⟩⟩⟩
  · unfold fs_gnOf at hK
    rw [if_pos (by omega)] at hK
    exact hK
  · unfold fs_gnOf at hK
    rw [if_pos (by omega)] at hK
    exact hK
  · rw [h42] at tr0
    exact absurd tr0 (by decide)
  · rw [h47] at nb
    have nb2 : ¬ fs_bit (E 31 2) h = 1 := nb
    rw [e4]
    unfold fs_gnOf at hK
    rw [if_neg (by omega), if_pos (by omega), if_neg (fun q => nb2 q.2)] at hK
    exact hK
  · rw [e4]
    unfold fs_gnOf at hK
    rw [if_neg (by omega), if_pos (by omega), if_neg (by omega)] at hK
    exact hK
  · rw [h47] at yb
    have yb2 : fs_bit (E 31 2) h = 1 := yb
    rw [e4]
    unfold fs_gnOf at hK
    rw [if_neg (by omega), if_pos (by omega), if_pos ⟨by omega, yb2⟩] at hK
    exact hK
  · unfold fs_gnOf at hK
    rw [if_neg (by omega), if_neg (by omega)] at hK
    exact hK
theorem om_price {E M : fs_M} {K : fs_K} {a : Int} (hB : fs_bE E) (hT : fs_rt E) (hp : fs_rp E 31 0) (hE : fs_envM E M) (hK : ∀ M', fs_out fs_FMb M M' → K (some (fs_i (fs_vPrice E a))) M') : fs_C2 g m_Mo_price 23 [fs_r 226, fs_i a] M K := by
  have h5 := hB.1
  have h6 := hB.2.1
  have h9 := hB.2.2.1
  have h3 := hB.2.2.2.1
  have e228 : fs_st M 226 0 0 228 0 = E 1 5 := by rw [fs_st_o (by decide), hE 228 0 (Or.inl (by unfold fs_eC; omega)), hT.1]
  unfold fs_vPrice at hK
  have no : (a < 0 ∨ E 1 5 ≤ a) → K (some (fs_i (-1))) (fs_st M 226 0 0) := fun q => by
    have h := hK _ fs_outb
    rw [if_pos q] at h
    exact h
  refine E_Mo_price (E_Mo_isHouse ⟨fun z => ⟨0, rfl, fun w => absurd rfl w, fun _ => no (by omega)⟩, fun z => ⟨fun z2 => ⟨0, rfl, fun w => absurd rfl w, fun _ => no (by omega)⟩, fun z2 => ⟨1, rfl, fun _ => ?_, fun w => absurd w (by decide)⟩⟩⟩)
  have E0 := fs_envM0 hE
  have e9 : fs_st M 226 0 0 228 1 = E 1 9 := by rw [fs_st_o (by decide), hE 228 1 (Or.inl (by unfold fs_eC; omega)), hT.2.1]
  rw [e9]
  refine sp_layBest hB hT hp E0 h9 (Int.le_refl _) (fun M2 o2 c2 v2 b2 _ _ => ⟨rfl, ?_⟩)
  rw [v2]
  have gd := fs_lbA_good hB (wo := -1) (n := E 1 9) h9 (Int.le_refl _)
  have E2 : fs_envM E M2 := fun o k q => by
    rw [o2 o k (by unfold fs_FLB fs_F9 fs_F6 fs_F8 fs_F4; unfold fs_eC fs_mlc at q; omega)]
    exact E0 o k q
  have o2' : fs_out fs_FMb M M2 := fs_outb.tr (o2.wk (fun _ _ q => Or.inl q))
  have fin : ∀ M3, fs_out (fun o _ => o = 251 ∨ o = 252) M2 M3 → fs_hasR M3 (fs_lbA E (E 1 9) (-1)) → fs_A2 g m_Mo_price 23 33 [(0, fs_r 226), (1, fs_i a), (2, fs_i (fs_lbV E (E 1 9) (-1))), (3, fs_i 3)] [] M3 K := by
    intro M3 o3 r3
    have C3 : fs_mc E (-1) (E 1 9) M3 := c2.out (o3.wk (fun _ _ q => Or.inr q))
    refine L_Mo_price_33 ⟨fun _ => sp_walksR hB hT C3 r3 gd (fun M4 o4 m4 => ⟨rfl, ?_⟩), fun z => absurd (by decide) z⟩
    have e47 : M4 226 47 = E 31 2 := by rw [o4 226 47 (by unfold fs_F6 fs_F4; omega)]; exact C3.2.2.2.2.2.1
    refine sp_gainOf hB hT m4.1 (m4.2.2.2.2.2.1 a (by omega) (by omega)) m4.2.1.1 e47 (by omega) (by omega) ⟨_, rfl, ?_⟩
    have E4 : fs_envM E M4 := fun o k q => by
      rw [o4 o k (by unfold fs_F6 fs_F4; unfold fs_eC fs_mlc at q; omega), o3 o k (by unfold fs_eC fs_mlc at q; omega)]
      exact E2 o k q
    rw [show M4 228 1 = E 1 9 by rw [E4.env 228 1 (by unfold fs_eC; omega), hT.2.1]]
    refine sp_layBest hB hT hp E4 h9 (Int.le_refl _) (fun M5 o5 c5 v5 b5 _ _ => ⟨rfl, ?_⟩)
    rw [v5]
    have o5' : fs_out fs_FMb M M5 := by
      refine o2'.tr (fs_out.tr (o3.wk (fun o k q => ?_)) ((o4.wk (fun o k q => ?_)).tr (o5.wk (fun _ _ q => Or.inl q))))
      · exact Or.inl (Or.inl (Or.inr (by unfold fs_F8; have q2 : o = 251 ∨ o = 252 := q; omega)))
      · exact Or.inl (Or.inl (Or.inl q))
    have h := hK M5 o5'
    rw [if_neg (by omega)] at h
    have gs := fs_gnOf_sum (wo := -1) (R := fs_lbA E (E 1 9) (-1)) (h := a) hB gd (by omega) (by omega)
    have eaw : fs_alW E (-1) a = fs_alN E a := by rw [fs_alW_is, if_neg (by omega)]
    rw [eaw] at gs
    -- the sums of both are the same
    have itm : ∀ d, 0 ≤ d → d < 3 → fs_itm E (-1) (E 31 2) (fs_alN E) d (fs_lbA E (E 1 9) (-1) d) a = if d < E 1 9 then fs_itm E (-1) (E 31 2) (fs_alN E) d (fs_chR E (E 1 9) d) a else 0 := fun d d0 d3 => by
      rw [fs_lbA_1 hB h9 d0]
      by_cases c : d < E 1 9
      · rw [if_pos c, if_pos c]
      · rw [if_neg c, if_neg c]
        exact fs_itm_n (fun q => (by cases q))
    have oth : ∀ x, fs_oth E a x (E 1 9).toNat = x - ((if fs_itm E (-1) (E 31 2) (fs_alN E) 0 (fs_lbA E (E 1 9) (-1) 0) a = 1 then fs_wbd E (E 31 2) a else 0) + (if fs_itm E (-1) (E 31 2) (fs_alN E) 1 (fs_lbA E (E 1 9) (-1) 1) a = 1 then fs_wbd E (E 31 2) a else 0) + (if fs_itm E (-1) (E 31 2) (fs_alN E) 2 (fs_lbA E (E 1 9) (-1) 2) a = 1 then fs_wbd E (E 31 2) a else 0)) := fun x => by
      have os : ∀ k : Nat, fs_oth E a x (k + 1) = fs_oth E a x k - (if fs_itm E (-1) (E 31 2) (fs_alN E) k (fs_chR E (E 1 9) k) a = 1 then fs_wbd E (E 31 2) a else 0) := fun k => rfl
      have o0 : fs_oth E a x 0 = x := rfl
      have i0 := itm 0 (by decide) (by decide)
      have i1 := itm 1 (by decide) (by decide)
      have i2 := itm 2 (by decide) (by decide)
      have n4 : (E 1 9).toNat = 0 ∨ (E 1 9).toNat = 1 ∨ (E 1 9).toNat = 2 ∨ (E 1 9).toNat = 3 := by omega
      rcases n4 with q | q | q | q
      · rw [if_neg (by omega)] at i0 i1 i2
        rw [q, o0, i0, i1, i2, if_neg (by decide)]
        omega
      · rw [if_pos (by omega)] at i0
        rw [if_neg (by omega)] at i1 i2
        rw [q, os, o0, i0, i1, i2, if_neg (show ¬ (0 : Int) = 1 by decide)]
        show x - (if fs_itm E (-1) (E 31 2) (fs_alN E) 0 (fs_chR E (E 1 9) 0) a = 1 then fs_wbd E (E 31 2) a else 0) = _
        omega
      · rw [if_pos (by omega)] at i0 i1
        rw [if_neg (by omega)] at i2
        rw [q, os, os, o0, i0, i1, i2, if_neg (show ¬ (0 : Int) = 1 by decide)]
        show x - (if fs_itm E (-1) (E 31 2) (fs_alN E) 0 (fs_chR E (E 1 9) 0) a = 1 then fs_wbd E (E 31 2) a else 0) - (if fs_itm E (-1) (E 31 2) (fs_alN E) 1 (fs_chR E (E 1 9) 1) a = 1 then fs_wbd E (E 31 2) a else 0) = _
        omega
      · rw [if_pos (by omega)] at i0 i1 i2
        rw [q, os, os, os, o0, i0, i1, i2]
        show x - (if fs_itm E (-1) (E 31 2) (fs_alN E) 0 (fs_chR E (E 1 9) 0) a = 1 then fs_wbd E (E 31 2) a else 0) - (if fs_itm E (-1) (E 31 2) (fs_alN E) 1 (fs_chR E (E 1 9) 1) a = 1 then fs_wbd E (E 31 2) a else 0) - (if fs_itm E (-1) (E 31 2) (fs_alN E) 2 (fs_chR E (E 1 9) 2) a = 1 then fs_wbd E (E 31 2) a else 0) = _
        omega
    rw [oth] at h
    rw [gs]
    have v1 : fs_lbV E (E 1 9) (-1) = fs_gbi E (fs_alN E) (E 1 5).toNat + fs_Bm (fs_RS E) (fs_V1 E) (E 1 9).toNat 0 (fs_ev1 E) := by
      rw [fs_lbV_1 hB]
      rfl
    have v2' : fs_lbV E (E 1 9) a = (fs_gbi E (fs_alN E) (E 1 5).toNat - (if fs_alN E a = 0 then 0 else E 4 a)) + fs_Bm (fs_RS E) (fs_V1 E) (E 1 9).toNat 0 (fs_mn (fs_ev1 E) (fs_shl 1 a)) := by
      unfold fs_lbV fs_cW
      rw [fs_gbi_without (E 1 5).toNat (by omega) (by omega), fs_Fo_wo hB (by omega) (by omega)]
    rw [v1, v2']
    have gb := fs_gbi_b hB (al := fs_alN E) (E 1 5).toNat (by omega)
    have hwb := fs_wW_b hB
    have bb1 : 0 ≤ fs_Bm (fs_RS E) (fs_V1 E) (E 1 9).toNat 0 (fs_ev1 E) ∧ fs_Bm (fs_RS E) (fs_V1 E) (E 1 9).toNat 0 (fs_ev1 E) ≤ 1782 := fs_Bmw_b hB hwb _ _ _ (by omega)
    have bb2 : 0 ≤ fs_Bm (fs_RS E) (fs_V1 E) (E 1 9).toNat 0 (fs_mn (fs_ev1 E) (fs_shl 1 a)) ∧ fs_Bm (fs_RS E) (fs_V1 E) (E 1 9).toNat 0 (fs_mn (fs_ev1 E) (fs_shl 1 a)) ≤ 1782 := fs_Bmw_b hB hwb _ _ _ (by omega)
    have b4 := hB.2.2.2.2.1 a (by omega) (by omega)
    have wb := fs_wbd_b hB (hv := E 31 2) (h := a) (by omega) (by omega)
    generalize fs_Bm (fs_RS E) (fs_V1 E) (E 1 9).toNat 0 (fs_ev1 E) = B1 at *
    generalize fs_Bm (fs_RS E) (fs_V1 E) (E 1 9).toNat 0 (fs_mn (fs_ev1 E) (fs_shl 1 a)) = B2 at *
    generalize fs_gbi E (fs_alN E) (E 1 5).toNat = G at *
    have eA : ∃ A, (if fs_alN E a = 0 then 0 else E 4 a) = A ∧ 0 ≤ A ∧ A ≤ 99 := ⟨_, rfl, by split <;> omega, by split <;> omega⟩
    have e0 : ∃ A, (if fs_itm E (-1) (E 31 2) (fs_alN E) 0 (fs_lbA E (E 1 9) (-1) 0) a = 1 then fs_wbd E (E 31 2) a else 0) = A ∧ 0 ≤ A ∧ A ≤ 99 := ⟨_, rfl, by split <;> omega, by split <;> omega⟩
    have e1 : ∃ A, (if fs_itm E (-1) (E 31 2) (fs_alN E) 1 (fs_lbA E (E 1 9) (-1) 1) a = 1 then fs_wbd E (E 31 2) a else 0) = A ∧ 0 ≤ A ∧ A ≤ 99 := ⟨_, rfl, by split <;> omega, by split <;> omega⟩
    have e2 : ∃ A, (if fs_itm E (-1) (E 31 2) (fs_alN E) 2 (fs_lbA E (E 1 9) (-1) 2) a = 1 then fs_wbd E (E 31 2) a else 0) = A ∧ 0 ≤ A ∧ A ≤ 99 := ⟨_, rfl, by split <;> omega, by split <;> omega⟩
    obtain ⟨A, hA, a1, a2⟩ := eA
    obtain ⟨x0, hx0, x01, x02⟩ := e0
    obtain ⟨x1, hx1, x11, x12⟩ := e1
    obtain ⟨x2, hx2, x21, x22⟩ := e2
    rw [hA, hx0, hx1, hx2]
    rw [hx0, hx1, hx2] at h
    rw [fs_w32_of (x := G + B1 - (A + x0 + x1 + x2)) (by omega) (by omega), fs_w32_of (by omega) (by omega)]
    rw [show G - A + B2 - (G + B1 - (A + x0 + x1 + x2)) = B2 - (B1 - (x0 + x1 + x2)) by omega]
    exact h
  have outer : ∀ (n : Nat) (d : Int) (M3 : fs_M), d + n = 3 → 0 ≤ d → fs_out (fun o _ => o = 251 ∨ o = 252) M2 M3 → (∀ e, 0 ≤ e → e < d → M3 252 e = M2 264 e) → (∀ i, 0 ≤ i → i < 9 * d → M3 251 i = M2 263 i) → fs_A2 g m_Mo_price 23 33 [(0, fs_r 226), (1, fs_i a), (2, fs_i (fs_lbV E (E 1 9) (-1))), (3, fs_i d)] [] M3 K := by
    intro n
    induction n with
    | zero =>
      intro d M3 hd d0 o3 h1 h2
      have ed : d = 3 := by omega
      rw [ed] at h1 h2 ⊢
      refine fin M3 o3 (fun e e0 e3 => ?_)
      obtain ⟨x1, x2, x3⟩ := b2 e e0 e3
      rw [h1 e e0 e3]
      exact ⟨x1, x2, (fs_lst_cong (f2 := M2 263) (fun i i0 i1 => h2 i (by omega) (by omega))).trans x3⟩
    | succ n ih =>
      intro d M3 hd d0 o3 h1 h2
      refine L_Mo_price_33 ⟨fun z => by omega, fun _ => ⟨d0, ?_⟩⟩
      rw [o3 264 d (by omega)]
      have inner : ∀ (m : Nat) (k : Int) (M4 : fs_M), k + m = 9 → 0 ≤ k → fs_out (fun o _ => o = 251 ∨ o = 252) M2 M4 → (∀ e, 0 ≤ e → e < d + 1 → M4 252 e = M2 264 e) → (∀ i, 0 ≤ i → i < 9 * d + k → M4 251 i = M2 263 i) → fs_A2 g m_Mo_price 23 53 [(0, fs_r 226), (1, fs_i a), (2, fs_i (fs_lbV E (E 1 9) (-1))), (3, fs_i d), (4, fs_i k)] [] M4 K := by
        intro m
        induction m with
        | zero =>
          intro k M4 hk k0 o4 g1 g2
          refine L_Mo_price_53 ⟨fun _ => ?_, fun z => by omega⟩
          rw [fs_w32_of (by omega) (by omega)]
          exact ih (d + 1) M4 (by omega) (by omega) o4 g1 (fun i a b => g2 i a (by omega))
        | succ m ihm =>
          intro k M4 hk k0 o4 g1 g2
          refine L_Mo_price_53 ⟨fun z => by omega, fun _ => ?_⟩
          rw [show fs_w32 (9 * d) = 9 * d from fs_w32_of (by omega) (by omega), show fs_w32 (9 * d + k) = 9 * d + k from fs_w32_of (by omega) (by omega), show fs_w32 (k + 1) = k + 1 from fs_w32_of (by omega) (by omega), o4 263 _ (by omega)]
          refine ⟨by omega, by omega, ihm (k + 1) _ (by omega) (by omega) (o4.st (Or.inl rfl)) (fun e a b => ?_) (fun i a b => ?_)⟩
          · rw [fs_st_o (by decide)]
            exact g1 e a b
          · by_cases q : i = 9 * d + k
            · rw [q, fs_st_s]
            · rw [fs_st_k q]
              exact g2 i a (by omega)
      refine inner 9 0 _ rfl (by decide) (o3.st (Or.inr rfl)) (fun e a b => ?_) (fun i a b => ?_)
      · by_cases q : e = d
        · rw [q, fs_st_s]
        · rw [fs_st_k q]
          exact h1 e a (by omega)
      · rw [fs_st_o (by decide)]
        exact h2 i a (by omega)
  exact outer 3 0 M2 rfl (by decide) fs_out.rf (fun e a b => by omega) (fun i a b => by omega)
end MOPRI
