-- ===== the model: best, chosen, many, price =====
theorem fs_nth_lst {f : Int → Int} : ∀ (n : Nat) (i : Int) (k : Nat), k < n → fs_nth (fs_lst f n i) k = f (i + k)
  | 0, _, k, h => by omega
  | n + 1, i, 0, _ => by
    show f i = f (i + 0)
    rw [Int.add_zero]
  | n + 1, i, k + 1, h => by
    show fs_nth (fs_lst f n (i + 1)) k = f (i + ((k + 1 : Nat) : Int))
    rw [fs_nth_lst n (i + 1) k (by omega), show i + 1 + (k : Int) = i + ((k + 1 : Nat) : Int) by omega]
theorem fs_gbi_cong {E : fs_M} {al al2 : Int → Int} : ∀ (n : Nat), (∀ h : Int, 0 ≤ h → h < n → (al h = 0 ↔ al2 h = 0)) → fs_gbi E al n = fs_gbi E al2 n
  | 0, _ => rfl
  | n + 1, h => by
    have ih := fs_gbi_cong (E := E) (al := al) (al2 := al2) n (fun x a b => h x a (by omega))
    have e := h n (by omega) (by omega)
    show fs_gbi E al n + (if al n = 0 then 0 else E 4 n) = fs_gbi E al2 n + (if al2 n = 0 then 0 else E 4 n)
    rw [ih]
    by_cases c : al n = 0
    · rw [if_pos c, if_pos (e.1 c)]
    · rw [if_neg c, if_neg (fun q => c (e.2 q))]
theorem fs_gbi_without {E : fs_M} {wo : Int} : ∀ (n : Nat), 0 ≤ wo → wo < n → fs_gbi E (fs_alW E wo) n = fs_gbi E (fs_alN E) n - (if fs_alN E wo = 0 then 0 else E 4 wo)
  | 0, a, b => by omega
  | n + 1, a, b => by
    show fs_gbi E (fs_alW E wo) n + (if fs_alW E wo n = 0 then 0 else E 4 n) = fs_gbi E (fs_alN E) n + (if fs_alN E n = 0 then 0 else E 4 n) - (if fs_alN E wo = 0 then 0 else E 4 wo)
    by_cases c : wo = n
    · have e : fs_gbi E (fs_alW E wo) n = fs_gbi E (fs_alN E) n := fs_gbi_cong n (fun h h0 h1 => by rw [fs_alW_is, if_neg (by omega)])
      rw [e, fs_alW_is, if_pos c.symm, if_pos rfl, c]
      omega
    · have e : fs_alW E wo n = fs_alN E n := by rw [fs_alW_is, if_neg (fun q => c q.symm)]
      rw [fs_gbi_without n a (by omega), e]
      omega
theorem fs_Fo_ev {E : fs_M} (hB : fs_bE E) : fs_Fo E (-1) 0 = fs_ev1 E := by
  obtain ⟨a, b, _⟩ := fs_Fo_b hB (wo := -1) (U := 0)
  have eb := fs_ev1_b hB
  refine fs_ext6 a b eb.1 eb.2.1 (fun n hn => ?_)
  have x := fs_Fo_bit hB (wo := -1) (U := 0) (h := (n : Int)) (by omega) (by omega)
  have y := eb.2.2.2 n (by omega) (by omega)
  have z := fs_bit0 n hn
  rcases fs_bit01 (fs_ev1 E) n with q | q
  · rw [q]
    rcases fs_bit01 (fs_Fo E (-1) 0) n with t | t
    · exact t
    · have := y.2 (x.1 t).1
      omega
  · rw [q]
    exact x.2 ⟨y.1 q, by omega, by omega⟩
theorem fs_Fo_wo {E : fs_M} (hB : fs_bE E) {wo : Int} (w0 : 0 ≤ wo) (w1 : wo < E 1 5) : fs_Fo E wo 0 = fs_mn (fs_ev1 E) (fs_shl 1 wo) := by
  have h6 := hB.2.1
  obtain ⟨a, b, _⟩ := fs_Fo_b hB (wo := wo) (U := 0)
  have eb := fs_ev1_b hB
  have mb := fs_mn_b hB (s := fs_shl 1 wo) eb.1 (Int.le_refl _)
  refine fs_ext6 a b mb.1 (by omega) (fun n hn => ?_)
  have x := fs_Fo_bit hB (wo := wo) (U := 0) (h := (n : Int)) (by omega) (by omega)
  have y := eb.2.2.2 n (by omega) (by omega)
  have z := fs_bit0 n hn
  have s : fs_bit (fs_shl 1 wo) n = if (n : Nat) = wo.toNat then 1 else 0 := by
    have := fs_bit_shl wo.toNat (by omega) n (by omega)
    rw [show ((wo.toNat : Nat) : Int) = wo by omega] at this
    exact this
  have v : fs_bit (fs_mn (fs_ev1 E) (fs_shl 1 wo)) n = if fs_bit (fs_ev1 E) n = 1 ∧ fs_bit (fs_shl 1 wo) n ≠ 1 then 1 else 0 := fs_bit_mn (by omega) (by omega)
  rw [v, s]
  by_cases q : (n : Int) = wo
  · rw [if_pos (show n = wo.toNat by omega), if_neg (fun t => t.2 rfl)]
    rcases fs_bit01 (fs_Fo E wo 0) n with t | t
    · exact t
    · exact absurd q (x.1 t).2.2
  · rw [if_neg (show ¬ n = wo.toNat by omega)]
    by_cases r : fs_bit (fs_ev1 E) n = 1
    · rw [if_pos ⟨r, by decide⟩]
      exact x.2 ⟨y.1 r, by omega, q⟩
    · rw [if_neg (fun t => r t.1)]
      rcases fs_bit01 (fs_Fo E wo 0) n with t | t
      · exact t
      · exact absurd (y.2 (x.1 t).1) r
theorem fs_cW_1 {E : fs_M} : fs_cW E (-1) = fs_gbi E (fs_alN E) (E 1 5).toNat := by
  unfold fs_cW
  exact fs_gbi_cong _ (fun h h0 _ => by rw [fs_alW_is, if_neg (by omega)])
theorem fs_lbV_1 {E : fs_M} (hB : fs_bE E) {n : Int} : fs_lbV E n (-1) = fs_bestV E n := by
  unfold fs_lbV fs_bestV
  rw [fs_cW_1, fs_Fo_ev hB]
  rfl
theorem fs_lbA_1 {E : fs_M} (hB : fs_bE E) {n i : Int} (n0 : 0 ≤ n) (i0 : 0 ≤ i) : fs_lbA E n (-1) i = if i < n then fs_chR E n i else [] := by
  unfold fs_lbA
  rw [fs_asg_is, fs_Fo_ev hB]
  by_cases c : i < n
  · rw [if_pos (by omega), if_pos c]
    rfl
  · rw [if_neg (by omega), if_neg c]
    rfl
/-- the rows chosen are rows without a house in two -/
theorem fs_asg_good {E : fs_M} (hB : fs_bE E) {V : Int → List Int → Int} {wo : Int} (hV : ∀ d r, 0 ≤ V d r) : ∀ (k : Nat) (d F : Int) (R : Int → List Int), 0 ≤ d → d + k ≤ E 1 9 → 0 ≤ F → F ≤ fs_ev1 E → fs_good E wo R → (∀ h, 0 ≤ h → h < 6 → fs_bit F h = 1 → h ≠ wo ∧ ∀ e, 0 ≤ e → e < 3 → h ∉ R e) → fs_good E wo (fs_asg (fs_RS E) V k d F R)
  | 0, d, F, R, _, _, _, _, hG, _ => hG
  | k + 1, d, F, R, d0, dk, F0, F1, hG, hF => by
    have h3 := hB.2.2.2.1
    obtain ⟨u, w, hu, hpu, hnu⟩ := fs_pick1_is (E := E) (V := V) hV k d F
    show fs_good E wo (fs_asg (fs_RS E) V k (d + 1) (fs_mn F (fs_bts (fs_pick1 (fs_RS E) V k d F) 0)) (fs_upd R d (fs_pick1 (fs_RS E) V k d F)))
    generalize fs_pick1 (fs_RS E) V k d F = r at *
    have rm : r ∈ fs_RS E := by
      rw [hu]
      exact List.mem_append.2 (Or.inr List.mem_cons_self)
    obtain ⟨m1, m2, m3⟩ := fs_RS_mem hB rm
    have m6 := fs_RS_6 hB rm
    obtain ⟨b0, b1⟩ := fs_bts_b r 0 m6 (by decide) (by decide)
    unfold fs_pp at hpu
    rw [Bool.and_eq_true] at hpu
    have sub := (fs_sb_iff b0 b1).1 hpu.1
    have mb := fs_mn_b hB (s := fs_bts r 0) F0 F1
    have inF : ∀ h, h ∈ r → fs_bit F h = 1 := fun h hh => sub h (m6 h hh).1 (m6 h hh).2 ((fs_bts_in (m6 h hh).1 (m6 h hh).2 m6).2 hh)
    have updx : ∀ c, c ≠ d → fs_upd R d r c = R c := fun c q => by
      unfold fs_upd
      rw [if_neg q]
    have updd : fs_upd R d r d = r := by
      unfold fs_upd
      rw [if_pos rfl]
    refine fs_asg_good hB hV k (d + 1) _ (fs_upd R d r) (by omega) (by omega) mb.1 mb.2 ⟨⟨fun c c0 c9 => ⟨?_, fun h hh => ?_⟩, fun c c0 c3 c9 => ?_⟩, fun c c0 c3 => ⟨?_, fun h hh y y0 y3 ne q => ?_⟩, fun c c0 c3 h hh => ?_⟩ (fun h h0 h1 hb => ?_)
    · by_cases q : c = d
      · rw [q, updd]
        omega
      · rw [updx c q]
        exact (hG.1.1 c c0 c9).1
    · by_cases q : c = d
      · rw [q, updd] at hh
        exact m1 h hh
      · rw [updx c q] at hh
        exact (hG.1.1 c c0 c9).2 h hh
    · rw [updx c (by omega)]
      exact hG.1.2 c c0 c3 c9
    · by_cases q : c = d
      · rw [q, updd]
        exact m2
      · rw [updx c q]
        exact (hG.2.1 c c0 c3).1
    · by_cases q1 : c = d
      · rw [q1, updd] at hh
        rw [updx y (by omega)] at q
        exact (hF h (m6 h hh).1 (m6 h hh).2 (inF h hh)).2 y y0 y3 q
      · rw [updx c q1] at hh
        by_cases q2 : y = d
        · rw [q2, updd] at q
          exact (hF h (m6 h q).1 (m6 h q).2 (inF h q)).2 c c0 c3 hh
        · rw [updx y q2] at q
          exact (hG.2.1 c c0 c3).2 h hh y y0 y3 ne q
    · by_cases q : c = d
      · rw [q, updd] at hh
        exact (hF h (m6 h hh).1 (m6 h hh).2 (inF h hh)).1
      · rw [updx c q] at hh
        exact hG.2.2 c c0 c3 h hh
    · have v : fs_bit (fs_mn F (fs_bts r 0)) h = if fs_bit F h = 1 ∧ fs_bit (fs_bts r 0) h ≠ 1 then 1 else 0 := fs_bit_mn h0 h1
      rw [v] at hb
      by_cases q : fs_bit F h = 1 ∧ fs_bit (fs_bts r 0) h ≠ 1
      · obtain ⟨f1, f2⟩ := hF h h0 h1 q.1
        refine ⟨f1, fun e e0 e3 hh => ?_⟩
        by_cases q2 : e = d
        · rw [q2, updd] at hh
          exact q.2 ((fs_bts_in h0 h1 m6).2 hh)
        · rw [updx e q2] at hh
          exact f2 e e0 e3 hh
      · rw [if_neg q] at hb
        exact absurd hb (by decide)
theorem fs_lbA_good {E : fs_M} (hB : fs_bE E) {n wo : Int} (n0 : 0 ≤ n) (n1 : n ≤ E 1 9) : fs_good E wo (fs_lbA E n wo) := by
  obtain ⟨a, b, c⟩ := fs_Fo_b hB (wo := wo) (U := 0)
  refine fs_asg_good hB (fun d r => (fs_Vw_b hB (fs_wW_b hB) d r).1) n.toNat 0 (fs_Fo E wo 0) fs_R0 (by decide) (by omega) a c fs_good0 (fun h h0 h1 hb => ⟨((fs_Fo_bit hB h0 h1).1 hb).2.2, fun e _ _ hh => (by cases hh)⟩)
/-- what one house brings -/
theorem fs_gnOf_sum {E : fs_M} {wo h : Int} {R : Int → List Int} (hB : fs_bE E) (hG : fs_good E wo R) (h0 : 0 ≤ h) (h1 : h < E 1 5) : fs_gnOf E (fs_run E (-1) (E 31 2) (fs_alW E wo) (fs_nR E R)).2 (E 31 2) h = (if fs_alW E wo h = 0 then 0 else E 4 h) + (if fs_itm E (-1) (E 31 2) (fs_alN E) 0 (R 0) h = 1 then fs_wbd E (E 31 2) h else 0) + (if fs_itm E (-1) (E 31 2) (fs_alN E) 1 (R 1) h = 1 then fs_wbd E (E 31 2) h else 0) + (if fs_itm E (-1) (E 31 2) (fs_alN E) 2 (R 2) h = 1 then fs_wbd E (E 31 2) h else 0) := by
  obtain ⟨n1, n2⟩ := fs_nR_good hB hG
  obtain ⟨n, rfl⟩ := Int.eq_ofNat_of_zero_le h0
  have a := fs_gain_sum (tr := -1) (rf := E 31 2) (hv := E 31 2) (al := fs_alW E wo) hB n1 n2 n (by omega)
  have b := fs_gain_sum (tr := -1) (rf := E 31 2) (hv := E 31 2) (al := fs_alW E wo) hB n1 n2 (n + 1) (by omega)
  have e1 : fs_gain E (fs_run E (-1) (E 31 2) (fs_alW E wo) (fs_nR E R)).2 (E 31 2) (n + 1) = fs_gain E (fs_run E (-1) (E 31 2) (fs_alW E wo) (fs_nR E R)).2 (E 31 2) n + fs_gnOf E (fs_run E (-1) (E 31 2) (fs_alW E wo) (fs_nR E R)).2 (E 31 2) n := rfl
  have e2 : ∀ f : Int → Int, fs_sum (fs_wbd E (E 31 2)) f (n + 1) = fs_sum (fs_wbd E (E 31 2)) f n + (if f n = 1 then fs_wbd E (E 31 2) n else 0) := fun f => rfl
  have e3 : fs_gbi E (fs_alW E wo) (n + 1) = fs_gbi E (fs_alW E wo) n + (if fs_alW E wo n = 0 then 0 else E 4 n) := rfl
  have ie : ∀ d, 0 ≤ d → d < 3 → fs_itm E (-1) (E 31 2) (fs_alW E wo) d (fs_nR E R d) n = fs_itm E (-1) (E 31 2) (fs_alN E) d (R d) n := fun d d0 d3 => by
    rw [fs_nR_is hG d0 d3, fs_itm_al (fs_good_opn hG d0 d3)]
  rw [e1, e2, e2, e2, e3, ie 0 (by decide) (by decide), ie 1 (by decide) (by decide), ie 2 (by decide) (by decide), a] at b
  omega
section MOBEST
variable {g : fs_G}
def fs_FMb (o k : Int) : Prop := fs_FLB o k ∨ (o = 226 ∧ k = 0)
theorem fs_outb {M : fs_M} : fs_out fs_FMb M (fs_st M 226 0 0) := fs_out.rf.st (Or.inr ⟨rfl, rfl⟩)
theorem om_best {E M : fs_M} {K : fs_K} {a : Int} (hB : fs_bE E) (hT : fs_rt E) (hp : fs_rp E 31 0) (hE : fs_envM E M) (hK : ∀ M', fs_out fs_FMb M M' → K (some (fs_i (fs_vBest E a))) M') : fs_C2 g m_Mo_best 23 [fs_r 226, fs_i a] M K := by
  unfold fs_vBest at hK
  have e1 : M 228 1 = E 1 9 := by rw [hE 228 1 (Or.inl (by unfold fs_eC; omega)), hT.2.1]
  refine E_Mo_best ⟨fun z => ?_, fun z => ⟨fun z2 => ?_, fun z2 => ?_⟩⟩
  · have h := hK _ fs_outb
    rw [if_pos (by omega)] at h
    exact h
  · refine sp_layBest hB hT hp (fs_envM0 hE) (by omega) (by omega) (fun M1 o1 c1 v1 _ _ _ => ⟨rfl, ?_⟩)
    have h := hK M1 (fs_outb.tr (o1.wk (fun _ _ q => Or.inl q)))
    rw [if_neg (by omega)] at h
    rw [v1, fs_lbV_1 hB]
    exact h
  · have h := hK _ fs_outb
    rw [if_pos (by omega)] at h
    exact h
theorem om_chosen {E M : fs_M} {K : fs_K} {a b c : Int} (hB : fs_bE E) (hT : fs_rt E) (hp : fs_rp E 31 0) (hE : fs_envM E M) (hK : ∀ M', fs_out fs_FMb M M' → K (some (fs_i (fs_vChosen E a b c))) M') : fs_C2 g m_Mo_chosen 23 [fs_r 226, fs_i a, fs_i b, fs_i c] M K := by
  have h3 := hB.2.2.2.1
  unfold fs_vChosen at hK
  have e1 : M 228 1 = E 1 9 := by rw [hE 228 1 (Or.inl (by unfold fs_eC; omega)), hT.2.1]
  have e2 : fs_st M 226 0 0 228 1 = E 1 9 := by rw [fs_st_o (by decide)]; exact e1
  have no : (a < 0 ∨ E 1 9 < a ∨ b < 0 ∨ a ≤ b ∨ c < 0) → K (some (fs_i (-1))) (fs_st M 226 0 0) := fun q => by
    have h := hK _ fs_outb
    rw [if_pos q] at h
    exact h
  refine E_Mo_chosen ⟨fun z => no (by omega), fun z => ⟨fun z2 => no (by omega), fun z2 => E_Mo_isDark ⟨fun z3 => ⟨0, rfl, fun _ => no (by omega), fun w => absurd rfl w⟩, fun z3 => ⟨fun z4 => ⟨0, rfl, fun _ => no (by omega), fun w => absurd rfl w⟩, fun z4 => ⟨1, rfl, fun w => absurd w (by decide), fun _ => ⟨fun z5 => no (by omega), fun z5 => ⟨fun z6 => ?_, fun z6 => no (by omega)⟩⟩⟩⟩⟩⟩⟩
  refine sp_layBest hB hT hp (fs_envM0 hE) (by omega) (by omega) (fun M1 o1 c1 v1 h1 _ _ => ⟨rfl, by omega, by omega, ?_⟩)
  have h := hK M1 (fs_outb.tr (o1.wk (fun _ _ q => Or.inl q)))
  rw [if_neg (by omega)] at h
  obtain ⟨a1, a2, a3⟩ := h1 b (by omega) (by omega)
  rw [fs_lbA_1 hB (by omega) (by omega), if_pos (by omega)] at a1 a2 a3
  have rb : ∀ x, x ∈ fs_chR E a b → 0 ≤ x ∧ x < 6 := fun x hx => by
    have gd := fs_lbA_good hB (wo := -1) (n := a) (by omega) (by omega)
    have := (gd.1.1 b (by omega) (by omega)).2 x (by rw [fs_lbA_1 hB (by omega) (by omega), if_pos (by omega)]; exact hx)
    have h6 := hB.2.1
    omega
  have nb := fs_nth_b (fs_chR E a b) c.toNat rb
  rw [a1]
  refine ⟨fun z => ?_, fun z => ?_⟩
  · rw [if_pos (nb.2.2.2 (by omega))] at h
    exact h
  · rw [if_neg (fun q => by have := nb.2.2.1 q; omega)] at h
    have en : fs_nth (fs_chR E a b) c.toNat = M1 263 (9 * b + c) := by
      rw [← a3, fs_nth_lst _ _ _ (by omega), show ((c.toNat : Nat) : Int) = c by omega]
    rw [en] at h
    rw [show fs_w32 (9 * b) = 9 * b from fs_w32_of (by omega) (by omega), show fs_w32 (9 * b + c) = 9 * b + c from fs_w32_of (by omega) (by omega)]
    exact ⟨by omega, by omega, h⟩
end MOBEST
