-- ===== the model's layExchange; exchange =====
/-- the rows of the run as the model's rows 0 of E -/
def fs_rws (E M : fs_M) : Prop := ∀ d, 0 ≤ d → d < 3 → M 252 d = E 242 d ∧ ∀ k, 0 ≤ k → k < 9 → M 251 (9 * d + k) = E 241 (9 * d + k)
def fs_pln (E M : fs_M) : Prop := M 226 42 = -1 ∧ M 226 43 = -1 ∧ M 226 44 = -1 ∧ M 226 47 = E 31 2 ∧ fs_rws E M
def fs_FY (o k : Int) : Prop := fs_F9 o k ∨ (o = 226 ∧ 59 ≤ k ∧ k ≤ 61)
theorem fs_FY_M {E M M' : fs_M} (h : fs_envM E M) (ho : fs_out fs_FY M M') : fs_envM E M' := fun o k q => by
  rw [ho o k (by unfold fs_FY fs_F9 fs_F6 fs_F8 fs_F4; unfold fs_eC fs_mlc at q; omega)]
  exact h o k q
theorem fs_F9_FY {o k : Int} (h : fs_F9 o k) : fs_FY o k := Or.inl h
theorem fs_pln.walk {E M M' : fs_M} (h : fs_pln E M) (ho : fs_out fs_F6 M M') : fs_pln E M' := by
  obtain ⟨a, b, c, d, e⟩ := h
  refine ⟨by rw [ho 226 42 (by unfold fs_F6 fs_F4; omega)]; exact a, by rw [ho 226 43 (by unfold fs_F6 fs_F4; omega)]; exact b, by rw [ho 226 44 (by unfold fs_F6 fs_F4; omega)]; exact c, by rw [ho 226 47 (by unfold fs_F6 fs_F4; omega)]; exact d, fun x x0 x1 => ?_⟩
  obtain ⟨p, q⟩ := e x x0 x1
  rw [ho 252 x (by unfold fs_F6 fs_F4; omega)]
  refine ⟨p, fun k k0 k1 => ?_⟩
  rw [ho 251 _ (by unfold fs_F6 fs_F4; omega)]
  exact q k k0 k1
section MOEXCH
variable {g : fs_G}
theorem sp_asIsM {E M : fs_M} {K : fs_K} (hp : fs_rp E 31 0) (hE : fs_envM E M) (hK : ∀ M', fs_out fs_F8 M M' → fs_pln E M' → K none M') : fs_C2 g m_Mo_asIs 2 [fs_r 226] M K :=
  sp_asIs (fun M1 o1 h42 h43 h44 h47 hr => hK M1 o1 ⟨h42, h43, h44, by rw [h47, hE 243 0 (Or.inr (by unfold fs_mlc; omega)), hp.1], fun d d0 d1 => by
    obtain ⟨x1, x2⟩ := hr d d0 d1
    rw [x1, hE 242 d (Or.inr (by unfold fs_mlc; omega))]
    refine ⟨rfl, fun k k0 k1 => ?_⟩
    rw [x2 k k0 k1, hE 241 _ (Or.inr (by unfold fs_mlc; omega))]⟩)
theorem sp_walksM {E M : fs_M} {K : fs_K} {m : Int} (hB : fs_bE E) (hT : fs_rt E) (hp : fs_rp E 31 0) (hE : fs_env E M) (h244 : M 244 0 = E 244 0) (hP : fs_pln E M) (hm : m ≤ 240)
    (hK : ∀ M', fs_out fs_F6 M M' → fs_rI E (fs_Xm E m) → fs_mR E M' (-1) (-1) (-1) (fs_Xm E m) → K none M') : fs_C2 g m_Mo_walks 8 [fs_r 226, fs_i m] M K := by
  obtain ⟨h42, h43, h44, h47, hr⟩ := hP
  obtain ⟨w1, w2⟩ := fs_rows_now hp hr hB.2.2.2.1
  refine sp_walks hB hT hE w1 h42 h43 h44 h47 hm (fun M2 o2 i2 r2 => ?_)
  rw [w2, h244, ← hp.2.1, fs_now_mal] at i2 r2
  exact hK M2 o2 i2 r2
theorem sp_gainsM {E M : fs_M} {K : fs_K} (hB : fs_bE E) (hT : fs_rt E) (hR : fs_mR E M (-1) (-1) (-1) (fs_Xm E 240)) (h47 : M 226 47 = E 31 2) (hK : K (some (fs_i (fs_vGain E))) M) : fs_C2 g m_Mo_gains 2 [fs_r 226] M K :=
  sp_gains (S := (fs_Xm E 240).2) (hv := E 31 2) (tr := -1) hB hT hR.1 hR.2.2.2.2.2.1 hR.2.1.1 (fun h h0 h1 => by rw [h47]; exact ⟨fun q => ⟨by decide, q⟩, fun q => q.2⟩) hK
theorem fs_inrow {E : fs_M} {i : Int} (hp : fs_rp E 31 0) (hz : fs_rz E 31 0) (i0 : 0 ≤ i) (i1 : i < 27) : E 242 (i / 9) ≤ i % 9 ↔ fs_ct2 E 31 i = -1 := by
  have e : E 36 (i / 9) = E 242 (i / 9) := by
    by_cases c : i / 9 < E 1 9
    · have := (hp.2.2 (i / 9) (by omega) c).1
      rw [show 3 * (0 : Int) + i / 9 = i / 9 by omega] at this
      exact this
    · obtain ⟨a, b⟩ := hz (i / 9) (by omega) (by omega) (by omega)
      rw [show 3 * (0 : Int) + i / 9 = i / 9 by omega] at b
      have a2 : E 36 (i / 9) = 0 := a
      rw [a2, b]
  constructor
  · intro h
    unfold fs_ct2
    have h2 : E (31 + 5) (i / 9) ≤ i % 9 := by
      show E 36 (i / 9) ≤ i % 9
      rw [e]
      exact h
    rw [if_pos h2]
  · intro h
    by_cases c : E 36 (i / 9) ≤ i % 9
    · rw [← e]
      exact c
    · exfalso
      have c9 : i / 9 < E 1 9 := by
        by_cases a : i / 9 < E 1 9
        · exact a
        · have t : E 36 (i / 9) = 0 := (hz (i / 9) (by omega) (by omega) (by omega)).1
          omega
      obtain ⟨a1, a2, a3, a4⟩ := hp.2.2 (i / 9) (by omega) c9
      have y := (a4 (i % 9) (by omega) (show i % 9 < E 36 (i / 9) by omega)).2.1
      have h2 : fs_ct2 E 31 i = E (31 + 2 + i / 9) (i % 9) := by
        unfold fs_ct2
        rw [if_neg (show ¬ E (31 + 5) (i / 9) ≤ i % 9 from c)]
      omega
theorem sp_layExchange {E M : fs_M} {K : fs_K} (hB : fs_bE E) (hT : fs_rt E) (hp : fs_rp E 31 0) (hz : fs_rz E 31 0) (hE : fs_envM E M)
    (h0 : (fs_xb E).2.1 = -1 → ∀ M', fs_out fs_FY M M' → K (some (fs_i 0)) M')
    (h1 : (fs_xb E).2.1 ≠ -1 → ∀ M', fs_out fs_FY M M' → M' 226 61 = (fs_xb E).1 → M' 226 59 = (fs_xb E).2.1 → M' 226 60 = (fs_xb E).2.2 → K (some (fs_i 1)) M') : fs_C2 g m_Mo_layExchange 10 [fs_r 226] M K := by
  have h3 := hB.2.2.2.1
  refine E_Mo_layExchange (E_Mo_gainAsIs (sp_asIsM hp hE (fun M1 o1 q1 => ⟨rfl, ?_⟩)))
  have o1' : fs_out fs_FY M M1 := o1.wk (fun _ _ q => Or.inl (Or.inr q))
  have E1 := fs_FY_M hE o1'
  refine sp_walksM hB hT hp E1.env (E1 244 0 (Or.inr (by unfold fs_mlc; omega))) q1 (by decide) (fun M2 o2 i2 r2 => ⟨rfl, ?_⟩)
  have q2 := q1.walk o2
  refine sp_gainsM hB hT r2 q2.2.2.2.1 ⟨_, rfl, _, rfl, ?_⟩
  have o2' : fs_out fs_FY M M2 := o1'.tr (o2.wk (fun _ _ q => Or.inl (Or.inl q)))
  have outer : ∀ (n : Nat) (i : Int) (B : Int × Int × Int) (M2 : fs_M), 0 ≤ i → i ≤ 27 → 27 - i = n → fs_out fs_FY M M2 → fs_pln E M2 → M2 226 61 = B.1 → M2 226 59 = B.2.1 → (B.2.1 ≠ -1 → M2 226 60 = B.2.2) → fs_xi E n i B = fs_xb E → fs_A2 g m_Mo_layExchange 10 15 [(0, fs_r 226), (1, fs_i i)] [] M2 K := by
    intro n
    induction n with
    | zero =>
      intro i B M2 i0 i1 hn o2 q2 a b c hx
      have hx2 : B = fs_xb E := hx
      rw [hx2] at a b c
      refine L_Mo_layExchange_15 ⟨fun _ => ⟨fun z => h0 (by rw [← b]; exact z) M2 o2, fun z => ?_⟩, fun z => absurd z (by omega)⟩
      rw [b] at z
      exact h1 z M2 o2 a b (c z)
    | succ n ih =>
      intro i B M2 i0 i1 hn o2 q2 a b c hx
      refine L_Mo_layExchange_15 ⟨fun z => absurd z (by omega), fun _ => ?_⟩
      rw [fs_w32_of (by omega) (by omega)]
      have inner : ∀ (n2 : Nat) (j : Int) (B2 : Int × Int × Int) (M3 : fs_M), 0 ≤ j → j ≤ 27 → 27 - j = n2 → fs_out fs_FY M M3 → fs_pln E M3 → M3 226 61 = B2.1 → M3 226 59 = B2.2.1 → (B2.2.1 ≠ -1 → M3 226 60 = B2.2.2) → fs_xj E i n2 j B2 = fs_xj E i (26 - i).toNat (i + 1) B → fs_A2 g m_Mo_layExchange 10 25 [(0, fs_r 226), (1, fs_i i), (2, fs_i j)] [] M3 K := by
        intro n2
        induction n2 with
        | zero =>
          intro j B2 M3 j0 j1 hn2 o3 q3 a b c hj
          refine L_Mo_layExchange_25 ⟨fun _ => ?_, fun z => absurd z (by omega)⟩
          rw [fs_w32_of (by omega) (by omega)]
          have hB2 : B2 = fs_xj E i (26 - i).toNat (i + 1) B := hj
          refine ih (i + 1) B2 M3 (by omega) (by omega) (by omega) o3 q3 a b c ?_
          rw [hB2]
          exact hx
        | succ n2 ih2 =>
          intro j B2 M3 j0 j1 hn2 o3 q3 a b c hj
          have E3 := fs_FY_M hE o3
          have hj2 : fs_xj E i n2 (j + 1) (fs_xf E i j B2) = fs_xj E i (26 - i).toNat (i + 1) B := hj
          have wj : fs_w32 (j + 1) = j + 1 := fs_w32_of (by omega) (by omega)
          have wi : fs_w32 (i + 1) = i + 1 := fs_w32_of (by omega) (by omega)
          obtain ⟨di, ri⟩ := fs_div9 i0 (show i < 27 by omega)
          obtain ⟨dj, rj⟩ := fs_div9 j0 (show j < 27 by omega)
          refine L_Mo_layExchange_25 ⟨fun z => absurd z (by omega), fun _ => ?_⟩
          rw [wj, wi]
          refine E_Mo_isInRow ?_
          rw [di, ri, E3 242 _ (Or.inr (by unfold fs_mlc; omega))]
          refine ⟨by omega, by omega, fun z => ⟨0, rfl, fun _ => ?_, fun w => absurd rfl w⟩, fun z => ⟨1, rfl, fun w => absurd w (by decide), fun _ => E_Mo_isInRow ?_⟩⟩
          · have ci := (fs_inrow hp hz i0 (by omega)).1 z
            rw [fs_xj_0 ci, fs_xj_0 ci] at hj
            refine ih (i + 1) B2 M3 (by omega) (by omega) (by omega) o3 q3 a b c ?_
            have hx' : fs_xi E n (i + 1) (fs_xj E i (26 - i).toNat (i + 1) B) = fs_xb E := hx
            rw [fs_xj_0 ci] at hx'
            rw [hj]
            exact hx'
          · have ci : fs_ct2 E 31 i ≠ -1 := fun q => z ((fs_inrow hp hz i0 (by omega)).2 q)
            rw [dj, rj, E3 242 _ (Or.inr (by unfold fs_mlc; omega))]
            refine ⟨by omega, by omega, fun z2 => ⟨0, rfl, fun _ => ?_, fun w => absurd rfl w⟩, fun z2 => ⟨1, rfl, fun w => absurd w (by decide), fun _ => ⟨i0, by omega, j0, ?_⟩⟩⟩
            · have cj := (fs_inrow hp hz j0 (by omega)).1 z2
              rw [fs_xf_n (Or.inr (Or.inl cj))] at hj2
              exact ih2 (j + 1) B2 M3 (by omega) (by omega) (by omega) o3 q3 a b c hj2
            · have cj : fs_ct2 E 31 j ≠ -1 := fun q => z2 ((fs_inrow hp hz j0 (by omega)).2 q)
              obtain ⟨a1, a2, a3, a4, a5, a6⟩ := fs_in_row hp hz i0 (by omega) ci
              obtain ⟨b1, b2, b3, b4, b5, b6⟩ := fs_in_row hp hz j0 (by omega) cj
              have row : ∀ x, 0 ≤ x → x < 27 → M3 251 x = E 241 x := fun x x0 x1 => by
                have := (q3.2.2.2.2 (x / 9) (by omega) (by omega)).2 (x % 9) (by omega) (by omega)
                rw [show 9 * (x / 9) + x % 9 = x by omega] at this
                exact this
              refine ⟨fun ne => E_Mo_exchanges ⟨i0, by omega, j0, by omega, rfl, ?_⟩, fun eq => ?_⟩
              · rw [row i i0 (by omega), row j j0 (by omega)] at ne ⊢
                have u' : ¬ fs_xu E i j := by
                  unfold fs_xu
                  rw [a3, b3, a4, b4]
                  rw [a3, a4] at ci
                  rw [b3, b4] at cj
                  omega
                rw [fs_xf_y u'] at hj2
                obtain ⟨hp', hz'⟩ := fs_rp_sw2 h3 hp hz i0 (by omega) j0 (by omega) ci cj
                have env' : fs_env E (fs_sw2 E i j) := fs_sw2_env i0 (by omega) j0 (by omega)
                have hB' := env'.bE hB
                have hT' := env'.rt hT
                have m4o : ∀ o k, o ≠ 251 → fs_st (fs_st M3 251 i (E 241 j)) 251 j (E 241 i) o k = M3 o k := fun o k q => by rw [fs_st_o q, fs_st_o q]
                have m4r : ∀ k, fs_st (fs_st M3 251 i (E 241 j)) 251 j (E 241 i) 251 k = if k = j then E 241 i else if k = i then E 241 j else M3 251 k := fun k => by
                  unfold fs_st
                  simp
                have s2r : ∀ k, fs_sw2 E i j 241 k = if k = j then E 241 i else if k = i then E 241 j else E 241 k := fun k => by
                  unfold fs_sw2
                  rw [if_pos rfl]
                have env4 : fs_env (fs_sw2 E i j) (fs_st (fs_st M3 251 i (E 241 j)) 251 j (E 241 i)) := fun o k q => by
                  rw [m4o o k (by unfold fs_eC at q; omega), E3 o k (Or.inl q)]
                  exact (env' o k q).symm
                have so : ∀ o k, o < 33 ∨ 35 < o → o ≠ 241 → fs_sw2 E i j o k = E o k := fun o k q1 q2 => fs_sw2_o i0 (by omega) j0 (by omega) q1 q2
                have q4 : fs_pln (fs_sw2 E i j) (fs_st (fs_st M3 251 i (E 241 j)) 251 j (E 241 i)) := by
                  obtain ⟨x1, x2, x3, x4, x5⟩ := q3
                  refine ⟨by rw [m4o _ _ (by decide)]; exact x1, by rw [m4o _ _ (by decide)]; exact x2, by rw [m4o _ _ (by decide)]; exact x3, by rw [m4o _ _ (by decide), so 31 2 (by decide) (by decide)]; exact x4, fun d d0 d1 => ?_⟩
                  rw [m4o _ _ (by decide), so 242 d (by decide) (by decide)]
                  refine ⟨(x5 d d0 d1).1, fun k k0 k1 => ?_⟩
                  rw [m4r, s2r, row _ (by omega) (by omega)]
                refine sp_walksM hB' hT' hp' env4 (by rw [m4o _ _ (by decide), so 244 0 (by decide) (by decide)]; exact E3 244 0 (Or.inr (by unfold fs_mlc; omega))) q4 (by decide) (fun M5 o5 i5 r5 => ⟨rfl, ?_⟩)
                have q5 := q4.walk o5
                refine sp_gainsM hB' hT' r5 q5.2.2.2.1 ⟨_, rfl, E_Mo_exchanges ⟨i0, by omega, j0, by omega, rfl, ?_⟩⟩
                have m5r : ∀ k, M5 251 k = if k = j then E 241 i else if k = i then E 241 j else M3 251 k := fun k => by
                  rw [o5 251 k (by unfold fs_F6 fs_F4; omega)]
                  exact m4r k
                have m6o : ∀ o k, o ≠ 251 → fs_st (fs_st M5 251 i (M5 251 j)) 251 j (M5 251 i) o k = M5 o k := fun o k q => by rw [fs_st_o q, fs_st_o q]
                have m6r : ∀ k, fs_st (fs_st M5 251 i (M5 251 j)) 251 j (M5 251 i) 251 k = M3 251 k := fun k => by
                  have e1 : fs_st (fs_st M5 251 i (M5 251 j)) 251 j (M5 251 i) 251 k = if k = j then M5 251 i else if k = i then M5 251 j else M5 251 k := by
                    unfold fs_st
                    simp
                  have ri := row i i0 (by omega)
                  have rj := row j j0 (by omega)
                  rw [e1, m5r i, m5r j, m5r k]
                  by_cases cj : k = j
                  · rw [if_pos cj, cj, rj]
                    by_cases cij : i = j
                    · rw [if_pos cij, cij]
                    · rw [if_neg cij, if_pos rfl]
                  · rw [if_neg cj]
                    by_cases cki : k = i
                    · rw [if_pos cki, if_pos rfl, cki, ri]
                    · rw [if_neg cki, if_neg cj, if_neg cki]
                have o6 : fs_out fs_FY M (fs_st (fs_st M5 251 i (M5 251 j)) 251 j (M5 251 i)) := fun o k nF => by
                  by_cases c : o = 251
                  · rw [c, m6r]
                    rw [c] at nF
                    exact o3 251 k nF
                  · rw [m6o o k c, o5 o k (fun z => nF (Or.inl (Or.inl z))), m4o o k c]
                    exact o3 o k nF
                have q6 : fs_pln E (fs_st (fs_st M5 251 i (M5 251 j)) 251 j (M5 251 i)) := by
                  obtain ⟨x1, x2, x3, x4, x5⟩ := q3
                  obtain ⟨y1, y2, y3, y4, y5⟩ := q5
                  refine ⟨by rw [m6o _ _ (by decide)]; exact y1, by rw [m6o _ _ (by decide)]; exact y2, by rw [m6o _ _ (by decide)]; exact y3, by rw [m6o _ _ (by decide), y4]; exact so 31 2 (by decide) (by decide), fun d d0 d1 => ?_⟩
                  rw [m6o _ _ (by decide), (y5 d d0 d1).1, so 242 d (by decide) (by decide)]
                  refine ⟨rfl, fun k k0 k1 => ?_⟩
                  rw [m6r]
                  exact (x5 d d0 d1).2 k k0 k1
                have f6 : ∀ k, 59 ≤ k → k ≤ 61 → fs_st (fs_st M5 251 i (M5 251 j)) 251 j (M5 251 i) 226 k = M3 226 k := fun k k0 k1 => by
                  rw [m6o _ _ (by decide), o5 226 k (by unfold fs_F6 fs_F4; omega), m4o _ _ (by decide)]
                refine ⟨fun gt => ?_, fun le => ?_⟩
                · rw [f6 61 (by decide) (by decide), a] at gt
                  rw [if_neg (by omega)] at hj2
                  refine ih2 (j + 1) _ _ (by omega) (by omega) (by omega) (((o6.st ?_).st ?_).st ?_) ?_ ?_ ?_ (fun _ => ?_) hj2
                  · exact Or.inr ⟨rfl, by decide, by decide⟩
                  · exact Or.inr ⟨rfl, by decide, by decide⟩
                  · exact Or.inr ⟨rfl, by decide, by decide⟩
                  · obtain ⟨y1, y2, y3, y4, y5⟩ := q6
                    refine ⟨by rw [fs_st_k (by decide), fs_st_k (by decide), fs_st_k (by decide)]; exact y1, by rw [fs_st_k (by decide), fs_st_k (by decide), fs_st_k (by decide)]; exact y2, by rw [fs_st_k (by decide), fs_st_k (by decide), fs_st_k (by decide)]; exact y3, by rw [fs_st_k (by decide), fs_st_k (by decide), fs_st_k (by decide)]; exact y4, fun d d0 d1 => ?_⟩
                    rw [fs_st_o (by decide), fs_st_o (by decide), fs_st_o (by decide)]
                    refine ⟨(y5 d d0 d1).1, fun k k0 k1 => ?_⟩
                    rw [fs_st_o (by decide), fs_st_o (by decide), fs_st_o (by decide)]
                    exact (y5 d d0 d1).2 k k0 k1
                  · rw [fs_st_k (by decide), fs_st_k (by decide), fs_st_s]
                  · rw [fs_st_k (by decide), fs_st_s]
                  · rw [fs_st_s]
                · rw [f6 61 (by decide) (by decide), a] at le
                  rw [if_pos (by omega)] at hj2
                  exact ih2 (j + 1) B2 _ (by omega) (by omega) (by omega) o6 q6 (by rw [f6 61 (by decide) (by decide), a]) (by rw [f6 59 (by decide) (by decide), b]) (fun q => by rw [f6 60 (by decide) (by decide), c q]) hj2
              · rw [row i i0 (by omega), row j j0 (by omega)] at eq
                have u : fs_xu E i j := Or.inr (Or.inr (by rw [a3, b3, a4, b4]; exact eq))
                rw [fs_xf_n u] at hj2
                exact ih2 (j + 1) B2 M3 (by omega) (by omega) (by omega) o3 q3 a b c hj2
      exact inner (26 - i).toNat (i + 1) B M2 (by omega) (by omega) (by omega) o2 q2 a b c rfl
  refine outer 27 0 (fs_vGain E, -1, -1) _ (by decide) (by decide) (by decide) ((o2'.st ?_).st ?_) ?_ ?_ ?_ (fun q => absurd rfl q) rfl
  · exact Or.inr ⟨rfl, by decide, by decide⟩
  · exact Or.inr ⟨rfl, by decide, by decide⟩
  · obtain ⟨y1, y2, y3, y4, y5⟩ := q2
    refine ⟨by rw [fs_st_k (by decide), fs_st_k (by decide)]; exact y1, by rw [fs_st_k (by decide), fs_st_k (by decide)]; exact y2, by rw [fs_st_k (by decide), fs_st_k (by decide)]; exact y3, by rw [fs_st_k (by decide), fs_st_k (by decide)]; exact y4, fun d d0 d1 => ?_⟩
    rw [fs_st_o (by decide), fs_st_o (by decide)]
    refine ⟨(y5 d d0 d1).1, fun k k0 k1 => ?_⟩
    rw [fs_st_o (by decide), fs_st_o (by decide)]
    exact (y5 d d0 d1).2 k k0 k1
  · rw [fs_st_k (by decide), fs_st_s]
  · rw [fs_st_s]
end MOEXCH
