-- ===== bits of a set; runs of any plan, their gain; refusal =====
theorem fs_shn : ∀ n : Nat, n < 32 → ((Int32.ofInt (n : Int) &&& 31).toBitVec.smod 32).toNat = n := by decide +kernel
theorem fs_bit_b {x : Int} {n : Nat} (hn : n < 32) : fs_bit x n = if (Int32.ofInt x).toBitVec.getLsbD n = true then 1 else 0 := by
  unfold fs_bit fs_and
  rw [← fs_e_ishr]
  have e : ((Int32.ofInt x >>> (Int32.ofInt (n : Int) &&& 31)) &&& Int32.ofInt 1).toBitVec = BitVec.setWidth 32 (BitVec.ofBool ((Int32.ofInt x).toBitVec.getLsbD n)) := by
    show (Int32.ofInt x >>> (Int32.ofInt (n : Int) &&& 31)).toBitVec &&& 1#32 = _
    rw [BitVec.and_one_eq_setWidth_ofBool_getLsbD, Int32.toBitVec_shiftRight]
    show BitVec.setWidth 32 (BitVec.ofBool (((Int32.ofInt x).toBitVec.sshiftRight ((Int32.ofInt (n : Int) &&& 31).toBitVec.smod 32).toNat).getLsbD 0)) = _
    rw [fs_shn n hn, BitVec.getLsbD_sshiftRight]
    simp [hn]
  show ((Int32.ofInt x >>> (Int32.ofInt (n : Int) &&& 31)) &&& Int32.ofInt 1).toBitVec.toInt = _
  rw [e]
  cases (Int32.ofInt x).toBitVec.getLsbD n <;> rfl
theorem fs_cmask : ∀ n : Nat, n < 6 → ∀ m : Nat, m < 6 → (Int32.ofInt (fs_xor (fs_shl 1 (n : Int)) (-1))).toBitVec.getLsbD m = !decide (m = n) := by decide +kernel
theorem fs_bit_clear {x i h : Int} (i0 : 0 ≤ i) (i1 : i < 6) (h0 : 0 ≤ h) (h1 : h < 6) : fs_bit (fs_and x (fs_xor (fs_shl 1 i) (-1))) h = if h = i then 0 else fs_bit x h := by
  obtain ⟨n, rfl⟩ := Int.eq_ofNat_of_zero_le i0
  obtain ⟨m, rfl⟩ := Int.eq_ofNat_of_zero_le h0
  rw [fs_bit_b (by omega), fs_bit_b (by omega), ← fs_e_iand, Int32.toBitVec_and, BitVec.getLsbD_and, fs_cmask n (by omega) m (by omega)]
  by_cases c : m = n
  · rw [if_pos (show (m : Int) = n by omega), c]
    simp
  · rw [if_neg (show ¬ (m : Int) = n by omega), decide_eq_false c]
    simp
theorem fs_shl_p2 : ∀ n : Nat, n ≤ 6 → fs_shl 1 (n : Int) = fs_p2 n := by decide +kernel
def fs_mbits (x : Int) : Int := fs_w32 (fs_w32 (fs_w32 (fs_w32 (fs_w32 (fs_w32 (0 + fs_and (fs_shr x 0) 1) + fs_and (fs_shr x 1) 1) + fs_and (fs_shr x 2) 1) + fs_and (fs_shr x 3) 1) + fs_and (fs_shr x 4) 1) + fs_and (fs_shr x 5) 1)
theorem fs_mbits_pop : ∀ n : Nat, n < 64 → fs_mbits (n : Int) = fs_pop (n : Int) := by decide +kernel
theorem fs_run_7 {E : fs_M} {tr rf : Int} {al : Int → Int} {R : Int → List Int} (hB : fs_bE E) (hR : fs_bR E R) : ∀ i, -2 ≤ (fs_run E tr rf al R).2 7 i :=
  fs_go_ind (fun X => ∀ i, -2 ≤ X.2 7 i) hB (by decide) (fun X _ h _ => fs_step_7 (by decide) h) 27 _ (fs_bR.start hB hR) (fun i => fs_S0_7 (E := E) (tr := tr) (R := R) i)
/-- the gain of a run -/
def fs_rG (E : fs_M) (tr rf hv : Int) (al : Int → Int) (R : Int → List Int) : Int := fs_gain E (fs_run E tr rf al R).2 hv (E 1 5).toNat
theorem fs_rG_b {E : fs_M} {tr rf hv : Int} {al : Int → Int} {R : Int → List Int} (hB : fs_bE E) : 0 ≤ fs_rG E tr rf hv al R ∧ fs_rG E tr rf hv al R ≤ 594 := by
  have h5 := hB.1
  have h6 := hB.2.1
  have h := fs_gain_b (S := (fs_run E tr rf al R).2) (hv := hv) hB (E 1 5).toNat (by omega)
  unfold fs_rG
  omega
theorem fs_pl37 : fs_pl 37 := ⟨io_37, Or.inl (Or.inr rfl)⟩
/-- plan 37 is plan 31 of E, the glasses aside -/
def fs_c37 (E M : fs_M) : Prop := M 37 3 = E 31 3 ∧ ∀ d, 0 ≤ d → d < 3 → M 42 d = E 36 d ∧ ∀ k, 0 ≤ k → k < 9 → M (39 + d) k = E (33 + d) k
theorem fs_c37.rows {E M : fs_M} (h : fs_c37 E M) (hD : E 1 9 ≤ 3) (hp : fs_rp E 31 0) : fs_bP E M 37 ∧ fs_rows E M 37 = fs_rows E E 31 := by
  refine ⟨fun d d0 d1 => ?_, ?_⟩
  · obtain ⟨a1, a2, a3, a4⟩ := hp.2.2 d d0 d1
    obtain ⟨b1, b2⟩ := h.2 d d0 (by omega)
    have a2' : 0 ≤ E 36 d := a2
    have a3' : E 36 d ≤ 9 := a3
    have e : M (37 + 5) d = E 36 d := b1
    rw [e]
    refine ⟨a2', a3', fun k k0 k1 => ?_⟩
    have e2 : M (37 + 2 + d) k = E (33 + d) k := b2 k k0 (by omega)
    rw [e2]
    exact (a4 k k0 k1).2
  · funext d
    unfold fs_rows
    by_cases c : 0 ≤ d ∧ d < E 1 9
    · obtain ⟨a1, a2, a3, a4⟩ := hp.2.2 d c.1 c.2
      obtain ⟨b1, b2⟩ := h.2 d c.1 (by omega)
      have a3' : E 36 d ≤ 9 := a3
      have e : M (37 + 5) d = E (31 + 5) d := b1
      rw [if_pos c, if_pos c, e]
      have b9 : ((E (31 + 5) d).toNat : Int) ≤ 9 := by
        show ((E 36 d).toNat : Int) ≤ 9
        omega
      exact fs_lst_cong (fun k k0 k1 => b2 k k0 (by omega))
    · rw [if_neg c, if_neg c]
theorem fs_c37.of {E M M1 : fs_M} (hE : ∀ o k, 31 ≤ o → o ≤ 36 → M o k = E o k) (hc : fs_pcp M1 37 M 31) : fs_c37 E M1 := by
  obtain ⟨c1, c2, c3⟩ := hc
  refine ⟨by rw [c2, hE 31 3 (by decide) (by decide)], fun d d0 d1 => ?_⟩
  obtain ⟨y1, y2⟩ := c3 d d0 d1
  refine ⟨(show M1 42 d = M 36 d from y1).trans (hE 36 d (by decide) (by decide)), fun k k0 k1 => ?_⟩
  have e : M1 (39 + d) k = M (33 + d) k := y2 k k0 k1
  rw [e]
  exact hE _ _ (by omega) (by omega)
def fs_rfG (E : fs_M) (s : Int) : Int := fs_rG E (-1) s s (fs_alone E (-1) (E 31 3)) (fs_rows E E 31)
def fs_rfs (E : fs_M) : Nat → Int × Int
  | 0 => (-1, 0)
  | n + 1 => if (fs_rfs E n).1 < fs_rfG E n then (fs_rfG E n, (n : Int)) else if fs_rfG E n = (fs_rfs E n).1 then (if fs_pop (fs_rfs E n).2 ≤ fs_pop n then fs_rfs E n else (fs_rfG E n, (n : Int))) else fs_rfs E n
def fs_vRefusal (E : fs_M) (a : Int) : Int := if a < 0 ∨ 1 < a then -1 else if a = 0 then (fs_rfs E (fs_p2 (E 1 5)).toNat).1 else (fs_rfs E (fs_p2 (E 1 5)).toNat).2
theorem fs_rfs_b {E : fs_M} (hB : fs_bE E) : ∀ (n : Nat), n ≤ 64 → -1 ≤ (fs_rfs E n).1 ∧ (fs_rfs E n).1 ≤ 594 ∧ 0 ≤ (fs_rfs E n).2 ∧ (fs_rfs E n).2 < 64 ∧ (1 ≤ n → 0 ≤ (fs_rfs E n).1)
  | 0, _ => ⟨by show (-1 : Int) ≤ -1; decide, by show (-1 : Int) ≤ 594; decide, by show (0 : Int) ≤ 0; decide, by show (0 : Int) < 64; decide, fun z => absurd z (by decide)⟩
  | n + 1, hn => by
    obtain ⟨a1, a2, a3, a4, a5⟩ := fs_rfs_b hB n (by omega)
    have gb : 0 ≤ fs_rfG E n ∧ fs_rfG E n ≤ 594 := fs_rG_b hB
    unfold fs_rfs
    split
    · exact ⟨by show -1 ≤ fs_rfG E n; omega, gb.2, by show (0 : Int) ≤ n; omega, by show (n : Int) < 64; omega, fun _ => gb.1⟩
    · split
      · split
        · exact ⟨a1, a2, a3, a4, fun _ => by omega⟩
        · exact ⟨by show -1 ≤ fs_rfG E n; omega, gb.2, by show (0 : Int) ≤ n; omega, by show (n : Int) < 64; omega, fun _ => gb.1⟩
      · exact ⟨a1, a2, a3, a4, fun _ => by omega⟩
theorem fs_wsucc {i : Nat} (h : i < 100000) : fs_w32 ((i : Int) + 1) = ((i + 1 : Nat) : Int) := by
  rw [fs_w32_of (by omega) (by omega)]
  omega
theorem fs_wlenA {α : Type} {a : List α} {r : α} (h : a.length < 100000) : fs_w32 ((a.length : Int) + 1) = ((a ++ [r]).length : Int) := by
  rw [fs_w32_of (by omega) (by omega), List.length_append, List.length_singleton]
  omega
section RUNS
variable {g : fs_G}
theorem sp_bitsOf {M : fs_M} {K : fs_K} {x : Int} (h0 : 0 ≤ x) (h1 : x < 64) (h : K (some (fs_i (fs_pop x))) M) : fs_C2 g m_Mo_bitsOf 1 [fs_i x] M K := by
  have e : fs_mbits x = fs_pop x := by
    have := fs_mbits_pop x.toNat (by omega)
    rw [show ((x.toNat : Nat) : Int) = x by omega] at this
    exact this
  rw [← e] at h
  unfold fs_mbits at h
  refine E_Mo_bitsOf (L_Mo_bitsOf_4 ⟨fun z => absurd z (by decide), fun _ => ?_⟩)
  rw [show fs_w32 ((0 : Int) + 1) = 1 by decide]
  refine L_Mo_bitsOf_4 ⟨fun z => absurd z (by decide), fun _ => ?_⟩
  rw [show fs_w32 ((1 : Int) + 1) = 2 by decide]
  refine L_Mo_bitsOf_4 ⟨fun z => absurd z (by decide), fun _ => ?_⟩
  rw [show fs_w32 ((2 : Int) + 1) = 3 by decide]
  refine L_Mo_bitsOf_4 ⟨fun z => absurd z (by decide), fun _ => ?_⟩
  rw [show fs_w32 ((3 : Int) + 1) = 4 by decide]
  refine L_Mo_bitsOf_4 ⟨fun z => absurd z (by decide), fun _ => ?_⟩
  rw [show fs_w32 ((4 : Int) + 1) = 5 by decide]
  refine L_Mo_bitsOf_4 ⟨fun z => absurd z (by decide), fun _ => ?_⟩
  rw [show fs_w32 ((5 : Int) + 1) = 6 by decide]
  exact L_Mo_bitsOf_4 ⟨fun _ => h, fun z => absurd (by decide) z⟩
/-- the class: a plan's run and its gain -/
theorem sp_cgain {E M : fs_M} {K : fs_K} {pl tr hv : Int} (hB : fs_bE E) (hP : fs_pl pl) (hE : fs_env E M) (hL : fs_bP E M pl) (hK : ∀ M', fs_out fs_F5 M M' → fs_C2 g m_Course_gained 3 [fs_r 43, fs_i hv] M' (fun v M2 => v = some (fs_i (fs_rG E tr (M pl 2) hv (fs_alone E tr (M pl 3)) (fs_rows E M pl))) ∧ M2 = M') → K none M') : fs_C2 g m_Course_run 7 [fs_r 43, fs_r pl, fs_i tr] M K :=
  sp_run hB hP hE hL (fun M' o r => hK M' o (sp_gained (S := (fs_run E tr (M pl 2) (fs_alone E tr (M pl 3)) (fs_rows E M pl)).2) hB r.1 r.2.2.2.2.1 (fun h _ _ => by have := fs_run_7 (tr := tr) (rf := M pl 2) (al := fs_alone E tr (M pl 3)) hB hL.rows h; omega) ⟨rfl, rfl⟩))
/-- the model's walks with other glasses refused -/
theorem sp_walksG {E M : fs_M} {K : fs_K} {rf : Int} (hB : fs_bE E) (hT : fs_rt E) (hp : fs_rp E 31 0) (hE : fs_env E M) (h244 : M 244 0 = E 244 0) (h42 : M 226 42 = -1) (h43 : M 226 43 = -1) (h44 : M 226 44 = -1) (h47 : M 226 47 = rf) (hr : fs_rws E M)
    (hK : ∀ M', fs_out fs_F6 M M' → fs_mR E M' (-1) (-1) (-1) (fs_run E (-1) rf (fs_alone E (-1) (E 31 3)) (fs_rows E E 31)) → K none M') : fs_C2 g m_Mo_walks 8 [fs_r 226, fs_i 240] M K := by
  obtain ⟨w1, w2⟩ := fs_rows_now hp hr hB.2.2.2.1
  refine sp_walks hB hT hE w1 h42 h43 h44 h47 (by decide) (fun M2 o2 i2 r2 => ?_)
  rw [w2, h244, ← hp.2.1, fs_now_mal] at r2
  exact hK M2 o2 r2
def fs_FR (o k : Int) : Prop := fs_F5 o k ∨ fs_plc 37 o k
theorem oc_refusal {M : fs_M} {K : fs_K} {a : Int} (hB : fs_bE M) (hp : fs_rp M 31 0) (hK : ∀ M', fs_out fs_FR M M' → K (some (fs_i (fs_vRefusal M a))) M') : fs_C2 g m_Fs_refusal 8 [fs_r 0, fs_i a] M K := by
  have h5 := hB.1
  have h6 := hB.2.1
  have p64 := fs_p2_64 h6
  have es : fs_shl 1 (M 1 5) = fs_p2 (M 1 5) := by
    have := fs_shl_p2 (M 1 5).toNat (by omega)
    rw [show (((M 1 5).toNat : Nat) : Int) = M 1 5 by omega] at this
    exact this
  unfold fs_vRefusal at hK
  refine E_Fs_refusal ⟨fun z => ?_, fun z => ⟨fun z2 => ?_, fun z2 => ?_⟩⟩
  · have h := hK M fs_out.rf
    rw [if_pos (by omega)] at h
    exact h
  · refine sp_copyFrom (p := 37) (q := 31) io_37 io_31 (by decide) (fun M1 o1 y1 => ⟨rfl, ?_⟩)
    have c1 : fs_c37 M M1 := fs_c37.of (fun _ _ _ _ => rfl) y1
    have loop : ∀ (n : Nat) (i : Nat) (M2 : fs_M), (fs_p2 (M 1 5)).toNat - i = n → i ≤ (fs_p2 (M 1 5)).toNat → fs_out fs_FR M M2 → fs_c37 M M2 → fs_A2 g m_Fs_refusal 8 29 [(0, fs_r 0), (1, fs_i a), (2, fs_i (fs_rfs M i).1), (3, fs_i (fs_rfs M i).2), (4, fs_i (i : Int))] [] M2 K := by
      intro n
      induction n with
      | zero =>
        intro i M2 hn hi o2 c2
        have ei : i = (fs_p2 (M 1 5)).toNat := by omega
        have h := hK M2 o2
        rw [if_neg (by omega)] at h
        refine L_Fs_refusal_29 ⟨fun _ => ⟨fun q => ?_, fun q => ?_⟩, fun q => ?_⟩
        · rw [if_neg q] at h
          rw [ei]
          exact h
        · rw [if_pos q] at h
          rw [ei]
          exact h
        · rw [o2 1 5 (by unfold fs_FR fs_F5 fs_F2 fs_plc; omega), es] at q
          omega
      | succ n ih =>
        intro i M2 hn hi o2 c2
        obtain ⟨b1, b2, b3, b4, b5⟩ := fs_rfs_b hB i (by omega)
        refine L_Fs_refusal_29 ⟨fun q => ?_, fun _ => ?_⟩
        · rw [o2 1 5 (by unfold fs_FR fs_F5 fs_F2 fs_plc; omega), es] at q
          omega
        · have wi : fs_w32 ((i : Int) + 1) = ((i + 1 : Nat) : Int) := by
            rw [fs_w32_of (by omega) (by omega)]
            omega
          rw [wi]
          clear wi
          have c3 : fs_c37 M (fs_st M2 37 2 (i : Int)) := by
            refine ⟨by rw [fs_st_k (by decide)]; exact c2.1, fun d d0 d1 => ?_⟩
            rw [fs_st_o (by decide)]
            refine ⟨(c2.2 d d0 d1).1, fun k k0 k1 => ?_⟩
            rw [fs_st_o (by omega)]
            exact (c2.2 d d0 d1).2 k k0 k1
          obtain ⟨r1, r2⟩ := c3.rows hB.2.2.2.1 hp
          have o3 : fs_out fs_FR M (fs_st M2 37 2 (i : Int)) := o2.st (Or.inr (Or.inl ⟨rfl, Or.inl rfl⟩))
          have env3 : fs_env M (fs_st M2 37 2 (i : Int)) := fun o k q => o3 o k (by unfold fs_FR fs_F5 fs_F2 fs_plc; unfold fs_eC at q; omega)
          refine sp_cgain hB fs_pl37 env3 r1 (fun M4 o4 r4 => ⟨rfl, fs_Call.mono (fun v M5 hv => ?_) r4⟩)
          rw [r2, fs_st_s, c3.1] at hv
          obtain ⟨hv1, hv2⟩ := hv
          rw [hv2]
          have hg : fs_rG M (-1) (i : Int) (i : Int) (fs_alone M (-1) (M 31 3)) (fs_rows M M 31) = fs_rfG M i := rfl
          rw [hg] at hv1
          clear hg
          have o5 : fs_out fs_FR M M4 := o3.tr (o4.wk (fun _ _ q => Or.inl q))
          have c5 : fs_c37 M M4 := by
            refine ⟨by rw [o4 37 3 (by unfold fs_F5 fs_F2; omega)]; exact c3.1, fun d d0 d1 => ?_⟩
            rw [o4 42 d (by unfold fs_F5 fs_F2; omega)]
            refine ⟨(c3.2 d d0 d1).1, fun k k0 k1 => ?_⟩
            rw [o4 (39 + d) k (by unfold fs_F5 fs_F2; omega)]
            exact (c3.2 d d0 d1).2 k k0 k1
          have nx := ih (i + 1) M4 (by omega) (by omega) o5 c5
          refine ⟨_, hv1, fun lt => ?_, fun ge => ⟨fun ne => ?_, fun eq => ?_⟩⟩
          · have e : fs_rfs M (i + 1) = (fs_rfG M i, (i : Int)) := by
              show (if (fs_rfs M i).1 < fs_rfG M i then (fs_rfG M i, (i : Int)) else _) = _
              rw [if_pos lt]
            rw [e] at nx
            exact nx
          · have e : fs_rfs M (i + 1) = fs_rfs M i := by
              show (if (fs_rfs M i).1 < fs_rfG M i then _ else if fs_rfG M i = (fs_rfs M i).1 then _ else fs_rfs M i) = _
              rw [if_neg ge, if_neg ne]
            rw [e] at nx
            exact nx
          · refine sp_bitCount (by omega) (by omega) ⟨_, rfl, sp_bitCount b3 b4 ⟨_, rfl, fun le => ?_, fun gt => ?_⟩⟩
            · have e : fs_rfs M (i + 1) = fs_rfs M i := by
                show (if (fs_rfs M i).1 < fs_rfG M i then _ else if fs_rfG M i = (fs_rfs M i).1 then (if fs_pop (fs_rfs M i).2 ≤ fs_pop i then fs_rfs M i else _) else fs_rfs M i) = _
                rw [if_neg ge, if_pos eq, if_pos le]
              rw [e] at nx
              exact nx
            · have e : fs_rfs M (i + 1) = (fs_rfG M i, (i : Int)) := by
                show (if (fs_rfs M i).1 < fs_rfG M i then _ else if fs_rfG M i = (fs_rfs M i).1 then (if fs_pop (fs_rfs M i).2 ≤ fs_pop i then fs_rfs M i else (fs_rfG M i, (i : Int))) else fs_rfs M i) = _
                rw [if_neg ge, if_pos eq, if_neg gt]
              rw [e] at nx
              exact nx
    exact loop _ 0 M1 rfl (Nat.zero_le _) (o1.wk (fun _ _ q => Or.inr q)) c1
  · have h := hK M fs_out.rf
    rw [if_pos (by omega)] at h
    exact h
theorem om_refusal {E M : fs_M} {K : fs_K} {a : Int} (hB : fs_bE E) (hT : fs_rt E) (hp : fs_rp E 31 0) (hE : fs_envM E M) (hK : ∀ M', fs_out fs_FM M M' → K (some (fs_i (fs_vRefusal E a))) M') : fs_C2 g m_Mo_refusal 9 [fs_r 226, fs_i a] M K := by
  have h5 := hB.1
  have h6 := hB.2.1
  have p64 := fs_p2_64 h6
  have es : fs_shl 1 (E 1 5) = fs_p2 (E 1 5) := by
    have := fs_shl_p2 (E 1 5).toNat (by omega)
    rw [show (((E 1 5).toNat : Nat) : Int) = E 1 5 by omega] at this
    exact this
  unfold fs_vRefusal at hK
  refine E_Mo_refusal ⟨fun z => ?_, fun z => ⟨fun z2 => ?_, fun z2 => ?_⟩⟩
  · have h := hK _ fs_out0
    rw [if_pos (by omega)] at h
    exact h
  · refine sp_asIsM hp (fs_envM0 hE) (fun M1 o1 q1 => ⟨rfl, ?_⟩)
    have o1' : fs_out fs_FM M M1 := fs_out0.tr (o1.wk (fun _ _ q => Or.inl (Or.inr q)))
    have loop : ∀ (n : Nat) (i : Nat) (M2 : fs_M) (x2 x3 : Int), (fs_p2 (E 1 5)).toNat - i = n → i ≤ (fs_p2 (E 1 5)).toNat → fs_out fs_FM M M2 → (M2 226 42 = -1 ∧ M2 226 43 = -1 ∧ M2 226 44 = -1 ∧ fs_rws E M2) → (i = 0 → x2 = -1) → (1 ≤ i → x2 = (fs_rfs E i).2 ∧ x3 = (fs_rfs E i).1) → fs_A2 g m_Mo_refusal 9 27 [(0, fs_r 226), (1, fs_i a), (2, fs_i x2), (3, fs_i x3), (4, fs_i (i : Int))] [] M2 K := by
      intro n
      induction n with
      | zero =>
        intro i M2 x2 x3 hn hi o2 q2 hx0 hx1
        have ei : i = (fs_p2 (E 1 5)).toNat := by omega
        have p1 : 1 ≤ fs_p2 (E 1 5) := fs_p2_mono (a := 0) (by omega)
        obtain ⟨y2, y3⟩ := hx1 (by omega)
        have h := hK M2 o2
        rw [if_neg (by omega)] at h
        have env2 : M2 228 0 = E 1 5 := by
          rw [o2 228 0 (by unfold fs_FM fs_F9 fs_F6 fs_F8 fs_F4; omega), hE 228 0 (Or.inl (by unfold fs_eC; omega)), hT.1]
        refine L_Mo_refusal_27 ⟨fun _ => ⟨fun q => ?_, fun q => ?_⟩, fun q => ?_⟩
        · rw [if_neg q] at h
          rw [y2, ei]
          exact h
        · rw [if_pos q] at h
          rw [y3, ei]
          exact h
        · rw [env2, es] at q
          omega
      | succ n ih =>
        intro i M2 x2 x3 hn hi o2 q2 hx0 hx1
        obtain ⟨b1, b2, b3, b4, b5⟩ := fs_rfs_b hB i (by omega)
        have o2c : ∀ o k, fs_eC o ∨ fs_mlc 0 o k → M2 o k = E o k := fun o k q => by
          rw [o2 o k (by unfold fs_FM fs_F9 fs_F6 fs_F8 fs_F4; unfold fs_eC fs_mlc at q; omega)]
          exact hE o k q
        have env2 : M2 228 0 = E 1 5 := by rw [o2c 228 0 (Or.inl (by unfold fs_eC; omega)), hT.1]
        refine L_Mo_refusal_27 ⟨fun q => ?_, fun _ => ?_⟩
        · rw [env2, es] at q
          omega
        · have wi : fs_w32 ((i : Int) + 1) = ((i + 1 : Nat) : Int) := by
            rw [fs_w32_of (by omega) (by omega)]
            omega
          rw [wi]
          clear wi
          obtain ⟨h42, h43, h44, hr⟩ := q2
          have o3 : fs_out fs_FM M (fs_st M2 226 47 (i : Int)) := o2.st (Or.inl (Or.inr (by unfold fs_F8; omega)))
          have env3 : fs_env E (fs_st M2 226 47 (i : Int)) := fun o k q => by
            rw [fs_st_o (by unfold fs_eC at q; omega)]
            exact o2c o k (Or.inl q)
          refine sp_walksG hB hT hp env3 (by rw [fs_st_o (by decide)]; exact o2c 244 0 (Or.inr (by unfold fs_mlc; omega))) (by rw [fs_st_k (by decide)]; exact h42) (by rw [fs_st_k (by decide)]; exact h43) (by rw [fs_st_k (by decide)]; exact h44) fs_st_s (fun d d0 d1 => by
            rw [fs_st_o (by decide)]
            refine ⟨(hr d d0 d1).1, fun k k0 k1 => ?_⟩
            rw [fs_st_o (by decide)]
            exact (hr d d0 d1).2 k k0 k1) (fun M4 o4 r4 => ⟨rfl, ?_⟩)
          have h47 : M4 226 47 = (i : Int) := by rw [o4 226 47 (by unfold fs_F6 fs_F4; omega), fs_st_s]
          have q4 : M4 226 42 = -1 ∧ M4 226 43 = -1 ∧ M4 226 44 = -1 ∧ fs_rws E M4 := by
            refine ⟨r4.2.1.1, r4.2.1.2.1, r4.2.1.2.2, fun d d0 d1 => ?_⟩
            rw [o4 252 d (by unfold fs_F6 fs_F4; omega), fs_st_o (by decide)]
            refine ⟨(hr d d0 d1).1, fun k k0 k1 => ?_⟩
            rw [o4 251 _ (by unfold fs_F6 fs_F4; omega), fs_st_o (by decide)]
            exact (hr d d0 d1).2 k k0 k1
          have o5 : fs_out fs_FM M M4 := o3.tr (o4.wk (fun _ _ q => Or.inl (Or.inl q)))
          refine sp_gains (hv := (i : Int)) (tr := -1) hB hT r4.1 r4.2.2.2.2.2.1 r4.2.1.1 (fun h h0 h1 => by rw [h47]; exact ⟨fun q => ⟨by decide, q⟩, fun q => q.2⟩) ⟨_, rfl, ?_⟩
          have hg : fs_gain E (fs_run E (-1) (i : Int) (fs_alone E (-1) (E 31 3)) (fs_rows E E 31)).2 (i : Int) (E 1 5).toNat = fs_rfG E i := rfl
          rw [hg]
          clear hg
          have gb : 0 ≤ fs_rfG E i ∧ fs_rfG E i ≤ 594 := fs_rG_b hB
          have take : fs_rfs E (i + 1) = (fs_rfG E i, (i : Int)) → fs_A2 g m_Mo_refusal 9 27 [(0, fs_r 226), (1, fs_i a), (2, fs_i (i : Int)), (3, fs_i (fs_rfG E i)), (4, fs_i ((i + 1 : Nat) : Int))] [] M4 K := fun e => ih (i + 1) M4 _ _ (by omega) (by omega) o5 q4 (fun z => by omega) (fun _ => by rw [e]; exact ⟨rfl, rfl⟩)
          have stay : i ≠ 0 → fs_rfs E (i + 1) = fs_rfs E i → fs_A2 g m_Mo_refusal 9 27 [(0, fs_r 226), (1, fs_i a), (2, fs_i x2), (3, fs_i x3), (4, fs_i ((i + 1 : Nat) : Int))] [] M4 K := fun ne e => ih (i + 1) M4 _ _ (by omega) (by omega) o5 q4 (fun z => by omega) (fun _ => by rw [e]; exact hx1 (by omega))
          by_cases c : i = 0
          · refine ⟨fun _ => take ?_, fun q => absurd (hx0 c) q⟩
            show (if (fs_rfs E i).1 < fs_rfG E i then (fs_rfG E i, (i : Int)) else _) = _
            rw [if_pos]
            rw [c]
            show (-1 : Int) < _
            rw [c] at gb
            omega
          · obtain ⟨y2, y3⟩ := hx1 (by omega)
            have hx3 : x3 = (fs_rfs E i).1 := y3
            have hx2 : x2 = (fs_rfs E i).2 := y2
            refine ⟨fun q => by omega, fun _ => ⟨fun lt => stay c ?_, fun ge => ⟨fun ne => take ?_, fun eq => ?_⟩⟩⟩
            · show (if (fs_rfs E i).1 < fs_rfG E i then _ else if fs_rfG E i = (fs_rfs E i).1 then _ else fs_rfs E i) = _
              rw [if_neg (by omega), if_neg (by omega)]
            · show (if (fs_rfs E i).1 < fs_rfG E i then (fs_rfG E i, (i : Int)) else _) = _
              rw [if_pos (by omega)]
            · refine sp_bitsOf (by omega) (by omega) ⟨_, rfl, sp_bitsOf (by omega) (by omega) ⟨_, rfl, fun l2 => take ?_, fun l2 => stay c ?_⟩⟩
              · show (if (fs_rfs E i).1 < fs_rfG E i then _ else if fs_rfG E i = (fs_rfs E i).1 then (if fs_pop (fs_rfs E i).2 ≤ fs_pop i then fs_rfs E i else (fs_rfG E i, (i : Int))) else fs_rfs E i) = _
                rw [if_neg (by omega), if_pos (by omega), if_neg (by rw [← hx2]; omega)]
              · show (if (fs_rfs E i).1 < fs_rfG E i then _ else if fs_rfG E i = (fs_rfs E i).1 then (if fs_pop (fs_rfs E i).2 ≤ fs_pop i then fs_rfs E i else (fs_rfG E i, (i : Int))) else fs_rfs E i) = _
                rw [if_neg (by omega), if_pos (by omega), if_pos (by rw [← hx2]; omega)]
    obtain ⟨h42, h43, h44, h47, hr⟩ := q1
    exact loop _ 0 M1 (-1) (-1) rfl (Nat.zero_le _) o1' ⟨h42, h43, h44, hr⟩ (fun _ => rfl) (fun z => absurd z (by decide))
  · have h := hK _ fs_out0
    rw [if_pos (by omega)] at h
    exact h
end RUNS
