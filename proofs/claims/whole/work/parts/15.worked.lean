-- ===== the class's Laws: a law worked out; walk, stay, may, cat =====
theorem fs_rng32 {M : fs_M} (h : fs_rng M) {o k : Int} (hL : fs_isL o k = false) : fs_in32 (M o k) := by
  have := h o k
  rw [hL] at this
  simpa using this
def fs_F1 (o k : Int) : Prop := o = 14 ∨ (o = 9 ∧ k = 6)
/-- the law of kind k stands as it must: a..b its signs -/
def fs_lawC (M : fs_M) (k : Int) : Prop := 0 ≤ M 12 k ∧ M 12 k ≤ M 13 k ∧ M 13 k ≤ 64 ∧ (∀ i, M 12 k ≤ i → i < M 13 k → fs_ct (M 10 i) ∧ fs_lim (M 11 i)) ∧ (M 12 k < M 13 k → fs_wf (fs_csC M) (fs_cvC M) (M 13 k - M 12 k).toNat (M 12 k) 0)
def fs_resC (M : fs_M) (k : Int) : Option Int := fs_res (fs_csC M) (fs_cvC M) (fs_nmC M) (M 12 k) (M 13 k)
theorem fs_srt_val {t : Int} (h : fs_ct t) : (fs_srt t = 2 ↔ 1018 ≤ t) ∧ (fs_srt t = 2 → ∀ n, fs_val t n = fs_sgn t) ∧ (1018 ≤ t → (fs_sgn t = 260 ↔ t = 1020)) := by
  obtain ⟨a, b⟩ := h
  rcases (by omega : t = 1010 ∨ t = 1011 ∨ t = 1012 ∨ t = 1013 ∨ t = 1014 ∨ t = 1015 ∨ t = 1016 ∨ t = 1017 ∨ t = 1018 ∨ t = 1019 ∨ t = 1020 ∨ t = 1021 ∨ t = 1022 ∨ t = 1023 ∨ t = 1024 ∨ t = 1025 ∨ t = 1026 ∨ t = 1027 ∨ t = 1028 ∨ t = 1029 ∨ t = 1030) with rfl | rfl | rfl | rfl | rfl | rfl | rfl | rfl | rfl | rfl | rfl | rfl | rfl | rfl | rfl | rfl | rfl | rfl | rfl | rfl | rfl <;> simp [fs_srt, fs_val, fs_sgn]
theorem fs_val_lim {t n : Int} (h : fs_ct t) (hn : fs_lim n) : fs_lim (fs_val t n) := by
  obtain ⟨a, b⟩ := h
  rcases (by omega : t = 1010 ∨ t = 1011 ∨ t = 1012 ∨ t = 1013 ∨ t = 1014 ∨ t = 1015 ∨ t = 1016 ∨ t = 1017 ∨ t = 1018 ∨ t = 1019 ∨ t = 1020 ∨ t = 1021 ∨ t = 1022 ∨ t = 1023 ∨ t = 1024 ∨ t = 1025 ∨ t = 1026 ∨ t = 1027 ∨ t = 1028 ∨ t = 1029 ∨ t = 1030) with rfl | rfl | rfl | rfl | rfl | rfl | rfl | rfl | rfl | rfl | rfl | rfl | rfl | rfl | rfl | rfl | rfl | rfl | rfl | rfl | rfl
  all_goals first | exact hn | (refine ⟨?_, ?_⟩ <;> simp [fs_val, fs_sgn])
section WORKED
variable {g : fs_G}
theorem lp_worked {M0 : fs_M} {K : fs_K} {k a b : Int} (hk0 : 0 ≤ k) (hk1 : k < 4) (ha : 0 ≤ a) (hb : M0 13 k = b) (hb64 : b ≤ 64) (hnm : ∀ j, fs_lim (fs_nmC M0 j)) (hct : ∀ i, a ≤ i → i < b → fs_ct (M0 10 i) ∧ fs_lim (M0 11 i)) :
    ∀ (n : Nat) (i h : Int) (s : Int → Int) (M : fs_M), b - i = n → a ≤ i → fs_out fs_F1 M0 M → (∀ j, 0 ≤ j → j < h → M 14 j = s j ∧ fs_lim (s j)) → 0 ≤ h → h ≤ i - a → fs_wf (fs_csC M0) (fs_cvC M0) n i h →
      (∀ M' r, fs_out fs_F1 M0 M' → (fs_ev (fs_csC M0) (fs_cvC M0) (fs_nmC M0) n i s h = none ∧ r = 0 ∨ ∃ q, fs_ev (fs_csC M0) (fs_cvC M0) (fs_nmC M0) n i s h = some q ∧ r = 1 ∧ M' 9 6 = q.1 0) → K (some (fs_i r)) M') →
      fs_A2 g m_Laws_isWorkedOut 3 9 [(0, fs_r 9), (1, fs_i k), (2, fs_i h), (3, fs_i i)] [] M K := by
  intro n
  induction n with
  | zero =>
    intro i h s M hn hai hout hs h0 hh hw hK
    have e13 : M 13 k = b := by rw [hout 13 k (by unfold fs_F1; omega)]; exact hb
    unfold fs_wf at hw
    subst hw
    refine L_Laws_isWorkedOut_9 io_9 ⟨hk0, hk1, fun q => ⟨fun q2 => absurd rfl q2, fun _ => ?_⟩, fun q => ?_⟩
    · refine hK _ _ (hout.st (Or.inr ⟨rfl, rfl⟩)) (Or.inr ⟨_, rfl, rfl, ?_⟩)
      rw [fs_st_s]
      exact (hs 0 (by omega) (by omega)).1
    · have q' : ¬ M 13 k ≤ i := q
      omega
  | succ n ih =>
    intro i h s M hn hai hout hs h0 hh hw hK
    have e13 : M 13 k = b := by rw [hout 13 k (by unfold fs_F1; omega)]; exact hb
    have e10 : M 10 i = M0 10 i := hout 10 i (by unfold fs_F1; omega)
    have e11 : M 11 i = M0 11 i := hout 11 i (by unfold fs_F1; omega)
    obtain ⟨ct, lim⟩ := hct i hai (by omega)
    have enm : fs_nmC M = fs_nmC M0 := by
      funext j
      unfold fs_nmC
      rw [hout 9 7 (by unfold fs_F1; omega), hout 9 10 (by unfold fs_F1; omega), hout 9 9 (by unfold fs_F1; omega), hout 9 8 (by unfold fs_F1; omega), hout 9 11 (by unfold fs_F1; omega), hout 9 12 (by unfold fs_F1; omega), hout 9 13 (by unfold fs_F1; omega)]
    obtain ⟨sv1, sv2, sv3⟩ := fs_srt_val ct
    refine L_Laws_isWorkedOut_9 io_9 ⟨hk0, hk1, fun q => ?_, fun _ => ⟨by omega, by omega, ?_, ?_⟩⟩
    · have q' : M 13 k ≤ i := q
      omega
    · show fs_tk (M 10 i)
      rw [e10]; exact fs_ct_tk ct
    show (¬ fs_lev (M 10 i) = 6 → fs_A2 g m_Laws_isWorkedOut 3 68 [(0, fs_r 9), (1, fs_i k), (2, fs_i h), (3, fs_i i), (4, fs_r (M 10 i))] [] M K) ∧ (fs_lev (M 10 i) = 6 → (64 ≤ h → fs_A2 g m_Laws_isWorkedOut 3 68 [(0, fs_r 9), (1, fs_i k), (2, fs_i h), (3, fs_i i), (4, fs_r (M 10 i))] [] M K) ∧ (¬ 64 ≤ h → fs_C2 g m_Laws_valueOf 2 [fs_r 9, fs_r (M 10 i), fs_i (M 11 i)] M (fun v M1 => ∃ r1, v = some (fs_i r1) ∧ 0 ≤ h ∧ fs_A2 g m_Laws_isWorkedOut 3 9 [(0, fs_r 9), (1, fs_i k), (2, fs_i (fs_w32 (h + 1))), (3, fs_i (fs_w32 (i + 1)))] [] (fs_st M1 14 h r1) K)))
    rw [e10, e11, fs_lev_val ct]
    have hcs : fs_csC M0 i = fs_srt (M0 10 i) := rfl
    have hcv : fs_cvC M0 i = fs_val (M0 10 i) (M0 11 i) := rfl
    unfold fs_wf at hw
    unfold fs_ev at hK
    rw [hcs, hcv] at hw
    rw [hcs, hcv] at hK
    refine ⟨fun q => ?_, fun q => ⟨fun q2 => by omega, fun _ => ?_⟩⟩
    · -- a sign
      have hs2 : fs_srt (M0 10 i) = 2 := sv1.mpr (by omega)
      rw [if_pos hs2, sv2 hs2] at hw
      rw [if_pos hs2, sv2 hs2] at hK
      refine L_Laws_isWorkedOut_68 io_9 (fs_ct_tk ct) ⟨fun q2 => ?_, fun q2 => ⟨fun q3 => ?_, fun q3 => ?_⟩⟩
      · -- of two
        have hne : ¬ fs_sgn (M0 10 i) = 260 := fun z => q2 ((sv3 (by omega)).mp z)
        rw [if_neg hne] at hw
        rw [if_neg hne] at hK
        obtain ⟨hw1, hw2⟩ := hw
        have ew1 : fs_w32 (h - 1) = h - 1 := fs_w32_of (by omega) (by omega)
        have ew2 : fs_w32 (h - 2) = h - 2 := fs_w32_of (by omega) (by omega)
        have ew3 : fs_w32 (h + (-1)) = h - 1 := by rw [fs_w32_of (by omega) (by omega)]; omega
        have ew4 : fs_w32 (h - 1 - 1) = h - 2 := by rw [fs_w32_of (by omega) (by omega)]; omega
        have ew5 : fs_w32 (i + 1) = i + 1 := fs_w32_of (by omega) (by omega)
        refine L_Laws_isWorkedOut_109 io_9 (fs_ct_tk ct) ⟨fun z => by omega, fun _ => ?_⟩
        rw [ew1, ew2, ew3, ew4, ew5]
        refine ⟨by omega, by omega, by omega, by omega, ?_⟩
        have m1 := hs (h - 1) (by omega) (by omega)
        have m2 := hs (h - 2) (by omega) (by omega)
        show fs_C2 g m_Laws_isJoined 2 [fs_r 9, fs_r (M0 10 i), fs_l (M 14 (h - 2)), fs_l (M 14 (h - 1))] M _
        rw [m1.1, m2.1]
        refine sp_isJoined ct (by omega) q2 m2.2 m1.2 (fun r M' hr => ⟨r, rfl, ?_⟩)
        rcases hr with ⟨rfl, v, hv, rfl⟩ | ⟨rfl, hv, hM⟩
        · rw [hv] at hK
          refine ⟨fun z => absurd z (by decide), fun _ => ⟨by omega, by omega, ?_⟩⟩
          refine ih (i + 1) (h - 1) (fun j => if j = h - 2 then v else s j) _ (by omega) (by omega) ((hout.st (Or.inr ⟨rfl, rfl⟩)).st (Or.inl rfl)) (fun j a1 a2 => ?_) (by omega) (by omega) hw2 hK
          show fs_st (fs_st M 9 6 v) 14 (h - 2) (fs_st M 9 6 v 9 6) 14 j = _ ∧ _
          rw [fs_st_s]
          by_cases c : j = h - 2
          · subst c
            rw [fs_st_s, if_pos rfl]
            exact ⟨rfl, fs_op_lim hv⟩
          · rw [fs_st_k c, fs_st_o (by decide), if_neg c]
            exact hs j a1 (by omega)
        · rw [hv] at hK
          refine ⟨fun _ => ?_, fun z => absurd rfl z⟩
          refine hK _ _ ?_ (Or.inl ⟨rfl, rfl⟩)
          rcases hM with rfl | ⟨v, rfl⟩
          · exact hout
          · exact hout.st (Or.inr ⟨rfl, rfl⟩)
      · have he : fs_sgn (M0 10 i) = 260 := (sv3 (by omega)).mpr q2
        rw [if_pos he] at hw
        omega
      · -- not
        have he : fs_sgn (M0 10 i) = 260 := (sv3 (by omega)).mpr q2
        rw [if_pos he] at hw
        rw [if_pos he] at hK
        have ew1 : fs_w32 (h - 1) = h - 1 := fs_w32_of (by omega) (by omega)
        have ew5 : fs_w32 (i + 1) = i + 1 := fs_w32_of (by omega) (by omega)
        rw [ew1, ew5]
        have m1 := hs (h - 1) (by omega) (by omega)
        refine ⟨by omega, by omega, ?_⟩
        show (¬ fs_lcmp (M 14 (h - 1)) 0 = 0 → fs_A2 g m_Laws_isWorkedOut 3 9 [(0, fs_r 9), (1, fs_i k), (2, fs_i h), (3, fs_i (i + 1))] [] (fs_st M 14 (h - 1) 0) K) ∧ (fs_lcmp (M 14 (h - 1)) 0 = 0 → fs_A2 g m_Laws_isWorkedOut 3 9 [(0, fs_r 9), (1, fs_i k), (2, fs_i h), (3, fs_i (i + 1))] [] (fs_st M 14 (h - 1) 1) K)
        rw [fs_lcmp_z, m1.1]
        have go : ∀ x : Int, x = (if s (h - 1) = 0 then 1 else 0) → fs_A2 g m_Laws_isWorkedOut 3 9 [(0, fs_r 9), (1, fs_i k), (2, fs_i h), (3, fs_i (i + 1))] [] (fs_st M 14 (h - 1) x) K := by
          intro x hx
          refine ih (i + 1) h (fun j => if j = h - 1 then (if s (h - 1) = 0 then 1 else 0) else s j) _ (by omega) (by omega) (hout.st (Or.inl rfl)) (fun j a1 a2 => ?_) (by omega) (by omega) hw.2 hK
          by_cases c : j = h - 1
          · subst c
            rw [fs_st_s, if_pos rfl, hx]
            refine ⟨rfl, ?_⟩
            unfold fs_lim
            split <;> omega
          · rw [fs_st_k c, if_neg c]
            exact hs j a1 (by omega)
        exact ⟨fun z => go 0 (by rw [if_neg z]), fun z => go 1 (by rw [if_pos z])⟩
    · -- a number, a name
      have hs2 : ¬ fs_srt (M0 10 i) = 2 := fun z => by have := sv1.mp z; omega
      rw [if_neg hs2] at hw
      rw [if_neg hs2] at hK
      have ew1 : fs_w32 (h + 1) = h + 1 := fs_w32_of (by omega) (by omega)
      have ew5 : fs_w32 (i + 1) = i + 1 := fs_w32_of (by omega) (by omega)
      refine sp_valueOf ct q ⟨_, rfl, h0, ?_⟩
      rw [ew1, ew5, enm]
      refine ih (i + 1) (h + 1) (fun j => if j = h then (if fs_srt (M0 10 i) = 0 then fs_val (M0 10 i) (M0 11 i) else fs_nmC M0 (fs_val (M0 10 i) (M0 11 i))) else s j) _ (by omega) (by omega) (hout.st (Or.inl rfl)) (fun j a1 a2 => ?_) (by omega) (by omega) hw hK
      by_cases c : j = h
      · subst c
        rw [fs_st_s, if_pos rfl]
        refine ⟨rfl, ?_⟩
        split
        · exact fs_val_lim ct lim
        · exact hnm _
      · rw [fs_st_k c, if_neg c]
        exact hs j a1 (by omega)
/-- a law worked out -/
theorem sp_isWorkedOut {M : fs_M} {K : fs_K} {k : Int} (hk0 : 0 ≤ k) (hk1 : k < 4) (hL : fs_lawC M k)
    (hK : ∀ M' r, fs_out fs_F1 M M' → (fs_resC M k = none ∧ r = 0 ∨ ∃ v, fs_resC M k = some v ∧ r = 1 ∧ M' 9 6 = v) → K (some (fs_i r)) M') : fs_C2 g m_Laws_isWorkedOut 3 [fs_r 9, fs_i k] M K := by
  refine b_cinv (fun hI _ => ?_)
  have hnm : ∀ j, fs_lim (fs_nmC M j) := by
    intro j
    have key : ∀ q, q ≠ 6 → fs_lim (M 9 q) := by
      intro q hq
      have h := fs_rng32 (o := 9) (k := q) hI.1 (by
        show (decide ((3 : Nat) = 3 ∧ q = 6)) = false
        simp [hq])
      unfold fs_in32 at h
      unfold fs_lim
      omega
    unfold fs_nmC
    repeat' split
    all_goals exact key _ (by decide)
  refine E_Laws_isWorkedOut io_9 ⟨hk0, hk1, ?_⟩
  show fs_A2 g m_Laws_isWorkedOut 3 9 [(0, fs_r 9), (1, fs_i k), (2, fs_i 0), (3, fs_i (M 12 k))] [] M K
  obtain ⟨h1, h2, h3, h4, h5⟩ := hL
  by_cases c : M 12 k < M 13 k
  · refine lp_worked hk0 hk1 h1 rfl h3 hnm h4 (M 13 k - M 12 k).toNat (M 12 k) 0 (fun _ => 0) M (by omega) (by omega) fs_out.rf (fun j a b => by omega) (by omega) (by omega) (h5 c) (fun M' r ho hr => hK M' r ho ?_)
    unfold fs_resC fs_res
    rw [if_pos c]
    rcases hr with ⟨e, r0⟩ | ⟨q, e, r1, v⟩
    · rw [e]; exact Or.inl ⟨rfl, r0⟩
    · rw [e]; exact Or.inr ⟨_, rfl, r1, v⟩
  · have hn : fs_resC M k = none := by unfold fs_resC fs_res; exact if_neg c
    refine L_Laws_isWorkedOut_9 io_9 ⟨hk0, hk1, fun q => ⟨fun _ => hK _ _ (fs_out.rf.st (Or.inr ⟨rfl, rfl⟩)) (Or.inl ⟨hn, rfl⟩), fun q2 => absurd q2 (by decide)⟩, fun q => ?_⟩
    have q' : ¬ M 13 k ≤ M 12 k := q
    omega
end WORKED
