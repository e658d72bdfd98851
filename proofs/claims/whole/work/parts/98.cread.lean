-- ===== the class reads HOUSES, laws, whole TEXTS =====
theorem fs_kind_key : ∀ j : Fin 37, (fs_sm (fs_ord ((1000 + j.val : Nat) : Int)) = 1 ↔ ((1000 + j.val : Nat) : Int) = 1006) ∧ (fs_sm (fs_ord ((1000 + j.val : Nat) : Int)) = 2 ↔ ((1000 + j.val : Nat) : Int) = 1007) ∧ (fs_sm (fs_ord ((1000 + j.val : Nat) : Int)) = 3 ↔ ((1000 + j.val : Nat) : Int) = 1008) ∧ (fs_sm (fs_ord ((1000 + j.val : Nat) : Int)) = 4 ↔ ((1000 + j.val : Nat) : Int) = 1009) := by decide +kernel
theorem fs_kind {t : Int} (h : fs_tk t) : (fs_sm (fs_ord t) = 1 ↔ t = 1006) ∧ (fs_sm (fs_ord t) = 2 ↔ t = 1007) ∧ (fs_sm (fs_ord t) = 3 ↔ t = 1008) ∧ (fs_sm (fs_ord t) = 4 ↔ t = 1009) := by
  obtain ⟨a, b⟩ := h
  obtain ⟨n, hn⟩ : ∃ n : Nat, t = ((1000 + n : Nat) : Int) := ⟨(t - 1000).toNat, by omega⟩
  rw [hn]
  exact fs_kind_key ⟨n, by omega⟩
section CREAD
variable {g : fs_G} {M A : fs_M} {T : Int → Int} {E : Int}
theorem sp_ownC {K : fs_K} {s : fs_q3} {x : Int} (h : fs_cL M T E (A, s)) (hx : A 15 5 = x) (x0 : 0 ≤ x) (x6 : x < 6) (ok : ∀ M', fs_out fs_FqL M M' → fs_cL M' T E (fs_qOwn T E x A s) → K (some (fs_i 1)) M') : fs_A2 g m_Reader_readHouse 5 134 [(0, fs_r 29), (1, fs_i x)] [] M K := by
  have hs : fs_cS M T E s := h.1
  have f0 : M 29 2 = 0 := hs.2.1
  refine L_Reader_readHouse_134 ⟨fun z => absurd f0 z, fun _ => ?_⟩
  rw [hs.e7]
  refine ⟨hs.tk, fun z => ?_, fun z => ?_⟩
  · have e : fs_qOwn T E x A s = (fs_st A 15 5 (x + 1), s) := if_neg z
    rw [e] at ok
    have e5 : M 15 5 = x := (h.2 15 5 (by unfold fs_scq; omega)).trans hx
    have w : fs_w32 (x + 1) = x + 1 := fs_w32_of (by omega) (by omega)
    refine L_Reader_readHouse_170 ?_
    rw [e5, w]
    exact ⟨fun z => absurd f0 z, fun _ => ok _ (fs_FqL_st fs_out.rf (by omega)) (h.st (by omega))⟩
  · have e : fs_qOwn T E x A s = (fs_st (fs_st A 15 4 (fs_or (A 15 4) (fs_shl 1 x))) 15 5 (x + 1), fs_qA T E s) := if_pos z
    rw [e] at ok
    refine sp_advL h (fun M8 o8 h8 => ⟨rfl, ?_⟩)
    have e4 : M8 15 4 = A 15 4 := h8.2 15 4 (by unfold fs_scq; omega)
    have e5 : M8 15 5 = x := (h8.2 15 5 (by unfold fs_scq; omega)).trans hx
    have f8 : M8 29 2 = 0 := h8.1.2.1
    have w : fs_w32 (x + 1) = x + 1 := fs_w32_of (by omega) (by omega)
    rw [e4]
    refine L_Reader_readHouse_170 ?_
    rw [fs_st_k (show (5 : Int) ≠ 4 by omega), e5, w]
    refine ⟨fun z => absurd (by rw [fs_st_o (by omega)]; exact f8) z, fun _ => ok _ (fs_FqL_st (fs_FqL_st o8 (by omega)) (by omega)) ((h8.st (by omega)).st (by omega))⟩
theorem sp_houseC : fs_cXL g T E m_Reader_readHouse 5 (fs_qHouse T E) := by
  intro M A s K h h0 h0' ok no
  have hs : fs_cS M T E s := h.1
  obtain ⟨x, hx⟩ : ∃ x, A 15 5 = x := ⟨_, rfl⟩
  have e5 : M 15 5 = x := (h.2 15 5 (by unfold fs_scq; omega)).trans hx
  rw [hx] at h0
  refine E_Reader_readHouse ?_
  rw [e5]
  unfold fs_qHouse at ok no
  rw [hx] at ok no
  refine ⟨fun lt => ?_, fun z => sp_stumL hs.1.2.2.1 (fun M' o' e2 e3 => ⟨0, rfl, Or.inl rfl, no M' (2, s.1) (if_neg z) o' e2 e3 fs_n2z⟩)⟩
  rw [if_pos lt] at ok no
  refine sp_advL h (fun M1 o1 h1 => ⟨rfl, sp_nameL ia_16 h1 (Or.inl rfl) h0 lt (by omega) (fun M2 q eq o2 h2 => ⟨1, rfl, fun _ => ?_, fun y => absurd y (by decide)⟩) (fun M2 e eq o2 e2 e3 e4 => ⟨0, rfl, fun y => absurd rfl y, fun _ => ?_⟩)⟩)
  · rw [eq] at ok no
    refine sp_numL h2 (fun M3 r eq3 o3 h3 f3 => ⟨_, rfl, h0, fun _ => ?_, fun y => absurd f3 y⟩) (fun M3 e eq3 o3 e2 e3 e4 => ⟨_, rfl, h0, fun y => absurd (e2.symm.trans y) e4, fun _ => ?_⟩)
    · have u : ∀ F : (Int × fs_q3) → fs_qQ, fs_qX (fs_qNum T E 0 99 q.2) F = F r := fun F => by
        rw [eq3]
        rfl
      have o123 : fs_out fs_FqL M (fs_st M3 17 x r.1) := fs_FqL_st ((o1.tr o2).tr o3) (by omega)
      refine sp_numL (h3.st (by omega)) (fun M4 w eq4 o4 h4 f4 => ⟨_, rfl, fun _ => ?_, fun y => absurd f4 y⟩) (fun M4 e eq4 o4 e2 e3 e4 => ⟨_, rfl, fun y => absurd (e2.symm.trans y) e4, fun _ => ?_⟩)
      · have v : ∀ F : (Int × fs_q3) → fs_qQ, fs_qX (fs_qNum T E 0 99 r.2) F = F w := fun F => by
          rw [eq4]
          rfl
        obtain ⟨B, hB⟩ : ∃ B, fs_st (fs_st (fs_st A 16 x q.1) 17 x r.1) 18 x w.1 = B := ⟨_, rfl⟩
        have hB5 : B 15 5 = x := by
          rw [← hB, fs_st_o (by omega), fs_st_o (by omega), fs_st_o (by omega)]
          exact hx
        have ok2 : ∀ M' S', fs_qBy T E x B w.2 = .inr S' → fs_out fs_FqL M M' → fs_cL M' T E S' → K (some (fs_i 1)) M' := fun M' S' y => ok M' S' (by
          show fs_qX (fs_qNum T E 0 99 q.2) _ = _
          rw [u, v, hB]
          exact y)
        have no2 : ∀ M' e, fs_qBy T E x B w.2 = .inl e → fs_out fs_FqL M M' → M' 29 2 = e.1 → M' 29 3 = e.2 → e.1 ≠ 0 → K (some (fs_i 0)) M' := fun M' e y => no M' e (by
          show fs_qX (fs_qNum T E 0 99 q.2) _ = _
          rw [u, v, hB]
          exact y)
        have h4' : fs_cL (fs_st (fs_st M4 18 x w.1) 19 x 240) T E (fs_st B 19 x 240, w.2) := by
          rw [← hB]
          exact (h4.st (by omega)).st (by omega)
        have o4' : fs_out fs_FqL M (fs_st (fs_st M4 18 x w.1) 19 x 240) := fs_FqL_st (fs_FqL_st (o123.tr o4) (by omega)) (by omega)
        have hs4 : fs_cS M4 T E w.2 := h4.1
        have x5 : fs_st B 19 x 240 15 5 = x := by
          rw [fs_st_o (by omega)]
          exact hB5
        rw [hs4.e7]
        refine ⟨hs4.tk, fun z => ?_, fun z => ?_⟩
        · have e : fs_qBy T E x B w.2 = .inr (fs_qOwn T E x (fs_st B 19 x 240) w.2) := if_neg z
          exact sp_ownC h4' x5 h0 lt (fun M' o' h' => ok2 M' _ e (o4'.tr o') h')
        · have e : fs_qBy T E x B w.2 = fs_qX (fs_qNum T E 1 240 (fs_qA T E w.2)) (fun q => .inr (fs_qOwn T E x (fs_st (fs_st B 19 x 240) 19 x q.1) q.2)) := if_pos z
          rw [e] at ok2 no2
          refine sp_advL h4' (fun M5 o5 h5 => ⟨rfl, sp_numL h5 (fun M6 y eq6 o6 h6 f6 => ⟨_, rfl, ?_⟩) (fun M6 e eq6 o6 e2 e3 e4 => ⟨_, rfl, ?_⟩)⟩)
          · rw [eq6] at ok2
            have x5' : fs_st (fs_st B 19 x 240) 19 x y.1 15 5 = x := by
              rw [fs_st_o (by omega)]
              exact x5
            exact sp_ownC (h6.st (by omega)) x5' h0 lt (fun M' o' h' => ok2 M' _ rfl ((fs_FqL_st ((o4'.tr o5).tr o6) (by omega)).tr o') h')
          · rw [eq6] at no2
            have y2 : fs_st M6 19 x 0 29 2 = e.1 := by
              rw [fs_st_o (by omega)]
              exact e2
            have y3 : fs_st M6 19 x 0 29 3 = e.2 := by
              rw [fs_st_o (by omega)]
              exact e3
            refine L_Reader_readHouse_134 ⟨fun _ => L_Reader_readHouse_170 ⟨fun _ => ?_, fun z => absurd (y2.symm.trans z) e4⟩, fun z => absurd (y2.symm.trans z) e4⟩
            refine no2 _ e rfl (fs_FqL_st (fs_FqL_st ((o4'.tr o5).tr o6) (by omega)) (by omega)) ?_ ?_ e4
            · rw [fs_st_o (by omega)]
              exact y2
            · rw [fs_st_o (by omega)]
              exact y3
      · refine no _ e ?_ (fs_FqL_st (o123.tr o4) (by omega)) ?_ ?_ e4
        · show fs_qX (fs_qNum T E 0 99 q.2) _ = _
          rw [u, eq4]
          rfl
        · rw [fs_st_o (by omega)]
          exact e2
        · rw [fs_st_o (by omega)]
          exact e3
    · refine no _ e ?_ (fs_FqL_st ((o1.tr o2).tr o3) (by omega)) ?_ ?_ e4
      · show fs_qX (fs_qNum T E 0 99 q.2) _ = _
        rw [eq3]
        rfl
      · rw [fs_st_o (by omega)]
        exact e2
      · rw [fs_st_o (by omega)]
        exact e3
  · rw [eq] at no
    exact no M2 e rfl (o1.tr o2) e2 e3 e4
theorem sp_lawC : fs_cXL g T E m_Reader_readLaw 155 (fs_qLaw T E) := by
  intro M A s K h h0 h0' ok no
  refine E_Reader_readLaw (sp_advL h (fun M1 o1 h1 => ⟨rfl, ?_⟩))
  have hs1 : fs_cS M1 T E (fs_qA T E s) := h1.1
  unfold fs_qLaw at ok no
  obtain ⟨t, ht⟩ : ∃ t, fs_lxt T E (fs_qA T E s).1 = t := ⟨_, rfl⟩
  have tk := hs1.tk
  have e7 := hs1.e7
  rw [ht] at ok no tk e7
  obtain ⟨k1, k2, k3, k4⟩ := fs_kind tk
  refine E_Reader_lawKind ?_
  rw [e7]
  have rest : ∀ x : Int, 0 ≤ x → x < 4 → t - 1006 = x → ∃ r2, (some (fs_i x) : Option fs_V) = some (fs_i r2) ∧ ((¬ r2 = (-1) → fs_C2 g m_Laws_isTold 1 [fs_r 23, fs_i r2] M1 (fun v M3 => ∃ r3, v = some (fs_i r3) ∧ ((r3 = 0 → fs_C2 g m_Reader_advance 3 [fs_r 29] M3 (fun v M4 => v = none ∧ (0 ≤ r2 ∧ r2 < 4 ∧ fs_C2 g m_Reader_readExpression 154 [fs_r 29, fs_i 1, fs_i 0] (fs_st M4 26 r2 (M4 23 2)) (fun v M5 => ∃ r5, v = some (fs_i r5) ∧ ((r5 = 0 ∨ r5 = 1) ∧ K (some (fs_i r5)) (fs_st M5 27 r2 (M5 23 2))))))) ∧ (¬ r3 = 0 → fs_C2 g m_Reader_stumble 1 [fs_r 29, fs_i 3] M3 (fun v M6 => ∃ r6, v = some (fs_i r6) ∧ ((r6 = 0 ∨ r6 = 1) ∧ K (some (fs_i r6)) M6)))))) ∧ (r2 = (-1) → fs_C2 g m_Reader_stumble 1 [fs_r 29, fs_i 1] M1 (fun v M7 => ∃ r7, v = some (fs_i r7) ∧ ((r7 = 0 ∨ r7 = 1) ∧ K (some (fs_i r7)) M7)))) := by
    intro x x0 x4 hx
    refine ⟨x, rfl, fun _ => ?_, fun z => absurd z (by omega)⟩
    rw [hx, if_pos ⟨by omega, by omega⟩] at ok no
    have e26 : M1 (23 + 3) x = A 26 x := h1.2 26 x (by unfold fs_scq; omega)
    have e27 : M1 (23 + 4) x = A 27 x := h1.2 27 x (by unfold fs_scq; omega)
    refine E_Laws_isTold io_23 ?_
    rw [e26, e27]
    refine ⟨x0, x4, fun le => ⟨0, rfl, fun _ => ?_, fun z => absurd rfl z⟩, fun gt => ⟨1, rfl, fun z => absurd z (by decide), fun _ => sp_stumL hs1.1.2.2.1 (fun M' o' e2 e3 => ⟨0, rfl, Or.inl rfl, no M' (3, (fs_qA T E s).1) (if_neg gt) (o1.tr o') e2 e3 fs_n3z⟩)⟩⟩
    rw [if_pos le] at ok no
    refine sp_advL h1 (fun M4 o4 h4 => ⟨rfl, x0, x4, ?_⟩)
    have hs4 : fs_cS M4 T E (fs_qA T E (fs_qA T E s)) := h4.1
    have el : M4 23 2 = (s.2.2.length : Int) := hs4.2.2.2.2.2.1
    rw [el]
    have X : fs_cX g T E m_Reader_readExpression 154 [fs_r 29, fs_i 1, fs_i 0] (fs_qE T E 8) := sp_exprC (b := 91) (by omega) 8 (by omega)
    have h4' : fs_cL (fs_st M4 26 x (s.2.2.length : Int)) T E (fs_st A 26 x (s.2.2.length : Int), fs_qA T E (fs_qA T E s)) := h4.st (by omega)
    have o4' : fs_out fs_FqL M (fs_st M4 26 x (s.2.2.length : Int)) := fs_FqL_st (o1.tr o4) (by omega)
    refine X _ _ _ h4'.1 (fun M5 s3 eq5 o5 h5 => ⟨1, rfl, Or.inr rfl, ?_⟩) (fun M5 e eq5 o5 e2 e3 e4 => ⟨0, rfl, Or.inl rfl, ?_⟩)
    · have el5 : M5 23 2 = (s3.2.2.length : Int) := h5.2.2.2.2.2.1
      rw [el5]
      rw [eq5] at ok
      exact ok _ _ rfl (fs_FqL_st (o4'.tr (fs_FqL_c o5)) (by omega)) ((h4'.step o5 h5).st (by omega))
    · rw [eq5] at no
      refine no _ e rfl (fs_FqL_st (o4'.tr (fs_FqL_c o5)) (by omega)) ?_ ?_ e4
      · rw [fs_st_o (by omega)]
        exact e2
      · rw [fs_st_o (by omega)]
        exact e3
  refine ⟨tk, fun z => rest 0 (by omega) (by omega) (by have := k1.mp z; omega), fun z => rest 1 (by omega) (by omega) (by have := k2.mp z; omega), fun z => rest 2 (by omega) (by omega) (by have := k3.mp z; omega), fun z => rest 3 (by omega) (by omega) (by have := k4.mp z; omega), fun z => ⟨-1, rfl, fun y => absurd rfl y, fun _ => ?_⟩⟩
  have nt : ¬ (1006 ≤ t ∧ t ≤ 1009) := fun y => by
    obtain ⟨z1, z2, z3, z4⟩ := z
    rcases (by omega : t = 1006 ∨ t = 1007 ∨ t = 1008 ∨ t = 1009) with w | w | w | w
    · exact z1 (k1.mpr w)
    · exact z2 (k2.mpr w)
    · exact z3 (k3.mpr w)
    · exact z4 (k4.mpr w)
  rw [if_neg nt] at ok no
  exact sp_stumL hs1.1.2.2.1 (fun M' o' e2 e3 => ⟨0, rfl, Or.inl rfl, no M' (1, (fs_qA T E s).1) rfl (o1.tr o') e2 e3 fs_n1z⟩)
end CREAD
