-- ===== the model's stack machine =====
def fs_F3 (o k : Int) : Prop := o = 250 ∨ (o = 226 ∧ k = 41)
section MOLAW
variable {g : fs_G}
theorem sp_is0 {M : fs_M} {K : fs_K} (h : K (some (fs_l 0)) M) : fs_C2 g m_Mo_is 1 [fs_i 0] M K := E_Mo_is ⟨fun _ => h, fun q => absurd rfl q⟩
theorem sp_is1 {M : fs_M} {K : fs_K} (h : K (some (fs_l 1)) M) : fs_C2 g m_Mo_is 1 [fs_i 1] M K := E_Mo_is ⟨fun q => absurd q (by decide), fun _ => h⟩
theorem sp_w407 {M : fs_M} {K : fs_K} {h v : Int} (hh : M 226 41 = h) (h0 : 1 ≤ h) (h1 : h ≤ 64) (k1 : fs_lim v → K (some (fs_i 1)) (fs_st M 250 (h - 1) v)) (k0 : ¬ fs_lim v → K (some (fs_i 0)) (fs_st M 250 (h - 1) v)) :
    fs_A2 g m_Mo_works 2 407 [(0, fs_r 226), (6, fs_l v)] [] M K := by
  refine L_Mo_works_407 ?_
  rw [hh, fs_w32_of (x := h - 1) (by omega) (by omega)]
  refine ⟨by omega, by omega, fun q => k0 (fun z => ?_), fun q => ⟨fun q2 => k0 (fun z => ?_), fun q2 => k1 ?_⟩⟩
  · rw [fs_lcmp_gt] at q
    unfold fs_lim at z; omega
  · rw [fs_lcmp_lt] at q2
    unfold fs_lim at z; omega
  · rw [fs_lcmp_gt] at q
    rw [fs_lcmp_lt] at q2
    unfold fs_lim; omega
theorem sp_works2 {M : fs_M} {K : fs_K} {s h x y : Int} (hs : s ≠ 260) (hh : M 226 41 = h) (h0 : 2 ≤ h) (h1 : h ≤ 64) (ex : M 250 (h - 2) = x) (ey : M 250 (h - 1) = y) (hx : fs_lim x) (hy : fs_lim y)
    (hK : ∀ r M', fs_out fs_F3 M M' → (fs_op s x y = none ∧ r = 0 ∨ ∃ v, fs_op s x y = some v ∧ r = 1 ∧ M' 226 41 = h - 1 ∧ M' 250 (h - 2) = v ∧ ∀ j, j ≠ h - 2 → M' 250 j = M 250 j) → K (some (fs_i r)) M') :
    fs_C2 g m_Mo_works 2 [fs_r 226, fs_i s] M K := by
  refine E_Mo_works ?_
  rw [hh, fs_w32_of (x := h - 1) (by omega) (by omega), fs_w32_of (x := h - 2) (by omega) (by omega), ex, ey]
  generalize hM1 : fs_st M 226 41 (h - 1) = M1
  have o1 : fs_out fs_F3 M M1 := by rw [← hM1]; exact fs_out.rf.st (Or.inr ⟨rfl, rfl⟩)
  have e41 : M1 226 41 = h - 1 := by rw [← hM1, fs_st_s]
  have e250 : ∀ j, M1 250 j = M 250 j := fun j => by rw [← hM1, fs_st_o (by decide)]
  have e2 : h - 1 - 1 = h - 2 := by omega
  have yes : ∀ v : Int, fs_lim v → fs_op s x y = some v → fs_A2 g m_Mo_works 2 407 [(0, fs_r 226), (6, fs_l v)] [] M1 K := by
    intro v hv ho
    refine sp_w407 e41 (by omega) (by omega) (fun _ => ?_) (fun q => absurd hv q)
    rw [e2]
    refine hK _ _ (o1.st (Or.inl rfl)) (Or.inr ⟨v, ho, rfl, ?_, fs_st_s, fun j hj => ?_⟩)
    · rw [fs_st_o (by decide)]; exact e41
    · rw [fs_st_k hj]; exact e250 j
  have chk : ∀ v : Int, fs_op s x y = fs_chk v → fs_A2 g m_Mo_works 2 407 [(0, fs_r 226), (6, fs_l v)] [] M1 K := by
    intro v ho
    by_cases c : fs_lim v
    · exact yes v c (by rw [ho]; unfold fs_chk; exact if_pos c)
    · refine sp_w407 e41 (by omega) (by omega) (fun q => absurd q c) (fun _ => ?_)
      exact hK _ _ (o1.st (Or.inl rfl)) (Or.inl ⟨by rw [ho]; unfold fs_chk; exact if_neg c, rfl⟩)
  have no : fs_op s x y = none → K (some (fs_i 0)) M1 := fun ho => hK _ _ o1 (Or.inl ⟨ho, rfl⟩)
  have y0 : fs_op s x y = some 0 → fs_A2 g m_Mo_works 2 407 [(0, fs_r 226), (6, fs_l 0)] [] M1 K := yes 0 (by unfold fs_lim; omega)
  have y1 : fs_op s x y = some 1 → fs_A2 g m_Mo_works 2 407 [(0, fs_r 226), (6, fs_l 1)] [] M1 K := yes 1 (by unfold fs_lim; omega)
  clear yes hK
  have hxx := hx
  have hyy := hy
  unfold fs_lim at hxx hyy
  simp only [fs_lcmp_z, fs_lcmp_ge, fs_lcmp_gt, fs_lcmp_le, fs_lcmp_lt]
  refine ⟨by omega, by omega, fun _ => ⟨by omega, by omega, fun q => ?_, fun q => ?_, fun q => ?_, fun q => ?_, fun q => ?_, fun q => ?_, fun q => ?_, fun q => ?_, fun q => ?_, fun q => ?_, fun q => ?_, fun q => ?_⟩, fun q => absurd q hs⟩
  · subst q
    rw [fs_w64_of (by omega) (by omega)]
    exact chk _ rfl
  · subst q
    rw [fs_w64_of (by omega) (by omega)]
    exact chk _ rfl
  · subst q
    refine ⟨fun q2 => ?_, fun q2 => ?_⟩
    · subst q2
      have h := chk (0 * y) rfl
      rw [Int.zero_mul] at h ⊢
      rw [fs_w64_of (by omega) (by omega)]
      exact h
    · refine sp_absJ (by omega) ⟨_, rfl, sp_absJ (by omega) ⟨_, rfl, by omega, ?_⟩⟩
      obtain ⟨d1, d2⟩ := fs_ldiv_eq (x := 1000000000000) (y := (x.natAbs : Int)) (by unfold fs_lim; omega) (by unfold fs_in64; omega) (by omega)
      have hdiv : Int.tdiv 1000000000000 (x.natAbs : Int) = 1000000000000 / (x.natAbs : Int) := Int.tdiv_eq_ediv_of_nonneg (by omega)
      have hiff : (y.natAbs : Int) ≤ 1000000000000 / (x.natAbs : Int) ↔ (y.natAbs : Int) * (x.natAbs : Int) ≤ 1000000000000 := Int.le_ediv_iff_mul_le (by omega)
      have habs : (y.natAbs : Int) * (x.natAbs : Int) = ((x * y).natAbs : Int) := by rw [Int.natAbs_mul, Int.mul_comm]; simp
      rw [d1, hdiv, hiff, habs]
      refine ⟨fun q3 => ?_, fun q3 => no ?_⟩
      · rw [fs_w64_of (by omega) (by omega)]
        exact chk _ rfl
      · show fs_chk (x * y) = none
        unfold fs_chk
        exact if_neg (by omega)
  · subst q
    refine ⟨fun q2 => ⟨q2, ?_⟩, fun q2 => no ?_⟩
    · obtain ⟨d1, d2⟩ := fs_ldiv_eq hx (show fs_in64 y by unfold fs_in64; omega) q2
      rw [d1]
      refine chk _ ?_
      show (if y = 0 then none else fs_chk (Int.tdiv x y)) = _
      exact if_neg q2
    · show (if y = 0 then none else fs_chk (Int.tdiv x y)) = _
      exact if_pos q2
  · subst q
    rw [show fs_op 60 x y = some (if x < y then 1 else 0) from rfl] at y0 y1
    exact ⟨fun q2 => sp_is0 ⟨_, rfl, y0 (by rw [if_neg (by omega)])⟩, fun q2 => sp_is1 ⟨_, rfl, y1 (by rw [if_pos (by omega)])⟩⟩
  · subst q
    rw [show fs_op 62 x y = some (if y < x then 1 else 0) from rfl] at y0 y1
    exact ⟨fun q2 => sp_is0 ⟨_, rfl, y0 (by rw [if_neg (by omega)])⟩, fun q2 => sp_is1 ⟨_, rfl, y1 (by rw [if_pos (by omega)])⟩⟩
  · subst q
    rw [show fs_op 61 x y = some (if x = y then 1 else 0) from rfl] at y0 y1
    exact ⟨fun q2 => sp_is0 ⟨_, rfl, y0 (by rw [if_neg q2])⟩, fun q2 => sp_is1 ⟨_, rfl, y1 (by rw [if_pos q2])⟩⟩
  · subst q
    rw [show fs_op 256 x y = some (if x ≤ y then 1 else 0) from rfl] at y0 y1
    exact ⟨fun q2 => sp_is0 ⟨_, rfl, y0 (by rw [if_neg (by omega)])⟩, fun q2 => sp_is1 ⟨_, rfl, y1 (by rw [if_pos (by omega)])⟩⟩
  · subst q
    rw [show fs_op 258 x y = some (if y ≤ x then 1 else 0) from rfl] at y0 y1
    exact ⟨fun q2 => sp_is0 ⟨_, rfl, y0 (by rw [if_neg (by omega)])⟩, fun q2 => sp_is1 ⟨_, rfl, y1 (by rw [if_pos (by omega)])⟩⟩
  · subst q
    rw [show fs_op 257 x y = some (if x = y then 0 else 1) from rfl] at y0 y1
    exact ⟨fun q2 => sp_is0 ⟨_, rfl, y0 (by rw [if_pos q2])⟩, fun q2 => sp_is1 ⟨_, rfl, y1 (by rw [if_neg q2])⟩⟩
  · subst q
    rw [show fs_op 261 x y = some (if x = 0 then 0 else if y = 0 then 0 else 1) from rfl] at y0 y1
    exact ⟨fun q2 => sp_is0 ⟨_, rfl, y0 (by rw [if_pos q2])⟩, fun q2 => ⟨fun q3 => sp_is0 ⟨_, rfl, y0 (by rw [if_neg q2, if_pos q3])⟩, fun q3 => sp_is1 ⟨_, rfl, y1 (by rw [if_neg q2, if_neg q3])⟩⟩⟩
  · obtain ⟨n1, n2, n3, n4, n5, n6, n7, n8, n9, n10, n11⟩ := q
    have eo : fs_op s x y = some (if x = 0 then (if y = 0 then 0 else 1) else 1) := by
      unfold fs_op
      rw [if_neg n1, if_neg n2, if_neg n3, if_neg n4, if_neg n5, if_neg n6, if_neg n7, if_neg n8, if_neg n9, if_neg n10, if_neg n11]
    rw [eo] at y0 y1
    exact ⟨fun q2 => sp_is1 ⟨_, rfl, y1 (by rw [if_neg q2])⟩, fun q2 => ⟨fun q3 => sp_is0 ⟨_, rfl, y0 (by rw [if_pos q2, if_pos q3])⟩, fun q3 => sp_is1 ⟨_, rfl, y1 (by rw [if_pos q2, if_neg q3])⟩⟩⟩
theorem sp_works1 {M : fs_M} {K : fs_K} {h y : Int} (hh : M 226 41 = h) (h0 : 1 ≤ h) (h1 : h ≤ 64) (ey : M 250 (h - 1) = y) (hK : K (some (fs_i 1)) (fs_st M 250 (h - 1) (if y = 0 then 1 else 0))) : fs_C2 g m_Mo_works 2 [fs_r 226, fs_i 260] M K := by
  refine E_Mo_works ?_
  rw [hh, fs_w32_of (x := h - 1) (by omega) (by omega), ey]
  refine ⟨by omega, by omega, fun q => absurd rfl q, fun _ => ?_⟩
  simp only [fs_lcmp_z]
  refine ⟨fun q => sp_is0 ⟨_, rfl, ?_⟩, fun q => sp_is1 ⟨_, rfl, ?_⟩⟩
  · rw [if_neg q] at hK; exact hK
  · rw [if_pos q] at hK; exact hK
/-- what the model's rows hold of a law: a..b its signs, with the class's numbering -/
def fs_lawM (cs cv : Int → Int) (a b : Int) : Prop := 0 ≤ a ∧ a ≤ b ∧ b ≤ 64 ∧ (∀ i, a ≤ i → i < b → (cs i = 0 ∧ fs_lim (cv i)) ∨ (cs i = 1 ∧ 0 ≤ cv i ∧ cv i < 7) ∨ cs i = 2) ∧ (a < b → fs_wf cs cv (b - a).toNat a 0)
theorem lp_goes {M0 : fs_M} {K : fs_K} {cs cv nm : Int → Int} {k a b : Int} (hk0 : 0 ≤ k) (hk1 : k < 8) (ha : 0 ≤ a) (hb : M0 238 k = b) (hb64 : b ≤ 64) (hnm : ∀ j, 0 ≤ j → j < 7 → M0 249 j = nm j ∧ fs_lim (nm j))
    (hct : ∀ i, a ≤ i → i < b → M0 239 i = cs i ∧ M0 240 i = cv i ∧ ((cs i = 0 ∧ fs_lim (cv i)) ∨ (cs i = 1 ∧ 0 ≤ cv i ∧ cv i < 7) ∨ cs i = 2)) :
    ∀ (n : Nat) (i h : Int) (s : Int → Int) (M : fs_M), b - i = n → a ≤ i → fs_out fs_F3 M0 M → M 226 41 = h → (∀ j, 0 ≤ j → j < h → M 250 j = s j ∧ fs_lim (s j)) → 0 ≤ h → h ≤ i - a → fs_wf cs cv n i h →
      (∀ M' r, fs_out fs_F3 M0 M' → (fs_ev cs cv nm n i s h = none ∧ r = 0 ∨ ∃ q, fs_ev cs cv nm n i s h = some q ∧ r = 1 ∧ M' 250 0 = q.1 0) → K (some (fs_i r)) M') →
      fs_A2 g m_Mo_goes 3 12 [(0, fs_r 226), (1, fs_i k), (2, fs_i i)] [] M K := by
  intro n
  induction n with
  | zero =>
    intro i h s M hn hai hout h41 hs h0 hh hw hK
    have e238 : M 238 k = b := by rw [hout 238 k (by unfold fs_F3; omega)]; exact hb
    unfold fs_wf at hw
    subst hw
    refine L_Mo_goes_12 ⟨hk0, hk1, fun q => ?_, fun q => by omega⟩
    exact hK _ _ hout (Or.inr ⟨_, rfl, rfl, (hs 0 (by omega) (by omega)).1⟩)
  | succ n ih =>
    intro i h s M hn hai hout h41 hs h0 hh hw hK
    have e238 : M 238 k = b := by rw [hout 238 k (by unfold fs_F3; omega)]; exact hb
    have e239 : M 239 i = M0 239 i := hout 239 i (by unfold fs_F3; omega)
    have e240 : M 240 i = M0 240 i := hout 240 i (by unfold fs_F3; omega)
    obtain ⟨c1, c2, c3⟩ := hct i hai (by omega)
    have ew5 : fs_w32 (i + 1) = i + 1 := fs_w32_of (by omega) (by omega)
    refine L_Mo_goes_12 ⟨hk0, hk1, fun q => by omega, fun _ => ⟨by omega, by omega, ?_⟩⟩
    rw [e239, e240, c1, c2, ew5]
    unfold fs_wf at hw
    unfold fs_ev at hK
    have push : ∀ v : Int, fs_lim v → fs_wf cs cv n (i + 1) (h + 1) → v = (if cs i = 0 then cv i else nm (cv i)) → (∀ M' r, fs_out fs_F3 M0 M' → (fs_ev cs cv nm n (i + 1) (fun j => if j = h then (if cs i = 0 then cv i else nm (cv i)) else s j) (h + 1) = none ∧ r = 0 ∨ ∃ q, fs_ev cs cv nm n (i + 1) (fun j => if j = h then (if cs i = 0 then cv i else nm (cv i)) else s j) (h + 1) = some q ∧ r = 1 ∧ M' 250 0 = q.1 0) → K (some (fs_i r)) M') → fs_A2 g m_Mo_goes 3 85 [(0, fs_r 226), (1, fs_i k), (2, fs_i i)] [fs_l v, fs_i h, fs_r 250] M K := by
      intro v hv hw2 hve hK2
      refine L_Mo_goes_85 ⟨h0, by omega, ?_⟩
      rw [h41, ew5, fs_w32_of (x := h + 1) (by omega) (by omega)]
      refine ih (i + 1) (h + 1) _ _ (by omega) (by omega) ((hout.st (Or.inl rfl)).st (Or.inr ⟨rfl, rfl⟩)) fs_st_s (fun j a1 a2 => ?_) (by omega) (by omega) hw2 hK2
      rw [fs_st_o (by decide)]
      by_cases c : j = h
      · subst c
        rw [fs_st_s, if_pos rfl]
        exact ⟨hve, by rw [← hve]; exact hv⟩
      · rw [fs_st_k c, if_neg c]
        exact hs j a1 (by omega)
    refine ⟨fun q => ⟨fun q2 => ?_, fun q2 => ?_⟩, fun q => ?_⟩
    · rw [if_neg q] at hw hK
      have c4 : cs i = 1 ∧ 0 ≤ cv i ∧ cv i < 7 := by
        rcases c3 with z | z | z
        · exact absurd z.1 q2
        · exact z
        · exact absurd z q
      have e249 : M 249 (cv i) = nm (cv i) := by rw [hout 249 _ (by unfold fs_F3; omega)]; exact (hnm _ c4.2.1 c4.2.2).1
      refine ⟨c4.2.1, c4.2.2, ?_⟩
      rw [e249, h41]
      exact push _ (hnm _ c4.2.1 c4.2.2).2 hw (by rw [if_neg q2]) hK
    · rw [if_neg q] at hw hK
      have c4 : fs_lim (cv i) := by
        rcases c3 with z | z | z
        · exact z.2
        · omega
        · omega
      rw [h41]
      exact push _ c4 hw (by rw [if_pos q2]) hK
    · rw [if_pos q] at hw hK
      by_cases d : cv i = 260
      · rw [if_pos d] at hw hK
        rw [d]
        have m1 := hs (h - 1) (by omega) (by omega)
        refine sp_works1 h41 (by omega) (by omega) m1.1 ⟨_, rfl, fun _ => ?_, fun z => absurd z (by decide)⟩
        refine ih (i + 1) h _ _ (by omega) (by omega) (hout.st (Or.inl rfl)) (by rw [fs_st_o (by decide)]; exact h41) (fun j a1 a2 => ?_) (by omega) (by omega) hw.2 hK
        by_cases c : j = h - 1
        · subst c
          rw [fs_st_s, if_pos rfl]
          refine ⟨rfl, ?_⟩
          unfold fs_lim
          split <;> omega
        · rw [fs_st_k c, if_neg c]
          exact hs j a1 (by omega)
      · rw [if_neg d] at hw hK
        have m1 := hs (h - 1) (by omega) (by omega)
        have m2 := hs (h - 2) (by omega) (by omega)
        refine sp_works2 d h41 (by omega) (by omega) m2.1 m1.1 m2.2 m1.2 (fun r M' ho hr => ⟨r, rfl, ?_⟩)
        rcases hr with ⟨e, rfl⟩ | ⟨v, e, rfl, v1, v2, v3⟩
        · rw [e] at hK
          exact ⟨fun z => absurd rfl z, fun _ => hK _ _ (hout.tr ho) (Or.inl ⟨rfl, rfl⟩)⟩
        · rw [e] at hK
          refine ⟨fun _ => ?_, fun z => absurd z (by decide)⟩
          refine ih (i + 1) (h - 1) _ _ (by omega) (by omega) (hout.tr ho) v1 (fun j a1 a2 => ?_) (by omega) (by omega) hw.2 hK
          by_cases c : j = h - 2
          · subst c
            rw [v2, if_pos rfl]
            exact ⟨rfl, fs_op_lim e⟩
          · rw [v3 j c, if_neg c]
            exact hs j a1 (by omega)
theorem sp_goes {M : fs_M} {K : fs_K} {cs cv nm : Int → Int} {k a b : Int} (hk0 : 0 ≤ k) (hk1 : k < 8) (ha : M 237 k = a) (hb : M 238 k = b) (hL : fs_lawM cs cv a b) (hlt : a < b) (hnm : ∀ j, 0 ≤ j → j < 7 → M 249 j = nm j ∧ fs_lim (nm j))
    (hcode : ∀ i, a ≤ i → i < b → M 239 i = cs i ∧ M 240 i = cv i)
    (hK : ∀ M' r, fs_out fs_F3 M M' → (fs_res cs cv nm a b = none ∧ r = 0 ∨ ∃ v, fs_res cs cv nm a b = some v ∧ r = 1 ∧ M' 250 0 = v) → K (some (fs_i r)) M') : fs_C2 g m_Mo_goes 3 [fs_r 226, fs_i k] M K := by
  obtain ⟨h1, h2, h3, h4, h5⟩ := hL
  refine E_Mo_goes ⟨hk0, hk1, ?_⟩
  rw [ha]
  refine lp_goes (M0 := fs_st M 226 41 0) (cs := cs) (cv := cv) (nm := nm) hk0 hk1 h1 (by rw [fs_st_o (by decide)]; exact hb) h3 (fun j q1 q2 => by rw [fs_st_o (by decide)]; exact hnm j q1 q2) (fun i q1 q2 => ?_) (b - a).toNat a 0 (fun _ => 0) _ (by omega) (by omega) fs_out.rf fs_st_s (fun j q1 q2 => by omega) (by omega) (by omega) (h5 hlt) (fun M' r ho hr => hK M' r ((fs_out.rf.st (Or.inr ⟨rfl, rfl⟩)).tr ho) ?_)
  · rw [fs_st_o (by decide), fs_st_o (by decide)]
    obtain ⟨z1, z2⟩ := hcode i q1 q2
    exact ⟨z1, z2, h4 i q1 q2⟩
  · unfold fs_res
    rw [if_pos hlt]
    rcases hr with ⟨e, r0⟩ | ⟨q, e, r1, v⟩
    · rw [e]; exact Or.inl ⟨rfl, r0⟩
    · rw [e]; exact Or.inr ⟨_, rfl, r1, v⟩
end MOLAW
