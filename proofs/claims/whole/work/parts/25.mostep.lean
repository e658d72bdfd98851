-- ===== the model: one arrives; walks =====
theorem fs_left_cong {M M' : fs_M} (h : ∀ o k, o = 251 ∨ o = 252 → M' o k = M o k) (d a : Int) : fs_left M' d a = fs_left M d a := by
  unfold fs_left
  rw [h 252 d (by decide), (funext (fun k => h 251 k (by decide)) : M' 251 = M 251)]
theorem fs_F6_rows {M M' : fs_M} (h : fs_out fs_F6 M M') : ∀ o k, o = 251 ∨ o = 252 → M' o k = M o k := fun o k q => h o k (by unfold fs_F6 fs_F4; omega)
theorem fs_st_id {M : fs_M} {o k v : Int} (h : v = M o k) : fs_st M o k v = M := by
  funext a b
  by_cases c : a = o ∧ b = k
  · rw [c.1, c.2, fs_st_s, h]
  · by_cases c1 : a = o
    · rw [fs_st_k (by omega)]
    · rw [fs_st_o c1]
section MOSTEP
variable {g : fs_G}
theorem sp_arrives {E M : fs_M} {K : fs_K} {tr ta wo rf : Int} {X : (Int → List Int) × fs_M} (hB : fs_bE E) (hT : fs_rt E) (hI : fs_rI E X) (hR : fs_mR E M tr ta wo X) (hrf : M 226 47 = rf) (hc : X.2 0 (fs_who X.2) ≤ 240)
    (hK : ∀ M', fs_out fs_F6 M M' → fs_mR E M' tr ta wo (fs_step E tr rf X) → K none M') : fs_C2 g m_Mo_arrives 7 [fs_r 226, fs_i (fs_who X.2)] M K := by
  have hst := hI.step (tr := tr) (rf := rf) hB hc
  obtain ⟨h9, hd, tl, hX⟩ := hI.who hc
  have hf := fs_who3 X.2
  unfold fs_step at hK
  rw [hX] at hK
  have hK2 : ∀ M', fs_out fs_F6 M M' → fs_mR E M' tr ta wo (fun i => if i = fs_who X.2 then tl else X.1 i, fs_stp E tr rf (fs_who X.2) hd tl X.2) → K none M' := hK
  clear hK hst
  generalize hdd : fs_who X.2 = d at *
  have hB' := hB
  have hT' := hT
  obtain ⟨R1, ⟨R2a, R2b, R2c⟩, R3, R4, R5, R6, R7⟩ := hR
  obtain ⟨q1, q2, q3, q4, q5, q0, qq⟩ := R5 d hf.1 h9
  have hstay : ¬ (tr = 4 ∧ ta = d) := fun z => by
    have := q0 z
    rw [hX] at this
    cases this
  obtain ⟨q6, q7, q8, q9, q10⟩ := qq hstay
  obtain ⟨i1, i2, i3, i4, i5, i6, i7, i8, i9, i10, i11, i12, i13, i14, i15⟩ := hI.1 d hf.1 h9
  obtain ⟨B1, B2, B3, B4, B5, B6, B7⟩ := hB
  obtain ⟨T1, T2, T3, T4, T5⟩ := hT
  have c257 := R4 d hf.1 hf.2
  have et : M 257 d = X.2 0 d := by omega
  obtain ⟨w1, w2, w3⟩ := R3 d hf.1 h9
  obtain ⟨q8a, q8b⟩ := q8 (by rw [hX]; intro z; cases z)
  rw [hX] at q9
  -- the head is the house
  have ehd : M 251 (9 * d + M 253 d) = hd ∧ tl = fs_kp tr ta wo (fs_left M d (M 253 d + 1)) := by
    have e : fs_left M d (M 253 d) = M 251 (9 * d + M 253 d) :: fs_left M d (M 253 d + 1) := by
      unfold fs_left
      rw [(by omega : (M 252 d - M 253 d).toNat = (M 252 d - (M 253 d + 1)).toNat + 1), ← Int.add_assoc]
      rfl
    rw [e] at q9
    unfold fs_kp at q9
    rw [List.filter_cons_of_pos (by rw [q8b]; rfl)] at q9
    exact ⟨(List.cons.inj q9).1.symm, (List.cons.inj q9).2⟩
  obtain ⟨ehd, etl⟩ := ehd
  rw [hX] at i15 i4
  rw [List.length_cons] at i4
  have hh := i15 hd List.mem_cons_self
  have hb := B5 hd hh.1 hh.2
  obtain ⟨t3, t4, t5⟩ := T3 hd hh.1 hh.2
  obtain ⟨s7, s8⟩ := R6 hd hh.1 hh.2
  have lb := fs_vlv_b (E := E) (tr := tr) (rf := rf) (opn := if X.2 7 hd = -1 then 1 else 0) (t := X.2 0 d) (glass := X.2 3 d) (coal := X.2 4 d) (h := hd)
  have gb := fs_vgl_b (E := E) (tr := tr) (rf := rf) (opn := if X.2 7 hd = -1 then 1 else 0) (t := X.2 0 d) (glass := X.2 3 d) (coal := X.2 4 d) (h := hd)
  have cb := fs_vco_b (E := E) (tr := tr) (opn := if X.2 7 hd = -1 then 1 else 0) (t := X.2 0 d) (glass := X.2 3 d) (coal := X.2 4 d) (h := hd) i9
  have ob : fs_vok E tr d hd X.2 = 0 ∨ fs_vok E tr d hd X.2 = 1 := fs_okN01 _ _ _ _ _ _ _
  have e0 : fs_stp E tr rf d hd tl X.2 0 d = fs_nx E tr tl (E 3 hd) (fs_vlv E tr rf (if X.2 7 hd = -1 then 1 else 0) (X.2 0 d) (X.2 3 d) (X.2 4 d) hd) (fs_vgl E tr rf (if X.2 7 hd = -1 then 1 else 0) (X.2 0 d) (X.2 3 d) (X.2 4 d) hd) (fs_vco E tr (if X.2 7 hd = -1 then 1 else 0) (X.2 0 d) (X.2 3 d) (X.2 4 d) hd) := by rw [fs_stp_d (by decide) (by decide) hf.1]; rfl
  have e1 : fs_stp E tr rf d hd tl X.2 1 d = X.2 1 d + 1 := by rw [fs_stp_d (by decide) (by decide) hf.1]; rfl
  have e2 : fs_stp E tr rf d hd tl X.2 2 d = E 3 hd := by rw [fs_stp_d (by decide) (by decide) hf.1]; rfl
  have e3 : fs_stp E tr rf d hd tl X.2 3 d = fs_vgl E tr rf (if X.2 7 hd = -1 then 1 else 0) (X.2 0 d) (X.2 3 d) (X.2 4 d) hd := by rw [fs_stp_d (by decide) (by decide) hf.1]; rfl
  have e4 : fs_stp E tr rf d hd tl X.2 4 d = fs_vco E tr (if X.2 7 hd = -1 then 1 else 0) (X.2 0 d) (X.2 3 d) (X.2 4 d) hd := by rw [fs_stp_d (by decide) (by decide) hf.1]; rfl
  have e5 : fs_stp E tr rf d hd tl X.2 5 d = fs_vlv E tr rf (if X.2 7 hd = -1 then 1 else 0) (X.2 0 d) (X.2 3 d) (X.2 4 d) hd := by rw [fs_stp_d (by decide) (by decide) hf.1]; rfl
  have e6 : fs_stp E tr rf d hd tl X.2 6 d = X.2 6 d + fs_vok E tr d hd X.2 := by rw [fs_stp_d (by decide) (by decide) hf.1]; rfl
  -- the tail: from 183 on
  have tail : ∀ M4 x4, fs_out fs_F6 M M4 → X.2 0 d + x4 = fs_vlv E tr rf (if X.2 7 hd = -1 then 1 else 0) (X.2 0 d) (X.2 3 d) (X.2 4 d) hd → (∀ o j, 253 ≤ o → o ≤ 260 → (j ≠ d ∨ o = 253 ∨ o = 257) → M4 o j = M o j) → M4 254 d = E 3 hd → M4 255 d = fs_vgl E tr rf (if X.2 7 hd = -1 then 1 else 0) (X.2 0 d) (X.2 3 d) (X.2 4 d) hd → M4 256 d = fs_vco E tr (if X.2 7 hd = -1 then 1 else 0) (X.2 0 d) (X.2 3 d) (X.2 4 d) hd →
      M4 258 d = M 253 d → M4 260 d = X.2 6 d + fs_vok E tr d hd X.2 →
      (∀ i, M4 261 i = (if i = hd then (if fs_vok E tr d hd X.2 = 0 then M 261 i else d) else M 261 i) ∧ M4 262 i = (if i = hd then (if fs_vok E tr d hd X.2 = 0 then M 262 i else X.2 0 d) else M 262 i)) →
      M4 226 56 = (if fs_vok E tr d hd X.2 = 0 then fs_or (M 226 56) (fs_shl 1 hd) else M 226 56) →
      fs_A2 g m_Mo_arrives 7 183 [(0, fs_r 226), (1, fs_i d), (2, fs_i (X.2 0 d)), (4, fs_i x4)] [] M4 K := by
    intro M4 x4 o4 ex r4 f4 f5 f6 f8 f60 f61 f56
    refine L_Mo_arrives_183 ⟨hf.1, hf.2, ?_⟩
    have f3 : M4 253 d = M 253 d := r4 253 d (by decide) (by decide) (Or.inr (Or.inl rfl))
    rw [f3, fs_w32_of (by omega) (by omega), fs_w32_of (by omega) (by omega), ex]
    generalize hM5 : fs_st (fs_st M4 253 d (M 253 d + 1)) 259 d (fs_vlv E tr rf (if X.2 7 hd = -1 then 1 else 0) (X.2 0 d) (X.2 3 d) (X.2 4 d) hd) = M5
    have m5 : ∀ o k, o ≠ 253 → o ≠ 259 → M5 o k = M4 o k := fun o k a b => by rw [← hM5, fs_st_o b, fs_st_o a]
    have m53 : M5 253 d = M 253 d + 1 := by rw [← hM5, fs_st_o (by decide), fs_st_s]
    have m59 : M5 259 d = fs_vlv E tr rf (if X.2 7 hd = -1 then 1 else 0) (X.2 0 d) (X.2 3 d) (X.2 4 d) hd := by rw [← hM5, fs_st_s]
    have m5j : ∀ o j, j ≠ d → M5 o j = M4 o j := fun o j a => by rw [← hM5, fs_st_k a, fs_st_k a]
    have o5 : fs_out fs_F6 M M5 := by
      rw [← hM5]
      exact (o4.st (by unfold fs_F6; omega)).st (by unfold fs_F6; omega)
    have rows5 := fs_F6_rows o5
    have e52 : M5 252 d = M 252 d := rows5 252 d (by decide)
    have e51 : ∀ k, M5 251 k = M 251 k := fun k => rows5 251 k (by decide)
    refine sp_leaves (tr := tr) (ta := ta) (wo := wo) hB' hT' (fs_F6_env R1 o5) (by rw [o5 226 42 (by unfold fs_F6 fs_F4; omega)]; exact R2a) (by rw [o5 226 43 (by unfold fs_F6 fs_F4; omega)]; exact R2b) (by rw [o5 226 44 (by unfold fs_F6 fs_F4; omega)]; exact R2c) (R3.cong rows5) hf.1 h9 (by omega) (by omega) (by omega) (by omega) (by rw [m5 254 d (by decide) (by decide), f4]; omega) (by rw [m5 254 d (by decide) (by decide), f4]; omega) (by rw [m5 255 d (by decide) (by decide), f5]; omega) (by rw [m5 255 d (by decide) (by decide), f5]; omega) (by rw [m5 256 d (by decide) (by decide), f6]; omega) (by rw [m5 256 d (by decide) (by decide), f6]; omega) (fun M6 a o6 g1 g2 g3 g4 g5 g6 g7 => ⟨rfl, ?_⟩)
    rw [m5 254 d (by decide) (by decide), m5 255 d (by decide) (by decide), m5 256 d (by decide) (by decide), f4, f5, f6, fs_left_cong rows5] at g7
    rw [m53, fs_left_cong rows5, fs_left_cong rows5, ← etl] at g4
    rw [fs_left_cong rows5, e52, e51] at g5
    rw [← g4, ← e0] at g7
    rw [m53] at g2 g6
    rw [e52] at g3
    have r6 : ∀ o k, ¬ fs_F4 o k → o ≠ 253 → o ≠ 257 → M6 o k = M5 o k := fun o k a b c => o6 o k (fun z => by
      rcases z with z | ⟨z, _⟩ | ⟨z, _⟩
      · exact a z
      · exact b z
      · exact c z)
    have r6j : ∀ o j, ¬ fs_F4 o j → j ≠ d → M6 o j = M5 o j := fun o j a b => o6 o j (fun z => by
      rcases z with z | ⟨_, z⟩ | ⟨_, z⟩
      · exact a z
      · exact b z
      · exact b z)
    have o6' : fs_out fs_F6 M M6 := o5.tr (o6.wk (fun o k q => by
      have q2 : fs_F4 o k ∨ (o = 253 ∧ k = d) ∨ (o = 257 ∧ k = d) := q
      rcases q2 with q2 | q2 | q2
      · exact Or.inl q2
      · unfold fs_F6; omega
      · unfold fs_F6; omega))
    have rows6 := fs_F6_rows o6'
    have vj : ∀ o j, 253 ≤ o → o ≤ 260 → j ≠ d → M6 o j = M o j := fun o j a b c => by
      rw [r6j o j (by unfold fs_F4; omega) c, m5j o j c, r4 o j a b (Or.inl c)]
    have vd : ∀ o, 254 ≤ o → o ≤ 260 → o ≠ 257 → o ≠ 259 → M6 o d = M4 o d := fun o a b c e => by
      rw [r6 o d (by unfold fs_F4; omega) (by omega) c, m5 o d (by omega) e]
    refine hK2 M6 o6' ⟨fs_F6_env R1 o6', ⟨by rw [o6' 226 42 (by unfold fs_F6 fs_F4; omega)]; exact R2a, by rw [o6' 226 43 (by unfold fs_F6 fs_F4; omega)]; exact R2b, by rw [o6' 226 44 (by unfold fs_F6 fs_F4; omega)]; exact R2c⟩, R3.cong rows6, fun j j0 j1 => ?_, fun j j0 j1 => ?_, fun i i0 i1 => ?_, ?_⟩
    · dsimp only
      by_cases c : j = d
      · rw [c, g7]
      · rw [vj 257 j (by decide) (by decide) c, fs_stp_n (by decide) hf.1 c]
        exact R4 j j0 j1
    · dsimp only
      by_cases c : j = d
      · rw [c, if_pos rfl, vd 254 (by decide) (by decide) (by decide) (by decide), vd 255 (by decide) (by decide) (by decide) (by decide), vd 256 (by decide) (by decide) (by decide) (by decide), vd 258 (by decide) (by decide) (by decide) (by decide), vd 260 (by decide) (by decide) (by decide) (by decide), r6 259 d (by unfold fs_F4; omega) (by decide) (by decide), m59, f4, f5, f6, f8, f60, e1, e2, e3, e4, e5, e6, g1, rows6 252 d (by decide), rows6 251 _ (by decide), fs_left_cong rows6]
        refine ⟨rfl, rfl, rfl, rfl, rfl, fun z => absurd z hstay, fun _ => ⟨by omega, by omega, fun z => g5 (by rw [← g4]; exact z), g4, fun z => ?_⟩⟩
        obtain ⟨z1, z2⟩ := q10 z
        have := g6 z
        refine ⟨by omega, ?_⟩
        unfold fs_lc
        rw [if_neg (by omega)]
        omega
      · rw [if_neg c, vj 254 j (by decide) (by decide) c, vj 255 j (by decide) (by decide) c, vj 256 j (by decide) (by decide) c, vj 258 j (by decide) (by decide) c, vj 259 j (by decide) (by decide) c, vj 260 j (by decide) (by decide) c, vj 253 j (by decide) (by decide) c, rows6 252 j (by decide), rows6 251 _ (by decide), fs_left_cong rows6, fs_stp_n (by decide) hf.1 c, fs_stp_n (by decide) hf.1 c, fs_stp_n (by decide) hf.1 c, fs_stp_n (by decide) hf.1 c, fs_stp_n (by decide) hf.1 c, fs_stp_n (by decide) hf.1 c]
        exact R5 j j0 j1
    · dsimp only
      obtain ⟨x1, x2⟩ := R6 i i0 i1
      rw [r6 261 i (by unfold fs_F4; omega) (by decide) (by decide), r6 262 i (by unfold fs_F4; omega) (by decide) (by decide), m5 261 i (by decide) (by decide), m5 262 i (by decide) (by decide), (f61 i).1, (f61 i).2, x1, x2]
      exact ⟨(fs_stp_7 (rf := rf) (r := tl)).symm, (fs_stp_8 (rf := rf) (r := tl)).symm⟩
    · dsimp only
      rw [r6 226 56 (by unfold fs_F4; omega) (by decide) (by decide), m5 226 56 (by decide) (by decide), f56, R7]
      exact (fs_stp_9 (rf := rf) (r := tl)).symm
  -- row 171: in vain
  have vain : ∀ M4, fs_out fs_F6 M M4 → fs_vok E tr d hd X.2 = 0 → (∀ o j, 253 ≤ o → o ≤ 260 → (j ≠ d ∨ (o ≠ 254 ∧ o ≠ 258)) → M4 o j = M o j) → M4 254 d = E 3 hd → M4 258 d = M 253 d → (∀ i, M4 261 i = M 261 i ∧ M4 262 i = M 262 i) → M4 226 56 = M 226 56 →
      fs_A2 g m_Mo_arrives 7 171 [(0, fs_r 226), (1, fs_i d), (2, fs_i (X.2 0 d)), (3, fs_i hd), (4, fs_i 0)] [] M4 K := by
    intro M4 o4 z r4 f4 f8 f61 f56
    have z' := z
    unfold fs_vok at z'
    refine L_Mo_arrives_171 (tail _ 0 (o4.st (by unfold fs_F6; omega)) ?_ (fun o j a b c => ?_) ?_ ?_ ?_ ?_ ?_ (fun i => ?_) ?_)
    · unfold fs_vlv
      rw [if_pos z']
      omega
    · rw [fs_st_o (by omega)]
      exact r4 o j a b (by omega)
    · rw [fs_st_o (by decide)]
      exact f4
    · rw [fs_st_o (by decide), r4 255 d (by decide) (by decide) (Or.inr (by decide)), q2]
      unfold fs_vgl
      rw [if_pos z']
    · rw [fs_st_o (by decide), r4 256 d (by decide) (by decide) (Or.inr (by decide)), q3]
      unfold fs_vco
      rw [if_pos z']
    · rw [fs_st_o (by decide)]
      exact f8
    · rw [fs_st_o (by decide), r4 260 d (by decide) (by decide) (Or.inr (by decide)), q5, z]
      omega
    · rw [fs_st_o (by decide), fs_st_o (by decide), (f61 i).1, (f61 i).2, if_pos z, if_pos z]
      constructor
      · split <;> rfl
      · split <;> rfl
    · rw [fs_st_s, if_pos z, f56]
  have lim : ∀ x : Int, 0 ≤ x → x ≤ 1000 → fs_lim x := fun x x0 x1 => by unfold fs_lim; omega
  refine E_Mo_arrives ⟨hf.1, hf.2, ?_⟩
  rw [show fs_w32 (9 * d) = 9 * d from fs_w32_of (by omega) (by omega), fs_w32_of (by omega) (by omega), ehd, et, q2, q3]
  refine ⟨by omega, by omega, hh.1, by omega, ?_⟩
  have hA : fs_env E (fs_st (fs_st M 258 d (M 253 d)) 254 d (M 230 hd)) := fun o k z => by
    rw [fs_st_o (by unfold fs_eC at z; omega), fs_st_o (by unfold fs_eC at z; omega)]
    exact R1 o k z
  have p4 : fs_st (fs_st M 258 d (M 253 d)) 254 d (M 230 hd) 231 hd = E 4 hd := by rw [hA 231 hd (by unfold fs_eC; omega), t4]
  have p3 : M 230 hd = E 3 hd := by rw [R1 230 hd (by unfold fs_eC; omega), t3]
  refine sp_calls hh.1 (by omega) (lim _ (by omega) (by omega)) (lim _ (by omega) (by omega)) (lim _ (by omega) (by omega)) (by rw [p4]; exact lim _ (by omega) (by omega)) (fun M1 o1 n1 => ⟨rfl, by omega, ?_⟩)
  rw [p4] at n1
  rw [p3] at o1
  have hE1 : fs_env E M1 := fun o k z => by
    rw [o1 o k (fun q => by have q' : o = 249 := q; unfold fs_eC at z; omega), ← p3]
    exact hA o k z
  have r1 : ∀ o k, o ≠ 249 → (o ≠ 258 ∨ k ≠ d) → (o ≠ 254 ∨ k ≠ d) → M1 o k = M o k := fun o k a b c => by
    rw [o1 o k a]
    have e1 : ∀ v, fs_st (fs_st M 258 d (M 253 d)) 254 d v o k = fs_st M 258 d (M 253 d) o k := fun v => by
      rcases c with c | c
      · exact fs_st_o c
      · exact fs_st_k c
    rw [e1]
    rcases b with b | b
    · exact fs_st_o b
    · exact fs_st_k b
  have f254 : M1 254 d = E 3 hd := by rw [o1 254 d (fun q => by have q' : (254 : Int) = 249 := q; omega), fs_st_s]
  have f258 : M1 258 d = M 253 d := by rw [o1 258 d (fun q => by have q' : (258 : Int) = 249 := q; omega), fs_st_o (by decide), fs_st_s]
  have o1' : fs_out fs_F6 M M1 := fun o k nF => r1 o k (fun z => nF (Or.inl (Or.inl z))) (Or.inl (fun z => nF (Or.inr (Or.inl (by omega))))) (Or.inl (fun z => nF (Or.inr (Or.inl (by omega)))))
  have a261 : ∀ k, M1 261 k = M 261 k := fun k => r1 261 k (by decide) (Or.inl (by decide)) (Or.inl (by decide))
  have a262 : ∀ k, M1 262 k = M 262 k := fun k => r1 262 k (by decide) (Or.inl (by decide)) (Or.inl (by decide))
  have a256 : M1 256 d = X.2 4 d := by rw [r1 256 d (by decide) (Or.inl (by decide)) (Or.inl (by decide)), q3]
  have a226 : ∀ k, M1 226 k = M 226 k := fun k => r1 226 k (by decide) (Or.inl (by decide)) (Or.inl (by decide))
  have vainM : ∀ M4, fs_out fs_F3 M1 M4 → fs_vok E tr d hd X.2 = 0 → fs_A2 g m_Mo_arrives 7 171 [(0, fs_r 226), (1, fs_i d), (2, fs_i (X.2 0 d)), (3, fs_i hd), (4, fs_i 0)] [] M4 K := by
    intro M4 o4 z
    have r4 : ∀ o k, 251 ≤ o → M4 o k = M1 o k := fun o k a => o4 o k (by unfold fs_F3; omega)
    refine vain M4 (o1'.tr (o4.wk (fun _ _ q => fs_F4_F6 (fs_F3_F4 q)))) z (fun o j a b c => ?_) (by rw [r4 _ _ (by decide)]; exact f254) (by rw [r4 _ _ (by decide)]; exact f258) (fun i => ⟨by rw [r4 _ _ (by decide)]; exact a261 i, by rw [r4 _ _ (by decide)]; exact a262 i⟩) ?_
    · rw [r4 o j (by omega)]
      exact r1 o j (by omega) (by omega) (by omega)
    · rw [o4 226 56 (by unfold fs_F3; omega)]
      exact a226 56
  rw [a261, s7, a256]
  refine ⟨fun z => vainM M1 fs_out.rf ?_, fun z => ⟨fun z2 => vainM M1 fs_out.rf ?_, fun z2 => ?_⟩⟩
  · unfold fs_vok fs_okN
    rw [if_neg z, if_pos rfl]
  · unfold fs_vok fs_okN
    rw [if_pos z, if_neg (by decide), if_pos (by omega)]
  · refine sp_may (hE1.rl T5) n1 (fun M2 o2 => ⟨_, rfl, ?_⟩)
    have ev : (if M1 226 42 = 5 then 1 else fs_mayN M1 (fs_nm 0 (X.2 3 d) (X.2 0 d) 0 (X.2 4 d) (E 4 hd) 0)) = fs_vok E tr d hd X.2 := by
      unfold fs_vok fs_okN
      rw [a226 42, R2a, if_pos z, if_neg (by decide : ¬ (1 : Int) = 0), if_neg (by omega : ¬ X.2 4 d = 0)]
      have e : fs_mayN M1 (fs_nm 0 (X.2 3 d) (X.2 0 d) 0 (X.2 4 d) (E 4 hd) 0) = fs_may M1 (X.2 0 d) (X.2 3 d) (X.2 4 d) (E 4 hd) 0 := rfl
      rw [e, hE1.may]
    rw [ev]
    refine ⟨fun z3 => vainM M2 o2 z3, fun z3 => ?_⟩
    have r2 : ∀ o k, 251 ≤ o → M2 o k = M1 o k := fun o k a => o2 o k (by unfold fs_F3; omega)
    have hE2 : fs_env E M2 := fs_F6_env hE1 (o2.wk (fun _ _ q => fs_F4_F6 (fs_F3_F4 q)))
    have s42 : M2 226 42 = tr := by rw [o2 226 42 (by unfold fs_F3; omega), a226, R2a]
    have vok1 : fs_okN E tr (if X.2 7 hd = -1 then 1 else 0) (X.2 0 d) (X.2 3 d) (X.2 4 d) hd = 1 := by
      rcases ob with w | w
      · exact absurd w z3
      · exact w
    have vok0 : ¬ fs_okN E tr (if X.2 7 hd = -1 then 1 else 0) (X.2 0 d) (X.2 3 d) (X.2 4 d) hd = 0 := by omega
    have e260 : M2 260 d = X.2 6 d := by rw [r2 _ _ (by decide), r1 260 d (by decide) (Or.inl (by decide)) (Or.inl (by decide)), q5]
    have e256 : M2 256 d = X.2 4 d := by rw [r2 _ _ (by decide), a256]
    -- row 137: done
    have did : ∀ M4, M4 = fs_st (fs_st (fs_st (fs_st M2 261 hd d) 262 hd (X.2 0 d)) 260 d (X.2 6 d + 1)) 256 d (fs_vco E tr (if X.2 7 hd = -1 then 1 else 0) (X.2 0 d) (X.2 3 d) (X.2 4 d) hd) → fs_A2 g m_Mo_arrives 7 137 [(0, fs_r 226), (1, fs_i d), (2, fs_i (X.2 0 d)), (3, fs_i hd), (4, fs_i 0)] [] M4 K := by
      intro M4 hM4
      have o4 : fs_out fs_F6 M M4 := by
        rw [hM4]
        refine ((((o1'.tr (o2.wk (fun _ _ q => fs_F4_F6 (fs_F3_F4 q)))).st ?_).st ?_).st ?_).st ?_ <;> (unfold fs_F6; omega)
      have rr : ∀ o j, o ≠ 261 → o ≠ 262 → (o ≠ 260 ∨ j ≠ d) → (o ≠ 256 ∨ j ≠ d) → M4 o j = M2 o j := fun o j a b c e => by
        rw [hM4]
        have x1 : ∀ N v, fs_st N 256 d v o j = N o j := fun N v => by
          rcases e with e | e
          · exact fs_st_o e
          · exact fs_st_k e
        have x2 : ∀ N v, fs_st N 260 d v o j = N o j := fun N v => by
          rcases c with c | c
          · exact fs_st_o c
          · exact fs_st_k c
        rw [x1, x2, fs_st_o b, fs_st_o a]
      have rc : ∀ o j, 253 ≤ o → o ≤ 260 → (j ≠ d ∨ o = 253 ∨ o = 257 ∨ o = 255 ∨ o = 259) → M4 o j = M o j := fun o j a b c => by
        rw [rr o j (by omega) (by omega) (by omega) (by omega), r2 o j (by omega), r1 o j (by omega) (by omega) (by omega)]
      have g4 : M4 254 d = E 3 hd := by rw [rr 254 d (by decide) (by decide) (Or.inl (by decide)) (Or.inl (by decide)), r2 _ _ (by decide), f254]
      have g8 : M4 258 d = M 253 d := by rw [rr 258 d (by decide) (by decide) (Or.inl (by decide)) (Or.inl (by decide)), r2 _ _ (by decide), f258]
      have g60 : M4 260 d = X.2 6 d + fs_vok E tr d hd X.2 := by
        rw [hM4, fs_st_o (by decide), fs_st_s]
        unfold fs_vok
        rw [vok1]
      have g56 : M4 256 d = fs_vco E tr (if X.2 7 hd = -1 then 1 else 0) (X.2 0 d) (X.2 3 d) (X.2 4 d) hd := by rw [hM4, fs_st_s]
      have g55 : M4 255 d = X.2 3 d := by rw [rc 255 d (by decide) (by decide) (by omega), q2]
      have g61 : ∀ i, M4 261 i = (if i = hd then (if fs_vok E tr d hd X.2 = 0 then M 261 i else d) else M 261 i) ∧ M4 262 i = (if i = hd then (if fs_vok E tr d hd X.2 = 0 then M 262 i else X.2 0 d) else M 262 i) := fun i => by
        rw [if_neg z3, if_neg z3, hM4]
        by_cases c : i = hd
        · rw [c, if_pos rfl, if_pos rfl, fs_st_o (by decide), fs_st_o (by decide), fs_st_o (by decide), fs_st_s, fs_st_o (by decide), fs_st_o (by decide), fs_st_s]
          exact ⟨rfl, rfl⟩
        · rw [if_neg c, if_neg c, fs_st_o (by decide), fs_st_o (by decide), fs_st_k c, fs_st_k c, fs_st_o (by decide), fs_st_o (by decide), fs_st_k c, fs_st_k c, r2 261 i (by decide), r2 262 i (by decide), a261, a262]
          exact ⟨rfl, rfl⟩
      have gv : M4 226 56 = (if fs_vok E tr d hd X.2 = 0 then fs_or (M 226 56) (fs_shl 1 hd) else M 226 56) := by
        rw [if_neg z3, rr 226 56 (by decide) (by decide) (Or.inl (by decide)) (Or.inl (by decide)), o2 226 56 (by unfold fs_F3; omega), a226]
      have e47 : M4 226 47 = rf := by rw [o4 226 47 (by unfold fs_F6 fs_F4; omega), hrf]
      refine L_Mo_arrives_137 ?_
      rw [e47]
      refine ⟨fun w => ?_, fun w => ⟨hf.1, hf.2, ?_⟩⟩
      · have w2 : ¬ fs_bit rf hd = 0 := w
        refine tail M4 0 o4 ?_ (fun o j a b c => rc o j a b (by omega)) g4 ?_ g56 g8 g60 g61 gv
        · unfold fs_vlv
          rw [if_neg vok0, if_neg w2]
          omega
        · unfold fs_vgl
          rw [if_neg vok0, if_neg w2]
          exact g55
      · have w2 : fs_bit rf hd = 0 := w
        rw [g55, fs_w32_of (by omega) (by omega)]
        have hE4 : fs_env E (fs_st M4 255 d (X.2 3 d + 1)) := fun o k q => by
          rw [fs_st_o (by unfold fs_eC at q; omega)]
          exact fs_F6_env R1 o4 o k q
        refine sp_asks (nm := fs_nm 0 (X.2 3 d) (X.2 0 d) 0 (X.2 4 d) (E 4 hd) 0) (by decide) (by decide) (by decide) (by decide) (hE4.rl T5) (fun j a b => ?_) (fun M5 o5 => ⟨_, rfl, ?_⟩)
        · have nn := n1 j a b
          rw [fs_st_o (by decide), rr 249 j (by decide) (by decide) (Or.inl (by decide)) (Or.inl (by decide)), o2 249 j (by unfold fs_F3; omega)]
          exact nn
        · rw [hE4.law.1]
          have r5 : ∀ o k, 251 ≤ o → (o ≠ 255 ∨ k ≠ d) → M5 o k = M4 o k := fun o k a b => by
            rw [o5 o k (by unfold fs_F3; omega)]
            rcases b with b | b
            · exact fs_st_o b
            · exact fs_st_k b
          refine tail M5 _ ((o4.st (by unfold fs_F6; omega)).tr (o5.wk (fun _ _ q => fs_F4_F6 (fs_F3_F4 q)))) ?_ (fun o j a b c => ?_) ?_ ?_ ?_ ?_ ?_ (fun i => ?_) ?_
          · unfold fs_vlv
            rw [if_neg vok0, if_pos w2]
            rfl
          · rw [r5 o j (by omega) (by omega)]
            exact rc o j a b (by omega)
          · rw [r5 254 d (by decide) (Or.inl (by decide))]; exact g4
          · rw [o5 255 d (by unfold fs_F3; omega), fs_st_s]
            unfold fs_vgl
            rw [if_neg vok0, if_pos w2]
          · rw [r5 256 d (by decide) (Or.inl (by decide))]; exact g56
          · rw [r5 258 d (by decide) (Or.inl (by decide))]; exact g8
          · rw [r5 260 d (by decide) (Or.inl (by decide))]; exact g60
          · rw [r5 261 i (by decide) (Or.inl (by decide)), r5 262 i (by decide) (Or.inl (by decide))]; exact g61 i
          · rw [o5 226 56 (by unfold fs_F3; omega), fs_st_o (by decide)]; exact gv
    rw [s42, e260, e256, fs_w32_of (by omega) (by omega), fs_w32_of (by omega) (by omega)]
    refine ⟨fun w => did _ ?_, fun w => did _ ?_⟩
    · unfold fs_vco
      rw [if_neg vok0, if_pos w]
      have e : X.2 4 d = fs_st (fs_st (fs_st M2 261 hd d) 262 hd (X.2 0 d)) 260 d (X.2 6 d + 1) 256 d := by
        rw [fs_st_o (by decide), fs_st_o (by decide), fs_st_o (by decide), e256]
      exact (fs_st_id e).symm
    · unfold fs_vco
      rw [if_neg vok0, if_neg w]
end MOSTEP
