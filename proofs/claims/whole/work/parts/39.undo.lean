-- ===== undo =====
section UNDO
variable {g : fs_G}
/-- the class goes back to the last that it remembers -/
theorem oc_undo {M : fs_M} {K : fs_K} (hp : fs_pr M) (h0 : M 95 2 = 0 → K (some (fs_i (-1))) M)
    (h1 : M 95 2 ≠ 0 → ∀ M', fs_out (fun o k => fs_plc 31 o k ∨ (o = 95 ∧ k = 2) ∨ (o = 60 ∧ k = 5)) M M' → M' 95 2 = M 95 2 - 1 → fs_pcp M' 31 M (fs_slot (M 95 1) (M 95 2 - 1)) → M' 60 5 = 0 → K (some (fs_i (M 95 2 - 1))) M') : fs_C2 g m_Fs_undo 3 [fs_r 0] M K := by
  obtain ⟨p1, p2, p3, p4, p5, p6, p7⟩ := hp
  refine E_Fs_undo ⟨fun z => E_Past_recall io_31 ⟨fun w => absurd w (by omega), fun _ => ?_⟩, fun z => h0 z⟩
  rw [show fs_w32 (M 95 2 - 1) = M 95 2 - 1 from fs_w32_of (by omega) (by omega), fs_w32_of (by omega) (by omega), fs_remP (by omega) (by omega) (by decide) (by decide)]
  refine ⟨by omega, by omega, ?_⟩
  have sb := fs_slot_b (M 95 1) (M 95 2 - 1)
  refine sp_copyFrom (p := 31) (q := fs_slot (M 95 1) (M 95 2 - 1)) io_31 fs_slot_O (by omega) (fun M1 o1 c1 => ⟨rfl, rfl, ?_⟩)
  have e2 : M1 95 2 = M 95 2 - 1 := by rw [o1 95 2 (by unfold fs_plc; omega), fs_st_s]
  rw [e2]
  refine h1 z _ ?_ (by rw [fs_st_o (by decide)]; exact e2) ?_ (by rw [fs_st_s])
  · refine fs_out.st (fs_out.tr (fs_out.st fs_out.rf ?_) (o1.wk (fun _ _ q => Or.inl q))) ?_
    · exact Or.inr (Or.inl ⟨rfl, rfl⟩)
    · exact Or.inr (Or.inr ⟨rfl, rfl⟩)
  · obtain ⟨x1, x2, x3⟩ := c1
    refine ⟨by rw [fs_st_o (by decide), x1, fs_st_o (by omega)], by rw [fs_st_o (by decide), x2, fs_st_o (by omega)], fun d d0 d1 => ?_⟩
    obtain ⟨y1, y2⟩ := x3 d d0 d1
    rw [fs_st_o (by omega), y1, fs_st_o (by omega)]
    refine ⟨rfl, fun k k0 k1 => ?_⟩
    rw [fs_st_o (by omega), y2 k k0 k1, fs_st_o (by omega)]
theorem om_undo {M : fs_M} {K : fs_K} {len : Int} (hl : M 226 38 = len) (l0 : 0 ≤ len) (l1 : len ≤ 20) (h0 : len = 0 → K (some (fs_i (-1))) (fs_st M 226 0 0))
    (h1 : len ≠ 0 → ∀ M', fs_out (fun o k => fs_mlc 0 o k ∨ (o = 226 ∧ (k = 0 ∨ k = 38))) M M' → M' 226 38 = len - 1 → fs_mcp M' 0 M (2 + (len - 1)) → K (some (fs_i (len - 1))) M') : fs_C2 g m_Mo_undo 2 [fs_r 226] M K := by
  refine E_Mo_undo ⟨fun z => ?_, fun z => h0 (by omega)⟩
  rw [hl, show fs_w32 (len - 1) = len - 1 from fs_w32_of (by omega) (by omega), fs_w32_of (by omega) (by omega)]
  refine sp_copies (by decide) (by decide) (by omega) (by omega) (by omega) (fun M1 o1 c1 => ⟨rfl, ?_⟩)
  have e2 : M1 226 38 = len - 1 := by rw [o1 226 38 (by unfold fs_mlc; omega), fs_st_s]
  rw [e2]
  refine h1 (by omega) M1 ?_ e2 (c1.tr ((fs_mcp_st rfl).tr (fs_mcp_st rfl)))
  refine fs_out.tr (fs_out.st (fs_out.st fs_out.rf ?_) ?_) (o1.wk (fun _ _ q => Or.inl q))
  · exact Or.inr ⟨rfl, Or.inl rfl⟩
  · exact Or.inr ⟨rfl, Or.inr rfl⟩
/-- the past behind an undo is again the same for both -/
theorem fs_pr.undo {M M1 M2 : fs_M} (hB : M 1 9 ≤ 3) (h : fs_pr M) (hz : M 95 2 ≠ 0) (o1 : fs_out (fun o k => fs_plc 31 o k ∨ (o = 95 ∧ k = 2) ∨ (o = 60 ∧ k = 5)) M M1) (e1 : M1 95 2 = M 95 2 - 1) (c1 : fs_pcp M1 31 M (fs_slot (M 95 1) (M 95 2 - 1)))
    (o2 : fs_out (fun o k => fs_mlc 0 o k ∨ (o = 226 ∧ (k = 0 ∨ k = 38))) M1 M2) (e2 : M2 226 38 = M1 226 38 - 1) (c2 : fs_mcp M2 0 M1 (2 + (M1 226 38 - 1))) : fs_pr M2 := by
  obtain ⟨p1, p2, p3, p4, p5, p6, p7⟩ := h
  have cls : ∀ o k, o ≤ 225 → M2 o k = M1 o k := fun o k a => o2 o k (fun q => by
    have q2 : fs_mlc 0 o k ∨ (o = 226 ∧ (k = 0 ∨ k = 38)) := q
    unfold fs_mlc at q2
    omega)
  have mdl : ∀ o k, 226 ≤ o → M1 o k = M o k := fun o k a => o1 o k (fun q => by
    have q2 : fs_plc 31 o k ∨ (o = 95 ∧ k = 2) ∨ (o = 60 ∧ k = 5) := q
    unfold fs_plc at q2
    omega)
  have c0 : ∀ o k, o ≤ 30 ∨ (97 ≤ o ∧ o ≤ 225) ∨ (o = 95 ∧ k = 1) → M1 o k = M o k := fun o k a => o1 o k (fun q => by
    have q2 : fs_plc 31 o k ∨ (o = 95 ∧ k = 2) ∨ (o = 60 ∧ k = 5) := q
    unfold fs_plc at q2
    omega)
  have m38 : M1 226 38 = M 95 2 := by rw [mdl 226 38 (by decide), p5]
  rw [m38] at e2 c2
  have e9 : M2 1 9 = M 1 9 := by rw [cls 1 9 (by decide), c0 1 9 (Or.inl (by decide))]
  have e5 : M2 1 5 = M 1 5 := by rw [cls 1 5 (by decide), c0 1 5 (Or.inl (by decide))]
  have x1 : M2 95 1 = M 95 1 := by rw [cls 95 1 (by decide), c0 95 1 (by omega)]
  have x2 : M2 95 2 = M 95 2 - 1 := by rw [cls 95 2 (by decide), e1]
  have mm : ∀ b, fs_mcp M1 b M b := fun b => fs_mcp_o (fun o k a b => mdl o k (by omega))
  have top := p7 (M 95 2 - 1) (by omega) (by omega)
  refine ⟨by omega, by omega, by omega, by omega, by omega, ?_, fun j j0 j1 => ?_⟩
  · exact top.cp hB ((fs_pcp_rf (fun o k a b => cls o k (by omega))).tr c1) (c2.tr (mm _)) e9 e5
  · rw [x1]
    have sb := fs_slot_b (M 95 1) j
    refine (p7 j j0 (by omega)).cp hB (fs_pcp_rf (fun o k a b => ?_)) ?_ e9 e5
    · rw [cls o k (by omega), c0 o k (by omega)]
    · refine fs_mcp.tr ?_ (mm _)
      have q : ∀ o k, (o = 241 → 54 ≤ k) → (o = 242 → 6 ≤ k) → (o = 243 ∨ o = 244 → 2 ≤ k) → 241 ≤ o → o ≤ 244 → M2 o k = M1 o k := fun o k a b c d e => o2 o k (fun q => by
        have q2 : fs_mlc 0 o k ∨ (o = 226 ∧ (k = 0 ∨ k = 38)) := q
        unfold fs_mlc at q2
        omega)
      exact ⟨q _ _ (by omega) (by omega) (by omega) (by decide) (by decide), q _ _ (by omega) (by omega) (by omega) (by decide) (by decide), fun d d0 d1 => q _ _ (by omega) (by omega) (by omega) (by decide) (by decide), fun k k0 k1 => q _ _ (by omega) (by omega) (by omega) (by decide) (by decide)⟩
end UNDO
