-- ===== back =====
/-- the image laid where the plan stands: the class's plan from M1, the model's rows from M -/
def fs_bkE (M M1 : fs_M) : fs_M := fun o k => if 31 ≤ o ∧ o ≤ 36 then M1 o k else if o = 241 ∧ 0 ≤ k ∧ k < 27 then M 241 (27 + k) else if o = 242 ∧ 0 ≤ k ∧ k < 3 then M 242 (3 + k) else if (o = 243 ∨ o = 244) ∧ k = 0 then M o 1 else M o k
theorem fs_bkE_o {M M1 : fs_M} {o k : Int} (h : ¬ (31 ≤ o ∧ o ≤ 36)) (h2 : ¬ (241 ≤ o ∧ o ≤ 244)) : fs_bkE M M1 o k = M o k := by
  unfold fs_bkE
  rw [if_neg h, if_neg (by omega), if_neg (by omega), if_neg (by omega)]
theorem fs_bkE_p {M M1 : fs_M} {o k : Int} (h : 31 ≤ o ∧ o ≤ 36) : fs_bkE M M1 o k = M1 o k := by
  unfold fs_bkE
  rw [if_pos h]
theorem fs_bkE_m {M M1 : fs_M} : fs_mcp (fs_bkE M M1) 0 M 1 := by
  refine ⟨?_, ?_, fun d d0 d1 => ?_, fun k k0 k1 => ?_⟩
  · unfold fs_bkE
    rw [if_neg (by omega), if_neg (by omega), if_neg (by omega), if_pos (by omega)]
  · unfold fs_bkE
    rw [if_neg (by omega), if_neg (by omega), if_neg (by omega), if_pos (by omega)]
  · unfold fs_bkE
    rw [if_neg (by omega), if_neg (by omega), if_pos (by omega), show (3 : Int) + (3 * 0 + d) = 3 * 1 + d from by omega]
  · unfold fs_bkE
    rw [if_neg (by omega), if_pos (by omega), show (27 : Int) + (27 * 0 + k) = 27 * 1 + k from by omega]
section OPSG
variable {g : fs_G} {M : fs_M}
theorem op_back (h : fs_Rl M) : fs_C2 g m_Fs_back 9 [fs_r 0] M (fs_KK g m_Mo_back 10 [fs_r 226]) := by
  have hB := h.1
  have hT := h.2.1
  have hp := h.2.2.2.2.1
  have h3 := hB.2.2.2.1
  have h6 := hB.2.1
  obtain ⟨i1, i2⟩ := h.2.2.2.2.2.2.1
  refine E_Fs_back ⟨fun kz => ?_, fun kz => ⟨_, rfl, E_Mo_back ⟨fun z => absurd (by rw [← i1]; exact kz) z, fun _ => ⟨rfl, h.thr⟩⟩⟩⟩
  obtain ⟨jp, jz, n1, n2, n3⟩ := i2 kz
  refine sp_copyFrom io_31 io_217 (by omega) (fun M1 o1 c1 => ⟨rfl, sp_nightCopy io_54 io_223 (by omega) (fun M2 o2 a1 a2 a3 => ⟨rfl, E_Past_clear ⟨rfl, ?_⟩⟩)⟩)
  have q1 : ∀ o k, ¬ (31 ≤ o ∧ o ≤ 36) → M1 o k = M o k := fun o k q => o1 o k (by unfold fs_plc; omega)
  have q2 : ∀ o k, ¬ (54 ≤ o ∧ o ≤ 56) → M2 o k = M1 o k := fun o k q => o2 o k (fun z => by
    have z2 : (o = 54 ∧ (k = 2 ∨ k = 3)) ∨ o = 54 + 1 ∨ o = 54 + 2 := z
    omega)
  generalize hC : fs_st (fs_st M2 95 2 0) 60 5 0 = Mc
  have q3 : ∀ o k, ¬ (o = 95 ∧ k = 2) → ¬ (o = 60 ∧ k = 5) → Mc o k = M2 o k := fun o k q r => by
    rw [← hC]
    have e1 : fs_st (fs_st M2 95 2 0) 60 5 0 o k = fs_st M2 95 2 0 o k := by
      by_cases c : o = 60
      · exact fs_st_k (by omega)
      · exact fs_st_o c
    rw [e1]
    by_cases c : o = 95
    · exact fs_st_k (by omega)
    · exact fs_st_o c
  have c95 : Mc 95 2 = 0 := by
    rw [← hC, fs_st_o (by omega)]
    exact fs_st_s
  have c60 : Mc 60 5 = 0 := by
    rw [← hC]
    exact fs_st_s
  have eE : fs_env M (fs_bkE M M1) := fun o k q => fs_bkE_o (by unfold fs_eC at q; omega) (by unfold fs_eC at q; omega)
  have e9 : fs_bkE M M1 1 9 = M 1 9 := eE 1 9 (by unfold fs_eC; omega)
  have e5 : fs_bkE M M1 1 5 = M 1 5 := eE 1 5 (by unfold fs_eC; omega)
  have rE : fs_rp (fs_bkE M M1) 31 0 := jp.cp h3 ((fs_pcp_rf (fun o k a b => fs_bkE_p ⟨a, by omega⟩)).tr c1) fs_bkE_m e9 e5
  have hBE := eE.bE hB
  have hTE := eE.rt hT
  refine oc_gainE hBE rE (fun o k q => ?_) (fun M3 o3 => ⟨_, rfl, _, rfl, ?_⟩)
  · by_cases c : 31 ≤ o ∧ o ≤ 36
    · rw [q3 o k (by omega) (by omega), q2 o k (by omega), fs_bkE_p c]
    · have q' : fs_eC o := by
        rcases q with q | q
        · exact q
        · exact absurd q c
      rw [eE o k q']
      unfold fs_eC at q'
      rw [q3 o k (by omega) (by omega), q2 o k (by omega), q1 o k (by omega)]
  have nF : ∀ o k, ¬ (9 ≤ o ∧ o ≤ 14) → ¬ (43 ≤ o ∧ o ≤ 53) → ¬ fs_F5 o k := fun o k a b z => by
    unfold fs_F5 fs_F2 at z
    omega
  have q4 : ∀ o k, ¬ fs_F5 o k → ¬ (31 ≤ o ∧ o ≤ 36) → ¬ (54 ≤ o ∧ o ≤ 56) → ¬ (o = 95 ∧ k = 2) → ¬ (o = 60 ∧ k = 5) → M3 o k = M o k := fun o k r a b c d => by
    rw [o3 o k r, q3 o k c d, q2 o k b, q1 o k a]
  have m37 : M3 226 37 = M 0 13 := by rw [q4 226 37 (nF _ _ (by omega) (by omega)) (by omega) (by omega) (by omega) (by omega)]; exact i1.symm
  refine E_Mo_back ⟨fun _ => ?_, fun z => absurd (by rw [m37] at z; exact z) kz⟩
  refine sp_copies (by omega) (by omega) (by omega) (by omega) (by omega) (fun N1 p1 d1 => ⟨rfl, sp_copiesNight (by omega) (by omega) (by omega) (by omega) (by omega) (fun N2 p2 b1 b2 b3 => ⟨rfl, ?_⟩)⟩)
  have t1 : ∀ o k, ¬ (o = 226 ∧ k = 0) → fs_st M3 226 0 0 o k = M3 o k := fun o k q => by
    by_cases c : o = 226
    · exact fs_st_k (by omega)
    · exact fs_st_o c
  have p2' : ∀ o k, ¬ (245 ≤ o ∧ o ≤ 246 ∧ k = 0) → ¬ (247 ≤ o ∧ o ≤ 248 ∧ 0 ≤ k ∧ k < 6) → N2 o k = N1 o k := fun o k q r => p2 o k (fun z => by
    have z2 : ((o = 245 ∨ o = 246) ∧ k = 0) ∨ ((o = 247 ∨ o = 248) ∧ 6 * 0 ≤ k ∧ k < 6 * 0 + 6) := z
    omega)
  have t3 : ∀ o k, ¬ (o = 226 ∧ k = 38) → fs_st N2 226 38 0 o k = N2 o k := fun o k q => by
    by_cases c : o = 226
    · exact fs_st_k (by omega)
    · exact fs_st_o c
  have nm : ∀ b o k, ¬ (241 ≤ o ∧ o ≤ 244) → ¬ fs_mlc b o k := fun b o k q z => q (fs_mlc_O z)
  have al : ∀ o k, ¬ fs_F5 o k → ¬ (31 ≤ o ∧ o ≤ 36) → ¬ (54 ≤ o ∧ o ≤ 56) → ¬ (o = 95 ∧ k = 2) → ¬ (o = 60 ∧ k = 5) → ¬ (o = 226 ∧ (k = 0 ∨ k = 38)) → ¬ fs_mlc 0 o k → ¬ (245 ≤ o ∧ o ≤ 246 ∧ k = 0) → ¬ (247 ≤ o ∧ o ≤ 248 ∧ 0 ≤ k ∧ k < 6) → fs_st N2 226 38 0 o k = M o k := fun o k x1 x2 x3 x4 x5 x6 x7 x8 x9 => by
    rw [t3 o k (by omega), p2' o k x8 x9, p1 o k x7, t1 o k (by omega), q4 o k x1 x2 x3 x4 x5]
  have v4 : ∀ o k, 241 ≤ o → o ≤ 244 → fs_st M3 226 0 0 o k = M o k := fun o k a b => by
    rw [t1 o k (by omega), q4 o k (nF o k (by omega) (by omega)) (by omega) (by omega) (by omega) (by omega)]
  have dM : fs_mcp N1 0 M 1 := d1.tr (fs_mcp_o v4)
  refine om_gainE hBE hTE rE (fun o k q => ?_) (fun N4 o4 => ⟨_, rfl, rfl, ?_⟩)
  · by_cases c : fs_mlc 0 o k
    · have c2 := fs_mlc_O c
      rw [t3 o k (by omega), p2' o k (by omega) (by omega)]
      obtain ⟨u1, u2, u3, u4⟩ := dM
      obtain ⟨w1, w2, w3, w4⟩ := fs_bkE_m (M := M) (M1 := M1)
      unfold fs_mlc at c
      rcases c with ⟨c, d, e⟩ | ⟨c, d, e⟩ | ⟨c, d⟩
      · have y := u4 k (by omega) (by omega)
        have z := w4 k (by omega) (by omega)
        rw [show (27 : Int) * 0 + k = k from by omega] at y z
        rw [c, y, z]
      · have y := u3 k (by omega) (by omega)
        have z := w3 k (by omega) (by omega)
        rw [show (3 : Int) * 0 + k = k from by omega] at y z
        rw [c, y, z]
      · rw [d]
        rcases c with c | c
        · rw [c, u1, w1]
        · rw [c, u2, w2]
    · have q' : fs_eC o := by
        rcases q with q | q
        · exact q
        · exact absurd q c
      rw [eE o k q']
      unfold fs_eC at q'
      exact al o k (fun z => by
        unfold fs_F5 fs_F2 at z
        omega) (by omega) (by omega) (by omega) (by omega) (by omega) c (by omega) (by omega)
  have u : ∀ o k, ¬ fs_FM o k → N4 o k = fs_st N2 226 38 0 o k := o4
  have nf : ∀ o k, (o < 226 ∨ (227 ≤ o ∧ o ≤ 248) ∨ (o = 226 ∧ k = 38)) → ¬ fs_FM o k := fun o k q z => by
    unfold fs_FM fs_F9 fs_F6 fs_F8 fs_F4 at z
    omega
  have v : ∀ o k, 31 ≤ o → o ≤ 36 → N4 o k = M1 o k := fun o k a b => by
    rw [u o k (nf o k (by omega)), t3 o k (by omega), p2' o k (by omega) (by omega), p1 o k (nm _ _ _ (by omega)), t1 o k (by omega), o3 o k (nF o k (by omega) (by omega)), q3 o k (by omega) (by omega), q2 o k (by omega)]
  have v2 : ∀ o k, 54 ≤ o → o ≤ 56 → N4 o k = M2 o k := fun o k a b => by
    rw [u o k (nf o k (by omega)), t3 o k (by omega), p2' o k (by omega) (by omega), p1 o k (nm _ _ _ (by omega)), t1 o k (by omega), o3 o k (nF o k (by omega) (by omega)), q3 o k (by omega) (by omega)]
  have v3 : ∀ o k, 241 ≤ o → o ≤ 244 → N4 o k = N1 o k := fun o k a b => by
    rw [u o k (nf o k (by omega)), t3 o k (by omega), p2' o k (by omega) (by omega)]
  have v5 : ∀ o k, 245 ≤ o → o ≤ 248 → N4 o k = N2 o k := fun o k a b => by
    rw [u o k (nf o k (by omega)), t3 o k (by omega)]
  have v6 : ∀ o k, 245 ≤ o → o ≤ 248 → N1 o k = M o k := fun o k a b => by
    rw [p1 o k (nm _ _ _ (by omega)), t1 o k (by omega), q4 o k (nF o k (by omega) (by omega)) (by omega) (by omega) (by omega) (by omega)]
  have vv : ∀ o k, o < 226 → ¬ (31 ≤ o ∧ o ≤ 36) → ¬ (54 ≤ o ∧ o ≤ 56) → N4 o k = M3 o k := fun o k a b c => by
    rw [u o k (nf o k (by omega)), t3 o k (by omega), p2' o k (by omega) (by omega), p1 o k (nm _ _ _ (by omega)), t1 o k (by omega)]
  have v7 : ∀ k, N4 1 k = M 1 k := fun k => by
    rw [vv 1 k (by omega) (by omega) (by omega), q4 1 k (nF 1 k (by omega) (by omega)) (by omega) (by omega) (by omega) (by omega)]
  have f95 : N4 95 2 = 0 := by rw [vv 95 2 (by omega) (by omega) (by omega), o3 95 2 (nF _ _ (by omega) (by omega)), c95]
  have f60 : N4 60 5 = 0 := by rw [vv 60 5 (by omega) (by omega) (by omega), o3 60 5 (nF _ _ (by omega) (by omega)), c60]
  have f1 : N4 95 1 = M 95 1 := by rw [vv 95 1 (by omega) (by omega) (by omega), q4 95 1 (nF _ _ (by omega) (by omega)) (by omega) (by omega) (by omega) (by omega)]
  have f38 : N4 226 38 = 0 := by rw [u 226 38 (nf _ _ (by omega)), fs_st_s]
  have pc : fs_pcp N4 31 M 217 := (fs_pcp_rf (fun o k a b => v o k a (by omega))).tr c1
  have mc : fs_mcp N4 0 M 1 := (fs_mcp_o v3).tr dM
  have rp : fs_rp N4 31 0 := jp.cp h3 pc mc (v7 9) (v7 5)
  have rz : fs_rz N4 31 0 := jz.cp pc mc (v7 9)
  refine h.gen (fun o k q => ?_) ⟨by rw [f1]; exact hp.1, by rw [f1]; exact hp.2.1, by rw [f95]; omega, by rw [f95]; omega, by rw [f95, f38], rp, fun j j0 j1 => absurd j1 (by rw [f95]; omega)⟩ ⟨rz, fun j j0 j1 => absurd j1 (by rw [f95]; omega)⟩ ⟨?_, ?_, fun nz x x0 x1 => ?_⟩ (fs_bkS.none f60)
  · have hq : fs_sup o k := by
      unfold fs_supG at q
      unfold fs_sup
      rcases q with q | q | q | q | q | q | q | q | q | q | q | q | q
      · exact Or.inl q
      · exact Or.inr (Or.inl q)
      · exact Or.inr (Or.inr (Or.inl q))
      · exact Or.inr (Or.inr (Or.inr (Or.inl q)))
      · exact Or.inr (Or.inr (Or.inr (Or.inr (Or.inl q))))
      · exact Or.inr (Or.inr (Or.inr (Or.inr (Or.inr (Or.inr (Or.inr (Or.inl (by omega))))))))
      · exact Or.inr (Or.inr (Or.inr (Or.inr (Or.inr (Or.inr (Or.inr (Or.inr (Or.inl (by omega)))))))))
      · exact Or.inr (Or.inr (Or.inr (Or.inr (Or.inr (Or.inr (Or.inr (Or.inr (Or.inr (Or.inl (by omega))))))))))
      · exact Or.inr (Or.inr (Or.inr (Or.inr (Or.inr (Or.inr (Or.inr (Or.inr (Or.inr (Or.inr (Or.inl q))))))))))
      · have q2 := fs_mlc_O q
        exact Or.inr (Or.inr (Or.inr (Or.inr (Or.inr (Or.inr (Or.inr (Or.inr (Or.inr (Or.inr (Or.inr (Or.inl (by omega))))))))))))
      · exact Or.inr (Or.inr (Or.inr (Or.inr (Or.inr (Or.inr (Or.inr (Or.inr (Or.inr (Or.inr (Or.inr (Or.inl (by omega))))))))))))
      · exact Or.inr (Or.inr (Or.inr (Or.inr (Or.inr (Or.inr (Or.inr (Or.inr (Or.inr (Or.inr (Or.inr (Or.inl (by omega))))))))))))
      · exact Or.inr (Or.inr (Or.inr (Or.inr (Or.inr (Or.inr (Or.inr (Or.inr (Or.inr (Or.inr (Or.inr (Or.inr q)))))))))))
    rw [u o k (fun z => fs_nM o k z (Or.inl hq))]
    have n5 : ¬ fs_F5 o k := fun z => fs_n5 o k z (Or.inl hq)
    have m0 : ¬ fs_mlc 0 o k := fun z => by
      have z2 := fs_mlc_O z
      have z3 : fs_mlc 1 o k := by
        unfold fs_supG at q
        unfold fs_eC at q
        rcases q with q | q | q | q | q | q | q | q | q | q | q | q | q
        · omega
        · omega
        · omega
        · omega
        · omega
        · omega
        · omega
        · omega
        · omega
        · exact q
        · omega
        · omega
        · omega
      exact fs_mlc_dis z (by omega) z3
    have w : ¬ (31 ≤ o ∧ o ≤ 36) ∧ ¬ (54 ≤ o ∧ o ≤ 56) ∧ ¬ (o = 95 ∧ k = 2) ∧ ¬ (o = 60 ∧ k = 5) ∧ ¬ (o = 226 ∧ (k = 0 ∨ k = 38)) ∧ ¬ (245 ≤ o ∧ o ≤ 246 ∧ k = 0) ∧ ¬ (247 ≤ o ∧ o ≤ 248 ∧ 0 ≤ k ∧ k < 6) := by
      unfold fs_supG at q
      unfold fs_eC at q
      rcases q with q | q | q | q | q | q | q | q | q | q | q | q | q
      · omega
      · omega
      · omega
      · omega
      · omega
      · omega
      · omega
      · omega
      · omega
      · have q2 := fs_mlc_O q
        omega
      · omega
      · omega
      · omega
    exact al o k n5 w.1 w.2.1 w.2.2.1 w.2.2.2.1 w.2.2.2.2.1 m0 w.2.2.2.2.2.1 w.2.2.2.2.2.2
  · rw [v2 54 3 (by omega) (by omega), v5 245 0 (by omega) (by omega), a2, b1, q1 223 3 (by omega), v6 245 1 (by omega) (by omega)]
    exact n1
  · rw [v2 54 2 (by omega) (by omega), v5 246 0 (by omega) (by omega), a1, b2, q1 223 2 (by omega), v6 246 1 (by omega) (by omega)]
    exact n2
  · rw [v7 5] at x1
    rw [v2 54 2 (by omega) (by omega), a1, q1 223 2 (by omega)] at nz
    obtain ⟨y1, y2⟩ := n3 nz x x0 x1
    obtain ⟨z1, z2⟩ := a3 x x0 (by omega)
    obtain ⟨w1, w2⟩ := b3 x x0 (by omega)
    rw [v2 (54 + 1) x (by omega) (by omega), v2 (54 + 2) x (by omega) (by omega), v5 247 _ (by omega) (by omega), v5 248 _ (by omega) (by omega), z1, z2, w1, w2, q1 _ x (by omega), q1 _ x (by omega), v6 247 _ (by omega) (by omega), v6 248 _ (by omega) (by omega)]
    exact ⟨y1, y2⟩
end OPSG
