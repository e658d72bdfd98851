-- ===== keep, back =====
theorem fs_pr.cong2 {M M' : fs_M} (h : fs_pr M) (h3 : M 1 9 ≤ 3) (he : ∀ o k, o = 1 ∨ (31 ≤ o ∧ o ≤ 36) ∨ (o = 95 ∧ (k = 1 ∨ k = 2)) ∨ (97 ≤ o ∧ o ≤ 216) ∨ (o = 226 ∧ k = 38) → M' o k = M o k) (hm : ∀ b o k, b ≠ 1 → fs_mlc b o k → M' o k = M o k) : fs_pr M' := by
  obtain ⟨a, b, c, d, e, f, k⟩ := h
  have x1 := he 95 1 (by omega)
  have x2 := he 95 2 (by omega)
  refine ⟨by rw [x1]; exact a, by rw [x1]; exact b, by rw [x2]; exact c, by rw [x2]; exact d, by rw [x2, he 226 38 (by omega)]; exact e, f.cong2 h3 (fun o k q => ?_), fun j j0 j1 => ?_⟩
  · rcases q with q | q | q
    · exact he o k (by omega)
    · exact he o k (by omega)
    · exact hm 0 o k (by omega) q
  · rw [x2] at j1
    rw [x1]
    have sb := fs_slot_b (M 95 1) j
    refine (k j j0 j1).cong2 h3 (fun o k q => ?_)
    rcases q with q | q | q
    · exact he o k (by omega)
    · exact he o k (by omega)
    · exact hm (2 + j) o k (by omega) q
theorem fs_prz.cong2 {M M' : fs_M} (h : fs_prz M) (he : ∀ o k, o = 1 ∨ (31 ≤ o ∧ o ≤ 36) ∨ (o = 95 ∧ (k = 1 ∨ k = 2)) ∨ (97 ≤ o ∧ o ≤ 216) ∨ (o = 226 ∧ k = 38) → M' o k = M o k) (hm : ∀ b o k, b ≠ 1 → fs_mlc b o k → M' o k = M o k) : fs_prz M' := by
  obtain ⟨f, k⟩ := h
  refine ⟨f.cong2 (fun o k q => ?_), fun j j0 j1 => ?_⟩
  · rcases q with q | q | q
    · exact he o k (by omega)
    · exact he o k (by omega)
    · exact hm 0 o k (by omega) q
  · rw [he 95 2 (by omega)] at j1
    rw [he 95 1 (by omega)]
    have sb := fs_slot_b (M 95 1) j
    refine (k j j0 j1).cong2 (fun o k q => ?_)
    rcases q with q | q | q
    · exact he o k (by omega)
    · exact he o k (by omega)
    · exact hm (2 + j) o k (by omega) q
def fs_imc (o k : Int) : Prop := (o = 0 ∧ k = 13) ∨ (217 ≤ o ∧ o ≤ 225) ∨ (o = 226 ∧ k = 37) ∨ fs_mlc 1 o k ∨ (245 ≤ o ∧ o ≤ 246 ∧ k = 1) ∨ (247 ≤ o ∧ o ≤ 248 ∧ 6 ≤ k ∧ k < 12)
theorem fs_mlc_dis {b c o k : Int} (h : fs_mlc b o k) (hd : b ≠ c) : ¬ fs_mlc c o k := by
  unfold fs_mlc at h ⊢
  omega
theorem fs_mlc_O {b o k : Int} (h : fs_mlc b o k) : 241 ≤ o ∧ o ≤ 244 := by unfold fs_mlc at h; omega
theorem fs_Rl.im {M M' : fs_M} (h : fs_Rl M) (he : ∀ o k, fs_sup o k ∨ fs_supB o k → ¬ fs_imc o k → M' o k = M o k) (hi : fs_img M') : fs_Rl M' := by
  obtain ⟨a, b, c, d, e, f, i, n, t, r, kb⟩ := h
  have h3 := a.2.2.2.1
  have h6 := a.2.1
  have nm : ∀ b o k, ¬ (241 ≤ o ∧ o ≤ 244) → ¬ fs_mlc b o k := fun b o k q z => q (fs_mlc_O z)
  have env : fs_env M M' := fun o k q => he o k (Or.inl (Or.inr (Or.inl q))) (fun z => by
    unfold fs_eC at q
    rcases z with z | z | z | z | z | z
    · omega
    · omega
    · omega
    · exact nm _ _ _ (by omega) z
    · omega
    · omega)
  have h9 : M' 9 2 = M 9 2 := he 9 2 (Or.inl (Or.inr (Or.inr (Or.inl ⟨rfl, rfl⟩)))) (by unfold fs_imc fs_mlc; omega)
  have s : ∀ o k, o = 1 ∨ (o = 29 ∧ 1 ≤ k ∧ k ≤ 3) ∨ o = 30 ∨ (31 ≤ o ∧ o ≤ 36) ∨ (54 ≤ o ∧ o ≤ 56) ∨ (90 ≤ o ∧ o ≤ 95) ∨ (97 ≤ o ∧ o ≤ 216) ∨ (o = 226 ∧ (k = 2 ∨ k = 25 ∨ k = 26 ∨ k = 38 ∨ k = 68 ∨ k = 69)) ∨ o = 227 ∨ (265 ≤ o ∧ o ≤ 267) → M' o k = M o k := fun o k q => by
    apply he o k
    · apply Or.inl
      rcases q with q | q | q | q | q | q | q | q | q | q
      · exact Or.inr (Or.inl (by unfold fs_eC; omega))
      · exact Or.inr (Or.inr (Or.inr (Or.inl q)))
      · exact Or.inr (Or.inr (Or.inr (Or.inr (Or.inl q))))
      · exact Or.inr (Or.inr (Or.inr (Or.inr (Or.inr (Or.inl q)))))
      · exact Or.inr (Or.inr (Or.inr (Or.inr (Or.inr (Or.inr (Or.inl q))))))
      · exact Or.inr (Or.inr (Or.inr (Or.inr (Or.inr (Or.inr (Or.inr (Or.inl q)))))))
      · exact Or.inr (Or.inr (Or.inr (Or.inr (Or.inr (Or.inr (Or.inr (Or.inr (Or.inl (by omega)))))))))
      · exact Or.inr (Or.inr (Or.inr (Or.inr (Or.inr (Or.inr (Or.inr (Or.inr (Or.inr (Or.inl (by omega))))))))))
      · exact Or.inr (Or.inr (Or.inr (Or.inr (Or.inr (Or.inr (Or.inr (Or.inr (Or.inr (Or.inr (Or.inl q))))))))))
      · exact Or.inr (Or.inr (Or.inr (Or.inr (Or.inr (Or.inr (Or.inr (Or.inr (Or.inr (Or.inr (Or.inr (Or.inr q)))))))))))
    · intro z
      have hz : ¬ fs_mlc 1 o k := nm _ _ _ (by rcases q with q | q | q | q | q | q | q | q | q | q <;> omega)
      rcases z with z | z | z | z | z | z
      · rcases q with q | q | q | q | q | q | q | q | q | q <;> omega
      · rcases q with q | q | q | q | q | q | q | q | q | q <;> omega
      · rcases q with q | q | q | q | q | q | q | q | q | q <;> omega
      · exact hz z
      · rcases q with q | q | q | q | q | q | q | q | q | q <;> omega
      · rcases q with q | q | q | q | q | q | q | q | q | q <;> omega
  have sm : ∀ b o k, b ≠ 1 → fs_mlc b o k → M' o k = M o k := fun b o k hb q => by
    have q2 := fs_mlc_O q
    refine he o k (Or.inl (Or.inr (Or.inr (Or.inr (Or.inr (Or.inr (Or.inr (Or.inr (Or.inr (Or.inr (Or.inr (Or.inr (Or.inl ⟨by omega, by omega⟩))))))))))))) (fun z => ?_)
    rcases z with z | z | z | z | z | z
    · omega
    · omega
    · omega
    · exact fs_mlc_dis q hb z
    · omega
    · omega
  have sn : ∀ o k, (245 ≤ o ∧ o ≤ 246 ∧ k = 0) ∨ (247 ≤ o ∧ o ≤ 248 ∧ 6 * 0 ≤ k ∧ k < 6 * 0 + 6) → M' o k = M o k := fun o k q => by
    refine he o k (Or.inl (Or.inr (Or.inr (Or.inr (Or.inr (Or.inr (Or.inr (Or.inr (Or.inr (Or.inr (Or.inr (Or.inr (Or.inl ⟨by omega, by omega⟩))))))))))))) (fun z => ?_)
    rcases z with z | z | z | z | z | z
    · omega
    · omega
    · omega
    · exact nm _ _ _ (by omega) z
    · omega
    · omega
  have sb : ∀ o k, fs_eC o ∨ o = 31 ∨ fs_supB o k → M' o k = M o k := fun o k q => by
    rcases q with q | q | q
    · exact env o k q
    · exact s o k (by omega)
    · refine he o k (Or.inr q) (fun z => ?_)
      unfold fs_supB at q
      rcases z with z | z | z | z | z | z
      · omega
      · omega
      · omega
      · exact nm _ _ _ (by omega) z
      · omega
      · omega
  refine ⟨env.bE a, env.rt b, c.cong env, d.cong env h9, e.cong2 h3 (fun o k q => s o k (by omega)) sm, f.cong2 (fun o k q => s o k (by omega)) sm, hi, n.cong2 h6 (fun o k q => ?_), t.cong (fun o k q => ?_), r.cong (fun o k q => s o k (by omega)), fs_bkS.next h3 kb sb⟩
  · rcases q with q | q | q | q
    · exact s o k (by omega)
    · exact s o k (by omega)
    · exact sn o k (Or.inl q)
    · exact sn o k (Or.inr q)
  · exact s o k (by omega)
section OPSF
variable {g : fs_G} {M : fs_M}
theorem op_keep (h : fs_Rl M) : fs_C2 g m_Fs_keep 9 [fs_r 0] M (fs_KK g m_Mo_keep 10 [fs_r 226]) := by
  have hB := h.1
  have hT := h.2.1
  have hp := h.2.2.2.2.1.2.2.2.2.2.1
  have hz := h.2.2.2.2.2.1.1
  have h3 := hB.2.2.2.1
  have h6 := hB.2.1
  obtain ⟨n1, n2, n3⟩ := h.2.2.2.2.2.2.2.1
  refine E_Fs_keep (sp_copyFrom io_217 io_31 (by omega) (fun M1 o1 c1 => ⟨rfl, sp_nightCopy io_223 io_54 (by omega) (fun M2 o2 a1 a2 a3 => ⟨rfl, ?_⟩)⟩))
  have q1 : ∀ o k, ¬ (217 ≤ o ∧ o ≤ 222) → M1 o k = M o k := fun o k q => o1 o k (by unfold fs_plc; omega)
  have q2 : ∀ o k, ¬ (223 ≤ o ∧ o ≤ 225) → M2 o k = M1 o k := fun o k q => o2 o k (fun z => by
    have z2 : (o = 223 ∧ (k = 2 ∨ k = 3)) ∨ o = 223 + 1 ∨ o = 223 + 2 := z
    omega)
  have q3 : ∀ o k, ¬ (217 ≤ o ∧ o ≤ 225) → fs_st M2 0 13 1 o k = if o = 0 ∧ k = 13 then 1 else M o k := fun o k q => by
    by_cases c : o = 0 ∧ k = 13
    · rw [if_pos c, c.1, c.2, fs_st_s]
    · rw [if_neg c]
      have e : fs_st M2 0 13 1 o k = M2 o k := by
        by_cases c2 : o = 0
        · exact fs_st_k (by omega)
        · exact fs_st_o c2
      rw [e, q2 o k (by omega), q1 o k (by omega)]
  refine oc_gainE hB hp (fun o k q => ?_) (fun M3 o3 => ⟨_, rfl, _, rfl, ?_⟩)
  · unfold fs_eC at q
    rw [q3 o k (by omega), if_neg (by omega)]
  have q4 : ∀ o k, ¬ fs_F5 o k → ¬ (217 ≤ o ∧ o ≤ 225) → M3 o k = if o = 0 ∧ k = 13 then 1 else M o k := fun o k r q => (o3 o k r).trans (q3 o k q)
  have nF : ∀ o k, ¬ (9 ≤ o ∧ o ≤ 14) → ¬ (43 ≤ o ∧ o ≤ 53) → ¬ fs_F5 o k := fun o k a b z => by
    unfold fs_F5 fs_F2 at z
    omega
  refine E_Mo_keep (sp_copies (by omega) (by omega) (by omega) (by omega) (by omega) (fun N1 p1 d1 => ⟨rfl, sp_copiesNight (by omega) (by omega) (by omega) (by omega) (by omega) (fun N2 p2 b1 b2 b3 => ⟨rfl, ?_⟩)⟩))
  have t1 : ∀ o k, ¬ (o = 226 ∧ k = 0) → fs_st M3 226 0 0 o k = M3 o k := fun o k q => by
    by_cases c : o = 226
    · exact fs_st_k (by omega)
    · exact fs_st_o c
  have p2' : ∀ o k, ¬ (245 ≤ o ∧ o ≤ 246 ∧ k = 1) → ¬ (247 ≤ o ∧ o ≤ 248 ∧ 6 ≤ k ∧ k < 12) → N2 o k = N1 o k := fun o k q r => p2 o k (fun z => by
    have z2 : ((o = 245 ∨ o = 246) ∧ k = 1) ∨ ((o = 247 ∨ o = 248) ∧ 6 * 1 ≤ k ∧ k < 6 * 1 + 6) := z
    omega)
  have t3 : ∀ o k, ¬ (o = 226 ∧ k = 37) → fs_st N2 226 37 1 o k = N2 o k := fun o k q => by
    by_cases c : o = 226
    · exact fs_st_k (by omega)
    · exact fs_st_o c
  have al : ∀ o k, ¬ fs_F5 o k → ¬ fs_imc o k → ¬ (o = 226 ∧ k = 0) → fs_st N2 226 37 1 o k = M o k := fun o k q r w => by
    have i0 : ¬ (o = 0 ∧ k = 13) := fun z => r (Or.inl z)
    have i1 : ¬ (217 ≤ o ∧ o ≤ 225) := fun z => r (Or.inr (Or.inl z))
    have i2 : ¬ (o = 226 ∧ k = 37) := fun z => r (Or.inr (Or.inr (Or.inl z)))
    have i3 : ¬ fs_mlc 1 o k := fun z => r (Or.inr (Or.inr (Or.inr (Or.inl z))))
    have i4 : ¬ (245 ≤ o ∧ o ≤ 246 ∧ k = 1) := fun z => r (Or.inr (Or.inr (Or.inr (Or.inr (Or.inl z)))))
    have i5 : ¬ (247 ≤ o ∧ o ≤ 248 ∧ 6 ≤ k ∧ k < 12) := fun z => r (Or.inr (Or.inr (Or.inr (Or.inr (Or.inr z)))))
    rw [t3 o k i2, p2' o k i4 i5, p1 o k i3, t1 o k w, q4 o k q i1, if_neg i0]
  have nm : ∀ b o k, ¬ (241 ≤ o ∧ o ≤ 244) → ¬ fs_mlc b o k := fun b o k q z => q (fs_mlc_O z)
  refine om_gainE hB hT hp (fun o k q => ?_) (fun N4 o4 => ⟨_, rfl, rfl, ?_⟩)
  · have q2 : (fs_eC o ∧ ¬ (241 ≤ o ∧ o ≤ 244)) ∨ fs_mlc 0 o k := by
      rcases q with q | q
      · exact Or.inl ⟨q, by unfold fs_eC at q; omega⟩
      · exact Or.inr q
    have o9 : ¬ (9 ≤ o ∧ o ≤ 14 ∧ (o = 9 ∨ o = 14)) ∧ ¬ (43 ≤ o ∧ o ≤ 53) ∧ o ≠ 0 ∧ ¬ (217 ≤ o ∧ o ≤ 227) ∧ ¬ (245 ≤ o ∧ o ≤ 248) := by
      rcases q with q | q
      · unfold fs_eC at q; omega
      · have q5 := fs_mlc_O q; omega
    have m1 : ¬ fs_mlc 1 o k := by
      rcases q2 with q2 | q2
      · exact nm _ _ _ q2.2
      · exact fs_mlc_dis q2 (by omega)
    refine al o k (fun z => ?_) (fun z => ?_) (by omega)
    · unfold fs_F5 fs_F2 at z
      omega
    · rcases z with z | z | z | z | z | z
      · omega
      · omega
      · omega
      · exact m1 z
      · omega
      · omega
  have u : ∀ o k, ¬ fs_FM o k → N4 o k = fs_st N2 226 37 1 o k := o4
  have nf : ∀ o k, (o < 226 ∨ (227 ≤ o ∧ o ≤ 248) ∨ (o = 226 ∧ k = 37)) → ¬ fs_FM o k := fun o k q z => by
    unfold fs_FM fs_F9 fs_F6 fs_F8 fs_F4 at z
    omega
  have v : ∀ o k, 217 ≤ o → o ≤ 222 → N4 o k = M1 o k := fun o k a b => by
    rw [u o k (nf o k (by omega)), t3 o k (by omega), p2' o k (by omega) (by omega), p1 o k (nm _ _ _ (by omega)), t1 o k (by omega), o3 o k (nF o k (by omega) (by omega)), fs_st_o (by omega), q2 o k (by omega)]
  have v2 : ∀ o k, 223 ≤ o → o ≤ 225 → N4 o k = M2 o k := fun o k a b => by
    rw [u o k (nf o k (by omega)), t3 o k (by omega), p2' o k (by omega) (by omega), p1 o k (nm _ _ _ (by omega)), t1 o k (by omega), o3 o k (nF o k (by omega) (by omega)), fs_st_o (by omega)]
  have v3 : ∀ o k, 241 ≤ o → o ≤ 244 → N4 o k = N1 o k := fun o k a b => by
    rw [u o k (nf o k (by omega)), t3 o k (by omega), p2' o k (by omega) (by omega)]
  have v4 : ∀ o k, 241 ≤ o → o ≤ 244 → fs_st M3 226 0 0 o k = M o k := fun o k a b => by
    rw [t1 o k (by omega), q4 o k (nF o k (by omega) (by omega)) (by omega), if_neg (by omega)]
  have v5 : ∀ o k, 245 ≤ o → o ≤ 248 → N4 o k = N2 o k := fun o k a b => by
    rw [u o k (nf o k (by omega)), t3 o k (by omega)]
  have v6 : ∀ o k, 245 ≤ o → o ≤ 248 → N1 o k = M o k := fun o k a b => by
    rw [p1 o k (nm _ _ _ (by omega)), t1 o k (by omega), q4 o k (nF o k (by omega) (by omega)) (by omega), if_neg (by omega)]
  have v7 : ∀ k, N4 1 k = M 1 k := fun k => by
    rw [u 1 k (nf 1 k (by omega)), al 1 k (nF 1 k (by omega) (by omega)) (fun z => by
      rcases z with z | z | z | z | z | z
      · omega
      · omega
      · omega
      · exact nm _ _ _ (by omega) z
      · omega
      · omega) (by omega)]
  have pc : fs_pcp N4 217 M 31 := (fs_pcp_rf (fun o k a b => v o k a (by omega))).tr c1
  have mc : fs_mcp N4 1 M 0 := (fs_mcp_o v3).tr (d1.tr (fs_mcp_o v4))
  refine h.im (fun o k q r => ?_) ⟨?_, fun _ => ⟨hp.cp h3 pc mc (v7 9) (v7 5), hz.cp pc mc (v7 9), ?_, ?_, fun nz x x0 x1 => ?_⟩⟩
  · rw [u o k (fun z => fs_nM o k z q)]
    exact al o k (fun z => fs_n5 o k z q) r (fun z => fs_nM o k (Or.inr z) q)
  · rw [u 0 13 (nf 0 13 (by omega)), u 226 37 (nf 226 37 (by omega)), fs_st_s, t3 0 13 (by omega), p2' 0 13 (by omega) (by omega), p1 0 13 (nm _ _ _ (by omega)), t1 0 13 (by omega), q4 0 13 (nF 0 13 (by omega) (by omega)) (by omega), if_pos ⟨rfl, rfl⟩]
  · rw [v2 223 3 (by omega) (by omega), v5 245 1 (by omega) (by omega), a2, b1, q1 54 3 (by omega), v6 245 0 (by omega) (by omega)]
    exact n1
  · rw [v2 223 2 (by omega) (by omega), v5 246 1 (by omega) (by omega), a1, b2, q1 54 2 (by omega), v6 246 0 (by omega) (by omega)]
    exact n2
  · rw [v7 5] at x1
    rw [v2 223 2 (by omega) (by omega), a1, q1 54 2 (by omega)] at nz
    obtain ⟨y1, y2⟩ := n3 nz x x0 x1
    obtain ⟨z1, z2⟩ := a3 x x0 (by omega)
    obtain ⟨w1, w2⟩ := b3 x x0 (by omega)
    rw [v2 (223 + 1) x (by omega) (by omega), v2 (223 + 2) x (by omega) (by omega), v5 247 _ (by omega) (by omega), v5 248 _ (by omega) (by omega), z1, z2, w1, w2, q1 _ x (by omega), q1 _ x (by omega), v6 247 _ (by omega) (by omega), v6 248 _ (by omega) (by omega)]
    exact ⟨y1, y2⟩
end OPSF
