-- ===== fault, named, dark, track, strike, known =====
def fs_supX (o k : Int) : Prop := (90 ≤ o ∧ o ≤ 94) ∨ (o = 226 ∧ (k = 68 ∨ k = 69 ∨ k = 2 ∨ k = 25 ∨ k = 26)) ∨ (265 ≤ o ∧ o ≤ 267) ∨ (o = 29 ∧ 1 ≤ k ∧ k ≤ 3) ∨ o = 30 ∨ o = 227
theorem fs_Rl.wT {M M' : fs_M} (h : fs_Rl M) (he : ∀ o k, fs_sup o k ∨ fs_supB o k → ¬ fs_supX o k → M' o k = M o k) (ht : fs_trk M') (hr : fs_tap M') : fs_Rl M' := by
  obtain ⟨a, b, c, d, e, f, i, n, _, _, kb⟩ := h
  have h3 := a.2.2.2.1
  have env : fs_env M M' := fun o k q => he o k (Or.inl (Or.inr (Or.inl q))) (by unfold fs_supX; unfold fs_eC at q; omega)
  have h9 : M' 9 2 = M 9 2 := he 9 2 (Or.inl (Or.inr (Or.inr (Or.inl ⟨rfl, rfl⟩)))) (by unfold fs_supX; omega)
  have s : ∀ o k, (o = 0 ∧ k = 13) ∨ o = 1 ∨ (31 ≤ o ∧ o ≤ 36) ∨ (54 ≤ o ∧ o ≤ 56) ∨ o = 95 ∨ (97 ≤ o ∧ o ≤ 225) ∨ (o = 226 ∧ (k = 37 ∨ k = 38)) ∨ (241 ≤ o ∧ o ≤ 248) → M' o k = M o k := fun o k q => by
    apply he o k
    · apply Or.inl
      rcases q with q | q | q | q | q | q | q | q
      · exact Or.inl q
      · exact Or.inr (Or.inl (by unfold fs_eC; omega))
      · exact Or.inr (Or.inr (Or.inr (Or.inr (Or.inr (Or.inl q)))))
      · exact Or.inr (Or.inr (Or.inr (Or.inr (Or.inr (Or.inr (Or.inl q))))))
      · exact Or.inr (Or.inr (Or.inr (Or.inr (Or.inr (Or.inr (Or.inr (Or.inl (by omega))))))))
      · exact Or.inr (Or.inr (Or.inr (Or.inr (Or.inr (Or.inr (Or.inr (Or.inr (Or.inl q))))))))
      · exact Or.inr (Or.inr (Or.inr (Or.inr (Or.inr (Or.inr (Or.inr (Or.inr (Or.inr (Or.inl (by omega))))))))))
      · exact Or.inr (Or.inr (Or.inr (Or.inr (Or.inr (Or.inr (Or.inr (Or.inr (Or.inr (Or.inr (Or.inr (Or.inl q)))))))))))
    · unfold fs_supX
      rcases q with q | q | q | q | q | q | q | q <;> omega
  have sb : ∀ o k, fs_eC o ∨ o = 31 ∨ fs_supB o k → M' o k = M o k := fun o k q => by
    rcases q with q | q | q
    · exact env o k q
    · exact s o k (by omega)
    · exact he o k (Or.inr q) (by unfold fs_supX; unfold fs_supB at q; omega)
  exact ⟨env.bE a, env.rt b, c.cong env, d.cong env h9, e.cong h3 (fun o k q => s o k (by omega)), f.cong (fun o k q => s o k (by omega)), i.cong h3 (fun o k q => s o k (by omega)), n.cong (fun o k q => s o k (by omega)), ht, hr, fs_bkS.next h3 kb sb⟩
theorem fs_Rl.thr {M : fs_M} (h : fs_Rl M) : fs_Rl (fs_st M 226 0 0) := h.two (fs_out.rf (F := fs_FM)) fs_out0 fs_nM fs_nM
def fs_Ftk (L o k : Int) : Prop := (((91 ≤ o ∧ o ≤ 94) ∨ (265 ≤ o ∧ o ≤ 267)) ∧ k = L) ∨ (o = 226 ∧ (k = 68 ∨ k = 0)) ∨ (o = 90 ∧ k = 4)
theorem fs_Rl.added {M M' : fs_M} {L : Int} (h : fs_Rl M) (hL : M 90 4 = L) (lt : L < 24) (o1 : fs_out (fs_Ftk L) M M') (a4 : M' 90 4 = L + 1) (b68 : M' 226 68 = L + 1)
    (new : (M' 94 L = -1 ∧ M' 91 L = M' 265 L ∧ M' 92 L = M' 266 L ∧ M' 93 L = M' 267 L ∧ 0 ≤ M' 91 L ∧ M' 91 L < M 1 9 ∧ 0 ≤ M' 92 L ∧ M' 92 L < M 1 5 ∧ 1 ≤ M' 93 L ∧ M' 93 L ≤ 240) ∨ (0 ≤ M' 94 L ∧ M' 94 L < L ∧ M' 265 L = -1 ∧ M' 266 L = M' 94 L)) : fs_Rl M' := by
  have t := h.2.2.2.2.2.2.2.2.1
  have r := h.2.2.2.2.2.2.2.2.2.1
  have e : ∀ o k, ¬ fs_Ftk L o k → M' o k = M o k := o1
  have e9 : M' 1 9 = M 1 9 := e 1 9 (by unfold fs_Ftk; omega)
  have e5 : M' 1 5 = M 1 5 := e 1 5 (by unfold fs_Ftk; omega)
  refine h.wT (fun o k q q2 => e o k (fun z => ?_)) ?_ (r.cong (fun o k q => e o k (by unfold fs_Ftk; omega)))
  · rcases z with z | z | z
    · exact q2 (by unfold fs_supX; omega)
    · rcases z with ⟨z1, z2 | z2⟩
      · exact q2 (by unfold fs_supX; omega)
      · exact fs_nM o k (Or.inr ⟨z1, z2⟩) q
    · exact q2 (by unfold fs_supX; omega)
  · obtain ⟨t1, t2, t3, t4, t5, t6, t7⟩ := t
    refine ⟨by rw [a4, b68], by rw [e 90 5 (by unfold fs_Ftk; omega), e 226 69 (by unfold fs_Ftk; omega)]; exact t2, by omega, by omega, by rw [e 90 5 (by unfold fs_Ftk; omega)]; exact t5, by rw [e 90 5 (by unfold fs_Ftk; omega)]; omega, fun i i0 i1 => ?_⟩
    rw [e9, e5]
    by_cases c : i = L
    · rw [c]
      exact new
    · rw [a4] at i1
      rw [e 94 i (by unfold fs_Ftk; omega), e 91 i (by unfold fs_Ftk; omega), e 92 i (by unfold fs_Ftk; omega), e 93 i (by unfold fs_Ftk; omega), e 265 i (by unfold fs_Ftk; omega), e 266 i (by unfold fs_Ftk; omega), e 267 i (by unfold fs_Ftk; omega)]
      exact t7 i i0 (by omega)
/-- the first place of x among n from i -/
def fs_ix (f : Int → Int) (x : Int) : Nat → Int → Int
  | 0, _ => -1
  | n + 1, i => if f i = x then i else fs_ix f x n (i + 1)
theorem fs_ix_cong {f f' : Int → Int} {x : Int} : ∀ (n : Nat) (i : Int), (∀ j, i ≤ j → j < i + n → f j = f' j) → fs_ix f x n i = fs_ix f' x n i
  | 0, _, _ => rfl
  | n + 1, i, h => by
    show (if f i = x then i else fs_ix f x n (i + 1)) = (if f' i = x then i else fs_ix f' x n (i + 1))
    rw [h i (by omega) (by omega), fs_ix_cong n (i + 1) (fun j j0 j1 => h j (by omega) (by omega))]
section OPSC
variable {g : fs_G} {M : fs_M}
theorem sp_indexOf {K : fs_K} {x0 n x : Int} {n0 : Nat} (h0 : fs_isA 0 n0 x0) (hn : 0 ≤ n) (h1 : n ≤ n0) (h2 : n ≤ 100) (hK : K (some (fs_i (fs_ix (M x0) x n.toNat 0))) M) : fs_C2 g m_Fs_indexOf 1 [fs_r x0, fs_i n, fs_i x] M K := by
  have lp : ∀ (k : Nat) (i : Int), 0 ≤ i → n - i = k → K (some (fs_i (fs_ix (M x0) x k i))) M → fs_A2 g m_Fs_indexOf 1 2 [(0, fs_r x0), (1, fs_i n), (2, fs_i x), (3, fs_i i)] [] M K := by
    intro k
    induction k with
    | zero =>
      intro i i0 e hk
      exact L_Fs_indexOf_2 h0 ⟨fun _ => hk, fun z => absurd z (by omega)⟩
    | succ k ih =>
      intro i i0 e hk
      refine L_Fs_indexOf_2 h0 ⟨fun z => absurd z (by omega), fun _ => ⟨i0, by omega, fun z => ?_, fun z => ?_⟩⟩
      · rw [fs_w32_of (x := i + 1) (by omega) (by omega)]
        refine ih (i + 1) (by omega) (by omega) ?_
        have e2 : fs_ix (M x0) x (k + 1) i = fs_ix (M x0) x k (i + 1) := if_neg z
        rw [e2] at hk
        exact hk
      · have e2 : fs_ix (M x0) x (k + 1) i = i := if_pos z
        rw [e2] at hk
        exact hk
  exact E_Fs_indexOf h0 (lp n.toNat 0 (by omega) (by omega) hK)
theorem sp_found {K : fs_K} {x0 n x : Int} {n0 : Nat} (h0 : fs_isA 0 n0 x0) (hn : 0 ≤ n) (h1 : n ≤ n0) (h2 : n ≤ 100) (hK : K (some (fs_i (fs_ix (M x0) x n.toNat 0))) M) : fs_C2 g m_Mo_found 1 [fs_r x0, fs_i 0, fs_i n, fs_i x] M K := by
  have lp : ∀ (k : Nat) (i : Int), 0 ≤ i → n - i = k → K (some (fs_i (fs_ix (M x0) x k i))) M → fs_A2 g m_Mo_found 1 3 [(0, fs_r x0), (1, fs_i 0), (2, fs_i n), (3, fs_i x), (4, fs_i i)] [] M K := by
    intro k
    induction k with
    | zero =>
      intro i i0 e hk
      exact L_Mo_found_3 h0 ⟨fun _ => hk, fun z => absurd z (by omega)⟩
    | succ k ih =>
      intro i i0 e hk
      have e0 : fs_w32 (0 + i) = i := by rw [fs_w32_of (x := 0 + i) (by omega) (by omega)]; omega
      refine L_Mo_found_3 h0 ⟨fun z => absurd z (by omega), fun _ => ?_⟩
      rw [e0]
      refine ⟨i0, by omega, fun z => ?_, fun z => ?_⟩
      · rw [fs_w32_of (x := i + 1) (by omega) (by omega)]
        refine ih (i + 1) (by omega) (by omega) ?_
        have e2 : fs_ix (M x0) x (k + 1) i = fs_ix (M x0) x k (i + 1) := if_neg z
        rw [e2] at hk
        exact hk
      · have e2 : fs_ix (M x0) x (k + 1) i = i := if_pos z
        rw [e2] at hk
        exact hk
  exact E_Mo_found h0 (lp n.toNat 0 (by omega) (by omega) hK)
theorem op_fault {a : Int} (h : fs_Rl M) : fs_C2 g m_Fs_fault 1 [fs_r 0, fs_i a] M (fs_KK g m_Mo_fault 1 [fs_r 226, fs_i a]) := by
  obtain ⟨-, -, -, -, t2, t3⟩ := h.2.2.2.2.2.2.2.2.2.1
  exact E_Fs_fault ⟨fun q => ⟨fun q2 => ⟨_, rfl, E_Mo_fault ⟨fun _ => ⟨fun _ => ⟨rfl, h.thr⟩, fun z => absurd z q2⟩, fun z => absurd z q⟩⟩, fun q2 => ⟨_, rfl, E_Mo_fault ⟨fun _ => ⟨fun z => absurd q2 z, fun _ => ⟨by rw [t3], h.thr⟩⟩, fun z => absurd z q⟩⟩⟩, fun q => ⟨_, rfl, E_Mo_fault ⟨fun z => absurd q z, fun _ => ⟨by rw [t2], h.thr⟩⟩⟩⟩
theorem op_named {a b : Int} (h : fs_Rl M) : fs_C2 g m_Fs_named 2 [fs_r 0, fs_i a, fs_i b] M (fs_KK g m_Mo_named 2 [fs_r 226, fs_i a, fs_i b]) := by
  obtain ⟨b0, b1, b2, b3, -⟩ := h.1
  obtain ⟨r0, r1, -⟩ := h.2.1
  obtain ⟨n1, n2, -⟩ := h.2.2.2.1
  have eh : fs_ix (M 2) b (M 1 5).toNat 0 = fs_ix (fs_st M 226 0 0 229) b (M 1 5).toNat 0 := fs_ix_cong _ _ (fun j j0 j1 => by
    rw [fs_st_o (by omega)]
    exact n1 j j0 (by omega))
  have ed : fs_ix (M 6) b (M 1 9).toNat 0 = fs_ix (fs_st M 226 0 0 234) b (M 1 9).toNat 0 := fs_ix_cong _ _ (fun j j0 j1 => by
    rw [fs_st_o (by omega)]
    exact n2 j j0 (by omega))
  refine E_Fs_named ⟨fun q => ⟨fun q2 => ⟨_, rfl, E_Mo_named ⟨fun _ => ⟨fun _ => ⟨rfl, h.thr⟩, fun z => absurd z q2⟩, fun z => absurd z q⟩⟩, fun q2 => ?_⟩, fun q => ?_⟩
  · refine sp_indexOf ia_6 b2 (by omega) (by omega) ⟨_, rfl, _, rfl, E_Mo_named ⟨fun _ => ⟨fun z => absurd q2 z, fun _ => ?_⟩, fun z => absurd z q⟩⟩
    rw [r1]
    refine sp_found ia_234 b2 (by omega) (by omega) ⟨_, rfl, ?_, h.thr⟩
    rw [ed]
  · refine sp_indexOf ia_2 b0 (by omega) (by omega) ⟨_, rfl, _, rfl, E_Mo_named ⟨fun z => absurd q z, fun _ => ?_⟩⟩
    rw [r0]
    refine sp_found ia_229 b0 (by omega) (by omega) ⟨_, rfl, ?_, h.thr⟩
    rw [eh]
theorem op_known {a : Int} (h : fs_Rl M) : fs_C2 g m_Fs_known 1 [fs_r 0, fs_i a] M (fs_KK g m_Mo_known 1 [fs_r 226, fs_i a]) := by
  have t := h.2.2.2.2.2.2.2.2.1
  have t1 := t.1
  refine E_Fs_known ⟨fun q => ⟨_, rfl, E_Mo_known ⟨fun _ => ⟨rfl, h.thr⟩, fun z => absurd q z⟩⟩, fun q => ⟨fun q2 => ⟨_, rfl, ?_⟩, fun q2 => ⟨_, rfl, E_Mo_known ⟨fun z => absurd z q, fun _ => ⟨fun z => absurd z (by omega), fun _ => ⟨rfl, h.thr⟩⟩⟩⟩⟩⟩
  have e1 : fs_st M 90 5 a 226 68 = M 226 68 := fs_st_o (by omega)
  refine E_Mo_known ⟨fun z => absurd z q, fun _ => ?_⟩
  rw [e1]
  refine ⟨fun _ => ⟨rfl, ?_⟩, fun z => absurd z (by omega)⟩
  generalize hM : fs_st (fs_st (fs_st M 90 5 a) 226 0 0) 226 69 a = M2
  have o1 : fs_out (fun o k => (o = 226 ∧ (k = 0 ∨ k = 69)) ∨ (o = 90 ∧ k = 5)) M M2 := by
    rw [← hM]
    exact ((fs_out.rf.st (Or.inr ⟨rfl, rfl⟩)).st (Or.inl ⟨rfl, Or.inl rfl⟩)).st (Or.inl ⟨rfl, Or.inr rfl⟩)
  have v69 : M2 226 69 = a := by rw [← hM]; exact fs_st_s
  have v5 : M2 90 5 = a := by
    rw [← hM, fs_st_o (a := 90) (o := 226) (by omega), fs_st_o (a := 90) (o := 226) (by omega)]
    exact fs_st_s
  have e : ∀ o k, ¬ ((o = 226 ∧ (k = 0 ∨ k = 69)) ∨ (o = 90 ∧ k = 5)) → M2 o k = M o k := o1
  refine h.wT (fun o k q q2 => e o k (fun z => ?_)) ?_ (h.2.2.2.2.2.2.2.2.2.1.cong (fun o k q => e o k (by omega)))
  · rcases z with ⟨z1, z2 | z2⟩ | z
    · exact fs_nM o k (Or.inr ⟨z1, z2⟩) q
    · exact q2 (by unfold fs_supX; omega)
    · exact q2 (by unfold fs_supX; omega)
  · obtain ⟨t1, t2, t3, t4, t5, t6, t7⟩ := t
    refine ⟨by rw [e 90 4 (by omega), e 226 68 (by omega)]; exact t1, by rw [v5, v69], by rw [e 90 4 (by omega)]; exact t3, by rw [e 90 4 (by omega)]; exact t4, by rw [v5]; omega, by rw [v5, e 90 4 (by omega)]; exact q2, fun i i0 i1 => ?_⟩
    rw [e 90 4 (by omega)] at i1
    rw [e 94 i (by omega), e 91 i (by omega), e 92 i (by omega), e 93 i (by omega), e 265 i (by omega), e 266 i (by omega), e 267 i (by omega), e 1 9 (by omega), e 1 5 (by omega)]
    exact t7 i i0 i1
theorem op_strike {a : Int} (h : fs_Rl M) : fs_C2 g m_Fs_strike 2 [fs_r 0, fs_i a] M (fs_KK g m_Mo_strike 1 [fs_r 226, fs_i a]) := by
  have t := h.2.2.2.2.2.2.2.2.1
  have t1 := t.1
  have t3 := t.2.2.1
  have t4 := t.2.2.2.1
  refine E_Fs_strike ⟨fun q => ⟨_, rfl, E_Mo_strike ⟨fun _ => ⟨rfl, h.thr⟩, fun z => absurd q z⟩⟩, fun q => ⟨fun q2 => E_Tracks_add ⟨fun lt => ⟨t3, _, rfl, _, rfl, ?_⟩, fun lt => ⟨_, rfl, _, rfl, E_Mo_strike ⟨fun z => absurd z q, fun _ => ⟨fun z => absurd z (by omega), fun _ => ⟨fun z => absurd z (by omega), fun _ => ⟨rfl, h.thr⟩⟩⟩⟩⟩⟩, fun q2 => ⟨_, rfl, E_Mo_strike ⟨fun z => absurd z q, fun _ => ⟨fun _ => ⟨rfl, h.thr⟩, fun z => absurd z (by omega)⟩⟩⟩⟩⟩
  obtain ⟨L, hL⟩ : ∃ L, M 90 4 = L := ⟨_, rfl⟩
  rw [hL] at t1 t3 t4 lt q2 ⊢
  have w : fs_w32 (L + 1) = L + 1 := fs_w32_of (by omega) (by omega)
  rw [w]
  generalize hM1 : fs_st (fs_st (fs_st (fs_st (fs_st M 91 L (-1)) 92 L (-1)) 93 L (-1)) 94 L a) 90 4 (L + 1) = M1
  have o1 : fs_out (fs_Ftk L) M M1 := by
    rw [← hM1]
    refine ((((fs_out.rf.st ?_).st ?_).st ?_).st ?_).st ?_ <;> unfold fs_Ftk <;> omega
  have e68 : M1 226 68 = L := by rw [t1, ← hM1]; simp [fs_st]
  refine E_Mo_strike ⟨fun z => absurd z q, fun _ => ?_⟩
  rw [e68]
  refine ⟨fun z => absurd z (by omega), fun _ => ⟨fun _ => ⟨t3, lt, by rw [w], ?_⟩, fun z => absurd z (by omega)⟩⟩
  rw [w]
  refine h.added hL lt (o1.tr ?_) ?_ fs_st_s (Or.inr ?_)
  · refine (((fs_out.rf.st ?_).st ?_).st ?_).st ?_ <;> unfold fs_Ftk <;> omega
  · rw [← hM1]
    simp [fs_st]
  · have v94 : M1 94 L = a := by rw [← hM1]; simp [fs_st]
    have w94 : fs_st (fs_st (fs_st (fs_st M1 226 0 0) 265 L (-1)) 266 L a) 226 68 (L + 1) 94 L = a := by rw [← v94]; simp [fs_st]
    have w65 : fs_st (fs_st (fs_st (fs_st M1 226 0 0) 265 L (-1)) 266 L a) 226 68 (L + 1) 265 L = -1 := by simp [fs_st]
    have w66 : fs_st (fs_st (fs_st (fs_st M1 226 0 0) 265 L (-1)) 266 L a) 226 68 (L + 1) 266 L = a := by simp [fs_st]
    rw [w94, w65, w66]
    exact ⟨by omega, by omega, rfl, rfl⟩
theorem op_track {a b c : Int} (h : fs_Rl M) : fs_C2 g m_Fs_track 2 [fs_r 0, fs_i a, fs_i b, fs_i c] M (fs_KK g m_Mo_track 2 [fs_r 226, fs_i a, fs_i b, fs_i c]) := by
  have t := h.2.2.2.2.2.2.2.2.1
  have t1 := t.1
  have t3 := t.2.2.1
  have t4 := t.2.2.2.1
  obtain ⟨r0, r1, -⟩ := h.2.1
  have s0 : fs_st M 226 0 0 228 0 = M 1 5 := by rw [fs_st_o (by omega)]; exact r0
  have s1 : fs_st M 226 0 0 228 1 = M 1 9 := by rw [fs_st_o (by omega)]; exact r1
  by_cases ok : 0 ≤ a ∧ a < M 1 9 ∧ 0 ≤ b ∧ b < M 1 5 ∧ 1 ≤ c ∧ c ≤ 240
  · obtain ⟨a0, a1, b0, b1, c0, c1⟩ := ok
    refine E_Fs_track (E_Script_hasDark io_1 ⟨fun z => absurd z (by omega), fun _ => ⟨fun z => absurd z (by omega), fun _ => ⟨1, rfl, fun z => absurd z (by omega), fun _ => ?_⟩⟩⟩)
    refine E_Script_hasHouse io_1 ⟨fun z => absurd z (by omega), fun _ => ⟨fun z => absurd z (by omega), fun _ => ⟨1, rfl, fun z => absurd z (by omega), fun _ => ?_⟩⟩⟩
    refine E_Fs_isMinute ⟨fun z => absurd z (by omega), fun _ => ⟨fun z => absurd z (by omega), fun _ => ⟨1, rfl, fun _ => ?_, fun z => absurd z (by omega)⟩⟩⟩
    have mo : ∀ (M1 : fs_M) (K : fs_K), M1 228 0 = M 1 5 → M1 228 1 = M 1 9 → ((¬ M1 226 68 = 24 → (0 ≤ M1 226 68 ∧ M1 226 68 < 24 ∧ K (some (fs_i (fs_w32 ((fs_w32 ((M1 226 68) + 1)) - 1)))) (fs_st (fs_st (fs_st (fs_st (fs_st M1 226 0 0) 265 (M1 226 68) a) 266 (M1 226 68) b) 267 (M1 226 68) c) 226 68 (fs_w32 ((M1 226 68) + 1))))) ∧ (M1 226 68 = 24 → K (some (fs_i (-1))) (fs_st M1 226 0 0))) → fs_C2 g m_Mo_track 2 [fs_r 226, fs_i a, fs_i b, fs_i c] M1 K := by
      intro M1 K z0 z1 hk
      have y0 : fs_st M1 226 0 0 228 0 = M 1 5 := by rw [fs_st_o (by omega)]; exact z0
      have y1 : fs_st M1 226 0 0 228 1 = M 1 9 := by rw [fs_st_o (by omega)]; exact z1
      have y2 : fs_st M1 226 0 0 226 68 = M1 226 68 := fs_st_k (by omega)
      refine E_Mo_track (E_Mo_isDark ?_)
      rw [y1]
      refine ⟨fun z => absurd z (by omega), fun _ => ⟨fun z => absurd z (by omega), fun _ => ⟨1, rfl, fun z => absurd z (by omega), fun _ => E_Mo_isHouse ?_⟩⟩⟩
      rw [y0]
      refine ⟨fun z => absurd z (by omega), fun _ => ⟨fun z => absurd z (by omega), fun _ => ⟨1, rfl, fun z => absurd z (by omega), fun _ => ?_⟩⟩⟩
      refine E_Mo_isMinute ⟨fun z => absurd z (by omega), fun _ => ⟨fun z => absurd z (by omega), fun _ => ⟨1, rfl, fun z => absurd z (by omega), fun _ => ?_⟩⟩⟩
      rw [y2]
      exact hk
    refine E_Tracks_add ⟨fun lt => ⟨t3, _, rfl, _, rfl, ?_⟩, fun lt => ⟨_, rfl, _, rfl, mo M _ r0 r1 ⟨fun z => absurd z (by omega), fun _ => ⟨rfl, h.thr⟩⟩⟩⟩
    obtain ⟨L, hL⟩ : ∃ L, M 90 4 = L := ⟨_, rfl⟩
    rw [hL] at t1 t3 t4 lt ⊢
    have w : fs_w32 (L + 1) = L + 1 := fs_w32_of (by omega) (by omega)
    rw [w]
    generalize hM1 : fs_st (fs_st (fs_st (fs_st (fs_st M 91 L a) 92 L b) 93 L c) 94 L (-1)) 90 4 (L + 1) = M1
    have o1 : fs_out (fs_Ftk L) M M1 := by
      rw [← hM1]
      refine ((((fs_out.rf.st ?_).st ?_).st ?_).st ?_).st ?_ <;> unfold fs_Ftk <;> omega
    have e68 : M1 226 68 = L := by rw [t1, ← hM1]; simp [fs_st]
    have f0 : M1 228 0 = M 1 5 := by rw [o1 228 0 (by unfold fs_Ftk; omega)]; exact r0
    have f1 : M1 228 1 = M 1 9 := by rw [o1 228 1 (by unfold fs_Ftk; omega)]; exact r1
    refine mo M1 _ f0 f1 ?_
    rw [e68, w]
    refine ⟨fun _ => ⟨t3, lt, rfl, ?_⟩, fun z => absurd z (by omega)⟩
    refine h.added hL lt (o1.tr ?_) ?_ fs_st_s (Or.inl ?_)
    · refine ((((fs_out.rf.st ?_).st ?_).st ?_).st ?_).st ?_ <;> unfold fs_Ftk <;> omega
    · rw [← hM1]
      simp [fs_st]
    · have v1 : M1 91 L = a := by rw [← hM1]; simp [fs_st]
      have v2 : M1 92 L = b := by rw [← hM1]; simp [fs_st]
      have v3 : M1 93 L = c := by rw [← hM1]; simp [fs_st]
      have v4 : M1 94 L = -1 := by rw [← hM1]; simp [fs_st]
      generalize hM2 : fs_st (fs_st (fs_st (fs_st (fs_st M1 226 0 0) 265 L a) 266 L b) 267 L c) 226 68 (L + 1) = M2
      have w1 : M2 91 L = a := by rw [← hM2, ← v1]; simp [fs_st]
      have w2 : M2 92 L = b := by rw [← hM2, ← v2]; simp [fs_st]
      have w3 : M2 93 L = c := by rw [← hM2, ← v3]; simp [fs_st]
      have w4 : M2 94 L = -1 := by rw [← hM2, ← v4]; simp [fs_st]
      have w5 : M2 265 L = a := by rw [← hM2]; simp [fs_st]
      have w6 : M2 266 L = b := by rw [← hM2]; simp [fs_st]
      have w7 : M2 267 L = c := by rw [← hM2]; simp [fs_st]
      rw [w1, w2, w3, w4, w5, w6, w7]
      exact ⟨rfl, rfl, rfl, rfl, a0, a1, b0, b1, c0, c1⟩
  · have mo : fs_C2 g m_Mo_track 2 [fs_r 226, fs_i a, fs_i b, fs_i c] M (fun v2 M2 => v2 = some (fs_i (-1)) ∧ fs_Rl M2) := by
      refine E_Mo_track (E_Mo_isDark ?_)
      rw [s1]
      refine ⟨fun _ => ⟨0, rfl, fun _ => ⟨rfl, h.thr⟩, fun z => absurd rfl z⟩, fun q1 => ⟨fun _ => ⟨0, rfl, fun _ => ⟨rfl, h.thr⟩, fun z => absurd rfl z⟩, fun q2 => ⟨1, rfl, fun z => absurd z (by omega), fun _ => E_Mo_isHouse ?_⟩⟩⟩
      rw [s0]
      refine ⟨fun _ => ⟨0, rfl, fun _ => ⟨rfl, h.thr⟩, fun z => absurd rfl z⟩, fun q3 => ⟨fun _ => ⟨0, rfl, fun _ => ⟨rfl, h.thr⟩, fun z => absurd rfl z⟩, fun q4 => ⟨1, rfl, fun z => absurd z (by omega), fun _ => E_Mo_isMinute ?_⟩⟩⟩
      exact ⟨fun _ => ⟨0, rfl, fun _ => ⟨rfl, h.thr⟩, fun z => absurd rfl z⟩, fun q5 => ⟨fun _ => ⟨0, rfl, fun _ => ⟨rfl, h.thr⟩, fun z => absurd rfl z⟩, fun q6 => absurd (by omega) ok⟩⟩
    refine E_Fs_track (E_Script_hasDark io_1 ⟨fun _ => ⟨0, rfl, fun _ => ⟨_, rfl, mo⟩, fun z => absurd rfl z⟩, fun q1 => ⟨fun _ => ⟨0, rfl, fun _ => ⟨_, rfl, mo⟩, fun z => absurd rfl z⟩, fun q2 => ⟨1, rfl, fun z => absurd z (by omega), fun _ => ?_⟩⟩⟩)
    refine E_Script_hasHouse io_1 ⟨fun _ => ⟨0, rfl, fun _ => ⟨_, rfl, mo⟩, fun z => absurd rfl z⟩, fun q3 => ⟨fun _ => ⟨0, rfl, fun _ => ⟨_, rfl, mo⟩, fun z => absurd rfl z⟩, fun q4 => ⟨1, rfl, fun z => absurd z (by omega), fun _ => ?_⟩⟩⟩
    exact E_Fs_isMinute ⟨fun _ => ⟨0, rfl, fun z => absurd rfl z, fun _ => ⟨_, rfl, mo⟩⟩, fun q5 => ⟨fun _ => ⟨0, rfl, fun z => absurd rfl z, fun _ => ⟨_, rfl, mo⟩⟩, fun q6 => absurd (by omega) ok⟩⟩
end OPSC
