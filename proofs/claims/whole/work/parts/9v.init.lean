-- ===== by hand: what holds behind the two constructors =====
theorem fs_rng_df : fs_rng fs_df := by
  intro o k
  have h : -1 ≤ fs_df o k ∧ fs_df o k ≤ 100000 := by
    unfold fs_df
    split
    · next ci h =>
      unfold fs_d0
      split <;> omega
    · next ty n h =>
      have hlt := (List.getElem?_eq_some_iff.mp h).1
      rw [fs_klen] at hlt
      have hn : n ≤ 10000 := by
        have h1 : fs_kinds.all (fun q => match q with | .inl _ => true | .inr (_, n) => decide (n ≤ 10000)) = true := by decide +kernel
        have h2 := List.all_eq_true.mp h1 _ (List.mem_of_getElem? h)
        exact of_decide_eq_true h2
      have ho : 0 ≤ o := by
        refine Int.not_lt.mp fun q => ?_
        rw [Int.toNat_of_nonpos (by omega), show fs_kinds[0]? = some (.inl 10) from rfl] at h
        cases h
      split
      · split <;> omega
      · split <;> omega
    · omega
  split
  · unfold fs_in64; omega
  · unfold fs_in32; omega
theorem fs_ptr78 {ci k : Nat} {off : Int} (h : fs_ptr ci k = some off) : k < 78 := by
  refine Nat.lt_of_not_le fun q => ?_
  unfold fs_ptr at h
  split at h <;> first | omega | cases h
theorem fs_P2_all : (List.range 271).all (fun o => match fs_kinds[o]? with
    | some (.inl ci) => (List.range 78).all (fun k => match fs_ptr ci k with | some off => decide (fs_Tt 374 (o : Int) (k : Int) = (o : Int) + off) | none => true)
    | some (.inr (ty, n)) => if 3 ≤ ty ∧ ty ≤ 6 then (List.range n).all (fun i => decide (fs_Tt 374 (o : Int) (i : Int) = (o : Int) + (fs_pA (o : Int)).1 + (fs_pA (o : Int)).2 * (i : Int))) else true
    | none => true) = true := by decide +kernel
theorem fs_P2_0 : fs_P2 (fs_Tt 374) := by
  refine ⟨fun ci k off h o ho => ?_, fun ty n o ho t3 t6 i i0 i1 => ?_⟩
  · have hlt := (List.getElem?_eq_some_iff.mp ho.2).1
    rw [fs_klen] at hlt
    have h1 := List.all_eq_true.mp fs_P2_all o.toNat (List.mem_range.mpr hlt)
    rw [ho.2] at h1
    have h2 := List.all_eq_true.mp h1 k (List.mem_range.mpr (fs_ptr78 h))
    rw [h] at h2
    have h3 := of_decide_eq_true h2
    rw [Int.toNat_of_nonneg ho.1] at h3
    exact h3
  · have hlt := (List.getElem?_eq_some_iff.mp ho.2).1
    rw [fs_klen] at hlt
    have h1 := List.all_eq_true.mp fs_P2_all o.toNat (List.mem_range.mpr hlt)
    rw [ho.2] at h1
    simp only [t3, t6, and_self, if_true] at h1
    have h2 := List.all_eq_true.mp h1 i.toNat (List.mem_range.mpr (by omega))
    have h3 := of_decide_eq_true h2
    rw [Int.toNat_of_nonneg ho.1, Int.toNat_of_nonneg i0] at h3
    exact h3
theorem fs_Rl0 : fs_Rl (fs_Tt 374) := by
  have c15 : fs_Tt 374 1 5 = 0 := by decide +kernel
  have c19 : fs_Tt 374 1 9 = 0 := by decide +kernel
  have c952 : fs_Tt 374 95 2 = 0 := by decide +kernel
  have c904 : fs_Tt 374 90 4 = 0 := by decide +kernel
  have lw : ∀ k, 0 ≤ k → k < 4 → fs_Tt 374 12 k = 0 ∧ fs_Tt 374 13 k = 0 ∧ fs_Tt 374 237 k = 0 ∧ fs_Tt 374 238 k = 0 := fun k k0 k1 => by
    have h : k = 0 ∨ k = 1 ∨ k = 2 ∨ k = 3 := by omega
    rcases h with rfl | rfl | rfl | rfl <;> exact ⟨by decide +kernel, by decide +kernel, by decide +kernel, by decide +kernel⟩
  have lc : ∀ k, 0 ≤ k → k < 4 → fs_lawC (fs_Tt 374) k := fun k k0 k1 => by
    obtain ⟨e1, e2, -⟩ := lw k k0 k1
    unfold fs_lawC
    rw [e1, e2]
    exact ⟨by omega, by omega, by omega, fun i i0 i1 => absurd i1 (by omega), fun q => absurd q (by omega)⟩
  have rp : fs_rp (fs_Tt 374) 31 0 := ⟨by decide +kernel, by decide +kernel, fun d d0 d1 => absurd d1 (by omega)⟩
  have rz : fs_rz (fs_Tt 374) 31 0 := fun d d0 _ d3 => by
    have h : d = 0 ∨ d = 1 ∨ d = 2 := by omega
    rcases h with rfl | rfl | rfl <;> exact ⟨by decide +kernel, by decide +kernel⟩
  refine ⟨⟨by omega, by omega, by omega, by omega, fun h h0 h1 => absurd h1 (by omega), fun d d0 d1 => absurd d1 (by omega), lc⟩, ⟨by decide +kernel, by decide +kernel, fun h h0 h1 => absurd h1 (by omega), fun d d0 d1 => absurd d1 (by omega), fun k k0 k1 => ?_⟩, fun h h0 h1 => absurd h1 (by omega), ⟨fun h h0 h1 => absurd h1 (by omega), fun d d0 d1 => absurd d1 (by omega), by decide +kernel, fun k k0 k1 => Or.inl ?_⟩, ⟨by decide +kernel, by decide +kernel, by omega, by omega, by decide +kernel, rp, fun j j0 j1 => absurd j1 (by omega)⟩, ⟨rz, fun j j0 j1 => absurd j1 (by omega)⟩, ⟨by decide +kernel, fun q => absurd (show fs_Tt 374 0 13 = 0 by decide +kernel) q⟩, ⟨by decide +kernel, by decide +kernel, fun q => absurd (show fs_Tt 374 54 2 = 0 by decide +kernel) q⟩, ?_, ⟨by decide +kernel, by decide +kernel, by decide +kernel, fun i i0 i1 => absurd i1 (by rw [show fs_Tt 374 29 1 = 0 by decide +kernel]; omega), by decide +kernel, by decide +kernel⟩, fun q => absurd (show fs_Tt 374 60 5 = 0 by decide +kernel) q⟩
  · obtain ⟨e1, e2, e3, e4⟩ := lw k k0 k1
    exact ⟨by rw [e1, e3], by rw [e2, e4], lc k k0 k1, fun i i0 i1 => absurd i1 (by omega)⟩
  · have h : k = 0 ∨ k = 1 ∨ k = 2 ∨ k = 3 ∨ k = 4 ∨ k = 5 ∨ k = 6 ∨ k = 7 ∨ k = 8 ∨ k = 9 ∨ k = 10 ∨ k = 11 := by omega
    rcases h with rfl | rfl | rfl | rfl | rfl | rfl | rfl | rfl | rfl | rfl | rfl | rfl <;> decide +kernel
  · refine ⟨by decide +kernel, by decide +kernel, by omega, by omega, by decide +kernel, by decide +kernel, ?_⟩
    intro i i0 i1
    exact absurd i1 (by omega)
