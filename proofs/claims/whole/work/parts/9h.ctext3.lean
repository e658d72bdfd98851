-- ===== the class's text(): what is there then =====
def fs_FtC (o k : Int) : Prop := o ≤ 60 ∨ o = 90 ∨ (o = 95 ∧ k = 2)
def fs_cF (M A : fs_M) (L : List (Int × Int)) : Prop :=
  (M 29 1 = 0 ∧ M 29 2 = 0 ∧ M 29 3 = -1 ∧ M 0 13 = 0 ∧ M 60 5 = 0) ∧ (M 1 4 = A 15 4 ∧ M 1 5 = A 15 5 ∧ M 1 9 = A 15 9) ∧ (∀ o k, 2 ≤ o → o ≤ 5 → 0 ≤ k → k < 6 → M o k = A (o + 14) k) ∧ (∀ o k, 6 ≤ o → o ≤ 8 → 0 ≤ k → k < 3 → M o k = A (o + 14) k) ∧
  (M 9 2 = (L.length : Int) ∧ (∀ (j : Nat) (q : Int × Int), L[j]? = some q → M 10 j = q.1 ∧ (q.1 = 1017 → M 11 j = q.2)) ∧ (∀ k, 0 ≤ k → k < 4 → M 12 k = A 26 k ∧ M 13 k = A 27 k)) ∧
  (M 31 2 = 0 ∧ M 31 3 = 0 ∧ (∀ d, 0 ≤ d → d < 3 → M 36 d = 0)) ∧ (M 54 2 = 0 ∧ M 54 3 = A 15 10) ∧ M 90 4 = 0 ∧ M 90 5 = -1 ∧ M 95 2 = 0
section CTEXT3
variable {g : fs_G} {M : fs_M}
theorem sp_textC {K : fs_K} {n : Int} (h1 : M 29 1 ≤ 600) (hx : n < 0 ∨ M 29 1 < n → K (some (fs_i (-2))) M)
    (hK : ∀ A, 0 ≤ n → n ≤ M 29 1 → fs_A0 A → (∀ M' l A' s, fs_qTx (M 30) n n.toNat 0 (A, (fs_lxp (M 30) n 0, 0, [])) = .inr (l, (A', s)) → fs_out fs_FtC M M' → fs_inv n (A', s) → fs_cF M' A' s.2.2 → K (some (fs_i l)) M') ∧
      (∀ M' e, fs_qTx (M 30) n n.toNat 0 (A, (fs_lxp (M 30) n 0, 0, [])) = .inl e → fs_out fs_FqR M M' → M' 29 1 = 0 → M' 29 2 = e.1 → M' 29 3 = e.2 → e.1 ≠ 0 → K (some (fs_i (-1))) M')) : fs_C2 g m_Fs_text 157 [fs_r 0, fs_i n] M K := by
  refine E_Fs_text ⟨fun z => hx (Or.inl z), fun z => ⟨fun le => ?_, fun gt => hx (Or.inr (by omega))⟩⟩
  refine sp_readC (by omega) (by omega) (fun A hA => ?_)
  obtain ⟨ok, no⟩ := hK A (by omega) le hA
  refine ⟨fun M1 l S' eq o1 z1 h1 iv => ⟨l, rfl, fun _ => ?_, fun y => ?_⟩, fun M1 e eq o1 z1 e2 e3 e4 => ⟨-1, rfl, fun y => absurd rfl y, fun _ => no M1 e eq o1 z1 e2 e3 e4⟩⟩
  · obtain ⟨A', s⟩ := S'
    have hs : fs_cS M1 (M 30) n s := h1.1
    have hc : ∀ o k, fs_scq o k → M1 o k = A' o k := h1.2
    obtain ⟨i1, i2, i3, ⟨i4, i5, i6⟩, i7, i8⟩ := iv
    have i4' : (s.2.2.length : Int) ≤ s.2.1 := i4
    have i3' : s.2.1 ≤ 64 := i3
    have i5' : ∀ q ∈ s.2.2, fs_ent q := i5
    have hl := hs.2.2.2.2.2.1
    have hj := hs.2.2.2.2.2.2.2
    have f2 := hs.2.1
    have f3 : M1 29 3 = -1 := hs.1.2.2.2.2.2.2.2.2.2.2
    have sc : ∀ o k, (o = 15 ∧ (k = 4 ∨ k = 5 ∨ k = 9 ∨ k = 10 ∨ k = 11)) ∨ (16 ≤ o ∧ o ≤ 22) ∨ o = 26 ∨ o = 27 → M1 o k = A' o k := hc
    refine sp_scriptCopy hl (by omega) (by omega) (fun j j0 jn => ?_) ?_ (fun M2 o2 a4 a5 a9 a10 ah ad a92 aj ak => ⟨rfl, ?_⟩)
    · obtain ⟨m, hm⟩ : ∃ m : Nat, j = (m : Int) := ⟨j.toNat, by omega⟩
      subst hm
      have lt : m < s.2.2.length := by omega
      have g1 : s.2.2[m]? = some s.2.2[m] := List.getElem?_eq_getElem lt
      rw [(hj m _ g1).1]
      exact fs_ct_tk (i5' _ (List.getElem_mem lt)).1
    · rw [sc 15 11 (by omega)]
      exact i6
    refine sp_planClear (fun M3 o3 z36 z312 z313 => ⟨rfl, E_Night_clear io_54 ?_⟩)
    have p2 : ∀ o k, ¬ ((1 ≤ o ∧ o ≤ 8) ∨ (o = 9 ∧ k = 2) ∨ (10 ≤ o ∧ o ≤ 13)) → M2 o k = M1 o k := o2
    have p3 : ∀ o k, ¬ ((o = 31 ∧ (k = 2 ∨ k = 3)) ∨ o = 36) → M3 o k = M2 o k := o3
    have s10 : M3 1 10 = A' 15 10 := by
      rw [p3 1 10 (by omega), a10]
      exact sc 15 10 (by omega)
    rw [s10]
    refine ⟨rfl, E_Tracks_clear ⟨rfl, E_Past_clear ⟨rfl, ?_⟩⟩⟩
    obtain ⟨Q, hQ⟩ : ∃ Q, fs_st (fs_st (fs_st (fs_st (fs_st (fs_st (fs_st M3 54 2 0) 54 3 (A' 15 10)) 90 4 0) 90 5 (-1)) 95 2 0) 0 13 0) 60 5 0 = Q := ⟨_, rfl⟩
    rw [hQ]
    have oQ : fs_out (fun o k => (o = 54 ∧ (k = 2 ∨ k = 3)) ∨ (o = 90 ∧ (k = 4 ∨ k = 5)) ∨ (o = 95 ∧ k = 2) ∨ (o = 0 ∧ k = 13) ∨ (o = 60 ∧ k = 5)) M3 Q := by
      rw [← hQ]
      exact ((((((fs_out.rf.st (Or.inl ⟨rfl, Or.inl rfl⟩)).st (Or.inl ⟨rfl, Or.inr rfl⟩)).st (Or.inr (Or.inl ⟨rfl, Or.inl rfl⟩))).st (Or.inr (Or.inl ⟨rfl, Or.inr rfl⟩))).st (Or.inr (Or.inr (Or.inl ⟨rfl, rfl⟩)))).st (Or.inr (Or.inr (Or.inr (Or.inl ⟨rfl, rfl⟩))))).st (Or.inr (Or.inr (Or.inr (Or.inr ⟨rfl, rfl⟩))))
    have pQ : ∀ o k, ¬ ((o = 54 ∧ (k = 2 ∨ k = 3)) ∨ (o = 90 ∧ (k = 4 ∨ k = 5)) ∨ (o = 95 ∧ k = 2) ∨ (o = 0 ∧ k = 13) ∨ (o = 60 ∧ k = 5)) → Q o k = M3 o k := oQ
    have q1 : Q 54 2 = 0 := by rw [← hQ]; simp [fs_st]
    have q2 : Q 54 3 = A' 15 10 := by rw [← hQ]; simp [fs_st]
    have q3 : Q 90 4 = 0 := by rw [← hQ]; simp [fs_st]
    have q4 : Q 90 5 = -1 := by rw [← hQ]; simp [fs_st]
    have q5 : Q 95 2 = 0 := by rw [← hQ]; simp [fs_st]
    have q6 : Q 0 13 = 0 := by rw [← hQ]; simp [fs_st]
    have q7 : Q 60 5 = 0 := by rw [← hQ]; simp [fs_st]
    have oF : fs_out fs_FtC M Q := by
      refine (fs_out.wk o1 (fun o k q => ?_)).tr ((fs_out.wk o2 (fun o k q => ?_)).tr ((fs_out.wk o3 (fun o k q => ?_)).tr (fs_out.wk oQ (fun o k q => ?_))))
      · unfold fs_FqR at q
        unfold fs_FtC
        omega
      · have q2 : (1 ≤ o ∧ o ≤ 8) ∨ (o = 9 ∧ k = 2) ∨ (10 ≤ o ∧ o ≤ 13) := q
        unfold fs_FtC
        omega
      · have q2 : (o = 31 ∧ (k = 2 ∨ k = 3)) ∨ o = 36 := q
        unfold fs_FtC
        omega
      · have q2 : (o = 54 ∧ (k = 2 ∨ k = 3)) ∨ (o = 90 ∧ (k = 4 ∨ k = 5)) ∨ (o = 95 ∧ k = 2) ∨ (o = 0 ∧ k = 13) ∨ (o = 60 ∧ k = 5) := q
        unfold fs_FtC
        omega
    refine ok Q l A' s eq oF ⟨i1, i2, i3, ⟨i4, i5, i6⟩, i7, i8⟩ ⟨⟨?_, ?_, ?_, q6, q7⟩, ⟨?_, ?_, ?_⟩, fun o k x0 x1 k0 k1 => ?_, fun o k x0 x1 k0 k1 => ?_, ⟨?_, fun j q hq => ?_, fun k k0 k4 => ?_⟩, ⟨?_, ?_, fun d d0 d3 => ?_⟩, ⟨q1, q2⟩, q3, q4, q5⟩
    · rw [pQ 29 1 (by omega), p3 29 1 (by omega), p2 29 1 (by omega)]
      exact z1
    · rw [pQ 29 2 (by omega), p3 29 2 (by omega), p2 29 2 (by omega)]
      exact f2
    · rw [pQ 29 3 (by omega), p3 29 3 (by omega), p2 29 3 (by omega)]
      exact f3
    · rw [pQ 1 4 (by omega), p3 1 4 (by omega), a4]
      exact sc 15 4 (by omega)
    · rw [pQ 1 5 (by omega), p3 1 5 (by omega), a5]
      exact sc 15 5 (by omega)
    · rw [pQ 1 9 (by omega), p3 1 9 (by omega), a9]
      exact sc 15 9 (by omega)
    · rw [pQ o k (by omega), p3 o k (by omega), ah o k x0 x1 k0 k1]
      exact sc _ k (by omega)
    · rw [pQ o k (by omega), p3 o k (by omega), ad o k x0 x1 k0 k1]
      exact sc _ k (by omega)
    · rw [pQ 9 2 (by omega), p3 9 2 (by omega)]
      exact a92
    · have lt : j < s.2.2.length := (List.getElem?_eq_some_iff.mp hq).1
      obtain ⟨b1, b2⟩ := aj j (by omega) (by omega)
      rw [pQ 10 j (by omega), p3 10 j (by omega), b1, pQ 11 j (by omega), p3 11 j (by omega), b2]
      exact hj j q hq
    · rw [pQ 12 k (by omega), p3 12 k (by omega), (ak k k0 k4).1, pQ 13 k (by omega), p3 13 k (by omega), (ak k k0 k4).2]
      exact ⟨sc 26 k (by omega), sc 27 k (by omega)⟩
    · rw [pQ 31 2 (by omega)]
      exact z312
    · rw [pQ 31 3 (by omega)]
      exact z313
    · rw [pQ 36 d (by omega)]
      exact z36 d d0 d3
  · have := fs_qTx_l _ _ _ _ _ eq
    omega
end CTEXT3
