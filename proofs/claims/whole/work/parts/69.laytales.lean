-- ===== the model: tales, tale =====
def fs_FMt (o k : Int) : Prop := fs_F9 o k ∨ o = 268 ∨ o = 269 ∨ (o = 226 ∧ (k = 0 ∨ k = 74 ∨ k = 75 ∨ k = 77))
theorem fs_nthR_lt : ∀ (u : List (List Int)) (n : Nat), n < u.length → ∃ r, fs_nthR u n = some r ∧ r ∈ u
  | [], _, h => by
    rw [List.length_nil] at h
    omega
  | r :: u, 0, _ => ⟨r, rfl, List.mem_cons_self⟩
  | r :: u, n + 1, h => by
    rw [List.length_cons] at h
    obtain ⟨s, a, b⟩ := fs_nthR_lt u n (by omega)
    exact ⟨s, a, List.mem_cons_of_mem _ b⟩
/-- what both have of the tracks -/
def fs_envK (E M : fs_M) : Prop := ∀ o k, (265 ≤ o ∧ o ≤ 267) ∨ (o = 226 ∧ (k = 68 ∨ k = 69)) → M o k = E o k
section LAYTALES
variable {g : fs_G}
theorem sp_layTales {E M : fs_M} {K : fs_K} {a w : Int} (hB : fs_bE E) (hTT : fs_rt E) (hT : fs_trk E) (hp : fs_rp E 31 0) (hE : fs_envM E M) (hk : fs_envK E M) (a0 : 0 ≤ a) (a9 : a < E 1 9)
    (hK : ∀ M', fs_out fs_FMt M M' → M' 226 74 = (fs_tlR E a).length → (∀ r, 0 ≤ w → fs_nthR (fs_tlR E a) w.toNat = some r → M' 226 77 = r.length ∧ ∀ i : Nat, i < r.length → M' 269 i = fs_nth r i) → K none M') : fs_C2 g m_Mo_layTales 21 [fs_r 226, fs_i a, fs_i w] M K := by
  have h5 := hB.1
  have h6 := hB.2.1
  have h3 := hB.2.2.2.1
  obtain ⟨k0, k1, k2⟩ := fs_knw_b hT
  have hT7 := hT.2.2.2.2.2.2
  have known : ∀ M1, fs_envK E M1 → ∀ (K' : fs_K), K' (some (fs_i (fs_knw E))) M1 → fs_C2 g m_Mo_knownMany 1 [fs_r 226] M1 K' := fun M1 h1 K' hK' => by
    unfold fs_knw at hK'
    refine E_Mo_knownMany ⟨fun z => ?_, fun z => ?_⟩
    · rw [h1 226 69 (by omega), ← hT.2.1] at z ⊢
      rw [if_neg z] at hK'
      exact hK'
    · rw [h1 226 69 (by omega), ← hT.2.1] at z
      rw [if_pos z] at hK'
      rw [h1 226 68 (by omega), ← hT.1]
      exact hK'
  have keep : ∀ M1, fs_out (fun o _ => o = 268) M M1 → fs_envK E M1 := fun M1 o1 o k q => by
    rw [o1 o k (by omega)]
    exact hk o k q
  refine E_Mo_layTales ?_
  -- the last: rows are told of
  have tell : ∀ M1, fs_out (fun o _ => o = 268) M M1 → (∀ i, 0 ≤ i → i < fs_knw E → M1 268 i = fs_skF E i) → fs_C2 g m_Mo_asIs 2 [fs_r 226] M1 (fun v M3 => v = none ∧ fs_A2 g m_Mo_layTales 21 77 [(0, fs_r 226), (1, fs_i a), (2, fs_i w), (3, fs_i 0)] [] M3 K) := by
    intro M1 o1 s1
    have E1 : fs_envM E M1 := fun o k q => by
      rw [o1 o k (by unfold fs_eC fs_mlc at q; omega)]
      exact hE o k q
    refine sp_asIsM hp E1 (fun M2 o2 q2 => ⟨rfl, ?_⟩)
    have loop : ∀ (m : Nat) (d : Int) (M3 : fs_M), d + m = 3 → 0 ≤ d → fs_out (fun o _ => o = 252) M2 M3 → (∀ e, 0 ≤ e → e < d → M3 252 e = 0) → fs_A2 g m_Mo_layTales 21 77 [(0, fs_r 226), (1, fs_i a), (2, fs_i w), (3, fs_i d)] [] M3 K := by
      intro m
      induction m with
      | succ m ih =>
        intro d M3 hd d0 o3 h3'
        refine L_Mo_layTales_77 ⟨fun z => by omega, fun _ => ⟨d0, ?_⟩⟩
        rw [fs_w32_of (by omega) (by omega)]
        refine ih (d + 1) _ (by omega) (by omega) (o3.st rfl) (fun e a b => ?_)
        by_cases q : e = d
        · rw [q, fs_st_s]
        · rw [fs_st_k q]
          exact h3' e a (by omega)
      | zero =>
        intro d M3 hd d0 o3 h3'
        refine L_Mo_layTales_77 ⟨fun _ => ?_, fun z => by omega⟩
        generalize hM4 : fs_st (fs_st (fs_st M3 226 74 0) 226 75 w) 226 77 0 = M4
        have m4o : ∀ o k, o ≠ 226 → M4 o k = M3 o k := fun o k q => by rw [← hM4, fs_st_o q, fs_st_o q, fs_st_o q]
        have m4k : ∀ k, k ≠ 74 → k ≠ 75 → k ≠ 77 → M4 226 k = M3 226 k := fun k b d e => by rw [← hM4, fs_st_k e, fs_st_k d, fs_st_k b]
        obtain ⟨p42, p43, p44, p47, pr⟩ := q2
        have cE : ∀ o k, fs_eC o ∨ fs_mlc 0 o k → M4 o k = E o k := fun o k q => by
          rw [m4o o k (by unfold fs_eC fs_mlc at q; omega), o3 o k (by unfold fs_eC fs_mlc at q; omega), o2 o k (by unfold fs_F8; unfold fs_eC fs_mlc at q; omega)]
          exact E1 o k q
        have x4 : ∀ k, k ≠ 74 → k ≠ 75 → k ≠ 77 → M4 226 k = M2 226 k := fun k b d e => by rw [m4k k b d e, o3 226 k (by omega)]
        have C4 : fs_mc E (-1) (M2 226 62) M4 := ⟨fun o k q => cE o k (Or.inl q), by rw [cE 244 0 (Or.inr (by unfold fs_mlc; omega)), hp.2.1], by rw [x4 42 (by decide) (by decide) (by decide)]; exact p42, by rw [x4 43 (by decide) (by decide) (by decide)]; exact p43, by rw [x4 44 (by decide) (by decide) (by decide)]; exact p44, by rw [x4 47 (by decide) (by decide) (by decide)]; exact p47, x4 62 (by decide) (by decide) (by decide)⟩
        have T4 : fs_tkc E M4 := by
          have hk1 := keep M1 o1
          refine ⟨fun i i0 i1 => by rw [m4o 268 i (by decide), o3 268 i (by omega), o2 268 i (by unfold fs_F8; omega)]; exact s1 i i0 i1, fun o k q v => by rw [m4o o k (by omega), o3 o k (by omega), o2 o k (by unfold fs_F8; omega)]; exact hk1 o k (by omega), ?_, ?_⟩
          · rw [x4 68 (by decide) (by decide) (by decide), o2 226 68 (by unfold fs_F8; omega)]
            exact hk1 226 68 (by omega)
          · rw [x4 69 (by decide) (by decide) (by decide), o2 226 69 (by unfold fs_F8; omega)]
            exact hk1 226 69 (by omega)
        have R4 : fs_hasR M4 (fs_RT a []) := fun c c0 c3 => by
          have e : fs_RT a [] c = [] := by
            by_cases q : c = a
            · rw [q, fs_RT_d]
            · exact fs_RT_o q
          rw [e, m4o 252 c (by decide), h3' c c0 (by omega)]
          exact ⟨rfl, Nat.zero_le _, rfl⟩
        have I4 : fs_InvT w [] M4 := by
          refine ⟨?_, ?_, fun r _ q => by cases q⟩
          · rw [← hM4]
            simp [fs_st]
          · rw [← hM4]
            simp [fs_st]
        have fl : (fs_hf fs_tt [] (E 1 5).toNat 0).length ≤ 6 := by
          have := List.length_filter_le (fun h => fs_tt h && !decide (h ∈ ([] : List Int))) (fs_lst (fun k => k) (E 1 5).toNat 0)
          rw [fs_lst_len] at this
          unfold fs_hf
          omega
        have rl := fs_RS_len hB
        refine sp_talesOf (w := w) (first := M2 226 62) hB hTT hT a0 a9 6 20 [] [] M4 _ (by omega) fl rfl List.nodup_nil (fun x hx => (by cases hx)) (by rw [List.length_nil, Nat.zero_add]; exact rl) C4 T4 R4 I4 (fun M5 o5 i5 m5 => ⟨rfl, ?_⟩)
        have i5' : fs_InvT w ((fs_RS E).foldl (fs_jT E a) []) M5 := i5
        rw [fs_jT_filter, List.nil_append] at i5'
        have e5 : (fs_RS E).filter (fs_agP E a) = fs_tlR E a := rfl
        rw [e5] at i5'
        refine hK M5 (fun o k nF => ?_) i5'.1 i5'.2.2
        have nF2 : ¬ ((fs_F6 o k ∨ (o = 251 ∨ o = 252 ∨ (o = 226 ∧ (k = 42 ∨ k = 43 ∨ k = 44 ∨ k = 47)))) ∨ o = 268 ∨ o = 269 ∨ (o = 226 ∧ (k = 0 ∨ k = 74 ∨ k = 75 ∨ k = 77))) := nF
        rw [o5 o k (fun q => by
          have q2 : fs_F6 o k ∨ o = 251 ∨ o = 252 ∨ o = 269 ∨ (o = 226 ∧ (k = 74 ∨ k = 77)) := q
          rcases q2 with q2 | q2
          · exact nF2 (Or.inl (Or.inl q2))
          · omega)]
        have s2 : M2 o k = M o k := by
          rw [o2 o k (by unfold fs_F8; omega)]
          exact o1 o k (by omega)
        by_cases q : o = 226
        · rw [q] at nF2 s2 ⊢
          rw [x4 k (by omega) (by omega) (by omega)]
          exact s2
        · rw [m4o o k q, o3 o k (by omega)]
          exact s2
    exact loop 3 0 M2 rfl (by decide) fs_out.rf (fun e a b => by omega)
  -- what is struck
  have strike : ∀ (j m : Nat) (M1 : fs_M), m + j = (fs_knw E).toNat → fs_out (fun o _ => o = 268) M M1 → (∀ i, 0 ≤ i → i < fs_knw E → M1 268 i = fs_sk E (fs_knw E) m i) → fs_A2 g m_Mo_layTales 21 30 [(0, fs_r 226), (1, fs_i a), (2, fs_i w), (3, fs_i (fs_knw E - 1 - m))] [] M1 K := by
    intro j
    induction j with
    | zero =>
      intro m M1 hm o1 s1
      have em : m = (fs_knw E).toNat := by omega
      rw [em] at s1 ⊢
      exact L_Mo_layTales_30 ⟨fun _ => tell M1 o1 s1, fun z => by omega⟩
    | succ j ih =>
      intro m M1 hm o1 s1
      have hk1 := keep M1 o1
      have tr := hT7 (fs_knw E - 1 - m) (by omega) (by omega)
      have e265 : M1 265 (fs_knw E - 1 - m) = E 265 (fs_knw E - 1 - m) := hk1 265 _ (by omega)
      have e266 : M1 266 (fs_knw E - 1 - m) = E 266 (fs_knw E - 1 - m) := hk1 266 _ (by omega)
      have e268 := s1 (fs_knw E - 1 - m) (by omega) (by omega)
      have wj : fs_w32 (fs_knw E - 1 - m + -1) = fs_knw E - 1 - ((m + 1 : Nat) : Int) := by
        rw [fs_w32_of (by omega) (by omega)]
        omega
      have skip : ¬ (fs_sk E (fs_knw E) m (fs_knw E - 1 - m) = 0 ∧ E 94 (fs_knw E - 1 - m) ≠ -1) → fs_A2 g m_Mo_layTales 21 30 [(0, fs_r 226), (1, fs_i a), (2, fs_i w), (3, fs_i (fs_knw E - 1 - ((m + 1 : Nat) : Int)))] [] M1 K := fun q => by
        refine ih (m + 1) M1 (by omega) o1 (fun i i0 i1 => ?_)
        have e : fs_sk E (fs_knw E) (m + 1) i = fs_sk E (fs_knw E) m i := by
          show (if _ then _ else fs_sk E (fs_knw E) m i) = _
          rw [if_neg q]
        rw [e]
        exact s1 i i0 i1
      refine L_Mo_layTales_30 ⟨fun z => by omega, fun _ => ⟨by omega, ?_⟩⟩
      rw [wj, e268, e265, e266]
      refine ⟨fun z => skip (fun q => z q.1), fun z => ⟨fun z2 => skip (fun q => ?_), fun z2 => ?_⟩⟩
      · rcases tr with t | t
        · exact q.2 t.1
        · exact z2 t.2.2.1
      · rcases tr with t | t
        · omega
        · rw [t.2.2.2]
          refine ⟨t.1, by omega, ih (m + 1) _ (by omega) (o1.st rfl) (fun i i0 i1 => ?_)⟩
          have e : fs_sk E (fs_knw E) (m + 1) i = if i = E 94 (fs_knw E - 1 - m) then 1 else fs_sk E (fs_knw E) m i := by
            show (if fs_sk E (fs_knw E) m (fs_knw E - 1 - m) = 0 ∧ E 94 (fs_knw E - 1 - m) ≠ -1 then (if i = E 94 (fs_knw E - 1 - m) then 1 else fs_sk E (fs_knw E) m i) else fs_sk E (fs_knw E) m i) = _
            rw [if_pos ⟨z, by omega⟩]
          rw [e]
          by_cases c : i = E 94 (fs_knw E - 1 - m)
          · rw [if_pos c, c, fs_st_s]
          · rw [if_neg c, fs_st_k c]
            exact s1 i i0 i1
  have zero : ∀ (m : Nat) (i : Int) (M1 : fs_M), i + m = fs_knw E → 0 ≤ i → fs_out (fun o _ => o = 268) M M1 → (∀ x, 0 ≤ x → x < i → M1 268 x = 0) → fs_A2 g m_Mo_layTales 21 2 [(0, fs_r 226), (1, fs_i a), (2, fs_i w), (3, fs_i i)] [] M1 K := by
    intro m
    induction m with
    | zero =>
      intro i M1 hi i0 o1 s1
      refine L_Mo_layTales_2 (known M1 (keep M1 o1) _ ⟨_, rfl, fun _ => known M1 (keep M1 o1) _ ⟨_, rfl, ?_⟩, fun z => by omega⟩)
      rw [show fs_w32 (fs_knw E - 1) = fs_knw E - 1 - ((0 : Nat) : Int) by rw [fs_w32_of (by omega) (by omega)]; omega]
      exact strike (fs_knw E).toNat 0 M1 (by omega) o1 (fun x x0 x1 => s1 x x0 (by omega))
    | succ m ih =>
      intro i M1 hi i0 o1 s1
      refine L_Mo_layTales_2 (known M1 (keep M1 o1) _ ⟨_, rfl, fun z => by omega, fun _ => ⟨i0, by omega, ?_⟩⟩)
      rw [fs_w32_of (by omega) (by omega)]
      refine ih (i + 1) _ (by omega) (by omega) (o1.st rfl) (fun x x0 x1 => ?_)
      by_cases q : x = i
      · rw [q, fs_st_s]
      · rw [fs_st_k q]
        exact s1 x x0 (by omega)
  exact zero (fs_knw E).toNat 0 M (by omega) (by decide) fs_out.rf (fun x a b => by omega)
theorem fs_outT {M : fs_M} : fs_out fs_FMt M (fs_st M 226 0 0) := fs_out.rf.st (Or.inr (Or.inr (Or.inr ⟨rfl, Or.inl rfl⟩)))
theorem fs_envK0 {E M : fs_M} (h : fs_envK E M) : fs_envK E (fs_st M 226 0 0) := fun o k q => by
  have : fs_st M 226 0 0 o k = M o k := by
    by_cases c : o = 226
    · rw [fs_st_k (by omega)]
    · rw [fs_st_o c]
  rw [this]
  exact h o k q
theorem om_tales {E M : fs_M} {K : fs_K} {a : Int} (hB : fs_bE E) (hTT : fs_rt E) (hT : fs_trk E) (hp : fs_rp E 31 0) (hE : fs_envM E M) (hk : fs_envK E M) (hK : ∀ M', fs_out fs_FMt M M' → K (some (fs_i (fs_vTales E a))) M') : fs_C2 g m_Mo_tales 22 [fs_r 226, fs_i a] M K := by
  unfold fs_vTales at hK
  have e2 : fs_st M 226 0 0 228 1 = E 1 9 := by rw [fs_st_o (by decide), hE 228 1 (Or.inl (by unfold fs_eC; omega)), hTT.2.1]
  have no : (a < 0 ∨ E 1 9 ≤ a) → K (some (fs_i (-1))) (fs_st M 226 0 0) := fun q => by
    have h := hK _ fs_outT
    rw [if_pos q] at h
    exact h
  refine E_Mo_tales (E_Mo_isDark ⟨fun z3 => ⟨0, rfl, fun w => absurd rfl w, fun _ => no (by omega)⟩, fun z3 => ⟨fun z4 => ⟨0, rfl, fun w => absurd rfl w, fun _ => no (by omega)⟩, fun z4 => ⟨1, rfl, fun _ => ?_, fun w => absurd w (by decide)⟩⟩⟩)
  refine sp_layTales hB hTT hT hp (fs_envM0 hE) (fs_envK0 hk) (by omega) (by omega) (fun M1 o1 e1 _ => ⟨rfl, ?_⟩)
  have h := hK M1 (fs_outT.tr o1)
  rw [if_neg (by omega)] at h
  rw [e1]
  exact h
theorem om_tale {E M : fs_M} {K : fs_K} {a b c : Int} (hB : fs_bE E) (hTT : fs_rt E) (hT : fs_trk E) (hp : fs_rp E 31 0) (hE : fs_envM E M) (hk : fs_envK E M) (hK : ∀ M', fs_out fs_FMt M M' → K (some (fs_i (fs_vTale E a b c))) M') : fs_C2 g m_Mo_tale 22 [fs_r 226, fs_i a, fs_i b, fs_i c] M K := by
  unfold fs_vTale at hK
  have e2 : fs_st M 226 0 0 228 1 = E 1 9 := by rw [fs_st_o (by decide), hE 228 1 (Or.inl (by unfold fs_eC; omega)), hTT.2.1]
  have no : (a < 0 ∨ E 1 9 ≤ a ∨ b < 0 ∨ c < 0) → K (some (fs_i (-1))) (fs_st M 226 0 0) := fun q => by
    have h := hK _ fs_outT
    rw [if_pos q] at h
    exact h
  refine E_Mo_tale (E_Mo_isDark ⟨fun z3 => ⟨0, rfl, fun _ => no (by omega), fun w => absurd rfl w⟩, fun z3 => ⟨fun z4 => ⟨0, rfl, fun _ => no (by omega), fun w => absurd rfl w⟩, fun z4 => ⟨1, rfl, fun w => absurd w (by decide), fun _ => ⟨fun z5 => no (by omega), fun z5 => ⟨fun z6 => ?_, fun z6 => no (by omega)⟩⟩⟩⟩⟩)
  refine sp_layTales hB hTT hT hp (fs_envM0 hE) (fs_envK0 hk) (by omega) (by omega) (fun M1 o1 e1 e3 => ⟨rfl, ?_⟩)
  have h := hK M1 (fs_outT.tr o1)
  rw [if_neg (by omega)] at h
  rw [e1]
  refine ⟨fun lt => ?_, fun ge => ?_⟩
  · obtain ⟨r, hr, rm⟩ := fs_nthR_lt (fs_tlR E a) b.toNat (by omega)
    obtain ⟨l1, l2⟩ := e3 r (by omega) hr
    rw [hr] at h
    have rm2 : r ∈ fs_RS E := (List.mem_filter.1 rm).1
    have len := (fs_RS_mem hB rm2).2.2
    have nb := fs_nth_b r c.toNat (fs_RS_6 hB rm2)
    rw [l1]
    refine ⟨fun z => ?_, fun z => ⟨by omega, ?_⟩⟩
    · have h2 : K (some (fs_i (if fs_nth r c.toNat = -1 then -2 else fs_nth r c.toNat))) M1 := h
      rw [if_pos (nb.2.2.2 (by omega))] at h2
      exact h2
    · have h2 : K (some (fs_i (if fs_nth r c.toNat = -1 then -2 else fs_nth r c.toNat))) M1 := h
      rw [if_neg (fun q => by have := nb.2.2.1 q; omega)] at h2
      have := l2 c.toNat (by omega)
      rw [show ((c.toNat : Nat) : Int) = c by omega] at this
      rw [this]
      exact h2
  · rw [fs_nthR_no (fs_tlR E a) b.toNat (by omega)] at h
    exact h
end LAYTALES
