-- ===== the model's tales =====
def fs_RT (d : Int) (r : List Int) : Int → List Int := fs_upd fs_R0 d r
theorem fs_RT_d {d : Int} {r : List Int} : fs_RT d r d = r := by
  unfold fs_RT fs_upd
  rw [if_pos rfl]
theorem fs_RT_o {d c : Int} {r : List Int} (h : c ≠ d) : fs_RT d r c = [] := by
  unfold fs_RT fs_upd
  rw [if_neg h]
  rfl
theorem fs_RT_good {E : fs_M} {d : Int} {r : List Int} (hn : r.Nodup) (hl : r.length ≤ 6) (hr : ∀ x, x ∈ r → 0 ≤ x ∧ x < E 1 5) (d9 : d < E 1 9) : fs_good E (-1) (fs_RT d r) := by
  have sub : ∀ c h, h ∈ fs_RT d r c → c = d ∧ h ∈ r := fun c h hh => by
    by_cases q : c = d
    · rw [q, fs_RT_d] at hh
      exact ⟨q, hh⟩
    · rw [fs_RT_o q] at hh
      cases hh
  refine ⟨⟨fun c _ _ => ⟨?_, fun h hh => hr h (sub c h hh).2⟩, fun c _ _ c9 => fs_RT_o (by omega)⟩, fun c _ _ => ⟨?_, fun h hh e _ _ ne q => ne (by rw [(sub e h q).1, (sub c h hh).1])⟩, fun c _ _ h hh => ?_⟩
  · by_cases q : c = d
    · rw [q, fs_RT_d]
      omega
    · rw [fs_RT_o q]
      exact Nat.zero_le _
  · by_cases q : c = d
    · rw [q, fs_RT_d]
      exact hn
    · rw [fs_RT_o q]
      exact List.nodup_nil
  · have := hr h (sub c h hh).2
    omega
/-- done on a minute by the one who goes alone -/
theorem fs_did {E : fs_M} {d h t : Int} {r : List Int} (hB : fs_bE E) (hG : fs_good E (-1) (fs_RT d r)) (d0 : 0 ≤ d) (d3 : d < 3) (h0 : 0 ≤ h) (h1 : h < E 1 5) (t1 : 1 ≤ t) :
    ((fs_run E (-1) (E 31 2) (fs_alW E (-1)) (fs_nR E (fs_RT d r))).2 7 h = d ∧ (fs_run E (-1) (E 31 2) (fs_alW E (-1)) (fs_nR E (fs_RT d r))).2 8 h = t) ↔ fs_ful E (-1) (E 31 2) (fs_alN E) d r h = t := by
  obtain ⟨n1, n2⟩ := fs_nR_good hB hG
  obtain ⟨i1, i2⟩ := fs_indep (tr := -1) (rf := E 31 2) (al := fs_alW E (-1)) hB n1 n2 h0 h1
  have eaw : fs_alW E (-1) h = fs_alN E h := by rw [fs_alW_is, if_neg (by omega)]
  have ef : fs_ful E (-1) (E 31 2) (fs_alW E (-1)) d (fs_nR E (fs_RT d r) d) h = fs_ful E (-1) (E 31 2) (fs_alN E) d r h := by
    rw [fs_nR_is hG d0 d3, fs_RT_d]
    unfold fs_ful
    have := fs_good_opn hG d0 d3
    rw [fs_RT_d] at this
    exact fs_fut_al r _ _ _ this
  by_cases ha : fs_alN E h = 0
  · rcases i2 (by rw [eaw]; exact ha) with ⟨a, b, c⟩ | ⟨a, b, c, k⟩
    · have := c d d0 d3
      rw [ef] at this
      rw [this]
      constructor
      · intro q
        omega
      · intro q
        omega
    · generalize he : (fs_run E (-1) (E 31 2) (fs_alW E (-1)) (fs_nR E (fs_RT d r))).2 7 h = e at *
      have ed : e = d := by
        by_cases q : e = d
        · exact q
        · rw [fs_nR_is hG a b, fs_RT_o q] at c
          have z : fs_ful E (-1) (E 31 2) (fs_alW E (-1)) e [] h = 0 := rfl
          omega
      rw [ed, ef] at c
      rw [c]
      exact ⟨fun q => q.2, fun q => ⟨ed, q⟩⟩
  · obtain ⟨a, b⟩ := i1 (by rw [eaw]; exact ha)
    have z : fs_ful E (-1) (E 31 2) (fs_alN E) d r h = 0 := fs_fut_a ha r _ _ _
    rw [z]
    constructor
    · intro q
      omega
    · intro q
      omega
def fs_agP (E : fs_M) (d : Int) (r : List Int) : Bool := fs_agb E d (fs_ful E (-1) (E 31 2) (fs_alN E) d r) (fs_knw E).toNat
def fs_jT (E : fs_M) (d : Int) (L : List (List Int)) (r : List Int) : List (List Int) := if fs_agP E d r = true then L ++ [r] else L
theorem fs_jT_filter {E : fs_M} {d : Int} : ∀ (l L : List (List Int)), l.foldl (fs_jT E d) L = L ++ l.filter (fs_agP E d)
  | [], L => (List.append_nil L).symm
  | r :: t, L => by
    show t.foldl (fs_jT E d) (fs_jT E d L r) = _
    rw [fs_jT_filter t]
    unfold fs_jT
    by_cases c : fs_agP E d r = true
    · rw [if_pos c, List.filter_cons_of_pos c, List.append_assoc]
      rfl
    · rw [if_neg c, List.filter_cons_of_neg c]
def fs_InvT (w : Int) (L : List (List Int)) (M : fs_M) : Prop := M 226 74 = L.length ∧ M 226 75 = w ∧ ∀ r, 0 ≤ w → fs_nthR L w.toNat = some r → M 226 77 = r.length ∧ ∀ i : Nat, i < r.length → M 269 i = fs_nth r i
def fs_tkc (E M : fs_M) : Prop := (∀ i, 0 ≤ i → i < fs_knw E → M 268 i = fs_skF E i) ∧ (∀ o k, 265 ≤ o → o ≤ 267 → M o k = E o k) ∧ M 226 68 = E 226 68 ∧ M 226 69 = E 226 69
def fs_FT (o k : Int) : Prop := fs_F6 o k ∨ o = 251 ∨ o = 252 ∨ o = 269 ∨ (o = 226 ∧ (k = 74 ∨ k = 77))
theorem fs_tkc.out {E M M' : fs_M} (h : fs_tkc E M) (ho : fs_out fs_FT M M') : fs_tkc E M' := by
  obtain ⟨a, b, c, d⟩ := h
  exact ⟨fun i i0 i1 => by rw [ho 268 i (by unfold fs_FT fs_F6 fs_F4; omega)]; exact a i i0 i1, fun o k q w => by rw [ho o k (by unfold fs_FT fs_F6 fs_F4; omega)]; exact b o k q w, by rw [ho 226 68 (by unfold fs_FT fs_F6 fs_F4; omega)]; exact c, by rw [ho 226 69 (by unfold fs_FT fs_F6 fs_F4; omega)]; exact d⟩
theorem fs_mc.outT {E M M' : fs_M} {wo first : Int} (h : fs_mc E wo first M) (ho : fs_out fs_FT M M') : fs_mc E wo first M' := by
  obtain ⟨a, b, c, d, e, f, k⟩ := h
  have q : ∀ k, k = 42 ∨ k = 43 ∨ k = 44 ∨ k = 47 ∨ k = 62 → M' 226 k = M 226 k := fun k w => ho 226 k (by unfold fs_FT fs_F6 fs_F4; omega)
  exact ⟨fun o k w => by rw [ho o k (by unfold fs_FT fs_F6 fs_F4; unfold fs_eC at w; omega)]; exact a o k w, by rw [ho 244 0 (by unfold fs_FT fs_F6 fs_F4; omega)]; exact b, by rw [q 42 (by omega)]; exact c, by rw [q 43 (by omega)]; exact d, by rw [q 44 (by omega)]; exact e, by rw [q 47 (by omega)]; exact f, by rw [q 62 (by omega)]; exact k⟩
theorem fs_nthR_snoc {r : List Int} : ∀ (L : List (List Int)) (n : Nat), fs_nthR (L ++ [r]) n = if n < L.length then fs_nthR L n else if n = L.length then some r else none
  | [], 0 => rfl
  | [], n + 1 => by
    show (none : Option (List Int)) = _
    rw [if_neg (by rw [List.length_nil]; omega), if_neg (by rw [List.length_nil]; omega)]
  | x :: t, 0 => by
    show some x = _
    rw [if_pos (by rw [List.length_cons]; omega)]
    rfl
  | x :: t, n + 1 => by
    show fs_nthR (t ++ [r]) n = if n + 1 < (x :: t).length then fs_nthR t n else if n + 1 = (x :: t).length then some r else none
    rw [fs_nthR_snoc t n, List.length_cons]
    by_cases a : n < t.length
    · rw [if_pos a, if_pos (by omega)]
    · by_cases b : n = t.length
      · rw [if_neg a, if_pos b, if_neg (show ¬ n + 1 < t.length + 1 by omega), if_pos (show n + 1 = t.length + 1 by omega)]
      · rw [if_neg a, if_neg b, if_neg (show ¬ n + 1 < t.length + 1 by omega), if_neg (show ¬ n + 1 = t.length + 1 by omega)]
section MOTALES
variable {g : fs_G}
theorem sp_knownMany {E M : fs_M} {K : fs_K} (hT : fs_trk E) (hk : fs_tkc E M) (hK : K (some (fs_i (fs_knw E))) M) : fs_C2 g m_Mo_knownMany 1 [fs_r 226] M K := by
  unfold fs_knw at hK
  refine E_Mo_knownMany ⟨fun z => ?_, fun z => ?_⟩
  · rw [hk.2.2.2, ← hT.2.1] at z ⊢
    rw [if_neg z] at hK
    exact hK
  · rw [hk.2.2.2, ← hT.2.1] at z
    rw [if_pos z] at hK
    rw [hk.2.2.1, ← hT.1]
    exact hK
/-- one row told of, then on to the houses -/
theorem lp_tales {E M : fs_M} {K : fs_K} {d w first : Int} {r : List Int} {L : List (List Int)} {e : Nat} (hB : fs_bE E) (hTT : fs_rt E) (hT : fs_trk E) (d0 : 0 ≤ d) (d9 : d < E 1 9) (he : 8 ≤ e) (hl6 : r.length ≤ 6) (hnd : r.Nodup) (hb : ∀ x, x ∈ r → 0 ≤ x ∧ x < E 1 5) (hL : L.length < 1957) (hC : fs_mc E (-1) first M) (hk : fs_tkc E M) (hM : fs_hasR M (fs_RT d r)) (hI : fs_InvT w L M)
    (hN : ∀ M', fs_out fs_FT M M' → fs_InvT w (fs_jT E d L r) M' → fs_hasR M' (fs_RT d r) → fs_A2 g m_Mo_talesOf (e + 1) 163 [(0, fs_r 226), (1, fs_i d), (2, fs_i (fs_bts r 0)), (4, fs_i 0)] [] M' K) : fs_C2 g m_Mo_talesOf (e + 1) [fs_r 226, fs_i d, fs_i (fs_bts r 0)] M K := by
  have h6 := hB.2.1
  have h3 := hB.2.2.2.1
  obtain ⟨k0, k1, k2⟩ := fs_knw_b hT
  have hT7 := hT.2.2.2.2.2.2
  have gd := fs_RT_good (E := E) (d := d) hnd hl6 hb d9
  refine E_Mo_talesOf he (sp_walksR hB hTT hC hM gd (fun M1 o1 r1 => ⟨rfl, ?_⟩))
  have o1' : fs_out fs_FT M M1 := o1.wk (fun _ _ q => Or.inl q)
  have k1' := hk.out o1'
  have M1R : fs_hasR M1 (fs_RT d r) := hM.cong (fun o k q => o1 o k (by unfold fs_F6 fs_F4; omega))
  obtain ⟨i1, i2, i3⟩ := hI
  have I1 : fs_InvT w L M1 := ⟨by rw [o1 226 74 (by unfold fs_F6 fs_F4; omega)]; exact i1, by rw [o1 226 75 (by unfold fs_F6 fs_F4; omega)]; exact i2, fun s a b => by
    obtain ⟨x, y⟩ := i3 s a b
    exact ⟨by rw [o1 226 77 (by unfold fs_F6 fs_F4; omega)]; exact x, fun i hi => by rw [o1 269 i (by unfold fs_F6 fs_F4; omega)]; exact y i hi⟩⟩
  have loop : ∀ (m n : Nat), n + m = (fs_knw E).toNat → fs_A2 g m_Mo_talesOf (e + 1) 12 [(0, fs_r 226), (1, fs_i d), (2, fs_i (fs_bts r 0)), (3, fs_i (if fs_agb E d (fs_ful E (-1) (E 31 2) (fs_alN E) d r) n = true then 1 else 0)), (4, fs_i (n : Int))] [] M1 K := by
    intro m
    induction m with
    | zero =>
      intro n hn
      rw [show n = (fs_knw E).toNat by omega]
      refine L_Mo_talesOf_12 he (sp_knownMany hT k1' ⟨_, rfl, fun _ => ⟨fun z => ?_, fun z => ⟨fun ne => ?_, fun eq => ?_⟩⟩, fun z => by omega⟩)
      · have na : ¬ fs_agP E d r = true := fun q => by
          rw [if_pos (show fs_agb E d (fs_ful E (-1) (E 31 2) (fs_alN E) d r) (fs_knw E).toNat = true from q)] at z
          exact absurd z (by decide)
        refine hN M1 o1' ?_ M1R
        unfold fs_jT
        rw [if_neg na]
        exact I1
      · have ya : fs_agP E d r = true := by
          by_cases q : fs_agb E d (fs_ful E (-1) (E 31 2) (fs_alN E) d r) (fs_knw E).toNat = true
          · exact q
          · rw [if_neg q] at z
            exact absurd rfl z
        refine L_Mo_talesOf_150 he ?_
        rw [I1.1, fs_w32_of (by omega) (by omega)]
        rw [I1.1, I1.2.1] at ne
        refine hN _ (o1'.st (Or.inr (Or.inr (Or.inr (Or.inr ⟨rfl, Or.inl rfl⟩))))) ?_ (M1R.cong (fun o k q => fs_st_o (by omega)))
        unfold fs_jT
        rw [if_pos ya]
        refine ⟨by rw [fs_st_s, List.length_append, List.length_singleton]; omega, by rw [fs_st_k (by decide)]; exact I1.2.1, fun s a b => ?_⟩
        rw [fs_nthR_snoc] at b
        by_cases c : w.toNat < L.length
        · rw [if_pos c] at b
          obtain ⟨x, y⟩ := I1.2.2 s a b
          exact ⟨by rw [fs_st_k (by decide)]; exact x, fun i hi => by rw [fs_st_o (by decide)]; exact y i hi⟩
        · rw [if_neg c, if_neg (show ¬ w.toNat = L.length by omega)] at b
          cases b
      · have ya : fs_agP E d r = true := by
          by_cases q : fs_agb E d (fs_ful E (-1) (E 31 2) (fs_alN E) d r) (fs_knw E).toNat = true
          · exact q
          · rw [if_neg q] at z
            exact absurd rfl z
        rw [I1.1, I1.2.1] at eq
        obtain ⟨a1, a2, a3⟩ := M1R d d0 (by omega)
        rw [fs_RT_d] at a1 a2 a3
        rw [a1]
        refine ⟨d0, by omega, ?_⟩
        have copy : ∀ (m k : Nat) (M2 : fs_M), k + m = r.length → fs_out (fun o k => o = 269 ∨ (o = 226 ∧ k = 77)) M1 M2 → M2 226 77 = r.length → (∀ i : Nat, i < k → M2 269 i = fs_nth r i) → fs_A2 g m_Mo_talesOf (e + 1) 116 [(0, fs_r 226), (1, fs_i d), (2, fs_i (fs_bts r 0)), (4, fs_i (k : Int))] [] M2 K := by
          intro m
          induction m with
          | zero =>
            intro k M2 hk2 o2 l2 h2
            refine L_Mo_talesOf_116 he ⟨fun _ => L_Mo_talesOf_150 he ?_, fun z => by rw [l2] at z; omega⟩
            have e74 : M2 226 74 = L.length := by rw [o2 226 74 (by omega)]; exact I1.1
            rw [e74, fs_w32_of (by omega) (by omega)]
            refine hN _ (fs_out.st (o1'.tr (o2.wk (fun o k q => ?_))) (Or.inr (Or.inr (Or.inr (Or.inr ⟨rfl, Or.inl rfl⟩))))) ?_ (M1R.cong (fun o k q => by rw [fs_st_o (by omega)]; exact o2 o k (by omega)))
            · rcases q with q | q
              · exact Or.inr (Or.inr (Or.inr (Or.inl q)))
              · exact Or.inr (Or.inr (Or.inr (Or.inr ⟨q.1, Or.inr q.2⟩)))
            · unfold fs_jT
              rw [if_pos ya]
              refine ⟨by rw [fs_st_s, List.length_append, List.length_singleton]; omega, by rw [fs_st_k (by decide), o2 226 75 (by omega)]; exact I1.2.1, fun s a b => ?_⟩
              rw [fs_nthR_snoc, if_neg (show ¬ w.toNat < L.length by omega), if_pos (show w.toNat = L.length by omega)] at b
              have es : r = s := Option.some.inj b
              rw [← es]
              exact ⟨by rw [fs_st_k (by decide)]; exact l2, fun i hi => by rw [fs_st_o (by decide)]; exact h2 i (by omega)⟩
          | succ m ihm =>
            intro k M2 hk2 o2 l2 h2
            refine L_Mo_talesOf_116 he ⟨fun z => by rw [l2] at z; omega, fun _ => ?_⟩
            rw [show fs_w32 (9 * d) = 9 * d from fs_w32_of (by omega) (by omega), fs_w32_of (x := 9 * d + (k : Int)) (by omega) (by omega), fs_wsucc (by omega), o2 251 _ (by omega)]
            refine ⟨by omega, by omega, by omega, by omega, ihm (k + 1) _ (by omega) (o2.st (Or.inl rfl)) (by rw [fs_st_o (by decide)]; exact l2) (fun i hi => ?_)⟩
            by_cases q : i = k
            · rw [q, fs_st_s, ← fs_nth_lst (f := M1 251) r.length (9 * d) k (by omega), a3]
            · rw [fs_st_k (by omega)]
              exact h2 i (by omega)
        exact copy r.length 0 _ (by omega) (fs_out.rf.st (Or.inr ⟨rfl, rfl⟩)) fs_st_s (fun i hi => by omega)
    | succ m ih =>
      intro n hn
      have nx := ih (n + 1) (by omega)
      have tr := hT7 n (by omega) (by omega)
      have ea : fs_agb E d (fs_ful E (-1) (E 31 2) (fs_alN E) d r) (n + 1) = (fs_agb E d (fs_ful E (-1) (E 31 2) (fs_alN E) d r) n && !(decide (fs_skF E n = 0) && (decide (E 94 n = -1) && (decide (E 91 n = d) && !decide (fs_ful E (-1) (E 31 2) (fs_alN E) d r (E 92 n) = E 93 n))))) := rfl
      have same : ¬ (fs_skF E n = 0 ∧ E 94 n = -1 ∧ E 91 n = d ∧ ¬ fs_ful E (-1) (E 31 2) (fs_alN E) d r (E 92 n) = E 93 n) → fs_agb E d (fs_ful E (-1) (E 31 2) (fs_alN E) d r) (n + 1) = fs_agb E d (fs_ful E (-1) (E 31 2) (fs_alN E) d r) n := fun q => by
        rw [ea]
        by_cases b1 : fs_skF E n = 0
        · by_cases b2 : E 94 n = -1
          · by_cases b3 : E 91 n = d
            · by_cases b4 : fs_ful E (-1) (E 31 2) (fs_alN E) d r (E 92 n) = E 93 n
              · rw [decide_eq_true b4]
                simp
              · exact absurd ⟨b1, b2, b3, b4⟩ q
            · rw [decide_eq_false b3]
              simp
          · rw [decide_eq_false b2]
            simp
        · rw [decide_eq_false b1]
          simp
      have c268 : M1 268 n = fs_skF E n := k1'.1 n (by omega) (by omega)
      have c265 : M1 265 n = E 265 n := k1'.2.1 265 n (by decide) (by decide)
      have c266 : M1 266 n = E 266 n := k1'.2.1 266 n (by decide) (by decide)
      have c267 : M1 267 n = E 267 n := k1'.2.1 267 n (by decide) (by decide)
      have cont : fs_agb E d (fs_ful E (-1) (E 31 2) (fs_alN E) d r) (n + 1) = fs_agb E d (fs_ful E (-1) (E 31 2) (fs_alN E) d r) n → fs_A2 g m_Mo_talesOf (e + 1) 12 [(0, fs_r 226), (1, fs_i d), (2, fs_i (fs_bts r 0)), (3, fs_i (if fs_agb E d (fs_ful E (-1) (E 31 2) (fs_alN E) d r) n = true then 1 else 0)), (4, fs_i ((n + 1 : Nat) : Int))] [] M1 K := fun q => by
        rw [q] at nx
        exact nx
      refine L_Mo_talesOf_12 he (sp_knownMany hT k1' ⟨_, rfl, fun z => by omega, fun _ => ?_⟩)
      rw [c268, c265, c266, c267, fs_wsucc (by omega)]
      refine ⟨by omega, by omega, fun z => cont (same (fun q => z q.1)), fun z => ⟨fun z2 => cont (same (fun q => z2 ?_)), fun z2 => ?_⟩⟩
      · rcases tr with t | t
        · rw [← t.2.1]
          exact q.2.2.1
        · omega
      · rcases tr with t | t
        · obtain ⟨t1, t2, t3, t4, t5, t6, t7, t8, t9, t10⟩ := t
          rw [← t3, ← t4]
          obtain ⟨s7, s8⟩ := r1.2.2.2.2.2.1 (E 92 n) t7 t8
          have dd := fs_did (t := E 93 n) hB gd d0 (by omega) t7 t8 t9
          rw [s7, s8]
          have bad : ¬ fs_ful E (-1) (E 31 2) (fs_alN E) d r (E 92 n) = E 93 n → fs_A2 g m_Mo_talesOf (e + 1) 12 [(0, fs_r 226), (1, fs_i d), (2, fs_i (fs_bts r 0)), (3, fs_i 0), (4, fs_i ((n + 1 : Nat) : Int))] [] M1 K := fun q => by
            have f1 : fs_agb E d (fs_ful E (-1) (E 31 2) (fs_alN E) d r) (n + 1) = false := by
              rw [ea, decide_eq_true z, decide_eq_true t1, decide_eq_true (by rw [t2]; exact z2), decide_eq_false q]
              simp
            rw [f1, if_neg (by decide)] at nx
            exact nx
          refine ⟨t7, by omega, fun z3 => bad (fun q => z3 (dd.2 q).1), fun z3 => ⟨fun z4 => cont (same (fun q => q.2.2.2 (dd.1 ⟨z3, z4⟩))), fun z4 => bad (fun q => z4 (dd.2 q).2)⟩⟩
        · omega
  have st := loop (fs_knw E).toNat 0 (by omega)
  exact st
theorem sp_talesOf {E : fs_M} {d w first : Int} (hB : fs_bE E) (hTT : fs_rt E) (hT : fs_trk E) (d0 : 0 ≤ d) (d9 : d < E 1 9) : ∀ (n dd : Nat) (r : List Int) (L : List (List Int)) (M : fs_M) (K : fs_K), 9 + (fs_hf fs_tt r (E 1 5).toNat 0).length ≤ dd → (fs_hf fs_tt r (E 1 5).toNat 0).length ≤ n → r.length + n = 6 → r.Nodup → (∀ x, x ∈ r → 0 ≤ x ∧ x < E 1 5) → L.length + (fs_ext (E 1 5).toNat fs_tt n r).length ≤ 1957 → fs_mc E (-1) first M → fs_tkc E M → fs_hasR M (fs_RT d r) → fs_InvT w L M →
    (∀ M', fs_out fs_FT M M' → fs_InvT w ((fs_ext (E 1 5).toNat fs_tt n r).foldl (fs_jT E d) L) M' → fs_hasR M' (fs_RT d r) → K none M') → fs_C2 g m_Mo_talesOf dd [fs_r 226, fs_i d, fs_i (fs_bts r 0)] M K := by
  have h5 := hB.1
  have h6 := hB.2.1
  have h3 := hB.2.2.2.1
  have jlen : ∀ (l L : List (List Int)), (l.foldl (fs_jT E d) L).length ≤ L.length + l.length := fun l L => by
    rw [fs_jT_filter, List.length_append]
    have := List.length_filter_le (fs_agP E d) l
    omega
  have j1 : ∀ (L : List (List Int)) (r : List Int), (fs_jT E d L r).length ≤ L.length + 1 := fun L r => by
    unfold fs_jT
    split
    · rw [List.length_append, List.length_singleton]
      omega
    · omega
  intro n
  induction n with
  | zero =>
    intro dd r L M K hd hf hr hnd hb hL hC hk hM hI hK
    obtain ⟨e, rfl⟩ : ∃ e, dd = e + 1 := ⟨dd - 1, by omega⟩
    have r6 : ∀ h, h ∈ r → 0 ≤ h ∧ h < 6 := fun h hh => by
      have := hb h hh
      omega
    have l1 : (fs_ext (E 1 5).toNat fs_tt 0 r).length = 1 := rfl
    refine lp_tales hB hTT hT d0 d9 (by omega) (by omega) hnd hb (by omega) hC hk hM hI (fun M1 o1 i1 m1 => ?_)
    have loop : ∀ (m : Nat) (x : Int), x + m = E 1 5 → 0 ≤ x → fs_A2 g m_Mo_talesOf (e + 1) 163 [(0, fs_r 226), (1, fs_i d), (2, fs_i (fs_bts r 0)), (4, fs_i x)] [] M1 K := by
      intro m
      induction m with
      | zero =>
        intro x hx x0
        refine L_Mo_talesOf_163 (by omega) ⟨fun _ => hK M1 o1 i1 m1, fun z => ?_⟩
        rw [(hC.outT o1).1 228 0 (by unfold fs_eC; omega), hTT.1] at z
        omega
      | succ m ihm =>
        intro x hx x0
        have nx := ihm (x + 1) (by omega) (by omega)
        rw [show x + 1 = fs_w32 (x + 1) from (fs_w32_of (by omega) (by omega)).symm] at nx
        have bt := fs_bts_in (i := x) x0 (by omega) r6
        refine L_Mo_talesOf_163 (by omega) ⟨fun z => ?_, fun _ => ⟨fun z => ?_, fun _ => nx⟩⟩
        · rw [(hC.outT o1).1 228 0 (by unfold fs_eC; omega), hTT.1] at z
          omega
        · have mem : x ∈ fs_hf fs_tt r (E 1 5).toNat 0 := fs_hf_in x0 (by omega) rfl (fun q => z (bt.2 q))
          have := List.length_pos_of_mem mem
          omega
    exact loop (E 1 5).toNat 0 (by omega) (by decide)
  | succ n ih =>
    intro dd r L M K hd hf hr hnd hb hL hC hk hM hI hK
    obtain ⟨e, rfl⟩ : ∃ e, dd = e + 1 := ⟨dd - 1, by omega⟩
    have r6 : ∀ h, h ∈ r → 0 ≤ h ∧ h < 6 := fun h hh => by
      have := hb h hh
      omega
    rw [fs_ext_s, List.length_cons] at hL
    refine lp_tales hB hTT hT d0 d9 (by omega) (by omega) hnd hb (by omega) hC hk hM hI (fun M1 o1 i1 m1 => ?_)
    have hK' : ∀ M', fs_out fs_FT M M' → fs_InvT w ((fs_fmp (fun h => fs_ext (E 1 5).toNat fs_tt n (r ++ [h])) (fs_hf fs_tt r (E 1 5).toNat 0)).foldl (fs_jT E d) (fs_jT E d L r)) M' → fs_hasR M' (fs_RT d r) → K none M' := hK
    have jj := j1 L r
    generalize fs_jT E d L r = L1 at *
    have loop : ∀ (m : Nat) (x : Int) (L2 : List (List Int)) (M2 : fs_M), x + m = E 1 5 → 0 ≤ x → L2.length + (fs_fmp (fun h => fs_ext (E 1 5).toNat fs_tt n (r ++ [h])) (fs_hf fs_tt r m x)).length ≤ 1957 → fs_out fs_FT M M2 → fs_InvT w L2 M2 → fs_hasR M2 (fs_RT d r) → (∀ M', fs_out fs_FT M M' → fs_InvT w ((fs_fmp (fun h => fs_ext (E 1 5).toNat fs_tt n (r ++ [h])) (fs_hf fs_tt r m x)).foldl (fs_jT E d) L2) M' → fs_hasR M' (fs_RT d r) → K none M') → fs_A2 g m_Mo_talesOf (e + 1) 163 [(0, fs_r 226), (1, fs_i d), (2, fs_i (fs_bts r 0)), (4, fs_i x)] [] M2 K := by
      intro m
      induction m with
      | zero =>
        intro x L2 M2 hx x0 hl2 o2 i2 m2 hK2
        refine L_Mo_talesOf_163 (by omega) ⟨fun _ => hK2 M2 o2 i2 m2, fun z => ?_⟩
        rw [(hC.outT o2).1 228 0 (by unfold fs_eC; omega), hTT.1] at z
        omega
      | succ m ihm =>
        intro x L2 M2 hx x0 hl2 o2 i2 m2 hK2
        have C2 := hC.outT o2
        have bt := fs_bts_in (i := x) x0 (by omega) r6
        refine L_Mo_talesOf_163 (by omega) ⟨fun z => ?_, fun _ => ⟨fun z => ?_, fun z => ?_⟩⟩
        · rw [C2.1 228 0 (by unfold fs_eC; omega), hTT.1] at z
          omega
        · have xn : x ∉ r := fun q => z (bt.2 q)
          have xm : x ∈ fs_hf fs_tt r (E 1 5).toNat 0 := fs_hf_in x0 (by omega) rfl xn
          have lt := fs_hf_lt xm
          rw [fs_hf_y rfl xn] at hl2 hK2
          have ea : fs_fmp (fun h => fs_ext (E 1 5).toNat fs_tt n (r ++ [h])) (x :: fs_hf fs_tt r m (x + 1)) = fs_ext (E 1 5).toNat fs_tt n (r ++ [x]) ++ fs_fmp (fun h => fs_ext (E 1 5).toNat fs_tt n (r ++ [h])) (fs_hf fs_tt r m (x + 1)) := rfl
          rw [ea] at hl2 hK2
          rw [List.length_append] at hl2
          rw [List.foldl_append] at hK2
          obtain ⟨a1, a2, a3⟩ := m2 d d0 (by omega)
          rw [fs_RT_d] at a1 a2 a3
          have l6 : r.length ≤ 5 := by omega
          have lrx : (r ++ [x]).length = r.length + 1 := by rw [List.length_append, List.length_singleton]
          have eb : fs_or (fs_bts r 0) (fs_shl 1 x) = fs_bts (r ++ [x]) 0 := (fs_bts_snoc r 0).symm
          rw [a1, eb, show fs_w32 (9 * d) = 9 * d from fs_w32_of (by omega) (by omega), show fs_w32 (9 * d + (r.length : Int)) = 9 * d + r.length from fs_w32_of (by omega) (by omega), fs_w32_of (x := (r.length : Int) + 1) (by omega) (by omega)]
          refine ⟨d0, by omega, by omega, by omega, ?_⟩
          generalize hM3 : fs_st (fs_st M2 251 (9 * d + (r.length : Int)) x) 252 d ((r.length : Int) + 1) = M3
          have m3o : ∀ o k, o ≠ 251 → o ≠ 252 → M3 o k = M2 o k := fun o k q1 q2 => by rw [← hM3, fs_st_o q2, fs_st_o q1]
          have o3 : fs_out fs_FT M2 M3 := by
            rw [← hM3]
            refine (fs_out.rf.st ?_).st ?_
            · exact Or.inr (Or.inl rfl)
            · exact Or.inr (Or.inr (Or.inl rfl))
          have rowsOther : ∀ c, c ≠ d → M3 252 c = M2 252 c := fun c ne => by rw [← hM3, fs_st_k ne, fs_st_o (by decide)]
          have rowD : M3 252 d = (r.length : Int) + 1 ∧ M3 251 (9 * d + (r.length : Int)) = x ∧ ∀ i, i ≠ 9 * d + (r.length : Int) → M3 251 i = M2 251 i := by
            rw [← hM3]
            refine ⟨fs_st_s, by rw [fs_st_o (by decide), fs_st_s], fun i ne => ?_⟩
            rw [fs_st_o (by decide), fs_st_k ne]
          have hM' : fs_hasR M3 (fs_RT d (r ++ [x])) := fun c c0 c3 => by
            by_cases q : c = d
            · rw [q, fs_RT_d, rowD.1, lrx]
              refine ⟨by omega, by omega, ?_⟩
              rw [fs_lst_snoc, rowD.2.1, fs_lst_cong (f2 := M2 251) (fun i i0 i1 => rowD.2.2 i (by omega)), a3]
            · obtain ⟨y1, y2, y3⟩ := m2 c c0 c3
              rw [fs_RT_o q] at y1 ⊢
              rw [rowsOther c q]
              exact ⟨y1, Nat.zero_le _, rfl⟩
          have i3 : fs_InvT w L2 M3 := ⟨by rw [m3o 226 74 (by decide) (by decide)]; exact i2.1, by rw [m3o 226 75 (by decide) (by decide)]; exact i2.2.1, fun s a b => by
            obtain ⟨u, v⟩ := i2.2.2 s a b
            exact ⟨by rw [m3o 226 77 (by decide) (by decide)]; exact u, fun i hi => by rw [m3o 269 i (by decide) (by decide)]; exact v i hi⟩⟩
          refine ih e (r ++ [x]) L2 M3 _ (by omega) (by omega) (by rw [lrx]; omega) (fs_nd_snoc hnd xn) (fun y hy => ?_) (by omega) (C2.outT o3) ((hk.out o2).out o3) hM' i3 (fun M4 o4 i4 m4 => ⟨rfl, ?_⟩)
          · rcases List.mem_append.1 hy with u | u
            · exact hb y u
            · rcases List.mem_cons.1 u with u | u
              · rw [u]
                exact ⟨x0, by omega⟩
              · cases u
          · obtain ⟨b1, b2, b3⟩ := m4 d d0 (by omega)
            rw [fs_RT_d] at b1 b2 b3
            rw [lrx] at b1 b3
            rw [show fs_w32 (M4 252 d - 1) = (r.length : Int) by rw [b1, fs_w32_of (by omega) (by omega)]; omega, fs_w32_of (x := x + 1) (by omega) (by omega)]
            have jl := jlen (fs_ext (E 1 5).toNat fs_tt n (r ++ [x])) L2
            refine ihm (x + 1) _ _ (by omega) (by omega) (by omega) (fs_out.st (o2.tr (o3.tr o4)) (Or.inr (Or.inr (Or.inl rfl)))) ⟨by rw [fs_st_o (by decide)]; exact i4.1, by rw [fs_st_o (by decide)]; exact i4.2.1, fun s a b => ?_⟩ (fun c c0 c3 => ?_) hK2
            · obtain ⟨u, v⟩ := i4.2.2 s a b
              exact ⟨by rw [fs_st_o (by decide)]; exact u, fun i hi => by rw [fs_st_o (by decide)]; exact v i hi⟩
            · by_cases q : c = d
              · rw [q, fs_st_s, fs_RT_d]
                refine ⟨rfl, by omega, ?_⟩
                rw [fs_lst_snoc] at b3
                rw [fs_lst_cong (f2 := M4 251) (fun i _ _ => fs_st_o (by decide))]
                exact List.append_inj_left' b3 rfl
              · obtain ⟨y1, y2, y3⟩ := m4 c c0 c3
                rw [fs_RT_o q] at y1 ⊢
                rw [fs_st_k q]
                exact ⟨y1, Nat.zero_le _, rfl⟩
        · have z' : fs_bit (fs_bts r 0) x = 1 := z
          rw [fs_hf_n (Or.inr (bt.1 z'))] at hl2 hK2
          rw [fs_w32_of (by omega) (by omega)]
          exact ihm (x + 1) L2 M2 (by omega) (by omega) hl2 o2 i2 m2 hK2
    exact loop (E 1 5).toNat 0 L1 M1 (by omega) (by decide) (by omega) o1 i1 m1 hK'
end MOTALES
