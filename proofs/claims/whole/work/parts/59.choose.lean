-- ===== the first of the best rows; price, all, whole worth =====
def fs_fnd (p : List Int → Bool) : List (List Int) → List Int
  | [] => []
  | a :: t => if p a = true then a else fs_fnd p t
theorem fs_fnd_is {p : List Int → Bool} : ∀ {l : List (List Int)}, (∃ a, a ∈ l ∧ p a = true) → ∃ u v, l = u ++ fs_fnd p l :: v ∧ p (fs_fnd p l) = true ∧ ∀ a, a ∈ u → p a = false
  | [], h => by
    obtain ⟨a, q, _⟩ := h
    cases q
  | b :: t, h => by
    have e : fs_fnd p (b :: t) = if p b = true then b else fs_fnd p t := rfl
    by_cases c : p b = true
    · rw [if_pos c] at e
      rw [e]
      exact ⟨[], t, rfl, c, fun a q => (by cases q)⟩
    · rw [if_neg c] at e
      rw [e]
      have h2 : ∃ a, a ∈ t ∧ p a = true := by
        obtain ⟨a, q1, q2⟩ := h
        rcases List.mem_cons.1 q1 with q | q
        · rw [q] at q2
          exact absurd q2 c
        · exact ⟨a, q, q2⟩
      obtain ⟨u, v, x, y, z⟩ := fs_fnd_is h2
      refine ⟨b :: u, v, ?_, y, fun a q => ?_⟩
      · rw [List.cons_append, ← x]
      · rcases List.mem_cons.1 q with w | w
        · rw [w]
          cases hb : p b with
          | true => exact absurd hb c
          | false => rfl
        · exact z a w
/-- the row that is taken for dark one d, of k left, within F -/
def fs_pp (RS : List (List Int)) (V : Int → List Int → Int) (k : Nat) (d F : Int) (r : List Int) : Bool := fs_sb (fs_bts r 0) F && decide (V d r + fs_Bm RS V k (d + 1) (fs_mn F (fs_bts r 0)) = fs_Bm RS V (k + 1) d F)
def fs_pick1 (RS : List (List Int)) (V : Int → List Int → Int) (k : Nat) (d F : Int) : List Int := fs_fnd (fs_pp RS V k d F) RS
/-- the first of the best rows -/
def fs_ch (RS : List (List Int)) (V : Int → List Int → Int) : Nat → Int → Int → Int → List Int
  | 0, _, _, _ => []
  | k + 1, d, F, i => if i = d then fs_pick1 RS V k d F else fs_ch RS V k (d + 1) (fs_mn F (fs_bts (fs_pick1 RS V k d F) 0)) i
theorem fs_RS_nil {E : fs_M} : [] ∈ fs_RS E := by
  have := fs_ext_all (H := (E 1 5).toNat) (ok := fs_tt) [] 6 [] List.nodup_nil (fun h hh => (by cases hh)) (by decide)
  exact this
theorem fs_pp_ex {E : fs_M} {V : Int → List Int → Int} (hV : ∀ d r, 0 ≤ V d r) (k : Nat) (d F : Int) : ∃ r, r ∈ fs_RS E ∧ fs_pp (fs_RS E) V k d F r = true := by
  have e : fs_Bm (fs_RS E) V (k + 1) d F = fs_mx (fun r => V d r + fs_Bm (fs_RS E) V k (d + 1) (fs_mn F (fs_bts r 0))) ((fs_RS E).filter (fun r => fs_sb (fs_bts r 0) F)) := rfl
  rcases fs_mx_at (f := fun r => V d r + fs_Bm (fs_RS E) V k (d + 1) (fs_mn F (fs_bts r 0))) ((fs_RS E).filter (fun r => fs_sb (fs_bts r 0) F)) with q | ⟨r, qa, qe⟩
  · have s0 : fs_sb (fs_bts [] 0) F = true := by
      refine (fs_sb_iff (s := 0) (by decide) (by decide)).2 (fun h h0 h1 hb => ?_)
      have z := fs_bit0 h.toNat (by omega)
      rw [show ((h.toNat : Nat) : Int) = h by omega] at z
      omega
    have m := fs_mx_ge (f := fun r => V d r + fs_Bm (fs_RS E) V k (d + 1) (fs_mn F (fs_bts r 0))) (a := []) (l := (fs_RS E).filter (fun r => fs_sb (fs_bts r 0) F)) (List.mem_filter.2 ⟨fs_RS_nil, s0⟩)
    have a := hV d []
    have b := fs_Bm_0 (RS := fs_RS E) (V := V) (k := k) (d := d + 1) (F := fs_mn F (fs_bts [] 0))
    refine ⟨[], fs_RS_nil, ?_⟩
    unfold fs_pp
    rw [s0, Bool.true_and, decide_eq_true_iff, e]
    try dsimp only at m
    omega
  · obtain ⟨x, y⟩ := List.mem_filter.1 qa
    refine ⟨r, x, ?_⟩
    unfold fs_pp
    rw [y, Bool.true_and, decide_eq_true_iff, e]
    exact qe.symm
theorem fs_pick1_is {E : fs_M} {V : Int → List Int → Int} (hV : ∀ d r, 0 ≤ V d r) (k : Nat) (d F : Int) : ∃ u v, fs_RS E = u ++ fs_pick1 (fs_RS E) V k d F :: v ∧ fs_pp (fs_RS E) V k d F (fs_pick1 (fs_RS E) V k d F) = true ∧ ∀ a, a ∈ u → fs_pp (fs_RS E) V k d F a = false := fs_fnd_is (fs_pp_ex hV k d F)
/-- the places of the rows taken -/
def fs_rat (RS : List (List Int)) (r : List Int) (j : Int) : Prop := ∃ u v, RS = u ++ r :: v ∧ j = u.length
section CHOOSE
variable {g : fs_G}
theorem sp_firstBest {E M : fs_M} {K : fs_K} {w : Int → Int} {n d F : Int} {k : Nat} (hB : fs_bE E) (hbk : fs_bk E M) (hg : fs_wg E w n M) (hwb : ∀ h, 0 ≤ h → h < 6 → 0 ≤ w h ∧ w h ≤ 99) (d0 : 0 ≤ d) (dn : d < n) (n9 : n ≤ E 1 9) (hk : (n - d).toNat = k + 1) (F0 : 0 ≤ F) (F1 : F ≤ fs_ev1 E)
    (hK : ∀ j, fs_rat (fs_RS E) (fs_pick1 (fs_RS E) (fs_Vw E w) k d F) j → K (some (fs_i j)) M) : fs_C2 g m_Book_firstBest 1 [fs_r 60, fs_i d, fs_i F] M K := by
  have h5 := hB.1
  have h6 := hB.2.1
  have h3 := hB.2.2.2.1
  have rl := fs_RS_len hB
  have eb := (fs_ev1_b hB).2.1
  obtain ⟨u, v, hu, hpu, hnu⟩ := fs_pick1_is (E := E) (V := fs_Vw E w) (fun d r => (fs_Vw_b hB hwb d r).1) k d F
  refine E_Book_firstBest ?_
  have loop : ∀ (m : Nat) (a b : List (List Int)), b.length = m → u = a ++ b → fs_A2 g m_Book_firstBest 1 2 [(0, fs_r 60), (1, fs_i d), (2, fs_i F), (3, fs_i (a.length : Int))] [] M K := by
    intro m
    induction m with
    | zero =>
      intro a b hb hab
      have b0 : b = [] := List.length_eq_zero_iff.1 hb
      rw [b0, List.append_nil] at hab
      generalize hr : fs_pick1 (fs_RS E) (fs_Vw E w) k d F = r at *
      rw [hab] at hu
      have rm : r ∈ fs_RS E := by
        rw [hu]
        exact List.mem_append.2 (Or.inr List.mem_cons_self)
      have ll : a.length + (v.length + 1) ≤ 1957 := by
        have : (fs_RS E).length = a.length + (v.length + 1) := by rw [hu, List.length_append, List.length_cons]
        omega
      have w12 := hbk.2.2.2.2.2.1
      have wk := hbk.2.2.2.2.2.2 d d0 (by omega)
      rw [hu] at w12 wk
      have p12 := ((fs_wrt_app _ _ _).1 w12).2.1
      have pk := ((fs_wrt_app _ _ _).1 wk).2.1
      rw [Int.zero_add] at p12 pk
      obtain ⟨s0, s1⟩ := fs_bts_b r 0 (fs_RS_6 hB rm) (by decide) (by decide)
      have cb := fs_col_b (fs_itm E (-1) (E 31 2) (fs_alN E) d r) (E 1 5).toNat (by omega)
      have p64 := fs_p2_64 (n := ((E 1 5).toNat : Int)) (by omega)
      have mb := fs_mn_b hB (s := fs_bts r 0) F0 F1
      unfold fs_pp at hpu
      rw [Bool.and_eq_true] at hpu
      have sub0 : fs_and (fs_bts r 0) (fs_xor F (-1)) = 0 := of_decide_eq_true hpu.1
      have eqv := of_decide_eq_true hpu.2
      have ek : (n - (d + 1)).toNat = k := by omega
      refine L_Book_firstBest_2 ⟨fun z => ?_, fun _ => ⟨by omega, by omega, fun z => ?_, fun _ => ?_⟩⟩
      · rw [hbk.2.2.2.2.1, hu, List.length_append, List.length_cons] at z
        omega
      · rw [p12.2] at z
        exact absurd sub0 z
      · rw [p12.2, pk.2, fs_w32_of (x := d + 1) (by omega) (by omega)]
        have em : fs_and F (fs_xor (fs_bts r 0) (-1)) = fs_mn F (fs_bts r 0) := rfl
        rw [em, hg.1 _ cb.1 (by omega), fs_Vw_col hB, hg.2 (d + 1) (by omega) (by omega) _ mb.1 mb.2, hg.2 d d0 (by omega) F F0 F1, ek, hk]
        have vb := fs_Vw_b hB hwb d r
        have bb := fs_Bmw_b hB hwb k (d + 1) (fs_mn F (fs_bts r 0)) (by omega)
        rw [fs_w32_of (by omega) (by omega)]
        exact ⟨d0, by omega, cb.1, by omega, by omega, by omega, mb.1, by omega, F0, by omega, fun z => absurd eqv z, fun _ => hK _ ⟨a, v, hu, rfl⟩⟩
    | succ m ih =>
      intro a b hb hab
      cases b with
      | nil =>
        rw [List.length_nil] at hb
        omega
      | cons r t =>
        rw [List.length_cons] at hb
        have nr : fs_pp (fs_RS E) (fs_Vw E w) k d F r = false := hnu r (by rw [hab]; exact List.mem_append.2 (Or.inr List.mem_cons_self))
        have hu2 : fs_RS E = a ++ r :: (t ++ fs_pick1 (fs_RS E) (fs_Vw E w) k d F :: v) := by
          have e1 := hu
          rw [hab, List.append_assoc, List.cons_append] at e1
          exact e1
        generalize hT : t ++ fs_pick1 (fs_RS E) (fs_Vw E w) k d F :: v = T at hu2
        have rm : r ∈ fs_RS E := by
          rw [hu2]
          exact List.mem_append.2 (Or.inr List.mem_cons_self)
        have ll : a.length + (T.length + 1) ≤ 1957 := by
          have : (fs_RS E).length = a.length + (T.length + 1) := by rw [hu2, List.length_append, List.length_cons]
          omega
        have w12 := hbk.2.2.2.2.2.1
        have wk := hbk.2.2.2.2.2.2 d d0 (by omega)
        rw [hu2] at w12 wk
        have p12 := ((fs_wrt_app _ _ _).1 w12).2.1
        have pk := ((fs_wrt_app _ _ _).1 wk).2.1
        rw [Int.zero_add] at p12 pk
        obtain ⟨s0, s1⟩ := fs_bts_b r 0 (fs_RS_6 hB rm) (by decide) (by decide)
        have cb := fs_col_b (fs_itm E (-1) (E 31 2) (fs_alN E) d r) (E 1 5).toNat (by omega)
        have p64 := fs_p2_64 (n := ((E 1 5).toNat : Int)) (by omega)
        have mb := fs_mn_b hB (s := fs_bts r 0) F0 F1
        have ek : (n - (d + 1)).toNat = k := by omega
        have nx := ih (a ++ [r]) t (by omega) (by rw [hab, List.append_assoc]; rfl)
        rw [← fs_wlenA (by omega)] at nx
        refine L_Book_firstBest_2 ⟨fun z => ?_, fun _ => ⟨by omega, by omega, fun _ => nx, fun z => ?_⟩⟩
        · rw [hbk.2.2.2.2.1, hu2, List.length_append, List.length_cons] at z
          omega
        · rw [p12.2] at z
          have sbt : fs_sb (fs_bts r 0) F = true := decide_eq_true z
          unfold fs_pp at nr
          rw [sbt, Bool.true_and] at nr
          have nev := of_decide_eq_false nr
          rw [p12.2, pk.2, fs_w32_of (x := d + 1) (by omega) (by omega)]
          have em : fs_and F (fs_xor (fs_bts r 0) (-1)) = fs_mn F (fs_bts r 0) := rfl
          rw [em, hg.1 _ cb.1 (by omega), fs_Vw_col hB, hg.2 (d + 1) (by omega) (by omega) _ mb.1 mb.2, hg.2 d d0 (by omega) F F0 F1, ek, hk]
          have vb := fs_Vw_b hB hwb d r
          have bb := fs_Bmw_b hB hwb k (d + 1) (fs_mn F (fs_bts r 0)) (by omega)
          rw [fs_w32_of (x := fs_Vw E w d r + fs_Bm (fs_RS E) (fs_Vw E w) k (d + 1) (fs_mn F (fs_bts r 0))) (by omega) (by omega)]
          exact ⟨d0, by omega, cb.1, by omega, by omega, by omega, mb.1, by omega, F0, by omega, fun _ => nx, fun q => absurd q nev⟩
  exact loop u.length [] u rfl rfl
/-- the best rows chosen: where they stand -/
theorem sp_chooseBest {E M : fs_M} {K : fs_K} {n : Int} (hB : fs_bE E) (hE : fs_env E M) (hbk : fs_bk E M) (n0 : 0 ≤ n) (n1 : n ≤ E 1 9)
    (hK : ∀ M', fs_out (fun o _ => fs_FD o) M M' → fs_wg E (fs_wW E) n M' → (∀ i, 0 ≤ i → i < n → fs_rat (fs_RS E) (fs_ch (fs_RS E) (fs_Vw E (fs_wW E)) n.toNat 0 (fs_ev1 E) i) (M' 82 i)) → K none M') : fs_C2 g m_Book_chooseBest 4 [fs_r 60, fs_i n] M K := by
  have h3 := hB.2.2.2.1
  have eb := fs_ev1_b hB
  have hwb := fs_wW_b hB
  have rl := fs_RS_len hB
  refine E_Book_chooseBest (sp_weighWorth hB hE hbk.1 (fun M1 o1 w1 => ⟨rfl, ?_⟩))
  have env1 : fs_env E M1 := fun o k q => by
    rw [o1 o k (by unfold fs_eC at q; omega)]
    exact hE o k q
  have bk1 : fs_bk E M1 := hbk.cong h3 (fun o k q => o1 o k (by omega))
  refine sp_weighRows (w := fs_wW E) hB env1 bk1 n0 n1 hwb w1 (fun M2 o2 g2 => ⟨rfl, ?_⟩)
  have env2 : fs_env E M2 := fun o k q => by
    rw [o2 o k (by unfold fs_eC at q; omega)]
    exact env1 o k q
  have bk2 : fs_bk E M2 := bk1.cong h3 (fun o k q => o2 o k (by omega))
  refine sp_everyHouse hB env2 ⟨_, rfl, ?_⟩
  have o2' : fs_out (fun o _ => fs_FD o) M M2 := fun o k nF => by
    have nF2 : ¬ (72 ≤ o ∧ o ≤ 82) := nF
    rw [o2 o k (by omega), o1 o k (by omega)]
  have loop : ∀ (k : Nat) (d F : Int) (M3 : fs_M), (n - d).toNat = k → 0 ≤ d → d ≤ n → 0 ≤ F → F ≤ fs_ev1 E → fs_out (fun o _ => o = 82) M2 M3 → (∀ i, 0 ≤ i → i < d → fs_rat (fs_RS E) (fs_ch (fs_RS E) (fs_Vw E (fs_wW E)) n.toNat 0 (fs_ev1 E) i) (M3 82 i)) → (∀ i, d ≤ i → i < n → fs_ch (fs_RS E) (fs_Vw E (fs_wW E)) n.toNat 0 (fs_ev1 E) i = fs_ch (fs_RS E) (fs_Vw E (fs_wW E)) k d F i) →
      fs_A2 g m_Book_chooseBest 4 16 [(0, fs_r 60), (1, fs_i n), (2, fs_i F), (3, fs_i d)] [] M3 K := by
    intro k
    induction k with
    | zero =>
      intro d F M3 hk d0 dn F0 F1 o3 h3 hc
      refine L_Book_chooseBest_16 ⟨fun _ => hK M3 (o2'.tr (o3.wk (fun o k q => ?_))) ?_ (fun i a b => h3 i a (by omega)), fun z => by omega⟩
      · have q2 : o = 82 := q
        show 72 ≤ o ∧ o ≤ 82
        omega
      · refine ⟨fun s a b => ?_, fun e a b F f0 f1 => ?_⟩
        · rw [o3 72 s (by omega)]
          exact g2.1 s a b
        · rw [o3 (78 + e) F (by omega)]
          exact g2.2 e a b F f0 f1
    | succ k ih =>
      intro d F M3 hk d0 dn F0 F1 o3 h3' hc
      have bk3 : fs_bk E M3 := bk2.cong h3 (fun o k q => o3 o k (by omega))
      have g3 : fs_wg E (fs_wW E) n M3 := by
        refine ⟨fun s a b => ?_, fun e a b F f0 f1 => ?_⟩
        · rw [o3 72 s (by omega)]
          exact g2.1 s a b
        · rw [o3 (78 + e) F (by omega)]
          exact g2.2 e a b F f0 f1
      refine L_Book_chooseBest_16 ⟨fun z => by omega, fun _ => ?_⟩
      refine sp_firstBest (w := fs_wW E) (n := n) (k := k) hB bk3 g3 hwb d0 (by omega) n1 hk F0 F1 (fun j hj => ⟨_, rfl, d0, by omega, ?_⟩)
      have hj' := hj
      obtain ⟨u, v, hu, ej⟩ := hj
      have ll : (fs_RS E).length = u.length + (v.length + 1) := by rw [hu, List.length_append, List.length_cons]
      have e62 : M3 62 j = fs_bts (fs_pick1 (fs_RS E) (fs_Vw E (fs_wW E)) k d F) 0 := by
        have w12 := bk3.2.2.2.2.2.1
        rw [hu] at w12
        have p12 := ((fs_wrt_app _ _ _).1 w12).2.1
        rw [Int.zero_add] at p12
        rw [ej]
        exact p12.2
      rw [e62, fs_w32_of (by omega) (by omega)]
      have mb := fs_mn_b hB (s := fs_bts (fs_pick1 (fs_RS E) (fs_Vw E (fs_wW E)) k d F) 0) F0 F1
      refine ⟨by omega, by omega, ih (d + 1) _ _ (by omega) (by omega) (by omega) mb.1 mb.2 (o3.st rfl) (fun i a b => ?_) (fun i a b => ?_)⟩
      · by_cases q : i = d
        · rw [q, fs_st_s, hc d (Int.le_refl _) (by omega)]
          show fs_rat (fs_RS E) (if d = d then fs_pick1 (fs_RS E) (fs_Vw E (fs_wW E)) k d F else _) j
          rw [if_pos rfl]
          exact hj'
        · rw [fs_st_k q]
          exact h3' i a (by omega)
      · rw [hc i (by omega) b]
        show (if i = d then _ else fs_ch (fs_RS E) (fs_Vw E (fs_wW E)) k (d + 1) (fs_mn F (fs_bts (fs_pick1 (fs_RS E) (fs_Vw E (fs_wW E)) k d F) 0)) i) = _
        rw [if_neg (by omega)]
        rfl
  exact loop n.toNat 0 (fs_ev1 E) M2 (by omega) (by decide) n0 eb.1 (Int.le_refl _) fs_out.rf (fun i a b => by omega) (fun i a b => rfl)
theorem sp_houseOf {E M : fs_M} {K : fs_K} {r : List Int} {j i : Int} (hB : fs_bE E) (hbk : fs_bk E M) (hj : fs_rat (fs_RS E) r j) (i0 : 0 ≤ i) (hK : K (some (fs_i (if fs_nth r i.toNat = -1 then -2 else fs_nth r i.toNat))) M) : fs_C2 g m_Book_houseOf 1 [fs_r 60, fs_i j, fs_i i] M K := by
  obtain ⟨u, v, hu, ej⟩ := hj
  have rl := fs_RS_len hB
  have ll : (fs_RS E).length = u.length + (v.length + 1) := by rw [hu, List.length_append, List.length_cons]
  have rm : r ∈ fs_RS E := by
    rw [hu]
    exact List.mem_append.2 (Or.inr List.mem_cons_self)
  have r6 := fs_RS_6 hB rm
  have len := (fs_RS_mem hB rm).2.2
  have nb := fs_nth_b r i.toNat r6
  refine E_Book_houseOf ⟨fun z => L_Book_houseOf_25 ⟨fun q => absurd rfl q, fun _ => ?_⟩, fun z => ⟨by omega, by omega, ?_⟩⟩
  · rw [if_pos (nb.2.2.2 (by omega))] at hK
    exact hK
  · have e61 : M 61 j = fs_cod r 0 0 := by
      have w12 := hbk.2.2.2.2.2.1
      rw [hu] at w12
      have p12 := ((fs_wrt_app _ _ _).1 w12).2.1
      rw [Int.zero_add] at p12
      rw [ej]
      exact p12.1
    have dg : fs_and (fs_shr (fs_cod r 0 0) (fs_w32 (3 * i))) 7 = fs_nth r i.toNat + 1 := by
      have := fs_cod_dig r 0 0 (by decide) (by omega) r6 (fun k k0 k1 => by
        have z0 := fs_dig_0 k.toNat (by omega)
        rw [show ((k.toNat : Nat) : Int) = k by omega] at z0
        exact z0) i i0 (by omega)
      rw [if_neg (by omega), Int.sub_zero] at this
      exact this
    rw [e61, dg, fs_w32_of (by omega) (by omega), show fs_nth r i.toNat + 1 - 1 = fs_nth r i.toNat by omega]
    refine L_Book_houseOf_25 ⟨fun q => ?_, fun q => ?_⟩
    · rw [if_neg q] at hK
      exact hK
    · rw [if_pos q] at hK
      exact hK
def fs_whole (E : fs_M) : Int := fs_gbi E (fs_alN E) (E 1 5).toNat + fs_sum (fs_wW E) (fun h => if fs_alN E h = 0 then 1 else 0) (E 1 5).toNat
theorem sp_wholeWorth {E M : fs_M} {K : fs_K} (hB : fs_bE E) (hE : fs_env E M) (hbk : fs_bk E M) (hK : K (some (fs_i (fs_whole E))) M) : fs_C2 g m_Book_wholeWorth 3 [fs_r 60] M K := by
  have h5 := hB.1
  have h6 := hB.2.1
  have e15 : M 1 5 = E 1 5 := hE 1 5 (by unfold fs_eC; omega)
  have gb := fs_gbi_b hB (al := fs_alN E) (E 1 5).toNat (by omega)
  refine E_Book_wholeWorth (sp_gainByItself hB hE hbk ⟨_, rfl, ?_⟩)
  have loop : ∀ (n : Nat) (i : Nat), (E 1 5).toNat - i = n → i ≤ (E 1 5).toNat → fs_A2 g m_Book_wholeWorth 3 7 [(0, fs_r 60), (1, fs_i (fs_gbi E (fs_alN E) (E 1 5).toNat + fs_sum (fs_wW E) (fun h => if fs_alN E h = 0 then 1 else 0) i)), (2, fs_i (i : Int))] [] M K := by
    intro n
    induction n with
    | zero =>
      intro i hn hi
      refine L_Book_wholeWorth_7 ⟨fun _ => ?_, fun z => by omega⟩
      rw [show i = (E 1 5).toNat by omega]
      exact hK
    | succ n ih =>
      intro i hn hi
      have nx := ih (i + 1) (by omega) (by omega)
      have sb := fs_sum_b (w := fs_wW E) (f := fun h => if fs_alN E h = 0 then 1 else 0) (fs_wW_b hB) i (by omega)
      have bi := hbk.2.2.2.1 i (by omega) (by omega)
      have es : fs_sum (fs_wW E) (fun h => if fs_alN E h = 0 then 1 else 0) (i + 1) = fs_sum (fs_wW E) (fun h => if fs_alN E h = 0 then 1 else 0) i + (if (if fs_alN E i = 0 then (1 : Int) else 0) = 1 then fs_wW E i else 0) := rfl
      rw [es] at nx
      have wb := fs_wbd_b hB (hv := E 31 2) (h := (i : Int)) (by omega) (by omega)
      refine L_Book_wholeWorth_7 ⟨fun z => by omega, fun _ => E_Fs_bit ⟨_, rfl, fun z => ?_, fun z => ?_⟩⟩
      · have z2 : fs_bit (M 60 9) i = 1 := by
          rcases fs_bit01 (M 60 9) i with q | q
          · exact absurd q z
          · exact q
        rw [if_neg (bi.1 z2).2, if_neg (by decide), ← Int.add_assoc] at nx
        rw [fs_wsucc (by omega), fs_w32_of (by omega) (by omega)]
        exact nx
      · have z2 : fs_bit (M 60 9) i = 0 := z
        have a0 : fs_alN E i = 0 := by
          by_cases q : fs_alN E i = 0
          · exact q
          · have := bi.2 ⟨by omega, q⟩
            omega
        have ew : fs_wW E i = fs_wbd E (E 31 2) i := by
          unfold fs_wW
          rw [if_pos ⟨by omega, by omega⟩]
        rw [if_pos a0, if_pos rfl, ew, ← Int.add_assoc] at nx
        refine sp_worthByDark hB hE hbk.1 (by omega) (by omega) ⟨_, rfl, ?_⟩
        rw [fs_wsucc (by omega), fs_w32_of (by omega) (by omega)]
        exact nx
  have := loop _ 0 rfl (Nat.zero_le _)
  rw [show fs_gbi E (fs_alN E) (E 1 5).toNat + fs_sum (fs_wW E) (fun h => if fs_alN E h = 0 then 1 else 0) 0 = fs_gbi E (fs_alN E) (E 1 5).toNat from Int.add_zero _] at this
  exact this
end CHOOSE
