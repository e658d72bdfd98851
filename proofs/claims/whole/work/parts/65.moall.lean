-- ===== the model: many, price, all =====
def fs_cnd (E S : fs_M) (a : Int) : Nat → Int
  | 0 => 1
  | n + 1 => if fs_bit a n = 1 ∧ (S 7 n = -1 ∨ ¬ S 8 n ≤ E 5 n) then 0 else fs_cnd E S a n
theorem fs_cnd_T {E : fs_M} {a : Int} {R : Int → List Int} (hB : fs_bE E) (hG : fs_good E (-1) R) : ∀ (n : Nat), (n : Int) ≤ E 1 5 →
    fs_sum (fs_wnt E a) (fs_itm E (-1) (E 31 2) (fs_alN E) 0 (R 0)) n + fs_sum (fs_wnt E a) (fs_itm E (-1) (E 31 2) (fs_alN E) 1 (R 1)) n + fs_sum (fs_wnt E a) (fs_itm E (-1) (E 31 2) (fs_alN E) 2 (R 2)) n ≤ fs_sum (fs_wnt E a) (fun _ => 1) n ∧
    (fs_cnd E (fs_run E (-1) (E 31 2) (fs_alW E (-1)) (fs_nR E R)).2 a n = 0 ∨ fs_cnd E (fs_run E (-1) (E 31 2) (fs_alW E (-1)) (fs_nR E R)).2 a n = 1) ∧
    (fs_cnd E (fs_run E (-1) (E 31 2) (fs_alW E (-1)) (fs_nR E R)).2 a n = 1 ↔ fs_sum (fs_wnt E a) (fs_itm E (-1) (E 31 2) (fs_alN E) 0 (R 0)) n + fs_sum (fs_wnt E a) (fs_itm E (-1) (E 31 2) (fs_alN E) 1 (R 1)) n + fs_sum (fs_wnt E a) (fs_itm E (-1) (E 31 2) (fs_alN E) 2 (R 2)) n = fs_sum (fs_wnt E a) (fun _ => 1) n)
  | 0, _ => by
    show (0 : Int) + 0 + 0 ≤ 0 ∧ ((1 : Int) = 0 ∨ (1 : Int) = 1) ∧ ((1 : Int) = 1 ↔ (0 : Int) + 0 + 0 = 0)
    decide
  | n + 1, hn => by
    obtain ⟨i1, i2, i3⟩ := fs_cnd_T (a := a) hB hG n (by omega)
    obtain ⟨n1, n2⟩ := fs_nR_good hB hG
    have b5 := (hB.2.2.2.2.1 n (by omega) (by omega)).2.2.2.2.1
    have ie : ∀ d, 0 ≤ d → d < 3 → fs_itm E (-1) (E 31 2) (fs_alW E (-1)) d (fs_nR E R d) n = fs_itm E (-1) (E 31 2) (fs_alN E) d (R d) n := fun d d0 d3 => by
      rw [fs_nR_is hG d0 d3, fs_itm_al (fs_good_opn hG d0 d3)]
    have es : ∀ f : Int → Int, fs_sum (fs_wnt E a) f (n + 1) = fs_sum (fs_wnt E a) f n + (if f n = 1 then fs_wnt E a n else 0) := fun f => rfl
    have ec : fs_cnd E (fs_run E (-1) (E 31 2) (fs_alW E (-1)) (fs_nR E R)).2 a (n + 1) = if fs_bit a n = 1 ∧ ((fs_run E (-1) (E 31 2) (fs_alW E (-1)) (fs_nR E R)).2 7 n = -1 ∨ ¬ (fs_run E (-1) (E 31 2) (fs_alW E (-1)) (fs_nR E R)).2 8 n ≤ E 5 n) then 0 else fs_cnd E (fs_run E (-1) (E 31 2) (fs_alW E (-1)) (fs_nR E R)).2 a n := rfl
    have eaw : fs_alW E (-1) n = fs_alN E n := by rw [fs_alW_is, if_neg (by omega)]
    rw [es, es, es, es, ec, if_pos rfl]
    have w01 := fs_wnt01 E a n
    by_cases ha : fs_alN E n = 0
    · rcases fs_itm_1 (tr := -1) (rf := E 31 2) (al := fs_alW E (-1)) hB n1 n2 (show (0 : Int) ≤ n by omega) (by omega) (by rw [eaw]; exact ha) with ⟨p1, _, p3⟩ | ⟨p1, p2, e, e0, e3, he, q1, _, qo⟩
      · have z : ∀ d, 0 ≤ d → d < 3 → fs_itm E (-1) (E 31 2) (fs_alN E) d (R d) n = 0 := fun d d0 d3 => by rw [← ie d d0 d3]; exact p3 d d0 d3
        rw [z 0 (by decide) (by decide), z 1 (by decide) (by decide), z 2 (by decide) (by decide), if_neg (by decide)]
        by_cases b : fs_bit a n = 1
        · have w1 : fs_wnt E a n = 1 := by
            unfold fs_wnt
            rw [if_pos ⟨by omega, by omega, b, ha⟩]
          rw [if_pos ⟨b, p1⟩, w1]
          refine ⟨by omega, Or.inl rfl, ⟨fun q => absurd q (by decide), fun q => by omega⟩⟩
        · have w0 : fs_wnt E a n = 0 := by
            unfold fs_wnt
            rw [if_neg (fun q => b q.2.2.1)]
          rw [if_neg (fun q => b q.1), w0]
          refine ⟨by omega, i2, ?_⟩
          rw [i3]
          constructor <;> intro q <;> omega
      · have z : ∀ d, 0 ≤ d → d < 3 → d ≠ e → fs_itm E (-1) (E 31 2) (fs_alN E) d (R d) n = 0 := fun d d0 d3 ne => by rw [← ie d d0 d3]; exact qo d d0 d3 ne
        have z1 : fs_itm E (-1) (E 31 2) (fs_alN E) e (R e) n = 1 := by rw [← ie e e0 e3]; exact q1
        have sum3 : (if fs_itm E (-1) (E 31 2) (fs_alN E) 0 (R 0) n = 1 then fs_wnt E a n else 0) + (if fs_itm E (-1) (E 31 2) (fs_alN E) 1 (R 1) n = 1 then fs_wnt E a n else 0) + (if fs_itm E (-1) (E 31 2) (fs_alN E) 2 (R 2) n = 1 then fs_wnt E a n else 0) = fs_wnt E a n := by
          have e012 : e = 0 ∨ e = 1 ∨ e = 2 := by omega
          rcases e012 with q | q | q
          · subst q
            rw [z1, z 1 (by decide) (by decide) (by decide), z 2 (by decide) (by decide) (by decide), if_pos rfl, if_neg (by decide)]
            omega
          · subst q
            rw [z1, z 0 (by decide) (by decide) (by decide), z 2 (by decide) (by decide) (by decide), if_pos rfl, if_neg (by decide)]
            omega
          · subst q
            rw [z1, z 0 (by decide) (by decide) (by decide), z 1 (by decide) (by decide) (by decide), if_pos rfl, if_neg (by decide)]
            omega
        have nc : ¬ (fs_bit a n = 1 ∧ ((fs_run E (-1) (E 31 2) (fs_alW E (-1)) (fs_nR E R)).2 7 n = -1 ∨ ¬ (fs_run E (-1) (E 31 2) (fs_alW E (-1)) (fs_nR E R)).2 8 n ≤ E 5 n)) := fun q => by
          rcases q.2 with u | u
          · omega
          · exact u p2
        rw [if_neg nc]
        refine ⟨by omega, i2, ?_⟩
        rw [i3]
        constructor <;> intro q <;> omega
    · have w0 : fs_wnt E a n = 0 := by
        unfold fs_wnt
        rw [if_neg (fun q => ha q.2.2.2)]
      obtain ⟨s1, s2⟩ := (fs_indep (tr := -1) (rf := E 31 2) (al := fs_alW E (-1)) hB n1 n2 (show (0 : Int) ≤ n by omega) (by omega)).1 (by rw [eaw]; exact ha)
      rw [fs_itm_a ha, fs_itm_a ha, fs_itm_a ha, if_neg (by decide), w0, if_neg (fun q => by
        rcases q.2 with u | u
        · omega
        · exact u (by omega))]
      refine ⟨by omega, i2, ?_⟩
      rw [i3]
      constructor <;> intro q <;> omega
def fs_jA (V : Int → List Int → Int) (W : Int) (b : Bool) (R : Int → List Int) : Bool := b || decide (fs_T V R = W)
theorem fs_jA_any {V : Int → List Int → Int} {W : Int} : ∀ (L : List (Int → List Int)) (b : Bool), (L.foldl (fs_jA V W) b = true ↔ b = true ∨ ∃ R, R ∈ L ∧ fs_T V R = W)
  | [], b => ⟨fun q => Or.inl q, fun q => by
      rcases q with q | ⟨R, q, _⟩
      · exact q
      · cases q⟩
  | S :: t, b => by
    show t.foldl (fs_jA V W) (fs_jA V W b S) = true ↔ _
    rw [fs_jA_any t]
    unfold fs_jA
    constructor
    · rintro (q | ⟨R, q1, q2⟩)
      · rw [Bool.or_eq_true] at q
        rcases q with q | q
        · exact Or.inl q
        · exact Or.inr ⟨S, List.mem_cons_self, of_decide_eq_true q⟩
      · exact Or.inr ⟨R, List.mem_cons_of_mem _ q1, q2⟩
    · rintro (q | ⟨R, q1, q2⟩)
      · exact Or.inl (by rw [q]; rfl)
      · rcases List.mem_cons.1 q1 with q | q
        · refine Or.inl ?_
          rw [← q, decide_eq_true q2, Bool.or_true]
        · exact Or.inr ⟨R, q, q2⟩
def fs_InvA (a : Int) (b : Bool) (M : fs_M) : Prop := M 226 66 = a ∧ M 226 67 = (if b = true then 1 else 0)
def fs_WA (E : fs_M) (a : Int) : Int := fs_sum (fs_wnt E a) (fun _ => 1) (E 1 5).toNat
section MOALL
variable {g : fs_G}
theorem sp_judgesA {E : fs_M} {first a : Int} (hB : fs_bE E) (hT : fs_rt E) (ha : 0 ≤ a) (b : Bool) (R : Int → List Int) (M : fs_M) (K : fs_K) (hb : b = false) (hI : fs_InvA a b M) (hC : fs_mc E (-1) first M) (hM : fs_hasR M R) (hG : fs_good E (-1) R) (hK : ∀ M', fs_out fs_FJ M M' → fs_InvA a (fs_jA (fs_Vw E (fs_wnt E a)) (fs_WA E a) b R) M' → K none M') : fs_C2 g m_Mo_judges 9 [fs_r 226] M K := by
  have h5 := hB.1
  have h6 := hB.2.1
  obtain ⟨i1, i2⟩ := hI
  rw [hb, if_neg (by decide)] at i2
  refine E_Mo_judges (sp_walksR hB hT hC hM hG (fun M1 o1 r1 => ⟨rfl, fun z => ?_, fun _ => ?_⟩))
  · rw [o1 226 66 (by unfold fs_F6 fs_F4; omega), i1] at z
    omega
  · have e66 : M1 226 66 = a := by rw [o1 226 66 (by unfold fs_F6 fs_F4; omega)]; exact i1
    have e67 : M1 226 67 = 0 := by rw [o1 226 67 (by unfold fs_F6 fs_F4; omega)]; exact i2
    have e228 : M1 228 0 = E 1 5 := by rw [r1.1 228 0 (by unfold fs_eC; omega), hT.1]
    have tt := fs_cnd_T (a := a) hB hG
    have loop : ∀ (m n : Nat), n + m = (E 1 5).toNat → fs_A2 g m_Mo_judges 9 19 [(0, fs_r 226), (1, fs_i (fs_cnd E (fs_run E (-1) (E 31 2) (fs_alW E (-1)) (fs_nR E R)).2 a n)), (2, fs_i (n : Int))] [] M1 K := by
      intro m
      induction m with
      | zero =>
        intro n hn
        have en : n = (E 1 5).toNat := by omega
        obtain ⟨t1, t2, t3⟩ := tt n (by omega)
        have or0 : ∀ x : Int, x = 0 ∨ x = 1 → fs_or 0 x = x := fun x q => by
          rcases q with q | q
          · rw [q]
            decide
          · rw [q]
            decide
        refine L_Mo_judges_19 ⟨fun _ => ?_, fun z => by omega⟩
        rw [e67, or0 _ t2]
        refine ⟨t2, hK _ (fs_out.st (o1.wk (fun _ _ q => Or.inl q)) (Or.inr (Or.inr (Or.inr ⟨rfl, Or.inr rfl⟩)))) ⟨by rw [fs_st_k (by decide)]; exact e66, ?_⟩⟩
        rw [fs_st_s, en]
        rw [en] at t2 t3
        have eT : fs_T (fs_Vw E (fs_wnt E a)) R = fs_sum (fs_wnt E a) (fs_itm E (-1) (E 31 2) (fs_alN E) 0 (R 0)) (E 1 5).toNat + fs_sum (fs_wnt E a) (fs_itm E (-1) (E 31 2) (fs_alN E) 1 (R 1)) (E 1 5).toNat + fs_sum (fs_wnt E a) (fs_itm E (-1) (E 31 2) (fs_alN E) 2 (R 2)) (E 1 5).toNat := rfl
        have eW : fs_WA E a = fs_sum (fs_wnt E a) (fun _ => 1) (E 1 5).toNat := rfl
        rw [← eT, ← eW] at t3
        unfold fs_jA
        rw [hb, Bool.false_or]
        by_cases c : fs_T (fs_Vw E (fs_wnt E a)) R = fs_WA E a
        · rw [if_pos (decide_eq_true c)]
          exact t3.2 c
        · rw [if_neg (by rw [decide_eq_false c]; decide)]
          rcases t2 with q | q
          · exact q
          · exact absurd (t3.1 q) c
      | succ m ih =>
        intro n hn
        have nx := ih (n + 1) (by omega)
        have ec : fs_cnd E (fs_run E (-1) (E 31 2) (fs_alW E (-1)) (fs_nR E R)).2 a (n + 1) = if fs_bit a n = 1 ∧ ((fs_run E (-1) (E 31 2) (fs_alW E (-1)) (fs_nR E R)).2 7 n = -1 ∨ ¬ (fs_run E (-1) (E 31 2) (fs_alW E (-1)) (fs_nR E R)).2 8 n ≤ E 5 n) then 0 else fs_cnd E (fs_run E (-1) (E 31 2) (fs_alW E (-1)) (fs_nR E R)).2 a n := rfl
        rw [ec] at nx
        obtain ⟨s7, s8⟩ := r1.2.2.2.2.2.1 n (by omega) (by omega)
        have e232 : M1 232 n = E 5 n := by rw [r1.1 232 n (by unfold fs_eC; omega), (hT.2.2.1 n (by omega) (by omega)).2.2]
        refine L_Mo_judges_19 ⟨fun z => by omega, fun _ => ?_⟩
        rw [e66, s7, s8, e232, fs_wsucc (by omega)]
        refine ⟨fun z => ?_, fun z => ⟨by omega, by omega, fun z2 => ?_, fun z2 => ⟨fun z3 => ?_, fun z3 => ?_⟩⟩⟩
        · have z' : ¬ fs_bit a n = 1 := z
          rw [if_neg (fun q => z' q.1)] at nx
          exact nx
        · have z' : fs_bit a n = 1 := z
          rw [if_pos ⟨z', Or.inl z2⟩] at nx
          exact nx
        · rw [if_neg (fun q => by
            rcases q.2 with u | u
            · exact z2 u
            · exact u z3)] at nx
          exact nx
        · have z' : fs_bit a n = 1 := z
          rw [if_pos ⟨z', Or.inr z3⟩] at nx
          exact nx
    exact loop (E 1 5).toNat 0 (by omega)
theorem fs_all_iff {E : fs_M} {a : Int} (hB : fs_bE E) : ((fs_enm (E 1 5).toNat (-1) (E 1 9).toNat 0 0 fs_R0).foldl (fs_jA (fs_Vw E (fs_wnt E a)) (fs_WA E a)) false = true ↔ fs_Bm (fs_RS E) (fs_Vw E (fs_wnt E a)) (E 1 9).toNat 0 (fs_ev1 E) = fs_WA E a) := by
  have h5 := hB.1
  have h6 := hB.2.1
  have h9 := hB.2.2.1
  have h3 := hB.2.2.2.1
  have wb : ∀ h, 0 ≤ h → h < 6 → 0 ≤ fs_wnt E a h ∧ fs_wnt E a h ≤ 99 := fun h _ _ => by
    unfold fs_wnt
    split <;> decide
  have sr := fs_search hB (V := fs_Vw E (fs_wnt E a)) (wo := -1) (c := 0) (fun d r => (fs_Vw_b hB wb d r).1) fs_V1_nil (E 1 9).toNat 0 0 fs_R0 (by decide) (by omega) (fun e a b => rfl) (-1, fs_R0)
  have t0 : fs_T (fs_Vw E (fs_wnt E a)) fs_R0 = 0 := by
    unfold fs_T
    show fs_Vw E (fs_wnt E a) 0 [] + fs_Vw E (fs_wnt E a) 1 [] + fs_Vw E (fs_wnt E a) 2 [] = 0
    rw [fs_V1_nil, fs_V1_nil, fs_V1_nil]
    rfl
  have bm := fs_Bm_0 (RS := fs_RS E) (V := fs_Vw E (fs_wnt E a)) (k := (E 1 9).toNat) (d := 0) (F := fs_Fo E (-1) 0)
  rw [t0, Int.add_zero, Int.zero_add, if_pos (by show (-1 : Int) < _; omega)] at sr
  obtain ⟨_, ge⟩ := fs_jg_ge (f := fun R => 0 + fs_T (fs_Vw E (fs_wnt E a)) R) (fs_enm (E 1 5).toNat (-1) (E 1 9).toNat 0 0 fs_R0) (-1, fs_R0)
  have att := fs_jg_at (f := fun R => 0 + fs_T (fs_Vw E (fs_wnt E a)) R) (fs_enm (E 1 5).toNat (-1) (E 1 9).toNat 0 0 fs_R0) (-1, fs_R0)
  rw [sr] at ge att
  have good : fs_good E (-1) (fs_asg (fs_RS E) (fs_Vw E (fs_wnt E a)) (E 1 9).toNat 0 (fs_Fo E (-1) 0) fs_R0) := by
    obtain ⟨f1, f2, f3⟩ := fs_Fo_b hB (wo := -1) (U := 0)
    exact fs_asg_good hB (fun d r => (fs_Vw_b hB wb d r).1) (E 1 9).toNat 0 (fs_Fo E (-1) 0) fs_R0 (by decide) (by omega) f1 f3 fs_good0 (fun h h0 h1 hb => ⟨((fs_Fo_bit hB h0 h1).1 hb).2.2, fun e _ _ hh => (by cases hh)⟩)
  have le := (fs_cnd_T (a := a) hB good (E 1 5).toNat (by omega)).1
  generalize hA : fs_asg (fs_RS E) (fs_Vw E (fs_wnt E a)) (E 1 9).toNat 0 (fs_Fo E (-1) 0) fs_R0 = A at *
  have le2 : fs_T (fs_Vw E (fs_wnt E a)) A ≤ fs_WA E a := le
  rw [fs_Fo_ev hB] at *
  rw [fs_jA_any]
  rcases att with q | ⟨R, q1, q2⟩
  · have : fs_Bm (fs_RS E) (fs_Vw E (fs_wnt E a)) (E 1 9).toNat 0 (fs_ev1 E) = -1 := congrArg Prod.fst q
    omega
  · have e1 : fs_Bm (fs_RS E) (fs_Vw E (fs_wnt E a)) (E 1 9).toNat 0 (fs_ev1 E) = 0 + fs_T (fs_Vw E (fs_wnt E a)) R := congrArg Prod.fst q2
    have e2 : A = R := congrArg Prod.snd q2
    rw [e2] at le2
    constructor
    · rintro (w | ⟨S, w1, w2⟩)
      · exact absurd w (by decide)
      · have := ge S w1
        have this2 : 0 + fs_T (fs_Vw E (fs_wnt E a)) S ≤ fs_Bm (fs_RS E) (fs_Vw E (fs_wnt E a)) (E 1 9).toNat 0 (fs_ev1 E) := this
        omega
    · intro w
      exact Or.inr ⟨R, q1, by omega⟩
theorem om_all {E M : fs_M} {K : fs_K} {a : Int} (hB : fs_bE E) (hT : fs_rt E) (hp : fs_rp E 31 0) (hE : fs_envM E M) (hK : ∀ M', fs_out fs_FMb M M' → K (some (fs_i (fs_vAll E a))) M') : fs_C2 g m_Mo_all 22 [fs_r 226, fs_i a] M K := by
  have h5 := hB.1
  have h6 := hB.2.1
  have h9 := hB.2.2.1
  have h3 := hB.2.2.2.1
  have es : fs_shl 1 (E 1 5) = fs_p2 (E 1 5) := by
    have := fs_shl_p2 (E 1 5).toNat (by omega)
    rw [show (((E 1 5).toNat : Nat) : Int) = E 1 5 by omega] at this
    exact this
  have e228 : M 228 0 = E 1 5 := by rw [hE 228 0 (Or.inl (by unfold fs_eC; omega)), hT.1]
  unfold fs_vAll at hK
  have no : (a < 0 ∨ fs_p2 (E 1 5) ≤ a) → K (some (fs_i (-1))) (fs_st M 226 0 0) := fun q => by
    have h := hK _ fs_outb
    rw [if_pos q] at h
    exact h
  refine E_Mo_all ⟨fun z => no (by omega), fun z => ⟨fun z2 => ?_, fun z2 => no (by rw [e228, es] at z2; omega)⟩⟩
  rw [e228, es] at z2
  refine sp_asIsM hp (fs_envM0 hE) (fun M1 o1 q1 => ⟨rfl, ?_⟩)
  have iff := fs_all_iff (a := a) hB
  have loop : ∀ (m : Nat) (d : Int) (M2 : fs_M), d + m = 3 → 0 ≤ d → fs_out (fun o _ => o = 252) M1 M2 → (∀ e, 0 ≤ e → e < d → M2 252 e = 0) → fs_A2 g m_Mo_all 22 29 [(0, fs_r 226), (1, fs_i a), (2, fs_i d)] [] M2 K := by
    intro m
    induction m with
    | succ m ih =>
      intro d M2 hd d0 o2 h2
      refine L_Mo_all_29 ⟨fun z => by omega, fun _ => ⟨d0, ?_⟩⟩
      rw [fs_w32_of (by omega) (by omega)]
      refine ih (d + 1) _ (by omega) (by omega) (o2.st rfl) (fun e a b => ?_)
      by_cases q : e = d
      · rw [q, fs_st_s]
      · rw [fs_st_k q]
        exact h2 e a (by omega)
    | zero =>
      intro d M2 hd d0 o2 h2
      refine L_Mo_all_29 ⟨fun _ => ?_, fun z => by omega⟩
      have e9 : M2 228 1 = E 1 9 := by
        rw [o2 228 1 (by omega), o1 228 1 (by unfold fs_F8; omega), fs_envM0 hE 228 1 (Or.inl (by unfold fs_eC; omega)), hT.2.1]
      rw [e9]
      generalize hM3 : fs_st (fs_st (fs_st M2 226 62 (E 1 9)) 226 66 a) 226 67 0 = M3
      have m3o : ∀ o k, o ≠ 226 → M3 o k = M2 o k := fun o k q => by rw [← hM3, fs_st_o q, fs_st_o q, fs_st_o q]
      have m3k : ∀ k, k ≠ 62 → k ≠ 66 → k ≠ 67 → M3 226 k = M2 226 k := fun k b d e => by rw [← hM3, fs_st_k e, fs_st_k d, fs_st_k b]
      obtain ⟨p42, p43, p44, p47, pr⟩ := q1
      have cE : ∀ o k, fs_eC o ∨ fs_mlc 0 o k → M3 o k = E o k := fun o k q => by
        rw [m3o o k (by unfold fs_eC fs_mlc at q; omega), o2 o k (by unfold fs_eC fs_mlc at q; omega), o1 o k (by unfold fs_F8; unfold fs_eC fs_mlc at q; omega)]
        exact fs_envM0 hE o k q
      have C3 : fs_mc E (-1) (E 1 9) M3 := by
        refine ⟨fun o k q => cE o k (Or.inl q), by rw [cE 244 0 (Or.inr (by unfold fs_mlc; omega)), hp.2.1], by rw [m3k 42 (by decide) (by decide) (by decide), o2 226 42 (by omega)]; exact p42, by rw [m3k 43 (by decide) (by decide) (by decide), o2 226 43 (by omega)]; exact p43, by rw [m3k 44 (by decide) (by decide) (by decide), o2 226 44 (by omega)]; exact p44, by rw [m3k 47 (by decide) (by decide) (by decide), o2 226 47 (by omega)]; exact p47, ?_⟩
        rw [← hM3]
        simp [fs_st]
      have R3 : fs_hasR M3 fs_R0 := fun e e0 e3 => by
        rw [m3o 252 e (by decide), h2 e e0 (by omega)]
        exact ⟨rfl, Nat.zero_le _, rfl⟩
      have I3 : fs_InvA a false M3 := by
        refine ⟨?_, ?_⟩
        · rw [← hM3]
          simp [fs_st]
        · rw [← hM3]
          simp [fs_st]
      have o3 : fs_out fs_FMb M M3 := fun o k nF => by
        have nF2 : ¬ (((fs_F6 o k ∨ (o = 251 ∨ o = 252 ∨ (o = 226 ∧ (k = 42 ∨ k = 43 ∨ k = 44 ∨ k = 47)))) ∨ o = 263 ∨ o = 264 ∨ (o = 226 ∧ (k = 62 ∨ k = 63 ∨ k = 66 ∨ k = 67))) ∨ (o = 226 ∧ k = 0)) := nF
        have s2 : M2 o k = M o k := by
          rw [o2 o k (by omega), o1 o k (by unfold fs_F8; omega)]
          by_cases q : o = 226
          · rw [fs_st_k (by omega)]
          · rw [fs_st_o q]
        by_cases q : o = 226
        · rw [q] at nF2 s2 ⊢
          rw [m3k k (by omega) (by omega) (by omega)]
          exact s2
        · rw [m3o o k q]
          exact s2
      have fl : (fs_hf (fs_okU (-1) 0) [] (E 1 5).toNat 0).length ≤ 6 := by
        have := List.length_filter_le (fun h => fs_okU (-1) 0 h && !decide (h ∈ ([] : List Int))) (fs_lst (fun k => k) (E 1 5).toNat 0)
        rw [fs_lst_len] at this
        unfold fs_hf
        omega
      refine sp_rows (j := fs_jA (fs_Vw E (fs_wnt E a)) (fs_WA E a)) (Inv := fs_InvA a) (stop := fun b => b) (wo := -1) (first := E 1 9) hB hT (Int.le_refl _) (fun b q R => by rw [q]; rfl) (fun b M' i => ⟨fun z => ?_, fun z => ?_⟩) (fun b Ma Mb i he => ⟨by rw [he 226 66 (by unfold fs_F6 fs_F4; omega)]; exact i.1, by rw [he 226 67 (by unfold fs_F6 fs_F4; omega)]; exact i.2⟩) (fun b R Ma Ka st i c m gd k => sp_judgesA hB hT (by omega) b R Ma Ka st i c m gd k) (E 1 9).toNat 21 0 0 fs_R0 false M3 _ (by omega) (by omega) (by decide) (fun e a b => rfl) fs_usd0 fs_good0 R3 C3 I3 (fun M4 o4 i4 m4 => ⟨rfl, ?_⟩)
      · have := i.2
        rw [z] at this
        cases b with
        | false => rfl
        | true => exact absurd this (by decide)
      · rw [i.2, z]
        rfl
      · generalize hb : (fs_enm (E 1 5).toNat (-1) (E 1 9).toNat 0 0 fs_R0).foldl (fs_jA (fs_Vw E (fs_wnt E a)) (fs_WA E a)) false = b at *
        have o5 : fs_out fs_FMb M (fs_st (fs_st M4 226 66 (-1)) 226 67 0) := by
          refine fs_out.st (fs_out.st (o3.tr (o4.wk (fun o k q => ?_))) ?_) ?_
          · have q2 : (fs_F6 o k ∨ o = 263 ∨ o = 264 ∨ (o = 226 ∧ (k = 63 ∨ k = 67))) ∨ o = 251 ∨ o = 252 := q
            show ((fs_F6 o k ∨ (o = 251 ∨ o = 252 ∨ (o = 226 ∧ (k = 42 ∨ k = 43 ∨ k = 44 ∨ k = 47)))) ∨ o = 263 ∨ o = 264 ∨ (o = 226 ∧ (k = 62 ∨ k = 63 ∨ k = 66 ∨ k = 67))) ∨ (o = 226 ∧ k = 0)
            rcases q2 with (q2 | q2 | q2 | q2) | q2 | q2
            · exact Or.inl (Or.inl (Or.inl q2))
            · exact Or.inl (Or.inr (Or.inl q2))
            · exact Or.inl (Or.inr (Or.inr (Or.inl q2)))
            · exact Or.inl (Or.inr (Or.inr (Or.inr (by omega))))
            · exact Or.inl (Or.inl (Or.inr (Or.inl q2)))
            · exact Or.inl (Or.inl (Or.inr (Or.inr (Or.inl q2))))
          · exact Or.inl (Or.inr (Or.inr (Or.inr (by omega))))
          · exact Or.inl (Or.inr (Or.inr (Or.inr (by omega))))
        have h := hK _ o5
        rw [if_neg (by omega)] at h
        have eW : fs_sum (fs_wnt E a) (fun _ => 1) (E 1 5).toNat = fs_WA E a := rfl
        rw [eW] at h
        refine ⟨fun z => ?_, fun z => ?_⟩
        · rw [i4.2] at z
          have bf : b ≠ true := fun q => by
            rw [if_pos q] at z
            exact absurd z (by decide)
          rw [if_neg (fun q => bf (iff.2 q))] at h
          exact h
        · rw [i4.2] at z
          have bt : b = true := by
            cases b with
            | true => rfl
            | false => exact absurd rfl z
          rw [if_pos (iff.1 bt)] at h
          exact h
  exact loop 3 0 M1 rfl (by decide) fs_out.rf (fun e a b => by omega)
end MOALL
