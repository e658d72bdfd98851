-- ===== the first of the greatest: the model's search is the class's choice =====
def fs_T (V : Int → List Int → Int) (R : Int → List Int) : Int := V 0 (R 0) + V 1 (R 1) + V 2 (R 2)
/-- one more is judged -/
def fs_jg (f : (Int → List Int) → Int) (b : Int × (Int → List Int)) (R : Int → List Int) : Int × (Int → List Int) := if b.1 < f R then (f R, R) else b
theorem fs_jg_ge {f : (Int → List Int) → Int} : ∀ (L : List (Int → List Int)) (b : Int × (Int → List Int)), b.1 ≤ (L.foldl (fs_jg f) b).1 ∧ ∀ R, R ∈ L → f R ≤ (L.foldl (fs_jg f) b).1
  | [], b => ⟨Int.le_refl _, fun R q => by cases q⟩
  | S :: t, b => by
    obtain ⟨i1, i2⟩ := fs_jg_ge (f := f) t (fs_jg f b S)
    have h : b.1 ≤ (fs_jg f b S).1 ∧ f S ≤ (fs_jg f b S).1 := by
      unfold fs_jg
      by_cases c : b.1 < f S
      · rw [if_pos c]
        exact ⟨Int.le_of_lt c, Int.le_refl _⟩
      · rw [if_neg c]
        exact ⟨Int.le_refl _, by omega⟩
    refine ⟨Int.le_trans h.1 i1, fun R q => ?_⟩
    rcases List.mem_cons.1 q with q | q
    · rw [q]
      exact Int.le_trans h.2 i1
    · exact i2 R q
theorem fs_jg_at {f : (Int → List Int) → Int} : ∀ (L : List (Int → List Int)) (b : Int × (Int → List Int)), L.foldl (fs_jg f) b = b ∨ ∃ R, R ∈ L ∧ L.foldl (fs_jg f) b = (f R, R)
  | [], b => Or.inl rfl
  | S :: t, b => by
    show t.foldl (fs_jg f) (fs_jg f b S) = b ∨ ∃ R, R ∈ S :: t ∧ t.foldl (fs_jg f) (fs_jg f b S) = (f R, R)
    rcases fs_jg_at (f := f) t (fs_jg f b S) with q | ⟨R, q1, q2⟩
    · rw [q]
      unfold fs_jg
      by_cases c : b.1 < f S
      · rw [if_pos c]
        exact Or.inr ⟨S, List.mem_cons_self, rfl⟩
      · rw [if_neg c]
        exact Or.inl rfl
    · exact Or.inr ⟨R, List.mem_cons_of_mem _ q1, q2⟩
/-- a list judged as one thing -/
def fs_FMx (f : (Int → List Int) → Int) (L : List (Int → List Int)) (v : Int) (a : Int → List Int) : Prop := ∀ b, L.foldl (fs_jg f) b = if b.1 < v then (v, a) else b
theorem fs_steps_lt {α : Type} {v : α → Int} {a : α → (Int → List Int)} {m : Int} : ∀ (l : List α) (b : Int × (Int → List Int)), (∀ r, r ∈ l → v r < m) → b.1 < m → (l.foldl (fun b r => if b.1 < v r then (v r, a r) else b) b).1 < m
  | [], b, _, h => h
  | r :: t, b, hl, h => by
    refine fs_steps_lt t _ (fun x hx => hl x (List.mem_cons_of_mem _ hx)) ?_
    show (if b.1 < v r then (v r, a r) else b).1 < m
    by_cases c : b.1 < v r
    · rw [if_pos c]
      exact hl r List.mem_cons_self
    · rw [if_neg c]
      exact h
theorem fs_steps_id {α : Type} {v : α → Int} {a : α → (Int → List Int)} : ∀ (l : List α) (b : Int × (Int → List Int)), (∀ r, r ∈ l → v r ≤ b.1) → l.foldl (fun b r => if b.1 < v r then (v r, a r) else b) b = b
  | [], b, _ => rfl
  | r :: t, b, hl => by
    have e : (r :: t).foldl (fun b r => if b.1 < v r then (v r, a r) else b) b = t.foldl (fun b r => if b.1 < v r then (v r, a r) else b) (if b.1 < v r then (v r, a r) else b) := rfl
    have h := hl r List.mem_cons_self
    rw [e, if_neg (by omega)]
    exact fs_steps_id t b (fun x hx => hl x (List.mem_cons_of_mem _ hx))
theorem fs_fold_fmp {α : Type} {f : (Int → List Int) → Int} {k : α → List (Int → List Int)} {v : α → Int} {a : α → (Int → List Int)} : ∀ (l : List α), (∀ r, r ∈ l → fs_FMx f (k r) (v r) (a r)) → ∀ b, (fs_fmp k l).foldl (fs_jg f) b = l.foldl (fun b r => if b.1 < v r then (v r, a r) else b) b
  | [], _, b => rfl
  | r :: t, h, b => by
    show (k r ++ fs_fmp k t).foldl (fs_jg f) b = t.foldl (fun b r => if b.1 < v r then (v r, a r) else b) (if b.1 < v r then (v r, a r) else b)
    rw [List.foldl_append, h r List.mem_cons_self b, fs_fold_fmp t (fun x hx => h x (List.mem_cons_of_mem _ hx))]
/-- the houses left free -/
def fs_Fo (E : fs_M) (wo U : Int) : Int := fs_col (fun h => if fs_bit U h = 1 then 0 else if h = wo then 0 else 1) (E 1 5).toNat
theorem fs_Fo_bit {E : fs_M} (hB : fs_bE E) {wo U h : Int} (h0 : 0 ≤ h) (h1 : h < 6) : fs_bit (fs_Fo E wo U) h = 1 ↔ h < E 1 5 ∧ fs_bit U h ≠ 1 ∧ h ≠ wo := by
  have h5 := hB.1
  have h6 := hB.2.1
  unfold fs_Fo
  rw [fs_col_bit h0 h1 (E 1 5).toNat (by omega)]
  by_cases a : fs_bit U h = 1
  · rw [if_pos a]
    exact ⟨fun q => absurd q.2 (by decide), fun q => absurd a q.2.1⟩
  · rw [if_neg a]
    by_cases b : h = wo
    · rw [if_pos b]
      exact ⟨fun q => absurd q.2 (by decide), fun q => absurd b q.2.2⟩
    · rw [if_neg b]
      exact ⟨fun q => ⟨by omega, a, b⟩, fun q => ⟨by omega, rfl⟩⟩
theorem fs_Fo_b {E : fs_M} (hB : fs_bE E) {wo U : Int} : 0 ≤ fs_Fo E wo U ∧ fs_Fo E wo U < 64 ∧ fs_Fo E wo U ≤ fs_ev1 E := by
  have h5 := hB.1
  have h6 := hB.2.1
  have cb := fs_col_b (fun h => if fs_bit U h = 1 then 0 else if h = wo then 0 else 1) (E 1 5).toNat (by omega)
  have p64 := fs_p2_64 (n := ((E 1 5).toNat : Int)) (by omega)
  have eb := fs_ev1_b hB
  have c0 : 0 ≤ fs_Fo E wo U := cb.1
  have c1 : fs_Fo E wo U < 64 := by
    have := cb.2
    unfold fs_Fo
    omega
  exact ⟨c0, c1, fs_sub_le c0 c1 eb.1 eb.2.1 (fun h h0 h1 hb => (eb.2.2.2 h h0 h1).2 ((fs_Fo_bit hB h0 h1).1 hb).1)⟩
theorem fs_Fo_bts {E : fs_M} (hB : fs_bE E) {wo U : Int} {r : List Int} (hr : ∀ h, h ∈ r → 0 ≤ h ∧ h < 6) : fs_Fo E wo (fs_bts r U) = fs_mn (fs_Fo E wo U) (fs_bts r 0) := by
  obtain ⟨a, b, _⟩ := fs_Fo_b hB (wo := wo) (U := fs_bts r U)
  obtain ⟨c, d, e⟩ := fs_Fo_b hB (wo := wo) (U := U)
  have mb := fs_mn_b hB (s := fs_bts r 0) c e
  have eb := fs_ev1_b hB
  refine fs_ext6 a b mb.1 (by omega) (fun n hn => ?_)
  have x := fs_Fo_bit hB (wo := wo) (U := fs_bts r U) (h := (n : Int)) (by omega) (by omega)
  have y := fs_Fo_bit hB (wo := wo) (U := U) (h := (n : Int)) (by omega) (by omega)
  have z := fs_bts_bit (i := (n : Int)) (by omega) (by omega) r U hr
  have w := fs_bts_in (i := (n : Int)) (by omega) (by omega) hr
  have v : fs_bit (fs_mn (fs_Fo E wo U) (fs_bts r 0)) n = if fs_bit (fs_Fo E wo U) n = 1 ∧ fs_bit (fs_bts r 0) n ≠ 1 then 1 else 0 := fs_bit_mn (by omega) (by omega)
  rw [v]
  by_cases q : fs_bit (fs_Fo E wo U) n = 1 ∧ fs_bit (fs_bts r 0) n ≠ 1
  · rw [if_pos q]
    obtain ⟨q1, q2⟩ := q
    have y2 := y.1 q1
    refine x.2 ⟨y2.1, fun t => ?_, y2.2.2⟩
    rcases z.1 t with u | u
    · exact y2.2.1 u
    · exact q2 (w.2 u)
  · rw [if_neg q]
    rcases fs_bit01 (fs_Fo E wo (fs_bts r U)) n with t | t
    · exact t
    · have x2 := x.1 t
      exact absurd ⟨y.2 ⟨x2.1, fun u => x2.2.1 (z.2 (Or.inl u)), x2.2.2⟩, fun u => x2.2.1 (z.2 (Or.inr (w.1 u)))⟩ q
/-- the rows that keep to free houses, of all rows -/
theorem fs_ext_Fo {E : fs_M} (hB : fs_bE E) {wo U : Int} : fs_ext (E 1 5).toNat (fs_okU wo U) 6 [] = (fs_RS E).filter (fun r => fs_sb (fs_bts r 0) (fs_Fo E wo U)) := by
  have h5 := hB.1
  rw [← (fs_ext_filter (H := (E 1 5).toNat) (ok := fs_okU wo U) 6 []).1 (fun h hh => by cases hh)]
  show (fs_RS E).filter _ = _
  apply List.filter_congr
  intro s hs
  obtain ⟨m1, m2, m3⟩ := fs_RS_mem hB hs
  have m6 := fs_RS_6 hB hs
  obtain ⟨b0, b1⟩ := fs_bts_b s 0 m6 (by decide) (by decide)
  have key : s.all (fs_okU wo U) = true ↔ fs_sb (fs_bts s 0) (fs_Fo E wo U) = true := by
    rw [fs_sb_iff b0 b1, List.all_eq_true]
    constructor
    · intro h x x0 x1 hb
      have xm := (fs_bts_in x0 x1 m6).1 hb
      have ok := h x xm
      unfold fs_okU at ok
      rw [Bool.and_eq_true] at ok
      refine (fs_Fo_bit hB x0 x1).2 ⟨(m1 x xm).2, fun q => ?_, fun q => ?_⟩
      · have := ok.1
        rw [decide_eq_true q] at this
        exact absurd this (by decide)
      · have := ok.2
        rw [decide_eq_true q] at this
        exact absurd this (by decide)
    · intro h x xm
      obtain ⟨x0, x1⟩ := m6 x xm
      obtain ⟨_, f2, f3⟩ := (fs_Fo_bit hB x0 x1).1 (h x x0 x1 ((fs_bts_in x0 x1 m6).2 xm))
      unfold fs_okU
      rw [decide_eq_false f2, decide_eq_false f3]
      rfl
  cases ha : s.all (fs_okU wo U) with
  | true => exact (key.1 ha).symm
  | false =>
    cases hb : fs_sb (fs_bts s 0) (fs_Fo E wo U) with
    | true => rw [key.2 hb] at ha; exact absurd ha (by decide)
    | false => rfl
def fs_asg (RS : List (List Int)) (V : Int → List Int → Int) : Nat → Int → Int → (Int → List Int) → (Int → List Int)
  | 0, _, _, R => R
  | k + 1, d, F, R => fs_asg RS V k (d + 1) (fs_mn F (fs_bts (fs_pick1 RS V k d F) 0)) (fs_upd R d (fs_pick1 RS V k d F))
theorem fs_asg_is {RS : List (List Int)} {V : Int → List Int → Int} : ∀ (k : Nat) (d F : Int) (R : Int → List Int) (i : Int), fs_asg RS V k d F R i = if d ≤ i ∧ i < d + k then fs_ch RS V k d F i else R i
  | 0, d, F, R, i => by
    show R i = _
    rw [if_neg (by omega)]
  | k + 1, d, F, R, i => by
    show fs_asg RS V k (d + 1) (fs_mn F (fs_bts (fs_pick1 RS V k d F) 0)) (fs_upd R d (fs_pick1 RS V k d F)) i = if d ≤ i ∧ i < d + ((k + 1 : Nat) : Int) then (if i = d then fs_pick1 RS V k d F else fs_ch RS V k (d + 1) (fs_mn F (fs_bts (fs_pick1 RS V k d F) 0)) i) else R i
    rw [fs_asg_is k]
    by_cases c : i = d
    · rw [if_neg (by omega), if_pos (by omega), if_pos c]
      unfold fs_upd
      rw [if_pos c]
    · by_cases e : d ≤ i ∧ i < d + ((k + 1 : Nat) : Int)
      · rw [if_pos (by omega), if_pos e, if_neg c]
      · rw [if_neg (by omega), if_neg e]
        unfold fs_upd
        rw [if_neg c]
theorem fs_T_upd {V : Int → List Int → Int} {R : Int → List Int} {d : Int} {r : List Int} (d0 : 0 ≤ d) (d3 : d < 3) (hz : V d (R d) = 0) : fs_T V (fs_upd R d r) = fs_T V R + V d r := by
  have e : d = 0 ∨ d = 1 ∨ d = 2 := by omega
  unfold fs_T fs_upd
  rcases e with q | q | q
  · subst q
    rw [if_pos rfl, if_neg (by decide), if_neg (by decide), hz]
    omega
  · subst q
    rw [if_neg (by decide), if_pos rfl, if_neg (by decide), hz]
    omega
  · subst q
    rw [if_neg (by decide), if_neg (by decide), if_pos rfl, hz]
    omega
/-- the search and the choice are one -/
theorem fs_search {E : fs_M} (hB : fs_bE E) {V : Int → List Int → Int} {wo c : Int} (hV : ∀ d r, 0 ≤ V d r) (hV0 : ∀ d, V d [] = 0) : ∀ (k : Nat) (d U : Int) (R : Int → List Int), 0 ≤ d → d + k ≤ 3 → (∀ e, d ≤ e → e < 3 → R e = []) →
    fs_FMx (fun R => c + fs_T V R) (fs_enm (E 1 5).toNat wo k d U R) (c + fs_T V R + fs_Bm (fs_RS E) V k d (fs_Fo E wo U)) (fs_asg (fs_RS E) V k d (fs_Fo E wo U) R)
  | 0, d, U, R, d0, dk, hR => fun b => by
    show fs_jg (fun R => c + fs_T V R) b R = if b.1 < c + fs_T V R + 0 then (c + fs_T V R + 0, R) else b
    rw [Int.add_zero]
    rfl
  | k + 1, d, U, R, d0, dk, hR => fun b => by
    obtain ⟨u, w, hu, hpu, hnu⟩ := fs_pick1_is (E := E) (V := V) hV k d (fs_Fo E wo U)
    have eB : fs_Bm (fs_RS E) V (k + 1) d (fs_Fo E wo U) = fs_mx (fun r => V d r + fs_Bm (fs_RS E) V k (d + 1) (fs_mn (fs_Fo E wo U) (fs_bts r 0))) ((fs_RS E).filter (fun r => fs_sb (fs_bts r 0) (fs_Fo E wo U))) := rfl
    have ih : ∀ r, r ∈ fs_RS E → fs_FMx (fun R => c + fs_T V R) (fs_enm (E 1 5).toNat wo k (d + 1) (fs_bts r U) (fs_upd R d r)) (c + fs_T V R + (V d r + fs_Bm (fs_RS E) V k (d + 1) (fs_mn (fs_Fo E wo U) (fs_bts r 0)))) (fs_asg (fs_RS E) V k (d + 1) (fs_mn (fs_Fo E wo U) (fs_bts r 0)) (fs_upd R d r)) := fun r hr => by
      have h := fs_search hB (wo := wo) (c := c) hV hV0 k (d + 1) (fs_bts r U) (fs_upd R d r) (by omega) (by omega) (fun e a b => by
        unfold fs_upd
        rw [if_neg (by omega)]
        exact hR e (by omega) b)
      rw [fs_T_upd d0 (by omega) (by rw [hR d (Int.le_refl _) (by omega)]; exact hV0 d), fs_Fo_bts hB (fs_RS_6 hB hr)] at h
      rw [show c + fs_T V R + (V d r + fs_Bm (fs_RS E) V k (d + 1) (fs_mn (fs_Fo E wo U) (fs_bts r 0))) = c + (fs_T V R + V d r) + fs_Bm (fs_RS E) V k (d + 1) (fs_mn (fs_Fo E wo U) (fs_bts r 0)) by omega]
      exact h
    show (fs_fmp (fun r => fs_enm (E 1 5).toNat wo k (d + 1) (fs_bts r U) (fs_upd R d r)) (fs_ext (E 1 5).toNat (fs_okU wo U) 6 [])).foldl (fs_jg (fun R => c + fs_T V R)) b = _
    rw [fs_ext_Fo hB, fs_fold_fmp (v := fun r => c + fs_T V R + (V d r + fs_Bm (fs_RS E) V k (d + 1) (fs_mn (fs_Fo E wo U) (fs_bts r 0)))) (a := fun r => fs_asg (fs_RS E) V k (d + 1) (fs_mn (fs_Fo E wo U) (fs_bts r 0)) (fs_upd R d r)) _ (fun r hr => ih r (List.mem_filter.1 hr).1)]
    show _ = if b.1 < c + fs_T V R + fs_Bm (fs_RS E) V (k + 1) d (fs_Fo E wo U) then (c + fs_T V R + fs_Bm (fs_RS E) V (k + 1) d (fs_Fo E wo U), fs_asg (fs_RS E) V k (d + 1) (fs_mn (fs_Fo E wo U) (fs_bts (fs_pick1 (fs_RS E) V k d (fs_Fo E wo U)) 0)) (fs_upd R d (fs_pick1 (fs_RS E) V k d (fs_Fo E wo U)))) else b
    generalize hr : fs_pick1 (fs_RS E) V k d (fs_Fo E wo U) = r at *
    have hpu2 := hpu
    unfold fs_pp at hpu2
    rw [Bool.and_eq_true] at hpu2
    have hval := of_decide_eq_true hpu2.2
    have le : ∀ x, x ∈ (fs_RS E).filter (fun r => fs_sb (fs_bts r 0) (fs_Fo E wo U)) → V d x + fs_Bm (fs_RS E) V k (d + 1) (fs_mn (fs_Fo E wo U) (fs_bts x 0)) ≤ fs_Bm (fs_RS E) V (k + 1) d (fs_Fo E wo U) := fun x hx => by
      rw [eB]
      exact fs_mx_ge (f := fun r => V d r + fs_Bm (fs_RS E) V k (d + 1) (fs_mn (fs_Fo E wo U) (fs_bts r 0))) hx
    by_cases cb : b.1 < c + fs_T V R + fs_Bm (fs_RS E) V (k + 1) d (fs_Fo E wo U)
    · rw [if_pos cb]
      have split : (fs_RS E).filter (fun r => fs_sb (fs_bts r 0) (fs_Fo E wo U)) = u.filter (fun r => fs_sb (fs_bts r 0) (fs_Fo E wo U)) ++ r :: w.filter (fun r => fs_sb (fs_bts r 0) (fs_Fo E wo U)) := by
        rw [hu, List.filter_append, List.filter_cons_of_pos (p := fun (r : List Int) => fs_sb (fs_bts r 0) (fs_Fo E wo U)) hpu2.1]
      rw [split] at le ⊢
      rw [List.foldl_append]
      have lt := fs_steps_lt (v := fun r => c + fs_T V R + (V d r + fs_Bm (fs_RS E) V k (d + 1) (fs_mn (fs_Fo E wo U) (fs_bts r 0)))) (a := fun r => fs_asg (fs_RS E) V k (d + 1) (fs_mn (fs_Fo E wo U) (fs_bts r 0)) (fs_upd R d r)) (m := c + fs_T V R + fs_Bm (fs_RS E) V (k + 1) d (fs_Fo E wo U)) (u.filter (fun r => fs_sb (fs_bts r 0) (fs_Fo E wo U))) b (fun x hx => ?_) cb
      · generalize (u.filter (fun r => fs_sb (fs_bts r 0) (fs_Fo E wo U))).foldl (fun b r => if b.1 < (fun r => c + fs_T V R + (V d r + fs_Bm (fs_RS E) V k (d + 1) (fs_mn (fs_Fo E wo U) (fs_bts r 0)))) r then ((fun r => c + fs_T V R + (V d r + fs_Bm (fs_RS E) V k (d + 1) (fs_mn (fs_Fo E wo U) (fs_bts r 0)))) r, (fun r => fs_asg (fs_RS E) V k (d + 1) (fs_mn (fs_Fo E wo U) (fs_bts r 0)) (fs_upd R d r)) r) else b) b = b1 at lt ⊢
        show (w.filter (fun r => fs_sb (fs_bts r 0) (fs_Fo E wo U))).foldl _ (if b1.1 < c + fs_T V R + (V d r + fs_Bm (fs_RS E) V k (d + 1) (fs_mn (fs_Fo E wo U) (fs_bts r 0))) then (c + fs_T V R + (V d r + fs_Bm (fs_RS E) V k (d + 1) (fs_mn (fs_Fo E wo U) (fs_bts r 0))), fs_asg (fs_RS E) V k (d + 1) (fs_mn (fs_Fo E wo U) (fs_bts r 0)) (fs_upd R d r)) else b1) = _
        rw [hval, if_pos lt]
        refine fs_steps_id _ _ (fun x hx => ?_)
        have := le x (List.mem_append.2 (Or.inr (List.mem_cons_of_mem _ hx)))
        show c + fs_T V R + (V d x + fs_Bm (fs_RS E) V k (d + 1) (fs_mn (fs_Fo E wo U) (fs_bts x 0))) ≤ c + fs_T V R + fs_Bm (fs_RS E) V (k + 1) d (fs_Fo E wo U)
        omega
      · obtain ⟨x1, x2⟩ := List.mem_filter.1 hx
        have n := hnu x x1
        unfold fs_pp at n
        rw [x2, Bool.true_and] at n
        have ne := of_decide_eq_false n
        have := le x (List.mem_append.2 (Or.inl hx))
        show c + fs_T V R + (V d x + fs_Bm (fs_RS E) V k (d + 1) (fs_mn (fs_Fo E wo U) (fs_bts x 0))) < c + fs_T V R + fs_Bm (fs_RS E) V (k + 1) d (fs_Fo E wo U)
        omega
    · rw [if_neg cb]
      refine fs_steps_id _ _ (fun x hx => ?_)
      have := le x hx
      show c + fs_T V R + (V d x + fs_Bm (fs_RS E) V k (d + 1) (fs_mn (fs_Fo E wo U) (fs_bts x 0))) ≤ b.1
      omega
