-- ===== rows without a house in two: each goes as if alone =====
def fs_opn (al : Int → Int) (h : Int) : Int := if al h = 0 then 1 else 0
/-- going on alone: on which minute a house is done (0: not) -/
def fs_fut (E : fs_M) (tr rf : Int) (al : Int → Int) : List Int → Int → Int → Int → Int → Int
  | [], _, _, _, _ => 0
  | x :: t, c, gl, co, h => if c = 1000 then 0 else if h = x ∧ ¬ fs_okN E tr (fs_opn al x) c gl co x = 0 then c else
      fs_fut E tr rf al t (fs_nx E tr t (E 3 x) (fs_vlv E tr rf (fs_opn al x) c gl co x) (fs_vgl E tr rf (fs_opn al x) c gl co x) (fs_vco E tr (fs_opn al x) c gl co x)) (fs_vgl E tr rf (fs_opn al x) c gl co x) (fs_vco E tr (fs_opn al x) c gl co x) h
def fs_ful (E : fs_M) (tr rf : Int) (al : Int → Int) (d : Int) (r : List Int) (h : Int) : Int := fs_fut E tr rf al r (fs_nx E tr r (E 7 d) 1 0 (E 8 d)) 0 (E 8 d) h
theorem fs_fut_c {E : fs_M} {tr rf : Int} {al : Int → Int} {x : Int} {t : List Int} {c gl co h : Int} (hc : c ≠ 1000) : fs_fut E tr rf al (x :: t) c gl co h = if h = x ∧ ¬ fs_okN E tr (fs_opn al x) c gl co x = 0 then c else
      fs_fut E tr rf al t (fs_nx E tr t (E 3 x) (fs_vlv E tr rf (fs_opn al x) c gl co x) (fs_vgl E tr rf (fs_opn al x) c gl co x) (fs_vco E tr (fs_opn al x) c gl co x)) (fs_vgl E tr rf (fs_opn al x) c gl co x) (fs_vco E tr (fs_opn al x) c gl co x) h := by
  show (if c = 1000 then 0 else _) = _
  rw [if_neg hc]
theorem fs_fut_z {E : fs_M} {tr rf : Int} {al : Int → Int} {r : List Int} {gl co h : Int} : fs_fut E tr rf al r 1000 gl co h = 0 := by
  cases r with
  | nil => rfl
  | cons x t =>
    show (if (1000 : Int) = 1000 then 0 else _) = _
    rw [if_pos rfl]
theorem fs_fut_n {E : fs_M} {tr rf : Int} {al : Int → Int} {h : Int} : ∀ (r : List Int) (c gl co : Int), h ∉ r → fs_fut E tr rf al r c gl co h = 0
  | [], _, _, _, _ => rfl
  | x :: t, c, gl, co, hn => by
    by_cases z : c = 1000
    · rw [z, fs_fut_z]
    · rw [fs_fut_c z, if_neg (fun q => hn (by rw [q.1]; exact List.mem_cons_self))]
      exact fs_fut_n t _ _ _ (fun q => hn (List.mem_cons_of_mem _ q))
theorem fs_okN_0 {E : fs_M} {tr t gl co h : Int} : fs_okN E tr 0 t gl co h = 0 := by
  unfold fs_okN
  rw [if_pos rfl]
theorem fs_fut_a {E : fs_M} {tr rf : Int} {al : Int → Int} {h : Int} (ha : al h ≠ 0) : ∀ (r : List Int) (c gl co : Int), fs_fut E tr rf al r c gl co h = 0
  | [], _, _, _ => rfl
  | x :: t, c, gl, co => by
    by_cases z : c = 1000
    · rw [z, fs_fut_z]
    · rw [fs_fut_c z, if_neg (fun q => q.2 (by
        have e : fs_opn al x = 0 := by
          unfold fs_opn
          rw [if_neg (by rw [← q.1]; exact ha)]
        rw [e]
        exact fs_okN_0))]
      exact fs_fut_a ha t _ _ _
theorem fs_nx_b {E : fs_M} (hB : fs_bE E) {tr : Int} {r : List Int} (hr : ∀ x, x ∈ r → 0 ≤ x ∧ x < E 1 5) {pl lv gl co : Int} (p0 : 0 ≤ pl) (p1 : pl ≤ 99) (l1 : 1 ≤ lv) : fs_nx E tr r pl lv gl co = 1000 ∨ (1 ≤ fs_nx E tr r pl lv gl co ∧ fs_nx E tr r pl lv gl co ≤ 240) := by
  cases r with
  | nil => exact Or.inl rfl
  | cons x t =>
    have hx := hr x List.mem_cons_self
    have hy := hB.2.2.2.2.1 x hx.1 hx.2
    exact fs_comes_b hy.1 hy.2.1 p0 p1 l1
theorem fs_fut_b {E : fs_M} (hB : fs_bE E) {tr rf : Int} {al : Int → Int} {h : Int} : ∀ (r : List Int) (c gl co : Int), (∀ x, x ∈ r → 0 ≤ x ∧ x < E 1 5) → (c = 1000 ∨ (1 ≤ c ∧ c ≤ 240)) → fs_fut E tr rf al r c gl co h = 0 ∨ (1 ≤ fs_fut E tr rf al r c gl co h ∧ fs_fut E tr rf al r c gl co h ≤ 240)
  | [], _, _, _, _, _ => Or.inl rfl
  | x :: t, c, gl, co, hr, hc => by
    by_cases z : c = 1000
    · rw [z, fs_fut_z]
      exact Or.inl rfl
    · rw [fs_fut_c z]
      have hx := hr x List.mem_cons_self
      have hy := hB.2.2.2.2.1 x hx.1 hx.2
      have lv := (fs_vlv_b (E := E) (tr := tr) (rf := rf) (opn := fs_opn al x) (t := c) (glass := gl) (coal := co) (h := x)).1
      split
      · exact Or.inr (by omega)
      · exact fs_fut_b hB t _ _ _ (fun y q => hr y (List.mem_cons_of_mem _ q)) (fs_nx_b hB (fun y q => hr y (List.mem_cons_of_mem _ q)) hy.1 hy.2.1 (by omega))
theorem fs_ful_b {E : fs_M} (hB : fs_bE E) {tr rf : Int} {al : Int → Int} {d h : Int} {r : List Int} (d0 : 0 ≤ d) (d1 : d < E 1 9) (hr : ∀ x, x ∈ r → 0 ≤ x ∧ x < E 1 5) : fs_ful E tr rf al d r h = 0 ∨ (1 ≤ fs_ful E tr rf al d r h ∧ fs_ful E tr rf al d r h ≤ 240) := by
  have b := hB.2.2.2.2.2.1 d d0 d1
  exact fs_fut_b hB r _ _ _ hr (fs_nx_b hB hr b.1 b.2.1 (by decide))
/-- rows without a house twice or in two -/
def fs_dj (R : Int → List Int) : Prop := ∀ d, 0 ≤ d → d < 3 → (R d).Nodup ∧ ∀ h, h ∈ R d → ∀ e, 0 ≤ e → e < 3 → e ≠ d → h ∉ R e
def fs_iv (E : fs_M) (tr rf : Int) (al : Int → Int) (R : Int → List Int) (X : (Int → List Int) × fs_M) : Prop :=
  (∀ h, 0 ≤ h → h < E 1 5 → al h ≠ 0 → X.2 7 h = -2 ∧ X.2 8 h = 1) ∧
  (∀ h, 0 ≤ h → h < E 1 5 → al h = 0 → X.2 7 h = -1 → X.2 8 h = -1 ∧ ∀ d, 0 ≤ d → d < 3 → fs_ful E tr rf al d (R d) h = fs_fut E tr rf al (X.1 d) (X.2 0 d) (X.2 3 d) (X.2 4 d) h) ∧
  (∀ h, 0 ≤ h → h < E 1 5 → al h = 0 → X.2 7 h ≠ -1 → 0 ≤ X.2 7 h ∧ X.2 7 h < 3 ∧ fs_ful E tr rf al (X.2 7 h) (R (X.2 7 h)) h = X.2 8 h ∧ 1 ≤ X.2 8 h) ∧
  (fs_dj X.1 ∧ ∀ d, 0 ≤ d → d < 3 → ∀ h, h ∈ X.1 d → al h ≠ 0 ∨ X.2 7 h = -1)
theorem fs_iv.step {E : fs_M} {tr rf : Int} {al : Int → Int} {R : Int → List Int} {X : (Int → List Int) × fs_M} (hv : fs_iv E tr rf al R X) (hI : fs_rI E X) (hc : X.2 0 (fs_who X.2) ≤ 240) : fs_iv E tr rf al R (fs_step E tr rf X) := by
  obtain ⟨i1, i2, i3, i4, i5⟩ := hv
  obtain ⟨w9, x, t, hX⟩ := fs_rI.who hI hc
  obtain ⟨d0, d3⟩ := fs_who3 X.2
  have es : fs_step E tr rf X = (fun i => if i = fs_who X.2 then t else X.1 i, fs_stp E tr rf (fs_who X.2) x t X.2) := by
    unfold fs_step
    rw [hX]
    rfl
  rw [es]
  generalize fs_who X.2 = d at *
  have hxm : x ∈ X.1 d := by rw [hX]; exact List.mem_cons_self
  have hI1 := hI.1 d d0 w9
  unfold fs_rI1 at hI1
  have hxr := hI1.2.2.2.2.2.2.2.2.2.2.2.2.2.2 x hxm
  have c1 : X.2 0 d ≠ 1000 := by omega
  have c2 : 1 ≤ X.2 0 d := by
    rcases hI1.2.1 with q | q
    · omega
    · exact q.1
  have hop : (if X.2 7 x = -1 then (1 : Int) else 0) = fs_opn al x := by
    unfold fs_opn
    by_cases a : al x = 0
    · rcases i5 d d0 d3 x hxm with q | q
      · exact absurd a q
      · rw [if_pos q, if_pos a]
    · have := (i1 x hxr.1 hxr.2 a).1
      rw [if_neg (by omega), if_neg a]
  have vok : fs_vok E tr d x X.2 = fs_okN E tr (fs_opn al x) (X.2 0 d) (X.2 3 d) (X.2 4 d) x := by
    unfold fs_vok
    rw [hop]
  have s7 : ∀ h, fs_stp E tr rf d x t X.2 7 h = if h = x then (if fs_vok E tr d x X.2 = 0 then X.2 7 h else d) else X.2 7 h := fun h => fs_stp_7
  have s8 : ∀ h, fs_stp E tr rf d x t X.2 8 h = if h = x then (if fs_vok E tr d x X.2 = 0 then X.2 8 h else X.2 0 d) else X.2 8 h := fun h => fs_stp_8
  have futd : ∀ h, ¬ (h = x ∧ ¬ fs_vok E tr d x X.2 = 0) → fs_fut E tr rf al (X.1 d) (X.2 0 d) (X.2 3 d) (X.2 4 d) h = fs_fut E tr rf al t (fs_stp E tr rf d x t X.2 0 d) (fs_stp E tr rf d x t X.2 3 d) (fs_stp E tr rf d x t X.2 4 d) h := fun h q => by
    rw [hX, fs_fut_c c1, ← vok, if_neg q]
    rw [fs_stp_d (by decide) (by decide) d0, fs_stp_d (by decide) (by decide) d0, fs_stp_d (by decide) (by decide) d0, hop]
    rfl
  have okal : al x ≠ 0 → fs_vok E tr d x X.2 = 0 := fun a => by
    rw [vok]
    unfold fs_opn
    rw [if_neg a]
    exact fs_okN_0
  refine ⟨fun h h0 h1 a => ?_, fun h h0 h1 a q => ?_, fun h h0 h1 a q => ?_, fun e e0 e3 => ?_, fun e e0 e3 h hh => ?_⟩
  · dsimp only
    rw [s7, s8]
    have k := i1 h h0 h1 a
    by_cases c : h = x
    · have v := okal (by rw [← c]; exact a)
      rw [if_pos c, if_pos v, if_pos c, if_pos v]
      exact k
    · rw [if_neg c, if_neg c]
      exact k
  · dsimp only at q ⊢
    rw [s7] at q
    have e1 : X.2 7 h = -1 ∧ ¬ (h = x ∧ ¬ fs_vok E tr d x X.2 = 0) := by
      by_cases c : h = x
      · rw [if_pos c] at q
        by_cases v : fs_vok E tr d x X.2 = 0
        · rw [if_pos v] at q
          exact ⟨q, fun z => z.2 v⟩
        · rw [if_neg v] at q
          omega
      · rw [if_neg c] at q
        exact ⟨q, fun z => c z.1⟩
    obtain ⟨k1, k2⟩ := i2 h h0 h1 a e1.1
    refine ⟨?_, fun e e0 e3 => ?_⟩
    · rw [s8]
      by_cases c : h = x
      · rw [if_pos c]
        by_cases v : fs_vok E tr d x X.2 = 0
        · rw [if_pos v]
          exact k1
        · exact absurd ⟨c, v⟩ e1.2
      · rw [if_neg c]
        exact k1
    · rw [k2 e e0 e3]
      by_cases c : e = d
      · rw [c, if_pos rfl]
        exact futd h e1.2
      · rw [if_neg c, fs_stp_n (by decide) d0 c, fs_stp_n (by decide) d0 c, fs_stp_n (by decide) d0 c]
  · dsimp only at q ⊢
    rw [s7] at q ⊢
    rw [s8]
    by_cases c : h = x
    · rw [if_pos c] at q ⊢
      rw [if_pos c]
      by_cases v : fs_vok E tr d x X.2 = 0
      · rw [if_pos v] at q ⊢
        rw [if_pos v]
        exact i3 h h0 h1 a q
      · rw [if_neg v, if_neg v]
        have n1 : X.2 7 h = -1 := by
          rcases i5 d d0 d3 x hxm with z | z
          · rw [← c] at z
            exact absurd a z
          · rw [c]
            exact z
        refine ⟨d0, d3, ?_, c2⟩
        rw [(i2 h h0 h1 a n1).2 d d0 d3, hX, fs_fut_c c1, ← vok, if_pos ⟨c, v⟩]
    · rw [if_neg c] at q ⊢
      rw [if_neg c]
      exact i3 h h0 h1 a q
  · dsimp only
    obtain ⟨nd, dj⟩ := i4 e e0 e3
    have sub : ∀ e2 y, y ∈ (if e2 = d then t else X.1 e2) → y ∈ X.1 e2 := fun e2 y q => by
      by_cases c : e2 = d
      · rw [if_pos c] at q
        rw [c, hX]
        exact List.mem_cons_of_mem _ q
      · rw [if_neg c] at q
        exact q
    refine ⟨?_, fun h hh e2 a0 a3 ne q => dj h (sub e h hh) e2 a0 a3 ne (sub e2 h q)⟩
    by_cases c : e = d
    · rw [if_pos c]
      rw [c, hX] at nd
      exact (List.nodup_cons.1 nd).2
    · rw [if_neg c]
      exact nd
  · dsimp only at hh ⊢
    rw [s7]
    have hne : h ≠ x := fun z => by
      by_cases c : e = d
      · rw [if_pos c] at hh
        have nd := (i4 d d0 d3).1
        rw [hX] at nd
        exact (List.nodup_cons.1 nd).1 (by rw [← z]; exact hh)
      · rw [if_neg c] at hh
        exact (i4 d d0 d3).2 x hxm e e0 e3 c (by rw [← z]; exact hh)
    rw [if_neg hne]
    refine i5 e e0 e3 h ?_
    by_cases c : e = d
    · rw [if_pos c] at hh
      rw [c, hX]
      exact List.mem_cons_of_mem _ hh
    · rw [if_neg c] at hh
      exact hh
/-- what is done of such rows: each as if alone -/
theorem fs_indep {E : fs_M} {tr rf : Int} {al : Int → Int} {R : Int → List Int} (hB : fs_bE E) (hR : fs_bR E R) (hj : fs_dj R) {h : Int} (h0 : 0 ≤ h) (h1 : h < E 1 5) :
    (al h ≠ 0 → (fs_run E tr rf al R).2 7 h = -2 ∧ (fs_run E tr rf al R).2 8 h = 1) ∧
    (al h = 0 → ((fs_run E tr rf al R).2 7 h = -1 ∧ (fs_run E tr rf al R).2 8 h = -1 ∧ ∀ d, 0 ≤ d → d < 3 → fs_ful E tr rf al d (R d) h = 0) ∨ (0 ≤ (fs_run E tr rf al R).2 7 h ∧ (fs_run E tr rf al R).2 7 h < 3 ∧ fs_ful E tr rf al ((fs_run E tr rf al R).2 7 h) (R ((fs_run E tr rf al R).2 7 h)) h = (fs_run E tr rf al R).2 8 h ∧ 1 ≤ (fs_run E tr rf al R).2 8 h)) := by
  have h6 := hB.2.1
  have st := fs_bR.start (tr := tr) (al := al) hB hR
  have s7 : ∀ x, fs_S0 E tr al R 7 x = if 0 ≤ x ∧ x < 6 ∧ ¬ al x = 0 then -2 else -1 := fun x => rfl
  have s8 : ∀ x, fs_S0 E tr al R 8 x = if 0 ≤ x ∧ x < 6 ∧ ¬ al x = 0 then 1 else -1 := fun x => rfl
  have iv0 : fs_iv E tr rf al R (R, fs_S0 E tr al R) := by
    refine ⟨fun x x0 x1 a => ?_, fun x x0 x1 a _ => ⟨?_, fun d _ _ => rfl⟩, fun x x0 x1 a q => ?_, hj, fun d d0 d3 x hx => ?_⟩
    · dsimp only
      rw [s7, s8, if_pos ⟨x0, by omega, a⟩, if_pos ⟨x0, by omega, a⟩]
      exact ⟨rfl, rfl⟩
    · dsimp only
      rw [s8, if_neg (fun z => z.2.2 a)]
    · dsimp only at q
      rw [s7, if_neg (fun z => z.2.2 a)] at q
      exact absurd rfl q
    · dsimp only
      rw [s7]
      by_cases a : al x = 0
      · rw [if_neg (fun z => z.2.2 a)]
        exact Or.inr rfl
      · exact Or.inl a
  have iv : fs_iv E tr rf al R (fs_run E tr rf al R) := fs_go_ind (fun X => fs_iv E tr rf al R X) hB (by decide) (fun X hI hv hc => hv.step hI hc) 27 _ st iv0
  have I : fs_rI E (fs_run E tr rf al R) := fs_rI.go hB (by decide) 27 _ st
  have z : 240 < (fs_run E tr rf al R).2 0 (fs_who (fs_run E tr rf al R).2) := fs_tot0 hB (by decide) 27 _ st hR.tot
  have c : ∀ d, 0 ≤ d → d < 3 → (fs_run E tr rf al R).2 0 d = 1000 := fun d d0 d3 => by
    have m := fs_who_min (fs_run E tr rf al R).2 d0 d3
    by_cases c9 : d < E 1 9
    · have q := I.1 d d0 c9
      unfold fs_rI1 at q
      rcases q.2.1 with y | y
      · exact y
      · omega
    · exact (I.2 d d0 d3 (by omega)).1
  obtain ⟨i1, i2, i3, i4⟩ := iv
  refine ⟨i1 h h0 h1, fun a => ?_⟩
  by_cases q : (fs_run E tr rf al R).2 7 h = -1
  · obtain ⟨k1, k2⟩ := i2 h h0 h1 a q
    refine Or.inl ⟨q, k1, fun d d0 d3 => ?_⟩
    rw [k2 d d0 d3, c d d0 d3, fs_fut_z]
  · exact Or.inr (i3 h h0 h1 a q)
/-- what a house is worth for its being done by a dark one -/
def fs_wbd (E : fs_M) (hv h : Int) : Int := if fs_bit hv h = 1 then fs_div (E 4 h) 2 else E 4 h
/-- done alone by a row, at BY at the latest -/
def fs_itm (E : fs_M) (tr rf : Int) (al : Int → Int) (d : Int) (r : List Int) (h : Int) : Int := if 1 ≤ fs_ful E tr rf al d r h ∧ fs_ful E tr rf al d r h ≤ E 5 h then 1 else 0
/-- the sum of weights of houses of which f is 1 -/
def fs_sum (w f : Int → Int) : Nat → Int
  | 0 => 0
  | n + 1 => fs_sum w f n + (if f n = 1 then w n else 0)
def fs_gbi (E : fs_M) (al : Int → Int) : Nat → Int
  | 0 => 0
  | n + 1 => fs_gbi E al n + (if al n = 0 then 0 else E 4 n)
theorem fs_itm_n {E : fs_M} {tr rf : Int} {al : Int → Int} {d h : Int} {r : List Int} (hn : h ∉ r) : fs_itm E tr rf al d r h = 0 := by
  unfold fs_itm fs_ful
  rw [fs_fut_n r _ _ _ hn, if_neg (by omega)]
theorem fs_itm_a {E : fs_M} {tr rf : Int} {al : Int → Int} {d h : Int} {r : List Int} (ha : al h ≠ 0) : fs_itm E tr rf al d r h = 0 := by
  unfold fs_itm fs_ful
  rw [fs_fut_a ha, if_neg (by omega)]
/-- of several rows at most one does a house in time -/
theorem fs_itm_1 {E : fs_M} {tr rf : Int} {al : Int → Int} {R : Int → List Int} (hB : fs_bE E) (hR : fs_bR E R) (hj : fs_dj R) {h : Int} (h0 : 0 ≤ h) (h1 : h < E 1 5) (ha : al h = 0) :
    (((fs_run E tr rf al R).2 7 h = -1 ∨ ¬ (fs_run E tr rf al R).2 8 h ≤ E 5 h) ∧ (fs_run E tr rf al R).2 7 h ≠ -3 ∧ ∀ d, 0 ≤ d → d < 3 → fs_itm E tr rf al d (R d) h = 0) ∨
    (0 ≤ (fs_run E tr rf al R).2 7 h ∧ (fs_run E tr rf al R).2 8 h ≤ E 5 h ∧ ∃ e, 0 ≤ e ∧ e < 3 ∧ e = (fs_run E tr rf al R).2 7 h ∧ fs_itm E tr rf al e (R e) h = 1 ∧ fs_ful E tr rf al e (R e) h = (fs_run E tr rf al R).2 8 h ∧ ∀ d, 0 ≤ d → d < 3 → d ≠ e → fs_itm E tr rf al d (R d) h = 0) := by
  rcases (fs_indep (tr := tr) (rf := rf) (al := al) hB hR hj h0 h1).2 ha with ⟨a, b, c⟩ | ⟨a, b, c, k⟩
  · refine Or.inl ⟨Or.inl a, by omega, fun d d0 d3 => ?_⟩
    unfold fs_itm
    rw [c d d0 d3, if_neg (by omega)]
  · generalize he : (fs_run E tr rf al R).2 7 h = e at *
    have mem : h ∈ R e := by
      by_cases q : h ∈ R e
      · exact q
      · unfold fs_ful at c
        rw [fs_fut_n _ _ _ _ q] at c
        omega
    have oth : ∀ d, 0 ≤ d → d < 3 → d ≠ e → fs_itm E tr rf al d (R d) h = 0 := fun d d0 d3 ne => fs_itm_n ((hj e a b).2 h mem d d0 d3 ne)
    by_cases t : (fs_run E tr rf al R).2 8 h ≤ E 5 h
    · refine Or.inr ⟨a, t, e, a, b, rfl, ?_, c, oth⟩
      unfold fs_itm
      rw [c, if_pos ⟨k, t⟩]
    · refine Or.inl ⟨Or.inr t, by omega, fun d d0 d3 => ?_⟩
      by_cases q : d = e
      · rw [q]
        unfold fs_itm
        rw [c, if_neg (fun z => t z.2)]
      · exact oth d d0 d3 q
/-- the gain of such rows: what is done by itself, and what each brings alone -/
theorem fs_gain_sum {E : fs_M} {tr rf hv : Int} {al : Int → Int} {R : Int → List Int} (hB : fs_bE E) (hR : fs_bR E R) (hj : fs_dj R) : ∀ (n : Nat), (n : Int) ≤ E 1 5 →
    fs_gain E (fs_run E tr rf al R).2 hv n = fs_gbi E al n + fs_sum (fs_wbd E hv) (fs_itm E tr rf al 0 (R 0)) n + fs_sum (fs_wbd E hv) (fs_itm E tr rf al 1 (R 1)) n + fs_sum (fs_wbd E hv) (fs_itm E tr rf al 2 (R 2)) n
  | 0, _ => rfl
  | n + 1, hn => by
    have ih := fs_gain_sum (tr := tr) (rf := rf) (hv := hv) (al := al) hB hR hj n (by omega)
    have b5 := (hB.2.2.2.2.1 n (by omega) (by omega)).2.2.2.2.1
    show fs_gain E (fs_run E tr rf al R).2 hv n + fs_gnOf E (fs_run E tr rf al R).2 hv n = (fs_gbi E al n + (if al n = 0 then 0 else E 4 n)) + (fs_sum (fs_wbd E hv) (fs_itm E tr rf al 0 (R 0)) n + (if fs_itm E tr rf al 0 (R 0) n = 1 then fs_wbd E hv n else 0)) + (fs_sum (fs_wbd E hv) (fs_itm E tr rf al 1 (R 1)) n + (if fs_itm E tr rf al 1 (R 1) n = 1 then fs_wbd E hv n else 0)) + (fs_sum (fs_wbd E hv) (fs_itm E tr rf al 2 (R 2)) n + (if fs_itm E tr rf al 2 (R 2) n = 1 then fs_wbd E hv n else 0))
    have key : fs_gnOf E (fs_run E tr rf al R).2 hv n = (if al n = 0 then 0 else E 4 n) + (if fs_itm E tr rf al 0 (R 0) n = 1 then fs_wbd E hv n else 0) + (if fs_itm E tr rf al 1 (R 1) n = 1 then fs_wbd E hv n else 0) + (if fs_itm E tr rf al 2 (R 2) n = 1 then fs_wbd E hv n else 0) := by
      by_cases ha : al n = 0
      · rw [if_pos ha]
        rcases fs_itm_1 (tr := tr) (rf := rf) hB hR hj (show (0 : Int) ≤ n by omega) (by omega) ha with ⟨a, _, c⟩ | ⟨a, b, e, e0, e3, he, i1, _, io⟩
        · rw [c 0 (by decide) (by decide), c 1 (by decide) (by decide), c 2 (by decide) (by decide)]
          have : fs_gnOf E (fs_run E tr rf al R).2 hv n = 0 := by
            unfold fs_gnOf
            rcases a with q | q
            · rw [if_pos (Or.inl q)]
            · split
              · rfl
              · first | rfl | rw [if_neg q]
          rw [this, if_neg (by decide)]
          rfl
        · have g : fs_gnOf E (fs_run E tr rf al R).2 hv n = fs_wbd E hv n := by
            unfold fs_gnOf fs_wbd
            rw [if_neg (by omega), if_pos b]
            by_cases q : fs_bit hv n = 1
            · rw [if_pos ⟨a, q⟩, if_pos q]
            · rw [if_neg (fun z => q z.2), if_neg q]
          rw [g]
          have e3' : e = 0 ∨ e = 1 ∨ e = 2 := by omega
          rcases e3' with q | q | q
          · subst q
            rw [i1, io 1 (by decide) (by decide) (by decide), io 2 (by decide) (by decide) (by decide), if_pos rfl, if_neg (by decide)]
            omega
          · subst q
            rw [i1, io 0 (by decide) (by decide) (by decide), io 2 (by decide) (by decide) (by decide), if_pos rfl, if_neg (by decide)]
            omega
          · subst q
            rw [i1, io 0 (by decide) (by decide) (by decide), io 1 (by decide) (by decide) (by decide), if_pos rfl, if_neg (by decide)]
            omega
      · rw [if_neg ha, fs_itm_a ha, fs_itm_a ha, fs_itm_a ha, if_neg (by decide)]
        obtain ⟨a, b⟩ := (fs_indep (tr := tr) (rf := rf) (al := al) hB hR hj (show (0 : Int) ≤ n by omega) (by omega)).1 ha
        unfold fs_gnOf
        rw [a, b, if_neg (by decide), if_pos b5, if_neg (fun z => absurd z.1 (by decide))]
        omega
    rw [ih, key]
    omega
