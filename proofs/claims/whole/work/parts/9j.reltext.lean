-- ===== the book stands still for another memory with the same street of the class =====
def fs_envX (E M : fs_M) : Prop := ∀ o k, (1 ≤ o ∧ o ≤ 8) ∨ (10 ≤ o ∧ o ≤ 13) → M o k = E o k
theorem fs_envX.law {E M : fs_M} (h : fs_envX E M) : (∀ k nm, fs_law M k nm = fs_law E k nm) ∧ (∀ k, fs_lawC E k → fs_lawC M k) := fs_law_cong (fun o k a b => h o k (Or.inr ⟨a, b⟩))
theorem fs_envX.walk {E M : fs_M} (h : fs_envX E M) : fs_walk M = fs_walk E := by
  funext a b c d e
  unfold fs_walk
  rw [h.law.1]
theorem fs_envX.stay {E M : fs_M} (h : fs_envX E M) : fs_stay M = fs_stay E := by
  funext a b c d
  unfold fs_stay
  rw [h.law.1]
theorem fs_envX.may {E M : fs_M} (h : fs_envX E M) : fs_may M = fs_may E := by
  funext a b c d e
  unfold fs_may
  rw [h.law.1, h 12 2 (Or.inr (by decide)), h 13 2 (Or.inr (by decide))]
theorem fs_envX.comes {E M : fs_M} (h : fs_envX E M) : fs_comes M = fs_comes E := by
  funext tr x pl lv gl co
  unfold fs_comes fs_wk
  rw [h.walk, h 3 x (by omega), h 4 x (by omega)]
theorem fs_envX.nx {E M : fs_M} (h : fs_envX E M) : fs_nx M = fs_nx E := by
  funext tr r pl lv gl co
  cases r with
  | nil => rfl
  | cons x t =>
    show fs_comes M tr x pl lv gl co = fs_comes E tr x pl lv gl co
    rw [h.comes]
theorem fs_envX.okN {E M : fs_M} (h : fs_envX E M) : fs_okN M = fs_okN E := by
  funext tr opn t gl co x
  unfold fs_okN
  rw [h.may, h 4 x (by omega)]
theorem fs_envX.vlv {E M : fs_M} (h : fs_envX E M) : fs_vlv M = fs_vlv E := by
  funext tr rf opn t gl co x
  unfold fs_vlv
  rw [h.okN, h.stay, h 4 x (by omega)]
theorem fs_envX.vgl {E M : fs_M} (h : fs_envX E M) : fs_vgl M = fs_vgl E := by
  funext tr rf opn t gl co x
  unfold fs_vgl
  rw [h.okN]
theorem fs_envX.vco {E M : fs_M} (h : fs_envX E M) : fs_vco M = fs_vco E := by
  funext tr opn t gl co x
  unfold fs_vco
  rw [h.okN]
theorem fs_envX.fut {E M : fs_M} (h : fs_envX E M) {tr rf : Int} {al : Int → Int} {x : Int} : ∀ (r : List Int) (c gl co : Int), fs_fut M tr rf al r c gl co x = fs_fut E tr rf al r c gl co x
  | [], _, _, _ => rfl
  | y :: t, c, gl, co => by
    by_cases z : c = 1000
    · rw [z, fs_fut_z, fs_fut_z]
    · rw [fs_fut_c z, fs_fut_c z, h.okN, h.vlv, h.vgl, h.vco, h.nx, h 3 y (by omega), fs_envX.fut h t]
theorem fs_envX.ful {E M : fs_M} (h : fs_envX E M) {tr rf : Int} {al : Int → Int} {d x : Int} {r : List Int} : fs_ful M tr rf al d r x = fs_ful E tr rf al d r x := by
  unfold fs_ful
  rw [h.nx, h 7 d (by omega), h 8 d (by omega), h.fut]
theorem fs_envX.itm {E M : fs_M} (h : fs_envX E M) {tr rf : Int} {al : Int → Int} {d : Int} {r : List Int} : fs_itm M tr rf al d r = fs_itm E tr rf al d r := by
  funext x
  unfold fs_itm
  rw [h.ful, h 5 x (by omega)]
theorem fs_envX.alone {E M : fs_M} (h : fs_envX E M) {tr out x : Int} : fs_alone M tr out x = fs_alone E tr out x := by
  unfold fs_alone
  rw [h.may, h 4 x (by omega)]
theorem fs_bk.envX {E E' M : fs_M} (h : fs_bk E M) (he : fs_envX E E') (h2 : E' 31 2 = E 31 2) (h3 : E' 31 3 = E 31 3) : fs_bk E' M := by
  have e5 : E' 1 5 = E 1 5 := he 1 5 (by omega)
  have e9 : E' 1 9 = E 1 9 := he 1 9 (by omega)
  have al : fs_alN E' = fs_alN E := by
    funext x
    unfold fs_alN
    rw [he.alone, h3]
  have rs : fs_RS E' = fs_RS E := by
    unfold fs_RS
    rw [e5]
  obtain ⟨a, b, c, d, e, f, k⟩ := h
  refine ⟨by rw [h2]; exact a, b, c, ?_, by rw [rs]; exact e, by rw [rs]; exact f, fun x x0 x1 => ?_⟩
  · rw [e5, al]
    exact d
  · rw [e9] at x1
    rw [rs]
    refine fs_wrt_mono _ _ (fun j s _ _ _ hp => ?_) (k x x0 x1)
    unfold fs_PK at hp ⊢
    rw [e5, h2, al, he.itm]
    refine ⟨fun y y0 y1 => ?_, hp.2⟩
    rw [he.ful]
    exact hp.1 y y0 y1
/-- where a TEXT isn't told: all is as it was, but for the TAPE and the FAULT -/
theorem fs_Rl.untold {M M1 M2 : fs_M} (h : fs_Rl M) (o1 : fs_out fs_FqR M M1) (o2 : fs_out fs_FnM M1 M2) (b2 : fs_b01 M2) (t1 : M1 29 1 = 0) (t2 : M2 226 2 = 0) (f1 : M1 29 2 = M2 226 25) (f2 : M1 29 3 = M2 226 26) : fs_Rl M2 := by
  have cls : ∀ o k, o < 226 → ¬ (o = 29 ∨ (15 ≤ o ∧ o ≤ 27)) → M2 o k = M o k := fun o k a b => by
    rw [o2 o k (fun z => by unfold fs_FnM at z; omega)]
    exact o1 o k (fun z => by unfold fs_FqR at z; omega)
  have c29 : ∀ k, M2 29 k = M1 29 k := fun k => o2 29 k (fun z => by unfold fs_FnM at z; omega)
  have mo : ∀ o k, 226 ≤ o → ¬ fs_FnM o k → M2 o k = M o k := fun o k a b => by
    rw [o2 o k b]
    exact o1 o k (fun z => by unfold fs_FqR at z; omega)
  have m6 : ∀ o k, 229 ≤ o → o ≤ 233 → k < 6 → M2 o k = M o k := fun o k a b c => mo o k (by omega) (fun z => by unfold fs_FnM at z; omega)
  have m3 : ∀ o k, 234 ≤ o → o ≤ 236 → k < 3 → M2 o k = M o k := fun o k a b c => mo o k (by omega) (fun z => by unfold fs_FnM at z; omega)
  have m4 : ∀ o k, 237 ≤ o → o ≤ 238 → k < 4 → M2 o k = M o k := fun o k a b c => mo o k (by omega) (fun z => by unfold fs_FnM at z; omega)
  have m64 : ∀ o k, 239 ≤ o → o ≤ 240 → k < 64 → M2 o k = M o k := fun o k a b c => mo o k (by omega) (fun z => by unfold fs_FnM at z; omega)
  have m228 : ∀ k, k < 4 → M2 228 k = M 228 k := fun k c => mo 228 k (by omega) (fun z => by unfold fs_FnM at z; omega)
  have m226 : ∀ k, 28 < k → M2 226 k = M 226 k := fun k c => mo 226 k (by omega) (fun z => by unfold fs_FnM at z; omega)
  have mh : ∀ o k, 241 ≤ o → M2 o k = M o k := fun o k c => mo o k (by omega) (fun z => by unfold fs_FnM at z; omega)
  obtain ⟨a, b, c, d, e, f, i, n, t, r, s⟩ := h
  have h3 := a.2.2.2.1
  have h6 := a.2.1
  have X : fs_envX M M2 := fun o k q => cls o k (by omega) (by omega)
  have e5 : M2 1 5 = M 1 5 := X 1 5 (by omega)
  have e9 : M2 1 9 = M 1 9 := X 1 9 (by omega)
  have lw := X.law.2
  refine ⟨?_, ?_, ?_, ?_, e.cong h3 (fun o k q => ?_), f.cong (fun o k q => ?_), i.cong h3 (fun o k q => ?_), n.cong (fun o k q => ?_), t.cong (fun o k q => ?_), ⟨?_, ?_, ?_, fun x x0 x1 => ?_, ?_, ?_⟩, fun q => ?_⟩
  · obtain ⟨a1, a2, a3, a4, a5, a6, a7⟩ := a
    unfold fs_bE
    rw [e5, e9]
    refine ⟨a1, a2, a3, a4, fun x x0 x1 => ?_, fun x x0 x1 => ?_, fun k k0 k4 => lw k (a7 k k0 k4)⟩
    · rw [X 3 x (by omega), X 4 x (by omega), X 5 x (by omega)]
      exact a5 x x0 x1
    · rw [X 7 x (by omega), X 8 x (by omega)]
      exact a6 x x0 x1
  · obtain ⟨b1, b2', b3, b4, b5⟩ := b
    unfold fs_rt
    rw [e5, e9, m228 0 (by omega), m228 1 (by omega)]
    refine ⟨b1, b2', fun x x0 x1 => ?_, fun x x0 x1 => ?_, fun k k0 k4 => ?_⟩
    · rw [m6 230 x (by omega) (by omega) (by omega), m6 231 x (by omega) (by omega) (by omega), m6 232 x (by omega) (by omega) (by omega), X 3 x (by omega), X 4 x (by omega), X 5 x (by omega)]
      exact b3 x x0 x1
    · rw [m3 235 x (by omega) (by omega) (by omega), m3 236 x (by omega) (by omega) (by omega), X 7 x (by omega), X 8 x (by omega)]
      exact b4 x x0 x1
    · obtain ⟨c1, c2, c3, c4⟩ := b5 k k0 k4
      rw [m4 237 k (by omega) (by omega) (by omega), m4 238 k (by omega) (by omega) (by omega), X 12 k (by omega), X 13 k (by omega)]
      refine ⟨c1, c2, lw k c3, fun x x0 x1 => ?_⟩
      have l64 := c3.2.2.1
      have z := c4 x x0 x1
      unfold fs_csC fs_cvC at z ⊢
      rw [m64 239 x (by omega) (by omega) (by omega), m64 240 x (by omega) (by omega) (by omega), X 10 x (by omega), X 11 x (by omega)]
      exact z
  · intro x x0 x1
    rw [e5] at x1
    rw [m6 233 x (by omega) (by omega) (by omega), X 1 4 (by omega)]
    exact c x x0 x1
  · obtain ⟨d1, d2, d3, _⟩ := d
    refine ⟨fun x x0 x1 => ?_, fun x x0 x1 => ?_, ?_, b2⟩
    · rw [e5] at x1
      rw [X 2 x (by omega), m6 229 x (by omega) (by omega) (by omega)]
      exact d1 x x0 x1
    · rw [e9] at x1
      rw [X 6 x (by omega), m3 234 x (by omega) (by omega) (by omega)]
      exact d2 x x0 x1
    · rw [cls 9 2 (by omega) (by omega), m228 3 (by omega)]
      exact d3
  · by_cases g : o < 226
    · exact cls o k g (by omega)
    · by_cases g2 : o = 226
      · rw [g2]
        exact m226 k (by omega)
      · exact mh o k (by omega)
  · by_cases g : o < 226
    · exact cls o k g (by omega)
    · by_cases g2 : o = 226
      · rw [g2]
        exact m226 k (by omega)
      · exact mh o k (by omega)
  · by_cases g : o < 226
    · exact cls o k g (by omega)
    · by_cases g2 : o = 226
      · rw [g2]
        exact m226 k (by omega)
      · exact mh o k (by omega)
  · by_cases g : o < 226
    · exact cls o k g (by omega)
    · exact mh o k (by omega)
  · by_cases g : o < 226
    · exact cls o k g (by omega)
    · by_cases g2 : o = 226
      · rw [g2]
        exact m226 k (by omega)
      · exact mh o k (by omega)
  · rw [c29, t1, t2]
  · rw [c29, t1]
    omega
  · rw [c29, t1]
    omega
  · rw [c29, t1] at x1
    omega
  · rw [c29]
    exact f1
  · rw [c29]
    exact f2
  · rw [cls 60 5 (by omega) (by omega)] at q
    have z := (s q).cong (M' := M2) h3 (fun o k w => cls o k (by omega) (by omega))
    exact z.envX X (cls 31 2 (by omega) (by omega)) (cls 31 3 (by omega) (by omega))
