-- ===== the relation of the two programs; what keeps it =====
theorem fs_env.comes {E M : fs_M} (h : fs_env E M) : fs_comes M = fs_comes E := by
  funext tr x pl lv gl co
  unfold fs_comes fs_wk
  rw [h.walk, h 3 x (by unfold fs_eC; omega), h 4 x (by unfold fs_eC; omega)]
theorem fs_env.nx {E M : fs_M} (h : fs_env E M) : fs_nx M = fs_nx E := by
  funext tr r pl lv gl co
  cases r with
  | nil => rfl
  | cons x t =>
    show fs_comes M tr x pl lv gl co = fs_comes E tr x pl lv gl co
    rw [h.comes]
theorem fs_env.okN {E M : fs_M} (h : fs_env E M) : fs_okN M = fs_okN E := by
  funext tr opn t gl co x
  unfold fs_okN
  rw [h.may, h 4 x (by unfold fs_eC; omega)]
theorem fs_env.vlv {E M : fs_M} (h : fs_env E M) : fs_vlv M = fs_vlv E := by
  funext tr rf opn t gl co x
  unfold fs_vlv
  rw [h.okN, h.stay, h 4 x (by unfold fs_eC; omega)]
theorem fs_env.vgl {E M : fs_M} (h : fs_env E M) : fs_vgl M = fs_vgl E := by
  funext tr rf opn t gl co x
  unfold fs_vgl
  rw [h.okN]
theorem fs_env.vco {E M : fs_M} (h : fs_env E M) : fs_vco M = fs_vco E := by
  funext tr opn t gl co x
  unfold fs_vco
  rw [h.okN]
theorem fs_env.fut {E M : fs_M} (h : fs_env E M) {tr rf : Int} {al : Int → Int} {x : Int} : ∀ (r : List Int) (c gl co : Int), fs_fut M tr rf al r c gl co x = fs_fut E tr rf al r c gl co x
  | [], _, _, _ => rfl
  | y :: t, c, gl, co => by
    by_cases z : c = 1000
    · rw [z, fs_fut_z, fs_fut_z]
    · rw [fs_fut_c z, fs_fut_c z, h.okN, h.vlv, h.vgl, h.vco, h.nx, h 3 y (by unfold fs_eC; omega), fs_env.fut h t]
theorem fs_env.ful {E M : fs_M} (h : fs_env E M) {tr rf : Int} {al : Int → Int} {d x : Int} {r : List Int} : fs_ful M tr rf al d r x = fs_ful E tr rf al d r x := by
  unfold fs_ful
  rw [h.nx, h 7 d (by unfold fs_eC; omega), h 8 d (by unfold fs_eC; omega), h.fut]
theorem fs_env.itm {E M : fs_M} (h : fs_env E M) {tr rf : Int} {al : Int → Int} {d : Int} {r : List Int} : fs_itm M tr rf al d r = fs_itm E tr rf al d r := by
  funext x
  unfold fs_itm
  rw [h.ful, h 5 x (by unfold fs_eC; omega)]
theorem fs_env.alone {E M : fs_M} (h : fs_env E M) {tr out x : Int} : fs_alone M tr out x = fs_alone E tr out x := by
  unfold fs_alone
  rw [h.may, h 4 x (by unfold fs_eC; omega)]
/-- the book stands still for another memory with the same street and plan -/
theorem fs_bk.env {E E' M : fs_M} (h : fs_bk E M) (he : fs_env E E') (h2 : E' 31 2 = E 31 2) (h3 : E' 31 3 = E 31 3) : fs_bk E' M := by
  have e5 : E' 1 5 = E 1 5 := he 1 5 (by unfold fs_eC; omega)
  have e9 : E' 1 9 = E 1 9 := he 1 9 (by unfold fs_eC; omega)
  have al : fs_alN E' = fs_alN E := by
    funext x
    unfold fs_alN
    rw [he.alone, h3]
  have rs : fs_RS E' = fs_RS E := by
    unfold fs_RS
    rw [e5]
  obtain ⟨a, b, c, d, e, f, k⟩ := h
  refine ⟨by rw [h2]; exact a, b, c, ?_, by rw [rs]; exact e, by rw [rs]; exact f, fun x x0 x1 => ?_⟩
  · rw [e5, al]
    exact d
  · rw [e9] at x1
    rw [rs]
    refine fs_wrt_mono _ _ (fun j s _ _ _ hp => ?_) (k x x0 x1)
    unfold fs_PK at hp ⊢
    rw [e5, h2, al, he.itm]
    refine ⟨fun y y0 y1 => ?_, hp.2⟩
    rw [he.ful]
    exact hp.1 y y0 y1
def fs_nms (M : fs_M) : Prop := (∀ h, 0 ≤ h → h < M 1 5 → M 2 h = M 229 h) ∧ (∀ d, 0 ≤ d → d < M 1 9 → M 6 d = M 234 d) ∧ M 9 2 = M 228 3 ∧ ∀ k, 0 ≤ k → k < 12 → M 233 k = 0 ∨ M 233 k = 1
def fs_ngx (M : fs_M) (nt b : Int) : Prop := M nt 3 = M 245 b ∧ M nt 2 = M 246 b ∧ (M nt 2 ≠ 0 → ∀ h, 0 ≤ h → h < M 1 5 → M (nt + 1) h = M 247 (6 * b + h) ∧ M (nt + 2) h = M 248 (6 * b + h))
def fs_img (M : fs_M) : Prop := M 0 13 = M 226 37 ∧ (M 0 13 ≠ 0 → fs_rp M 217 1 ∧ fs_rz M 217 1 ∧ fs_ngx M 223 1)
def fs_tap (M : fs_M) : Prop := M 29 1 = M 226 2 ∧ 0 ≤ M 29 1 ∧ M 29 1 ≤ 600 ∧ (∀ i, 0 ≤ i → i < M 29 1 → M 30 i = M 227 i ∧ 0 ≤ M 30 i ∧ M 30 i ≤ 255) ∧ M 29 2 = M 226 25 ∧ M 29 3 = M 226 26
def fs_Rl (M : fs_M) : Prop := fs_bE M ∧ fs_rt M ∧ fs_own M ∧ fs_nms M ∧ fs_pr M ∧ fs_prz M ∧ fs_img M ∧ fs_ngx M 54 0 ∧ fs_trk M ∧ fs_tap M ∧ fs_bkS M M
/-- the cells that it speaks of, but for the book's -/
def fs_sup (o k : Int) : Prop := (o = 0 ∧ k = 13) ∨ fs_eC o ∨ (o = 9 ∧ k = 2) ∨ (o = 29 ∧ 1 ≤ k ∧ k ≤ 3) ∨ o = 30 ∨ (31 ≤ o ∧ o ≤ 36) ∨ (54 ≤ o ∧ o ≤ 56) ∨ (90 ≤ o ∧ o ≤ 95) ∨ (97 ≤ o ∧ o ≤ 225) ∨ (o = 226 ∧ (k = 2 ∨ k = 25 ∨ k = 26 ∨ k = 37 ∨ k = 38 ∨ k = 68 ∨ k = 69)) ∨ o = 227 ∨ (241 ≤ o ∧ o ≤ 248) ∨ (265 ≤ o ∧ o ≤ 267)
def fs_supB (o k : Int) : Prop := (o = 60 ∧ (k = 2 ∨ k = 5 ∨ k = 8 ∨ k = 9)) ∨ (61 ≤ o ∧ o ≤ 70)
theorem fs_rp.cong {M M' : fs_M} {p b : Int} (h : fs_rp M p b) (h3 : M 1 9 ≤ 3) (he : ∀ o k, o = 1 ∨ (p ≤ o ∧ o ≤ p + 5) ∨ (241 ≤ o ∧ o ≤ 244) → M' o k = M o k) : fs_rp M' p b := by
  obtain ⟨a, c, d⟩ := h
  refine ⟨by rw [he p 2 (by omega), he 243 b (by omega)]; exact a, by rw [he p 3 (by omega), he 244 b (by omega)]; exact c, fun x x0 x1 => ?_⟩
  rw [he 1 9 (by omega)] at x1
  obtain ⟨e1, e2, e3, e4⟩ := d x x0 x1
  rw [he (p + 5) x (by omega), he 242 _ (by omega), he 1 5 (by omega)]
  refine ⟨e1, e2, e3, fun k k0 k1 => ?_⟩
  rw [he (p + 2 + x) k (by omega), he 241 _ (by omega)]
  exact e4 k k0 k1
theorem fs_rz.cong {M M' : fs_M} {p b : Int} (h : fs_rz M p b) (he : ∀ o k, o = 1 ∨ (p ≤ o ∧ o ≤ p + 5) ∨ (241 ≤ o ∧ o ≤ 244) → M' o k = M o k) : fs_rz M' p b := fun d d0 d1 d2 => by
  rw [he 1 9 (by omega)] at d1
  rw [he (p + 5) d (by omega), he 242 _ (by omega)]
  exact h d d0 d1 d2
theorem fs_pr.cong {M M' : fs_M} (h : fs_pr M) (h3 : M 1 9 ≤ 3) (he : ∀ o k, o = 1 ∨ (31 ≤ o ∧ o ≤ 36) ∨ (o = 95 ∧ (k = 1 ∨ k = 2)) ∨ (97 ≤ o ∧ o ≤ 216) ∨ (241 ≤ o ∧ o ≤ 244) ∨ (o = 226 ∧ k = 38) → M' o k = M o k) : fs_pr M' := by
  obtain ⟨a, b, c, d, e, f, k⟩ := h
  have x1 := he 95 1 (by omega)
  have x2 := he 95 2 (by omega)
  refine ⟨by rw [x1]; exact a, by rw [x1]; exact b, by rw [x2]; exact c, by rw [x2]; exact d, by rw [x2, he 226 38 (by omega)]; exact e, f.cong h3 (fun o k q => he o k (by omega)), fun j j0 j1 => ?_⟩
  rw [x2] at j1
  rw [x1]
  have sb := fs_slot_b (M 95 1) j
  exact (k j j0 j1).cong h3 (fun o k q => he o k (by omega))
theorem fs_prz.cong {M M' : fs_M} (h : fs_prz M) (he : ∀ o k, o = 1 ∨ (31 ≤ o ∧ o ≤ 36) ∨ (o = 95 ∧ (k = 1 ∨ k = 2)) ∨ (97 ≤ o ∧ o ≤ 216) ∨ (241 ≤ o ∧ o ≤ 244) ∨ (o = 226 ∧ k = 38) → M' o k = M o k) : fs_prz M' := by
  obtain ⟨f, k⟩ := h
  refine ⟨f.cong (fun o k q => he o k (by omega)), fun j j0 j1 => ?_⟩
  rw [he 95 2 (by omega)] at j1
  rw [he 95 1 (by omega)]
  have sb := fs_slot_b (M 95 1) j
  exact (k j j0 j1).cong (fun o k q => he o k (by omega))
theorem fs_ngx.cong {M M' : fs_M} {nt b : Int} (h : fs_ngx M nt b) (he : ∀ o k, o = 1 ∨ (nt ≤ o ∧ o ≤ nt + 2) ∨ (245 ≤ o ∧ o ≤ 248) → M' o k = M o k) : fs_ngx M' nt b := by
  obtain ⟨a, c, d⟩ := h
  refine ⟨by rw [he nt 3 (by omega), he 245 b (by omega)]; exact a, by rw [he nt 2 (by omega), he 246 b (by omega)]; exact c, fun q x x0 x1 => ?_⟩
  rw [he nt 2 (by omega)] at q
  rw [he 1 5 (by omega)] at x1
  rw [he (nt + 1) x (by omega), he (nt + 2) x (by omega), he 247 _ (by omega), he 248 _ (by omega)]
  exact d q x x0 x1
theorem fs_img.cong {M M' : fs_M} (h : fs_img M) (h3 : M 1 9 ≤ 3) (he : ∀ o k, o = 1 ∨ (o = 0 ∧ k = 13) ∨ (o = 226 ∧ k = 37) ∨ (217 ≤ o ∧ o ≤ 225) ∨ (241 ≤ o ∧ o ≤ 248) → M' o k = M o k) : fs_img M' := by
  obtain ⟨a, b⟩ := h
  refine ⟨by rw [he 0 13 (by omega), he 226 37 (by omega)]; exact a, fun q => ?_⟩
  rw [he 0 13 (by omega)] at q
  obtain ⟨c, d, e⟩ := b q
  exact ⟨c.cong h3 (fun o k q => he o k (by omega)), d.cong (fun o k q => he o k (by omega)), e.cong (fun o k q => he o k (by omega))⟩
theorem fs_trk.cong {M M' : fs_M} (h : fs_trk M) (he : ∀ o k, o = 1 ∨ (90 ≤ o ∧ o ≤ 94) ∨ (o = 226 ∧ (k = 68 ∨ k = 69)) ∨ (265 ≤ o ∧ o ≤ 267) → M' o k = M o k) : fs_trk M' := by
  unfold fs_trk at h ⊢
  rw [he 90 4 (by omega), he 90 5 (by omega), he 226 68 (by omega), he 226 69 (by omega), he 1 9 (by omega), he 1 5 (by omega)]
  obtain ⟨a, b, c, d, e, f, k⟩ := h
  refine ⟨a, b, c, d, e, f, fun i i0 i1 => ?_⟩
  rw [he 94 i (by omega), he 91 i (by omega), he 92 i (by omega), he 93 i (by omega), he 265 i (by omega), he 266 i (by omega), he 267 i (by omega)]
  exact k i i0 i1
theorem fs_tap.cong {M M' : fs_M} (h : fs_tap M) (he : ∀ o k, (o = 29 ∧ 1 ≤ k ∧ k ≤ 3) ∨ o = 30 ∨ o = 227 ∨ (o = 226 ∧ (k = 2 ∨ k = 25 ∨ k = 26)) → M' o k = M o k) : fs_tap M' := by
  unfold fs_tap at h ⊢
  rw [he 29 1 (by omega), he 29 2 (by omega), he 29 3 (by omega), he 226 2 (by omega), he 226 25 (by omega), he 226 26 (by omega)]
  obtain ⟨a, b, c, d, e, f⟩ := h
  refine ⟨a, b, c, fun i i0 i1 => ?_, e, f⟩
  rw [he 30 i (by omega), he 227 i (by omega)]
  exact d i i0 i1
theorem fs_own.cong {M M' : fs_M} (h : fs_own M) (he : fs_env M M') : fs_own M' := fun x x0 x1 => by
  rw [he 1 5 (by unfold fs_eC; omega)] at x1
  rw [he 233 x (by unfold fs_eC; omega), he 1 4 (by unfold fs_eC; omega)]
  exact h x x0 x1
theorem fs_nms.cong {M M' : fs_M} (h : fs_nms M) (he : fs_env M M') (h9 : M' 9 2 = M 9 2) : fs_nms M' := by
  obtain ⟨a, b, c⟩ := h
  refine ⟨fun x x0 x1 => ?_, fun x x0 x1 => ?_, by rw [h9, he 228 3 (by unfold fs_eC; omega)]; exact c.1, fun k k0 k1 => by rw [he 233 k (by unfold fs_eC; omega)]; exact c.2 k k0 k1⟩
  · rw [he 1 5 (by unfold fs_eC; omega)] at x1
    rw [he 2 x (by unfold fs_eC; omega), he 229 x (by unfold fs_eC; omega)]
    exact a x x0 x1
  · rw [he 1 9 (by unfold fs_eC; omega)] at x1
    rw [he 6 x (by unfold fs_eC; omega), he 234 x (by unfold fs_eC; omega)]
    exact b x x0 x1
/-- all but the book as it was -/
theorem fs_Rl.mix {M M' : fs_M} (h : fs_Rl M) (he : ∀ o k, fs_sup o k → M' o k = M o k) (hs : fs_bkS M' M') : fs_Rl M' := by
  obtain ⟨a, b, c, d, e, f, i, n, t, r, _⟩ := h
  have h3 := a.2.2.2.1
  have env : fs_env M M' := fun o k q => he o k (Or.inr (Or.inl q))
  have h9 : M' 9 2 = M 9 2 := he 9 2 (by unfold fs_sup; omega)
  have o1 : ∀ k, M' 1 k = M 1 k := fun k => env 1 k (by unfold fs_eC; omega)
  have s : ∀ o k, (o = 0 ∧ k = 13) ∨ o = 1 ∨ (o = 29 ∧ 1 ≤ k ∧ k ≤ 3) ∨ o = 30 ∨ (31 ≤ o ∧ o ≤ 36) ∨ (54 ≤ o ∧ o ≤ 56) ∨ (90 ≤ o ∧ o ≤ 95) ∨ (97 ≤ o ∧ o ≤ 225) ∨ (o = 226 ∧ (k = 2 ∨ k = 25 ∨ k = 26 ∨ k = 37 ∨ k = 38 ∨ k = 68 ∨ k = 69)) ∨ o = 227 ∨ (241 ≤ o ∧ o ≤ 248) ∨ (265 ≤ o ∧ o ≤ 267) → M' o k = M o k := fun o k q => he o k (by unfold fs_sup fs_eC; omega)
  exact ⟨env.bE a, env.rt b, c.cong env, d.cong env h9, e.cong h3 (fun o k q => s o k (by omega)), f.cong (fun o k q => s o k (by omega)), i.cong h3 (fun o k q => s o k (by omega)), n.cong (fun o k q => s o k (by omega)), t.cong (fun o k q => s o k (by omega)), r.cong (fun o k q => s o k (by omega)), hs⟩
theorem fs_bkS.next {M M' : fs_M} (h3 : M 1 9 ≤ 3) (h : fs_bkS M M) (he : ∀ o k, fs_eC o ∨ o = 31 ∨ fs_supB o k → M' o k = M o k) : fs_bkS M' M' := fun q => by
  rw [he 60 5 (by unfold fs_supB; omega)] at q
  have b := (h q).cong (M' := M') h3 (fun o k w => he o k (by unfold fs_supB; omega))
  exact b.env (fun o k w => he o k (Or.inl w)) (he 31 2 (by omega)) (he 31 3 (by omega))
theorem fs_Rl.same {M M' : fs_M} (h : fs_Rl M) (he : ∀ o k, fs_sup o k ∨ fs_supB o k → M' o k = M o k) : fs_Rl M' := by
  have e1 : ∀ o k, fs_eC o ∨ o = 31 ∨ fs_supB o k → M' o k = M o k := fun o k q => by
    rcases q with q | q | q
    · exact he o k (Or.inl (Or.inr (Or.inl q)))
    · exact he o k (Or.inl (by unfold fs_sup; omega))
    · exact he o k (Or.inr q)
  exact h.mix (fun o k q => he o k (Or.inl q)) (fs_bkS.next h.1.2.2.2.1 h.2.2.2.2.2.2.2.2.2.2 e1)
theorem fs_Rl.two {M M1 M2 : fs_M} {F1 F2 : Int → Int → Prop} (h : fs_Rl M) (o1 : fs_out F1 M M1) (o2 : fs_out F2 M1 M2) (n1 : ∀ o k, F1 o k → ¬ (fs_sup o k ∨ fs_supB o k)) (n2 : ∀ o k, F2 o k → ¬ (fs_sup o k ∨ fs_supB o k)) : fs_Rl M2 :=
  h.same (fun o k q => by rw [o2 o k (fun z => n2 o k z q), o1 o k (fun z => n1 o k z q)])
/-- the same, where the class's book may have been written -/
theorem fs_Rl.twoB {M M1 M2 : fs_M} {F2 : Int → Int → Prop} (h : fs_Rl M) (o1 : fs_out fs_FE M M1) (hs : fs_bkS M M1) (o2 : fs_out F2 M1 M2) (n2 : ∀ o k, F2 o k → ¬ (fs_sup o k ∨ fs_supB o k)) : fs_Rl M2 := by
  have e1 : ∀ o k, fs_sup o k → M1 o k = M o k := fun o k q => o1 o k (fun z => by
    have z2 : (fs_F5 o k ∨ (o = 60 ∧ (k = 2 ∨ k = 5 ∨ k = 8 ∨ k = 9)) ∨ (61 ≤ o ∧ o ≤ 70) ∨ (83 ≤ o ∧ o ≤ 89)) ∨ (72 ≤ o ∧ o ≤ 82) := z
    unfold fs_F5 fs_F2 at z2
    unfold fs_sup fs_eC at q
    omega)
  have e2 : ∀ o k, fs_sup o k → M2 o k = M o k := fun o k q => by rw [o2 o k (fun z => n2 o k z (Or.inl q)), e1 o k q]
  refine h.mix e2 (fun q => ?_)
  have q1 : M1 60 5 ≠ 0 := by
    rw [o2 60 5 (fun z => n2 60 5 z (Or.inr (by unfold fs_supB; omega)))] at q
    exact q
  have b := (hs q1).cong (M' := M2) h.1.2.2.2.1 (fun o k w => o2 o k (fun z => n2 o k z (Or.inr (by unfold fs_supB; omega))))
  exact b.env (fun o k w => e2 o k (Or.inr (Or.inl w))) (e2 31 2 (by unfold fs_sup; omega)) (e2 31 3 (by unfold fs_sup; omega))
-- a call of the class, then of the model: the answers are the same, and the relation holds again
def fs_KK (g : fs_G) (md : fs_D) (d : Nat) (args : List fs_V) : fs_K := fun v M1 => ∃ r, v = some (fs_i r) ∧ fs_C2 g md d args M1 (fun v2 M2 => v2 = some (fs_i r) ∧ fs_Rl M2)
theorem fs_n5 : ∀ o k, fs_F5 o k → ¬ (fs_sup o k ∨ fs_supB o k) := fun o k q => by unfold fs_F5 fs_F2 at q; unfold fs_sup fs_supB fs_eC; omega
theorem fs_nM : ∀ o k, fs_FM o k → ¬ (fs_sup o k ∨ fs_supB o k) := fun o k q => by unfold fs_FM fs_F9 fs_F6 fs_F8 fs_F4 at q; unfold fs_sup fs_supB fs_eC; omega
theorem fs_nX : ∀ o k, fs_FX o k → ¬ (fs_sup o k ∨ fs_supB o k) := fun o k q => by unfold fs_FX fs_F5 fs_F2 at q; unfold fs_sup fs_supB fs_eC; omega
theorem fs_nYt : ∀ o k, fs_FYt o k → ¬ (fs_sup o k ∨ fs_supB o k) := fun o k q => by unfold fs_FYt fs_FY fs_F9 fs_F6 fs_F8 fs_F4 at q; unfold fs_sup fs_supB fs_eC; omega
theorem fs_nR' : ∀ o k, fs_FR o k → ¬ (fs_sup o k ∨ fs_supB o k) := fun o k q => by unfold fs_FR fs_F5 fs_F2 fs_plc at q; unfold fs_sup fs_supB fs_eC; omega
theorem fs_nMb : ∀ o k, fs_FMb o k → ¬ (fs_sup o k ∨ fs_supB o k) := fun o k q => by unfold fs_FMb fs_FLB fs_F9 fs_F6 fs_F8 fs_F4 at q; unfold fs_sup fs_supB fs_eC; omega
theorem fs_nMt : ∀ o k, fs_FMt o k → ¬ (fs_sup o k ∨ fs_supB o k) := fun o k q => by unfold fs_FMt fs_F9 fs_F6 fs_F8 fs_F4 at q; unfold fs_sup fs_supB fs_eC; omega
theorem fs_nP : ∀ o k, fs_FP 57 o k → ¬ (fs_sup o k ∨ fs_supB o k) := fun o k q => by unfold fs_FP fs_F5 fs_F2 at q; unfold fs_sup fs_supB fs_eC; omega
theorem fs_sup_env2 {M M1 : fs_M} (he : ∀ o k, fs_sup o k → M1 o k = M o k) : fs_env2 M M1 := by
  intro o k q
  unfold fs_eC2 at q
  apply he o k
  unfold fs_sup
  unfold fs_eC at q ⊢
  omega
theorem fs_sup_envM {M M1 : fs_M} (he : ∀ o k, fs_sup o k → M1 o k = M o k) : fs_envM M M1 := by
  intro o k q
  unfold fs_mlc at q
  apply he o k
  unfold fs_sup
  unfold fs_eC at q ⊢
  omega
theorem fs_sup_envK {M M1 : fs_M} (he : ∀ o k, fs_sup o k → M1 o k = M o k) : fs_envK M M1 := fun o k q => he o k (by unfold fs_sup; omega)
theorem fs_sup_of {F : Int → Int → Prop} {M M1 : fs_M} (o1 : fs_out F M M1) (n1 : ∀ o k, F o k → ¬ (fs_sup o k ∨ fs_supB o k)) : ∀ o k, fs_sup o k → M1 o k = M o k := fun o k q => o1 o k (fun z => n1 o k z (Or.inl q))
theorem fs_sup_E {M M1 : fs_M} (o1 : fs_out fs_FE M M1) : ∀ o k, fs_sup o k → M1 o k = M o k := fun o k q => o1 o k (fun z => by
    have z2 : (fs_F5 o k ∨ (o = 60 ∧ (k = 2 ∨ k = 5 ∨ k = 8 ∨ k = 9)) ∨ (61 ≤ o ∧ o ≤ 70) ∨ (83 ≤ o ∧ o ≤ 89)) ∨ (72 ≤ o ∧ o ≤ 82) := z
    unfold fs_F5 fs_F2 at z2
    unfold fs_sup fs_eC at q
    omega)
section OPSA
variable {g : fs_G} {M : fs_M}
theorem op_done {a b : Int} (h : fs_Rl M) : fs_C2 g m_Fs_done 8 [fs_r 0, fs_i a, fs_i b] M (fs_KK g m_Mo_done 9 [fs_r 226, fs_i a, fs_i b]) :=
  oc_done h.1 h.2.2.2.2.1.2.2.2.2.2.1 (fun M1 o1 => ⟨_, rfl, om_done h.1 h.2.1 h.2.2.2.2.1.2.2.2.2.2.1 (fs_sup_env2 (fs_sup_of o1 fs_n5)) (fun M2 o2 => ⟨rfl, h.two o1 o2 fs_n5 fs_nM⟩)⟩)
theorem op_where {a b : Int} (h : fs_Rl M) : fs_C2 g m_Fs_where 8 [fs_r 0, fs_i a, fs_i b] M (fs_KK g m_Mo_where 9 [fs_r 226, fs_i a, fs_i b]) :=
  oc_where h.1 h.2.2.2.2.1.2.2.2.2.2.1 (fun M1 o1 => ⟨_, rfl, om_where h.1 h.2.1 h.2.2.2.2.1.2.2.2.2.2.1 (fs_sup_env2 (fs_sup_of o1 fs_n5)) (fun M2 o2 => ⟨rfl, h.two o1 o2 fs_n5 fs_nM⟩)⟩)
theorem op_gain (h : fs_Rl M) : fs_C2 g m_Fs_gain 8 [fs_r 0] M (fs_KK g m_Mo_gain 10 [fs_r 226]) :=
  oc_gain h.1 h.2.2.2.2.1.2.2.2.2.2.1 (fun M1 o1 => ⟨_, rfl, om_gain h.1 h.2.1 h.2.2.2.2.1.2.2.2.2.2.1 (fs_sup_env2 (fs_sup_of o1 fs_n5)) (fun M2 o2 => ⟨rfl, h.two o1 o2 fs_n5 fs_nM⟩)⟩)
theorem op_after {a b : Int} (h : fs_Rl M) : fs_C2 g m_Fs_after 8 [fs_r 0, fs_i a, fs_i b] M (fs_KK g m_Mo_after 9 [fs_r 226, fs_i a, fs_i b]) :=
  oc_after h.1 h.2.2.2.2.1.2.2.2.2.2.1 (fun M1 o1 => ⟨_, rfl, om_after h.1 h.2.1 h.2.2.2.2.1.2.2.2.2.2.1 (fs_sup_env2 (fs_sup_of o1 fs_n5)) (fun M2 o2 => ⟨rfl, h.two o1 o2 fs_n5 fs_nM⟩)⟩)
theorem op_which {a : Int} (h : fs_Rl M) : fs_C2 g m_Fs_which 8 [fs_r 0, fs_i a] M (fs_KK g m_Mo_which 9 [fs_r 226, fs_i a]) :=
  oc_which h.1 h.2.2.2.2.1.2.2.2.2.2.1 (fun M1 o1 => ⟨_, rfl, om_which h.1 h.2.1 h.2.2.2.2.1.2.2.2.2.2.1 (fs_sup_env2 (fs_sup_of o1 fs_n5)) (fun M2 o2 => ⟨rfl, h.two o1 o2 fs_n5 fs_nM⟩)⟩)
theorem op_chance {a b : Int} (h : fs_Rl M) : fs_C2 g m_Fs_chance 8 [fs_r 0, fs_i a, fs_i b] M (fs_KK g m_Mo_chance 9 [fs_r 226, fs_i a, fs_i b]) :=
  oc_chance h.1 h.2.2.2.2.1.2.2.2.2.2.1 (fun M1 o1 => ⟨_, rfl, om_chance h.1 h.2.1 h.2.2.2.2.1.2.2.2.2.2.1 (fs_sup_env2 (fs_sup_of o1 fs_nP)) (fun M2 o2 => ⟨rfl, h.two o1 o2 fs_nP fs_nM⟩)⟩)
theorem op_exchange {a : Int} (h : fs_Rl M) : fs_C2 g m_Fs_exchange 9 [fs_r 0, fs_i a] M (fs_KK g m_Mo_exchange 11 [fs_r 226, fs_i a]) :=
  oc_exchange h.1 h.2.2.2.2.1.2.2.2.2.2.1 h.2.2.2.2.2.1.1 (fun M1 o1 => ⟨_, rfl, om_exchange h.1 h.2.1 h.2.2.2.2.1.2.2.2.2.2.1 h.2.2.2.2.2.1.1 (fs_sup_envM (fs_sup_of o1 fs_nX)) (fun M2 o2 => ⟨rfl, h.two o1 o2 fs_nX fs_nYt⟩)⟩)
theorem op_refusal {a : Int} (h : fs_Rl M) : fs_C2 g m_Fs_refusal 8 [fs_r 0, fs_i a] M (fs_KK g m_Mo_refusal 9 [fs_r 226, fs_i a]) :=
  oc_refusal h.1 h.2.2.2.2.1.2.2.2.2.2.1 (fun M1 o1 => ⟨_, rfl, om_refusal h.1 h.2.1 h.2.2.2.2.1.2.2.2.2.2.1 (fs_sup_envM (fs_sup_of o1 fs_nR')) (fun M2 o2 => ⟨rfl, h.two o1 o2 fs_nR' fs_nM⟩)⟩)
theorem op_tried {a b : Int} (h : fs_Rl M) : fs_C2 g m_Fs_tried 8 [fs_r 0, fs_i a, fs_i b] M (fs_KK g m_Mo_tried 9 [fs_r 226, fs_i a, fs_i b]) :=
  oc_tried h.1 h.2.2.2.2.1.2.2.2.2.2.1 h.2.2.2.2.2.1.1 (fun no => ⟨_, rfl, om_tried h.1 h.2.1 h.2.2.2.2.1.2.2.2.2.2.1 (fun _ _ _ => rfl) (fun _ => ⟨rfl, h.two (fs_out.rf (F := fs_FM)) fs_out0 fs_nM fs_nM⟩) (fun y => absurd y no)⟩)
    (fun yes M1 o1 => ⟨_, rfl, om_tried h.1 h.2.1 h.2.2.2.2.1.2.2.2.2.2.1 (fs_sup_envM (fs_sup_of o1 fs_nR')) (fun n => absurd yes n) (fun _ M2 o2 => ⟨rfl, h.two o1 o2 fs_nR' fs_nM⟩)⟩)
theorem op_best {a : Int} (h : fs_Rl M) : fs_C2 g m_Fs_best 20 [fs_r 0, fs_i a] M (fs_KK g m_Mo_best 23 [fs_r 226, fs_i a]) :=
  oc_best h.1 h.2.2.2.2.1.2.2.2.2.2.1 h.2.2.2.2.2.2.2.2.2.2 (fun M1 o1 s1 => ⟨_, rfl, om_best h.1 h.2.1 h.2.2.2.2.1.2.2.2.2.2.1 (fs_sup_envM (fs_sup_E o1)) (fun M2 o2 => ⟨rfl, h.twoB o1 s1 o2 fs_nMb⟩)⟩)
theorem op_chosen {a b c : Int} (h : fs_Rl M) : fs_C2 g m_Fs_chosen 20 [fs_r 0, fs_i a, fs_i b, fs_i c] M (fs_KK g m_Mo_chosen 23 [fs_r 226, fs_i a, fs_i b, fs_i c]) :=
  oc_chosen h.1 h.2.2.2.2.1.2.2.2.2.2.1 h.2.2.2.2.2.2.2.2.2.2 (fun M1 o1 s1 => ⟨_, rfl, om_chosen h.1 h.2.1 h.2.2.2.2.1.2.2.2.2.2.1 (fs_sup_envM (fs_sup_E o1)) (fun M2 o2 => ⟨rfl, h.twoB o1 s1 o2 fs_nMb⟩)⟩)
theorem op_many (h : fs_Rl M) : fs_C2 g m_Fs_many 20 [fs_r 0] M (fs_KK g m_Mo_many 23 [fs_r 226]) :=
  oc_many h.1 h.2.2.2.2.1.2.2.2.2.2.1 h.2.2.2.2.2.2.2.2.2.2 (fun M1 o1 s1 => ⟨_, rfl, om_many h.1 h.2.1 h.2.2.2.2.1.2.2.2.2.2.1 (fs_sup_envM (fs_sup_E o1)) (fun M2 o2 => ⟨rfl, h.twoB o1 s1 o2 fs_nMb⟩)⟩)
theorem op_price {a : Int} (h : fs_Rl M) : fs_C2 g m_Fs_price 20 [fs_r 0, fs_i a] M (fs_KK g m_Mo_price 23 [fs_r 226, fs_i a]) :=
  oc_price h.1 h.2.2.2.2.1.2.2.2.2.2.1 h.2.2.2.2.2.2.2.2.2.2 (fun M1 o1 s1 => ⟨_, rfl, om_price h.1 h.2.1 h.2.2.2.2.1.2.2.2.2.2.1 (fs_sup_envM (fs_sup_E o1)) (fun M2 o2 => ⟨rfl, h.twoB o1 s1 o2 fs_nMb⟩)⟩)
theorem op_all {a : Int} (h : fs_Rl M) : fs_C2 g m_Fs_all 20 [fs_r 0, fs_i a] M (fs_KK g m_Mo_all 22 [fs_r 226, fs_i a]) :=
  oc_all h.1 h.2.2.2.2.1.2.2.2.2.2.1 h.2.2.2.2.2.2.2.2.2.2 (fun M1 o1 s1 => ⟨_, rfl, om_all h.1 h.2.1 h.2.2.2.2.1.2.2.2.2.2.1 (fs_sup_envM (fs_sup_E o1)) (fun M2 o2 => ⟨rfl, h.twoB o1 s1 o2 fs_nMb⟩)⟩)
theorem op_tales {a : Int} (h : fs_Rl M) : fs_C2 g m_Fs_tales 20 [fs_r 0, fs_i a] M (fs_KK g m_Mo_tales 22 [fs_r 226, fs_i a]) :=
  oc_tales h.1 h.2.2.2.2.1.2.2.2.2.2.1 h.2.2.2.2.2.2.2.2.2.2 h.2.2.2.2.2.2.2.2.1 (fun M1 o1 s1 => ⟨_, rfl, om_tales h.1 h.2.1 h.2.2.2.2.2.2.2.2.1 h.2.2.2.2.1.2.2.2.2.2.1 (fs_sup_envM (fs_sup_E o1)) (fs_sup_envK (fs_sup_E o1)) (fun M2 o2 => ⟨rfl, h.twoB o1 s1 o2 fs_nMt⟩)⟩)
theorem op_tale {a b c : Int} (h : fs_Rl M) : fs_C2 g m_Fs_tale 20 [fs_r 0, fs_i a, fs_i b, fs_i c] M (fs_KK g m_Mo_tale 22 [fs_r 226, fs_i a, fs_i b, fs_i c]) :=
  oc_tale h.1 h.2.2.2.2.1.2.2.2.2.2.1 h.2.2.2.2.2.2.2.2.2.2 h.2.2.2.2.2.2.2.2.1 (fun M1 o1 s1 => ⟨_, rfl, om_tale h.1 h.2.1 h.2.2.2.2.2.2.2.2.1 h.2.2.2.2.1.2.2.2.2.2.1 (fs_sup_envM (fs_sup_E o1)) (fs_sup_envK (fs_sup_E o1)) (fun M2 o2 => ⟨rfl, h.twoB o1 s1 o2 fs_nMt⟩)⟩)
end OPSA
