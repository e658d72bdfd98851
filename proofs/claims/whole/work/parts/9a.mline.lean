-- ===== the model reads lines =====
def fs_td (w : Int) (A : fs_M) : Prop := 0 ≤ w ∧ w < 32 ∧ (fs_and w 1 = 1 ↔ A 15 11 ≠ 0) ∧ ∀ k, 0 ≤ k → k < 4 → (fs_and (fs_shr w (1 + k)) 1 = 1 ↔ A 26 k < A 27 k)
/-- what the model has told so far, in the second halves of its rows -/
def fs_mr (M A : fs_M) : Prop := M 228 4 = A 15 5 ∧ M 228 5 = A 15 9 ∧ M 228 6 = A 15 10 ∧ (∀ h, 0 ≤ h → h < A 15 5 → M 229 (6 + h) = A 16 h ∧ M 230 (6 + h) = A 17 h ∧ M 231 (6 + h) = A 18 h ∧ M 232 (6 + h) = A 19 h ∧ (M 233 (6 + h) = 0 ↔ fs_bit (A 15 4) h = 0)) ∧
  (∀ d, 0 ≤ d → d < A 15 9 → M 234 (3 + d) = A 20 d ∧ M 235 (3 + d) = A 21 d ∧ M 236 (3 + d) = A 22 d) ∧ (∀ k, 0 ≤ k → k < 4 → M 237 (4 + k) = A 26 k ∧ M 238 (4 + k) = A 27 k) ∧ fs_td (M 226 16) A
def fs_FmW (o k : Int) : Prop := (o = 228 ∧ 4 ≤ k) ∨ (229 ≤ o ∧ o ≤ 233 ∧ 6 ≤ k) ∨ (234 ≤ o ∧ o ≤ 236 ∧ 3 ≤ k) ∨ (237 ≤ o ∧ o ≤ 238 ∧ 4 ≤ k)
def fs_FmL (o k : Int) : Prop := fs_FqM o k ∨ (o = 226 ∧ k = 16) ∨ fs_FmW o k
def fs_mL (M : fs_M) (T : Int → Int) (E : Int) (S : fs_qS) : Prop := fs_mS M T E 8 S.2 ∧ fs_mr M S.1
/-- the row of booleans holds 0 and 1 alone -/
def fs_b01 (M : fs_M) : Prop := ∀ k, 0 ≤ k → k < 12 → M 233 k = 0 ∨ M 233 k = 1
def fs_oB (M M' : fs_M) : Prop := fs_out fs_FmL M M' ∧ (fs_b01 M → fs_b01 M')
theorem fs_oB.rf {M : fs_M} : fs_oB M M := ⟨fs_out.rf, fun h => h⟩
theorem fs_oB.tr {M M1 M2 : fs_M} (h1 : fs_oB M M1) (h2 : fs_oB M1 M2) : fs_oB M M2 := ⟨h1.1.tr h2.1, fun h => h2.2 (h1.2 h)⟩
theorem fs_FmL_q {M M' : fs_M} (h : fs_out fs_FqM M M') : fs_oB M M' := ⟨h.wk (fun o k q => Or.inl q), fun b k k0 k1 => by
  rw [h 233 k (fun z => by unfold fs_FqM at z; omega)]
  exact b k k0 k1⟩
theorem fs_FmL_st {M M1 : fs_M} (h : fs_oB M M1) {o k v : Int} (ho : fs_FmW o k) (hv : o = 233 → v = 0 ∨ v = 1 := by omega) : fs_oB M (fs_st M1 o k v) := ⟨h.1.st (Or.inr (Or.inr ho)), fun b i i0 i1 => by
  have z := h.2 b i i0 i1
  by_cases c : 233 = o
  · by_cases d : i = k
    · rw [← c, d, fs_st_s]
      exact hv c.symm
    · rw [← c, fs_st_k d]
      exact z
  · rw [fs_st_o c]
    exact z⟩
theorem fs_oB.s16 {M : fs_M} {v : Int} : fs_oB M (fs_st M 226 16 v) := ⟨fs_out.rf.st (Or.inr (Or.inl ⟨rfl, rfl⟩)), fun b i i0 i1 => by
  rw [fs_st_o (by omega)]
  exact b i i0 i1⟩
theorem fs_mr.cg {M M' A : fs_M} (h : fs_mr M A) (he : ∀ o k, (o = 228 ∧ 4 ≤ k ∧ k ≤ 6) ∨ (229 ≤ o ∧ o ≤ 238) ∨ (o = 226 ∧ k = 16) → M' o k = M o k) : fs_mr M' A := by
  unfold fs_mr at h ⊢
  rw [he 228 4 (by omega), he 228 5 (by omega), he 228 6 (by omega), he 226 16 (by omega)]
  obtain ⟨a, b, c, d, e, f, i⟩ := h
  refine ⟨a, b, c, fun x x0 x1 => ?_, fun x x0 x1 => ?_, fun x x0 x1 => ?_, i⟩
  · rw [he 229 _ (by omega), he 230 _ (by omega), he 231 _ (by omega), he 232 _ (by omega), he 233 _ (by omega)]
    exact d x x0 x1
  · rw [he 234 _ (by omega), he 235 _ (by omega), he 236 _ (by omega)]
    exact e x x0 x1
  · rw [he 237 _ (by omega), he 238 _ (by omega)]
    exact f x x0 x1
theorem fs_mS.cg {M M' : fs_M} {T : Int → Int} {E : Int} {m : Nat} {s : fs_q3} (h : fs_mS M T E m s) (he : ∀ o k, (o = 226 ∧ 18 ≤ k) ∨ o = 227 ∨ (o = 228 ∧ k = 7) ∨ o = 239 ∨ o = 240 → M' o k = M o k) : fs_mS M' T E m s := by
  obtain ⟨ht, hm, p0, p1, hf, hc, c0, c1, hl, hle, hk, ho⟩ := h
  refine ⟨ht.cg (he 226 18 (by omega)) (he 226 24 (by omega)) (fun x => he 227 x (by omega)), hm.same (fun k k0 k1 => he 226 k (by omega)), p0, p1, by rw [he 226 23 (by omega)]; exact hf, by rw [he 226 28 (by omega)]; exact hc, c0, c1, by rw [he 228 7 (by omega)]; exact hl, hle, fun j q z => ?_, by rw [he 226 27 (by omega)]; exact ho⟩
  rw [he 239 _ (by omega), he 240 _ (by omega)]
  exact hk j q z
theorem fs_mL.step {M M' A : fs_M} {T : Int → Int} {E : Int} {s s' : fs_q3} (h : fs_mL M T E (A, s)) (o' : fs_out fs_FqM M M') (h' : fs_mS M' T E 8 s') : fs_mL M' T E (A, s') :=
  ⟨h', fs_mr.cg h.2 (fun o k q => o' o k (fun z => by unfold fs_FqM at z; omega))⟩
/-- what is put behind the last HOUSE, DARK one, doesn't count yet -/
theorem fs_mL.sth {M A : fs_M} {T : Int → Int} {E : Int} {s : fs_q3} {o k v : Int} (h : fs_mL M T E (A, s)) (o0 : 229 ≤ o) (o1 : o ≤ 233) (hk : k = 6 + A 15 5) : fs_mL (fs_st M o k v) T E (A, s) := by
  refine ⟨h.1.cg (fun a b q => fs_st_o (by omega)), ?_⟩
  obtain ⟨a, b, c, d, e, f, i⟩ := h.2
  show fs_mr (fs_st M o k v) A
  unfold fs_mr
  rw [fs_st_o (by omega), fs_st_o (by omega), fs_st_o (by omega), fs_st_o (by omega)]
  have st1 : ∀ a h, h < A 15 5 → fs_st M o k v a (6 + h) = M a (6 + h) := fun a h q => fs_st_k (by omega)
  refine ⟨a, b, c, fun x x0 x1 => ?_, fun x x0 x1 => ?_, fun x x0 x1 => ?_, i⟩
  · rw [st1 _ _ x1, st1 _ _ x1, st1 _ _ x1, st1 _ _ x1, st1 _ _ x1]
    exact d x x0 x1
  · rw [fs_st_o (by omega), fs_st_o (by omega), fs_st_o (by omega)]
    exact e x x0 x1
  · rw [fs_st_o (by omega), fs_st_o (by omega)]
    exact f x x0 x1
theorem fs_mL.std {M A : fs_M} {T : Int → Int} {E : Int} {s : fs_q3} {o k v : Int} (h : fs_mL M T E (A, s)) (o0 : 234 ≤ o) (o1 : o ≤ 236) (hk : k = 3 + A 15 9) : fs_mL (fs_st M o k v) T E (A, s) := by
  refine ⟨h.1.cg (fun a b q => fs_st_o (by omega)), ?_⟩
  obtain ⟨a, b, c, d, e, f, i⟩ := h.2
  show fs_mr (fs_st M o k v) A
  unfold fs_mr
  rw [fs_st_o (by omega), fs_st_o (by omega), fs_st_o (by omega), fs_st_o (by omega)]
  have st1 : ∀ a h, h < A 15 9 → fs_st M o k v a (3 + h) = M a (3 + h) := fun a h q => fs_st_k (by omega)
  refine ⟨a, b, c, fun x x0 x1 => ?_, fun x x0 x1 => ?_, fun x x0 x1 => ?_, i⟩
  · rw [fs_st_o (by omega), fs_st_o (by omega), fs_st_o (by omega), fs_st_o (by omega), fs_st_o (by omega)]
    exact d x x0 x1
  · rw [st1 _ _ x1, st1 _ _ x1, st1 _ _ x1]
    exact e x x0 x1
  · rw [fs_st_o (by omega), fs_st_o (by omega)]
    exact f x x0 x1
theorem fs_mw_key : ∀ j : Fin 37, ∀ w : Fin 10, (fs_ms ((1000 + j.val : Nat) : Int) = 0 ∧ fs_wno ((1000 + j.val : Nat) : Int) = (w.val : Int)) ↔ j.val = w.val := by decide +kernel
theorem fs_mw {t w : Int} (h : fs_tk t) (w0 : 0 ≤ w) (w1 : w < 10) : (fs_ms t = 0 ∧ fs_wno t = w) ↔ t = 1000 + w := by
  obtain ⟨a, b⟩ := h
  obtain ⟨n, hn⟩ : ∃ n : Nat, t = ((1000 + n : Nat) : Int) := ⟨(t - 1000).toNat, by omega⟩
  obtain ⟨m, hm⟩ : ∃ m : Nat, w = (m : Int) := ⟨w.toNat, by omega⟩
  have k := fs_mw_key ⟨n, by omega⟩ ⟨m, by omega⟩
  rw [hn, hm]
  have k' : (fs_ms ((1000 + n : Nat) : Int) = 0 ∧ fs_wno ((1000 + n : Nat) : Int) = (m : Int)) ↔ n = m := k
  refine k'.trans ⟨fun z => ?_, fun z => ?_⟩
  · rw [z]
    omega
  · clear k k'
    omega
section MLINE
variable {g : fs_G} {M A : fs_M} {T : Int → Int} {E : Int}
theorem fz {N : fs_M} {o k v : Int} (ho : o ≠ 226) (h : ¬ N 226 23 = 0) : ¬ fs_st N o k v 226 23 = 0 := by
  rw [fs_st_o (fun z => ho z.symm)]
  exact h
theorem fi_fresh {K : fs_K} {arr a b : Int} {n0 : Nat} (hi : fs_isA 0 n0 arr) (h : ¬ M 226 23 = 0) (k : K (some (fs_i 0)) M) : fs_C2 g m_Mo_fresh 7 [fs_r 226, fs_r arr, fs_i a, fs_i b] M K := E_Mo_fresh hi ⟨fun z => absurd z h, fun _ => k⟩
theorem fi_numeral {K : fs_K} {a b : Int} (h : ¬ M 226 23 = 0) (k : K (some (fs_i a)) M) : fs_C2 g m_Mo_numeral 7 [fs_r 226, fs_i a, fs_i b] M K := E_Mo_numeral ⟨fun z => absurd z h, fun _ => k⟩
theorem sp_foundAt {K : fs_K} {x0 f n x : Int} {n0 : Nat} (h0 : fs_isA 0 n0 x0) (f0 : 0 ≤ f) (f1 : f ≤ 100) (hn : 0 ≤ n) (h1 : f + n ≤ n0) (h2 : n ≤ 100) (hK : K (some (fs_i (fs_ix (fun j => M x0 (f + j)) x n.toNat 0))) M) : fs_C2 g m_Mo_found 1 [fs_r x0, fs_i f, fs_i n, fs_i x] M K := by
  have lp : ∀ (k : Nat) (i : Int), 0 ≤ i → n - i = k → K (some (fs_i (fs_ix (fun j => M x0 (f + j)) x k i))) M → fs_A2 g m_Mo_found 1 3 [(0, fs_r x0), (1, fs_i f), (2, fs_i n), (3, fs_i x), (4, fs_i i)] [] M K := by
    intro k
    induction k with
    | zero =>
      intro i i0 e hk
      exact L_Mo_found_3 h0 ⟨fun _ => hk, fun z => absurd z (by omega)⟩
    | succ k ih =>
      intro i i0 e hk
      refine L_Mo_found_3 h0 ⟨fun z => absurd z (by omega), fun _ => ?_⟩
      rw [fs_w32_of (x := f + i) (by omega) (by omega)]
      refine ⟨by omega, by omega, fun z => ?_, fun z => ?_⟩
      · rw [fs_w32_of (x := i + 1) (by omega) (by omega)]
        refine ih (i + 1) (by omega) (by omega) ?_
        have e2 : fs_ix (fun j => M x0 (f + j)) x (k + 1) i = fs_ix (fun j => M x0 (f + j)) x k (i + 1) := if_neg z
        rw [e2] at hk
        exact hk
      · have e2 : fs_ix (fun j => M x0 (f + j)) x (k + 1) i = i := if_pos z
        rw [e2] at hk
        exact hk
  exact E_Mo_found h0 (lp n.toNat 0 (by omega) (by omega) hK)
theorem sp_freshM {K : fs_K} {s : fs_q3} {arr f cnt arrC : Int} {n0 : Nat} (hi : fs_isA 0 n0 arr) (h : fs_mL M T E (A, s)) (f0 : 0 ≤ f) (f1 : f ≤ 100) (c0 : 0 ≤ cnt) (c1 : f + cnt ≤ n0) (c2 : cnt ≤ 100) (ha : ∀ j, 0 ≤ j → j < cnt → M arr (f + j) = A arrC j)
    (ok : ∀ M' q, fs_qNam T E A arrC cnt s = .inr q → fs_out fs_FqM M M' → fs_mL M' T E (A, q.2) → K (some (fs_i q.1)) M') (no : ∀ M' e, fs_qNam T E A arrC cnt s = .inl e → fs_out fs_FqM M M' → M' 226 23 = e.1 → M' 226 24 = e.2 → e.1 ≠ 0 → K (some (fs_i 0)) M') : fs_C2 g m_Mo_fresh 7 [fs_r 226, fs_r arr, fs_i f, fs_i cnt] M K := by
  have hs : fs_mS M T E 8 s := h.1
  obtain ⟨h20, _, e21, e22, _, _, _⟩ := hs.2.1
  have hf := hs.2.2.2.2.1
  have m1 := (fs_mt2 hs.tk).2.2.2.2.1
  refine E_Mo_fresh hi ⟨fun _ => ?_, fun z => absurd hf z⟩
  rw [e21]
  have bad : ∀ M' e, fs_qNam T E A arrC cnt s = .inl e → fs_out (fun o k => o = 226 ∧ (k = 23 ∨ k = 24)) M M' → M' 226 23 = e.1 → M' 226 24 = e.2 → e.1 ≠ 0 → fs_A2 g m_Mo_fresh 7 44 [(0, fs_r 226)] [] M' K := fun M' e y o' e1 e2 e3 => L_Mo_fresh_44 ⟨fun z => absurd (e1.symm.trans z) e3, fun _ => no M' e y (fs_FqM_w o') e1 e2 e3⟩
  refine ⟨fun z => ?_, fun z => sp_wrongM hf h20 (fun M' o' e1 e2 => ⟨rfl, bad M' (1, s.1) (if_neg (fun y => z (m1.mpr y))) o' e1 e2 fs_n1z⟩)⟩
  have t34 := m1.mp z
  have v22 := e22 t34
  refine sp_foundAt hi f0 f1 c0 c1 c2 ⟨_, rfl, ?_⟩
  rw [v22, fs_ix_cong (f' := A arrC) cnt.toNat 0 (fun j j0 j1 => ha j j0 (by omega))]
  refine ⟨fun y => L_Mo_fresh_44 ⟨fun _ => sp_tokS hs (fun M' o' h' => ⟨rfl, ?_⟩), fun w => absurd hf w⟩, fun y => sp_wrongM hf h20 (fun M' o' e1 e2 => ⟨rfl, bad M' (3, s.1) ?_ o' e1 e2 fs_n3z⟩)⟩
  · rw [v22]
    refine ok M' (fs_lxl T E s.1, fs_qA T E s) ?_ o' (h.step o' h')
    unfold fs_qNam
    rw [if_pos t34, if_pos y]
  · unfold fs_qNam
    rw [if_pos t34, if_neg y]
theorem sp_numeM {K : fs_K} {s : fs_q3} {lo hi : Int} (h : fs_mL M T E (A, s)) (l0 : lo ≤ 1) (h1 : hi ≤ 99999) (ok : ∀ M' q, fs_qNum T E lo hi s = .inr q → fs_out fs_FqM M M' → fs_mL M' T E (A, q.2) → K (some (fs_i q.1)) M') (no : ∀ M' e, fs_qNum T E lo hi s = .inl e → fs_out fs_FqM M M' → M' 226 23 = e.1 → M' 226 24 = e.2 → e.1 ≠ 0 → K (some (fs_i lo)) M') : fs_C2 g m_Mo_numeral 7 [fs_r 226, fs_i lo, fs_i hi] M K := by
  have hs : fs_mS M T E 8 s := h.1
  obtain ⟨h20, _, e21, _, e22, _, _⟩ := hs.2.1
  have hf := hs.2.2.2.2.1
  have m2 := (fs_mt hs.tk).2.2.2.2.2.2.2.2.2.1
  refine E_Mo_numeral ⟨fun _ => ?_, fun z => absurd hf z⟩
  rw [e21]
  have bad : ∀ M' e, fs_qNum T E lo hi s = .inl e → fs_out (fun o k => o = 226 ∧ (k = 23 ∨ k = 24)) M M' → M' 226 23 = e.1 → M' 226 24 = e.2 → e.1 ≠ 0 → fs_A2 g m_Mo_numeral 7 46 [(0, fs_r 226), (1, fs_i lo)] [] M' K := fun M' e y o' e1 e2 e3 => L_Mo_numeral_46 ⟨fun z => absurd (e1.symm.trans z) e3, fun _ => no M' e y (fs_FqM_w o') e1 e2 e3⟩
  refine ⟨fun z => ?_, fun z => sp_wrongM hf h20 (fun M' o' e1 e2 => ⟨rfl, bad M' (1, s.1) (if_neg (fun y => z (m2.mpr y))) o' e1 e2 fs_n1z⟩)⟩
  have t17 := m2.mp z
  have vn := e22 t17
  refine ⟨fun y => sp_wrongM hf h20 (fun M' o' e1 e2 => ⟨rfl, bad M' (2, s.1) ?_ o' e1 e2 fs_n2z⟩), fun y => ⟨fun w => L_Mo_numeral_46 ⟨fun _ => sp_tokS hs (fun M' o' h' => ⟨rfl, ?_⟩), fun w => absurd hf w⟩, fun w => sp_wrongM hf h20 (fun M' o' e1 e2 => ⟨rfl, bad M' (2, s.1) ?_ o' e1 e2 fs_n2z⟩)⟩⟩
  · unfold fs_qNum
    rw [if_pos t17, if_pos (by omega)]
  · have v22 : M 226 22 = fs_lxn T E s.1 := by omega
    rw [v22]
    refine ok M' (fs_lxn T E s.1, fs_qA T E s) ?_ o' (h.step o' h')
    unfold fs_qNum
    rw [if_pos t17, if_neg (by omega), if_pos (by omega)]
  · unfold fs_qNum
    rw [if_pos t17, if_neg (by omega), if_neg (by omega)]
-- a HOUSE
theorem fi_house82 {K : fs_K} {N : fs_M} {x : Int} (x0 : 0 ≤ x) (x1 : x < 12) (x6 : 6 ≤ x) (h : ¬ N 226 23 = 0) (k : ∀ M', fs_oB N M' → (∀ a, M' 226 a = N 226 a) → K none M') : fs_A2 g m_Mo_houseLine 8 82 [(0, fs_r 226), (1, fs_i x)] [] N K :=
  L_Mo_houseLine_82 (fi_isWord h ⟨0, rfl, x0, x1, Or.inl rfl, fun _ => L_Mo_houseLine_106 (k _ (fs_FmL_st (fs_FmL_st fs_oB.rf (by unfold fs_FmW; omega)) (by unfold fs_FmW; omega)) (fun a => by rw [fs_st_o (by omega), fs_st_o (by omega)])), fun z => absurd rfl z⟩)
theorem sp_own82 {K : fs_K} {s : fs_q3} {x : Int} {B : fs_M} (h : fs_mL M T E (A, s)) (hx : A 15 5 = x) (x0 : 0 ≤ x) (x6 : x < 6) (hb : ∀ h, x ≤ h → h < 6 → fs_bit (A 15 4) h = 0)
    (hB : ∀ o k, ¬ (16 ≤ o ∧ o ≤ 19 ∧ k = x) → B o k = A o k) (b16 : B 16 x = M 229 (6 + x)) (b17 : B 17 x = M 230 (6 + x)) (b18 : B 18 x = M 231 (6 + x)) (b19 : B 19 x = M 232 (6 + x))
    (ok : ∀ M', fs_oB M M' → fs_mL M' T E (fs_qOwn T E x B s) → K none M') : fs_A2 g m_Mo_houseLine 8 82 [(0, fs_r 226), (1, fs_i (6 + x))] [] M K := by
  have hs : fs_mS M T E 8 s := h.1
  have hm : fs_mr M A := h.2
  have hf := hs.2.2.2.2.1
  obtain ⟨o1, o2, o3⟩ := fs_qOwn_v (T := T) (E := E) (h := x) (B := B) (s := s)
  obtain ⟨S', hS⟩ : ∃ S', fs_qOwn T E x B s = S' := ⟨_, rfl⟩
  rw [hS] at ok o1 o2 o3
  have B4 : B 15 4 = A 15 4 := hB 15 4 (by omega)
  -- the end of it
  have fin : ∀ (N : fs_M) (r : Int), fs_oB M N → fs_mS N T E 8 S'.2 → fs_mr N A → (∀ o, 229 ≤ o → o ≤ 232 → N o (6 + x) = M o (6 + x)) → N 233 (6 + x) = r → (r = 0 ↔ fs_bit (S'.1 15 4) x = 0) → (∀ h, 0 ≤ h → h < x → fs_bit (S'.1 15 4) h = fs_bit (A 15 4) h) → fs_A2 g m_Mo_houseLine 8 106 [(0, fs_r 226)] [] N K := by
    intro N r oN hN mN vN vr rb rl
    obtain ⟨m1, m2, m3, m4, m5, m6, m7⟩ := mN
    refine L_Mo_houseLine_106 ?_
    rw [m1, hx, fs_w32_of (x := x + 1) (by omega) (by omega)]
    refine ok _ (fs_FmL_st oN (by unfold fs_FmW; omega)) ⟨hN.cg (fun a b q => ?_), ?_⟩
    · by_cases c : a = 228
      · rw [c, fs_st_k (by omega)]
      · exact fs_st_o c
    · have oth : ∀ o k, ¬ (o = 15 ∧ (k = 4 ∨ k = 5)) → ¬ (16 ≤ o ∧ o ≤ 19 ∧ k = x) → S'.1 o k = A o k := fun o k a b => by rw [o2 o k a, hB o k b]
      unfold fs_mr fs_td
      rw [fs_st_s, fs_st_k (by omega), fs_st_k (by omega), fs_st_o (by omega), o1, oth 15 9 (by omega) (by omega), oth 15 10 (by omega) (by omega), oth 15 11 (by omega) (by omega)]
      refine ⟨rfl, m2, m3, fun h a b => ?_, fun d a b => ?_, fun k a b => ?_, m7.1, m7.2.1, m7.2.2.1, fun k a b => ?_⟩
      · rw [fs_st_o (by omega), fs_st_o (by omega), fs_st_o (by omega), fs_st_o (by omega), fs_st_o (by omega)]
        by_cases c : h = x
        · rw [c, vN 229 (by omega) (by omega), vN 230 (by omega) (by omega), vN 231 (by omega) (by omega), vN 232 (by omega) (by omega), vr, o2 16 x (by omega), o2 17 x (by omega), o2 18 x (by omega), o2 19 x (by omega)]
          exact ⟨b16.symm, b17.symm, b18.symm, b19.symm, rb⟩
        · rw [oth 16 h (by omega) (by omega), oth 17 h (by omega) (by omega), oth 18 h (by omega) (by omega), oth 19 h (by omega) (by omega), rl h a (by omega)]
          exact m4 h a (by omega)
      · rw [fs_st_o (by omega), fs_st_o (by omega), fs_st_o (by omega), oth 20 d (by omega) (by omega), oth 21 d (by omega) (by omega), oth 22 d (by omega) (by omega)]
        exact m5 d a b
      · rw [fs_st_o (by omega), fs_st_o (by omega), oth 26 k (by omega) (by omega), oth 27 k (by omega) (by omega)]
        exact m6 k a b
      · rw [oth 26 k (by omega) (by omega), oth 27 k (by omega) (by omega)]
        exact m7.2.2.2 k a b
  have hF : fs_FmW 233 (6 + x) := by
    unfold fs_FmW
    omega
  refine L_Mo_houseLine_82 (sp_isWordM hf hs.2.1 (fun y => ⟨1, rfl, by omega, by omega, Or.inr rfl, fun z => absurd z (by decide), fun _ => ?_⟩) (fun y => ⟨0, rfl, by omega, by omega, Or.inl rfl, fun _ => ?_, fun z => absurd rfl z⟩))
  · have t5 := (fs_mw hs.tk (w := 5) (by omega) (by omega)).mp y
    rcases o3 with ⟨_, w1, w2⟩ | ⟨w0, _⟩
    · have h' := h.sth (v := 1) (o := 233) (k := 6 + x) (by omega) (by omega) (by omega)
      refine sp_tokS h'.1 (fun M9 o9 h9 => ⟨rfl, ?_⟩)
      have p9 : ∀ o k, ¬ fs_FqM o k → M9 o k = fs_st M 233 (6 + x) 1 o k := o9
      refine fin M9 1 ((fs_FmL_st fs_oB.rf hF).tr (fs_FmL_q o9)) (by rw [w2]; exact h9) (h'.step o9 h9).2 (fun o a b => ?_) ?_ ?_ (fun i a b => ?_)
      · rw [p9 o _ (by unfold fs_FqM; omega), fs_st_o (by omega)]
      · rw [p9 233 _ (by unfold fs_FqM; omega), fs_st_s]
      · rw [w1, B4, fs_bit_or1 x0 x6 x0 x6, if_pos rfl]
      · rw [w1, B4, fs_bit_or1 x0 x6 a (by omega), if_neg (by omega)]
    · exact absurd t5 w0
  · have t5 : fs_lxt T E s.1 ≠ 1005 := fun z => y ((fs_mw hs.tk (w := 5) (by omega) (by omega)).mpr z)
    rcases o3 with ⟨w0, _⟩ | ⟨_, w1, w2⟩
    · exact absurd w0 t5
    · have h' := h.sth (v := 0) (o := 233) (k := 6 + x) (by omega) (by omega) (by omega)
      refine fin _ 0 (fs_FmL_st fs_oB.rf hF) (by rw [w2]; exact h'.1) h'.2 (fun o a b => fs_st_o (by omega)) fs_st_s ?_ (fun i a b => ?_)
      · rw [w1, B4]
        exact ⟨fun _ => hb x (by omega) x6, fun _ => rfl⟩
      · rw [w1, B4]
end MLINE
