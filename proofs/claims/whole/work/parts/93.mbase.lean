-- ===== the model's reading: single steps =====
def fs_FqM (o k : Int) : Prop := (o = 226 ∧ ((19 ≤ k ∧ k ≤ 24) ∨ k = 27 ∨ k = 28)) ∨ (o = 228 ∧ k = 7) ∨ (o = 239 ∧ 64 ≤ k) ∨ (o = 240 ∧ 64 ≤ k)
def fs_tp (M : fs_M) (T : Int → Int) (E : Int) : Prop := (M 226 18 = E ∧ M 226 24 = -1) ∧ E ≤ 600 ∧ ∀ x, 0 ≤ x → x < E → M 227 x = T x ∧ 0 ≤ T x ∧ T x ≤ 255
def fs_mS (M : fs_M) (T : Int → Int) (E : Int) (m : Nat) (s : fs_q3) : Prop := fs_tp M T E ∧ fs_tM M T E s.1 ∧ 0 ≤ s.1 ∧ s.1 ≤ E ∧ M 226 23 = 0 ∧ M 226 28 = s.2.1 ∧ 0 ≤ s.2.1 ∧ s.2.1 ≤ 64 ∧ M 228 7 = (s.2.2.length : Int) ∧ (s.2.2.length : Int) ≤ s.2.1 ∧ (∀ (j : Nat) (q : Int × Int), s.2.2[j]? = some q → M 239 (64 + j) = fs_srt q.1 ∧ M 240 (64 + j) = fs_val q.1 q.2) ∧ M 226 27 = 8 - (m : Int)
theorem fs_tp.cg {M M' : fs_M} {T : Int → Int} {E : Int} (h : fs_tp M T E) (h18 : M' 226 18 = M 226 18) (h24 : M' 226 24 = M 226 24) (h227 : ∀ x, M' 227 x = M 227 x) : fs_tp M' T E := by
  obtain ⟨a, b, c⟩ := h
  exact ⟨⟨by rw [h18]; exact a.1, by rw [h24]; exact a.2⟩, b, fun x x0 x1 => by rw [h227]; exact c x x0 x1⟩
theorem fs_tM.same {M M' : fs_M} {T : Int → Int} {E p : Int} (h : fs_tM M T E p) (he : ∀ k, 19 ≤ k → k ≤ 22 → M' 226 k = M 226 k) : fs_tM M' T E p := by
  unfold fs_tM at h ⊢
  rw [he 20 (by omega) (by omega), he 19 (by omega) (by omega), he 21 (by omega) (by omega), he 22 (by omega) (by omega)]
  exact h
theorem fs_mt_key : ∀ j : Fin 37, ((fs_ms ((1000 + j.val : Nat) : Int) = 0 ∧ fs_wno ((1000 + j.val : Nat) : Int) = 10) ↔ fs_lev ((1000 + j.val : Nat) : Int) = 1) ∧ ((fs_ms ((1000 + j.val : Nat) : Int) = 0 ∧ fs_wno ((1000 + j.val : Nat) : Int) = 11) ↔ fs_lev ((1000 + j.val : Nat) : Int) = 2) ∧ ((fs_ms ((1000 + j.val : Nat) : Int) = 0 ∧ fs_wno ((1000 + j.val : Nat) : Int) = 12) ↔ ((1000 + j.val : Nat) : Int) = 1020) ∧
    ((fs_ms ((1000 + j.val : Nat) : Int) = 3 ∧ (fs_msv ((1000 + j.val : Nat) : Int) = 60 ∨ fs_msv ((1000 + j.val : Nat) : Int) = 62 ∨ fs_msv ((1000 + j.val : Nat) : Int) = 61 ∨ 256 ≤ fs_msv ((1000 + j.val : Nat) : Int))) ↔ fs_lev ((1000 + j.val : Nat) : Int) = 3) ∧
    ((fs_ms ((1000 + j.val : Nat) : Int) = 3 ∧ (fs_msv ((1000 + j.val : Nat) : Int) = 43 ∨ fs_msv ((1000 + j.val : Nat) : Int) = 45)) ↔ fs_lev ((1000 + j.val : Nat) : Int) = 4) ∧ ((fs_ms ((1000 + j.val : Nat) : Int) = 3 ∧ (fs_msv ((1000 + j.val : Nat) : Int) = 42 ∨ fs_msv ((1000 + j.val : Nat) : Int) = 47)) ↔ fs_lev ((1000 + j.val : Nat) : Int) = 5) ∧
    ((fs_ms ((1000 + j.val : Nat) : Int) = 3 ∧ fs_msv ((1000 + j.val : Nat) : Int) = 40) ↔ ((1000 + j.val : Nat) : Int) = 1031) ∧ ((fs_ms ((1000 + j.val : Nat) : Int) = 3 ∧ fs_msv ((1000 + j.val : Nat) : Int) = 41) ↔ ((1000 + j.val : Nat) : Int) = 1032) ∧ ((fs_ms ((1000 + j.val : Nat) : Int) = 3 ∧ fs_msv ((1000 + j.val : Nat) : Int) = 59) ↔ ((1000 + j.val : Nat) : Int) = 1033) ∧
    (fs_ms ((1000 + j.val : Nat) : Int) = 2 ↔ ((1000 + j.val : Nat) : Int) = 1017) ∧ ((fs_ms ((1000 + j.val : Nat) : Int) = 0 ∧ 13 ≤ fs_wno ((1000 + j.val : Nat) : Int)) ↔ (fs_lev ((1000 + j.val : Nat) : Int) = 6 ∧ ((1000 + j.val : Nat) : Int) ≠ 1017)) := by decide +kernel
theorem fs_mt_key2 : ∀ j : Fin 37, (3 ≤ fs_lev ((1000 + j.val : Nat) : Int) → fs_lev ((1000 + j.val : Nat) : Int) ≤ 5 → fs_msv ((1000 + j.val : Nat) : Int) = fs_val ((1000 + j.val : Nat) : Int) 0) ∧ (fs_lev ((1000 + j.val : Nat) : Int) = 1 → fs_val ((1000 + j.val : Nat) : Int) 0 = 262) ∧ (fs_lev ((1000 + j.val : Nat) : Int) = 2 → fs_val ((1000 + j.val : Nat) : Int) 0 = 261) ∧ (fs_lev ((1000 + j.val : Nat) : Int) = 6 → ((1000 + j.val : Nat) : Int) ≠ 1017 → fs_srt ((1000 + j.val : Nat) : Int) = 1 ∧ fs_val ((1000 + j.val : Nat) : Int) 0 = fs_wno ((1000 + j.val : Nat) : Int) - 13 ∧ fs_wno ((1000 + j.val : Nat) : Int) ≤ 19) ∧ (fs_ms ((1000 + j.val : Nat) : Int) = 1 ↔ ((1000 + j.val : Nat) : Int) = 1034) ∧ (fs_ms ((1000 + j.val : Nat) : Int) = 4 ↔ ((1000 + j.val : Nat) : Int) = 1035) ∧ fs_lev 1017 = 6 := by decide +kernel
theorem fs_mt {t : Int} (h : fs_tk t) : ((fs_ms t = 0 ∧ fs_wno t = 10) ↔ fs_lev t = 1) ∧ ((fs_ms t = 0 ∧ fs_wno t = 11) ↔ fs_lev t = 2) ∧ ((fs_ms t = 0 ∧ fs_wno t = 12) ↔ t = 1020) ∧ ((fs_ms t = 3 ∧ (fs_msv t = 60 ∨ fs_msv t = 62 ∨ fs_msv t = 61 ∨ 256 ≤ fs_msv t)) ↔ fs_lev t = 3) ∧ ((fs_ms t = 3 ∧ (fs_msv t = 43 ∨ fs_msv t = 45)) ↔ fs_lev t = 4) ∧ ((fs_ms t = 3 ∧ (fs_msv t = 42 ∨ fs_msv t = 47)) ↔ fs_lev t = 5) ∧
    ((fs_ms t = 3 ∧ fs_msv t = 40) ↔ t = 1031) ∧ ((fs_ms t = 3 ∧ fs_msv t = 41) ↔ t = 1032) ∧ ((fs_ms t = 3 ∧ fs_msv t = 59) ↔ t = 1033) ∧ (fs_ms t = 2 ↔ t = 1017) ∧ ((fs_ms t = 0 ∧ 13 ≤ fs_wno t) ↔ (fs_lev t = 6 ∧ t ≠ 1017)) := by
  obtain ⟨a, b⟩ := h
  obtain ⟨n, hn⟩ : ∃ n : Nat, t = ((1000 + n : Nat) : Int) := ⟨(t - 1000).toNat, by omega⟩
  rw [hn]
  exact fs_mt_key ⟨n, by omega⟩
theorem fs_mt2 {t : Int} (h : fs_tk t) : (3 ≤ fs_lev t → fs_lev t ≤ 5 → fs_msv t = fs_val t 0) ∧ (fs_lev t = 1 → fs_val t 0 = 262) ∧ (fs_lev t = 2 → fs_val t 0 = 261) ∧ (fs_lev t = 6 → t ≠ 1017 → fs_srt t = 1 ∧ fs_val t 0 = fs_wno t - 13 ∧ fs_wno t ≤ 19) ∧ (fs_ms t = 1 ↔ t = 1034) ∧ (fs_ms t = 4 ↔ t = 1035) ∧ fs_lev 1017 = 6 := by
  obtain ⟨a, b⟩ := h
  obtain ⟨n, hn⟩ : ∃ n : Nat, t = ((1000 + n : Nat) : Int) := ⟨(t - 1000).toNat, by omega⟩
  rw [hn]
  exact fs_mt_key2 ⟨n, by omega⟩
section MBASE
variable {g : fs_G} {M : fs_M} {T : Int → Int} {E : Int}
theorem sp_tokM {K : fs_K} {p : Int} (ht : fs_tp M T E) (h : fs_tM M T E p) (p0 : 0 ≤ p) (p1 : p ≤ E) (hK : ∀ M', fs_out (fun o k => o = 226 ∧ 19 ≤ k ∧ k ≤ 22) M M' → fs_tM M' T E (fs_qn T E p) → K none M') : fs_C2 g m_Mo_token 6 [fs_r 226] M K := by
  obtain ⟨⟨h18, _⟩, E1, hx⟩ := ht
  obtain ⟨_, _, qa, qb, _⟩ := fs_lx_all (T := T) p1
  have ag : ∀ i, 0 ≤ i → i < E → M 227 i = T i := fun i i0 i1 => (hx i i0 i1).1
  refine sp_tokenM h18 h.2.1 (by omega) qb E1 (fun x x0 x1 => ?_) (fun M' o' t' => hK M' o' ?_)
  · rw [ag x x0 x1]
    exact (hx x x0 x1).2
  · have e : fs_lxp (M 227) E (fs_lxq T E p) = fs_qn T E p := fs_lxp_cg ag (by omega)
    rw [e] at t'
    have nb := fs_qn_b (T := T) p1
    exact t'.cg ag (by omega)
theorem sp_tokS {K : fs_K} {m : Nat} {s : fs_q3} (h : fs_mS M T E m s) (hK : ∀ M', fs_out fs_FqM M M' → fs_mS M' T E m (fs_qA T E s) → K none M') : fs_C2 g m_Mo_token 6 [fs_r 226] M K := by
  obtain ⟨ht, hm, p0, p1, hf, hc, c0, c1, hl, hle, hk, ho⟩ := h
  refine sp_tokM ht hm p0 p1 (fun M' o' t' => ?_)
  have p' : ∀ o k, ¬ (o = 226 ∧ 19 ≤ k ∧ k ≤ 22) → M' o k = M o k := o'
  have nb := fs_qn_b (T := T) p1
  refine hK M' (o'.wk (fun o k q => ?_)) ⟨ht.cg (p' 226 18 (by omega)) (p' 226 24 (by omega)) (fun x => p' 227 x (by omega)), t', ?_, nb.2.1, ?_, ?_, c0, c1, ?_, hle, fun j q z => ?_, ?_⟩
  · have q2 : o = 226 ∧ 19 ≤ k ∧ k ≤ 22 := q
    unfold fs_FqM
    omega
  · show 0 ≤ fs_qn T E s.1
    omega
  · rw [p' 226 23 (by omega)]
    exact hf
  · rw [p' 226 28 (by omega)]
    exact hc
  · rw [p' 228 7 (by omega)]
    exact hl
  · rw [p' 239 _ (by omega), p' 240 _ (by omega)]
    exact hk j q z
  · rw [p' 226 27 (by omega)]
    exact ho
theorem sp_wrongM {K : fs_K} {kind p : Int} (hf : M 226 23 = 0) (h20 : M 226 20 = p) (hK : ∀ M', fs_out (fun o k => o = 226 ∧ (k = 23 ∨ k = 24)) M M' → M' 226 23 = kind → M' 226 24 = p → K none M') : fs_C2 g m_Mo_wrong 1 [fs_r 226, fs_i kind] M K := by
  refine E_Mo_wrong ⟨fun _ => hK _ ((fs_out.rf.st ⟨rfl, Or.inl rfl⟩).st ⟨rfl, Or.inr rfl⟩) ?_ ?_, fun z => absurd hf z⟩
  · rw [fs_st_k (by omega)]
    exact fs_st_s
  · rw [fs_st_s]
    exact h20
theorem fs_FqM_w {M M' : fs_M} (h : fs_out (fun o k => o = 226 ∧ (k = 23 ∨ k = 24)) M M') : fs_out fs_FqM M M' := h.wk (fun o k q => by
  have q2 : o = 226 ∧ (k = 23 ∨ k = 24) := q
  unfold fs_FqM
  omega)
theorem sp_knotM {K : fs_K} {m : Nat} {s : fs_q3} (h : fs_mS M T E m s) (ok : s.2.1 < 64 → ∀ M', fs_out fs_FqM M M' → fs_mS M' T E m (s.1, s.2.1 + 1, s.2.2) → K none M') (no : ¬ s.2.1 < 64 → ∀ M', fs_out fs_FqM M M' → M' 226 23 = 2 → M' 226 24 = s.1 → K none M') : fs_C2 g m_Mo_knot 2 [fs_r 226] M K := by
  obtain ⟨ht, hm, p0, p1, hf, hc, c0, c1, hl, hle, hk, ho⟩ := h
  refine E_Mo_knot ?_
  rw [hc, fs_w32_of (x := s.2.1 + 1) (by omega) (by omega)]
  refine ⟨fun _ => ⟨fun z => ?_, fun z => sp_wrongM hf hm.1 (fun M' o' e1 e2 => ⟨rfl, no (by omega) M' (fs_FqM_w o') e1 e2⟩)⟩, fun z => absurd hf z⟩
  have hF : fs_FqM 226 28 := by
    unfold fs_FqM
    omega
  refine ok (by omega) _ (fs_out.rf.st hF) ⟨ht.cg (fs_st_k (by omega)) (fs_st_k (by omega)) (fun x => fs_st_o (by omega)), hm.same (fun k k0 k1 => fs_st_k (by omega)), p0, p1, ?_, fs_st_s, ?_, ?_, ?_, ?_, fun j q z => ?_, ?_⟩
  · rw [fs_st_k (by omega)]
    exact hf
  · show 0 ≤ s.2.1 + 1
    omega
  · show s.2.1 + 1 ≤ 64
    omega
  · rw [fs_st_o (by omega)]
    exact hl
  · show (s.2.2.length : Int) ≤ s.2.1 + 1
    omega
  · rw [fs_st_o (by omega), fs_st_o (by omega)]
    exact hk j q z
  · rw [fs_st_k (by omega)]
    exact ho
theorem sp_putM {K : fs_K} {m : Nat} {s : fs_q3} {t n a b : Int} (h : fs_mS M T E m s) (lt : (s.2.2.length : Int) < s.2.1) (ea : a = fs_srt t) (eb : b = fs_val t n) (hK : ∀ M', fs_out fs_FqM M M' → fs_mS M' T E m (fs_qP s t n) → K none M') : fs_C2 g m_Mo_puts 2 [fs_r 226, fs_i a, fs_i b] M K := by
  obtain ⟨ht, hm, p0, p1, hf, hc, c0, c1, hl, hle, hk, ho⟩ := h
  obtain ⟨L, hL⟩ : ∃ L : Int, (s.2.2.length : Int) = L := ⟨_, rfl⟩
  rw [hL] at lt hl hle
  have w7 : fs_w32 (4 + 3) = 7 := by decide
  have w64 : fs_w32 (64 + L) = 64 + L := fs_w32_of (by omega) (by omega)
  refine E_Mo_puts ⟨fun _ => E_Mo_fresher ?_, fun z => absurd hf z⟩
  rw [w7, hl]
  refine ⟨by omega, by omega, L, rfl, ?_⟩
  rw [w64]
  refine ⟨by omega, by omega, E_Mo_fresher ?_⟩
  rw [w7]
  have e7 : fs_st M 239 (64 + L) a 228 7 = L := by
    rw [fs_st_o (by omega)]
    exact hl
  rw [e7]
  refine ⟨by omega, by omega, L, rfl, ?_⟩
  rw [w64]
  refine ⟨by omega, by omega, ?_⟩
  rw [fs_w32_of (x := L + 1) (by omega) (by omega)]
  obtain ⟨N, hN⟩ : ∃ N, fs_st (fs_st (fs_st M 239 (64 + L) a) 240 (64 + L) b) 228 7 (L + 1) = N := ⟨_, rfl⟩
  rw [hN]
  have oN : fs_out (fun o k => (o = 239 ∧ k = 64 + L) ∨ (o = 240 ∧ k = 64 + L) ∨ (o = 228 ∧ k = 7)) M N := by
    rw [← hN]
    exact ((fs_out.rf.st (Or.inl ⟨rfl, rfl⟩)).st (Or.inr (Or.inl ⟨rfl, rfl⟩))).st (Or.inr (Or.inr ⟨rfl, rfl⟩))
  have pN : ∀ o k, ¬ ((o = 239 ∧ k = 64 + L) ∨ (o = 240 ∧ k = 64 + L) ∨ (o = 228 ∧ k = 7)) → N o k = M o k := oN
  have v1 : N 239 (64 + L) = a := by
    rw [← hN, fs_st_o (by omega), fs_st_o (by omega)]
    exact fs_st_s
  have v2 : N 240 (64 + L) = b := by
    rw [← hN, fs_st_o (by omega)]
    exact fs_st_s
  have v3 : N 228 7 = L + 1 := by
    rw [← hN]
    exact fs_st_s
  refine hK N (oN.wk (fun o k q => ?_)) ⟨ht.cg (pN 226 18 (by omega)) (pN 226 24 (by omega)) (fun x => pN 227 x (by omega)), hm.same (fun k k0 k1 => pN 226 k (by omega)), p0, p1, ?_, ?_, c0, c1, ?_, ?_, fun j q z => ?_, ?_⟩
  · have q2 : (o = 239 ∧ k = 64 + L) ∨ (o = 240 ∧ k = 64 + L) ∨ (o = 228 ∧ k = 7) := q
    unfold fs_FqM
    omega
  · rw [pN 226 23 (by omega)]
    exact hf
  · rw [pN 226 28 (by omega)]
    exact hc
  · show N 228 7 = ((s.2.2 ++ [(t, n)]).length : Int)
    rw [v3, List.length_append]
    simp only [List.length_cons, List.length_nil]
    omega
  · show ((s.2.2 ++ [(t, n)]).length : Int) ≤ s.2.1
    rw [List.length_append]
    simp only [List.length_cons, List.length_nil]
    omega
  · rcases fs_app_get z with ⟨j1, y⟩ | ⟨j1, y⟩
    · rw [pN 239 _ (by omega), pN 240 _ (by omega)]
      exact hk j q y
    · have jl : (j : Int) = L := by omega
      rw [jl, v1, v2, y]
      exact ⟨ea, eb⟩
  · rw [pN 226 27 (by omega)]
    exact ho
theorem sp_isWordM {K : fs_K} {x p : Int} (hf : M 226 23 = 0) (h : fs_tM M T E p) (y : fs_ms (fs_lxt T E p) = 0 ∧ fs_wno (fs_lxt T E p) = x → K (some (fs_i 1)) M) (n : ¬ (fs_ms (fs_lxt T E p) = 0 ∧ fs_wno (fs_lxt T E p) = x) → K (some (fs_i 0)) M) : fs_C2 g m_Mo_isWord 1 [fs_r 226, fs_i x] M K := by
  obtain ⟨_, _, e21, _, _, e22, _⟩ := h
  refine E_Mo_isWord ⟨fun z => absurd hf z, fun _ => ?_⟩
  rw [e21]
  refine ⟨fun z => n (fun w => z w.1), fun z => ?_⟩
  rw [e22 z]
  exact ⟨fun z2 => n (fun w => z2 w.2), fun z2 => y ⟨z, z2⟩⟩
theorem sp_isSignM {K : fs_K} {x p : Int} (hf : M 226 23 = 0) (h : fs_tM M T E p) (y : fs_ms (fs_lxt T E p) = 3 ∧ fs_msv (fs_lxt T E p) = x → K (some (fs_i 1)) M) (n : ¬ (fs_ms (fs_lxt T E p) = 3 ∧ fs_msv (fs_lxt T E p) = x) → K (some (fs_i 0)) M) : fs_C2 g m_Mo_isSign 1 [fs_r 226, fs_i x] M K := by
  obtain ⟨_, _, e21, _, _, _, e22⟩ := h
  refine E_Mo_isSign ⟨fun z => absurd hf z, fun _ => ?_⟩
  rw [e21]
  refine ⟨fun z => n (fun w => z w.1), fun z => ?_⟩
  rw [e22 z]
  exact ⟨fun z2 => n (fun w => z2 w.2), fun z2 => y ⟨z, z2⟩⟩
-- behind a FAULT nothing is done
theorem fi_knot {K : fs_K} (h : ¬ M 226 23 = 0) (k : K none M) : fs_C2 g m_Mo_knot 2 [fs_r 226] M K := E_Mo_knot ⟨fun z => absurd z h, fun _ => k⟩
theorem fi_goOn {K : fs_K} (h : ¬ M 226 23 = 0) (k : K none M) : fs_C2 g m_Mo_goOn 7 [fs_r 226] M K := E_Mo_goOn ⟨fun _ => k, fun z => absurd z h⟩
theorem fi_puts {K : fs_K} {a b : Int} (h : ¬ M 226 23 = 0) (k : K none M) : fs_C2 g m_Mo_puts 2 [fs_r 226, fs_i a, fs_i b] M K := E_Mo_puts ⟨fun z => absurd z h, fun _ => k⟩
theorem fi_isWord {K : fs_K} {a : Int} (h : ¬ M 226 23 = 0) (k : K (some (fs_i 0)) M) : fs_C2 g m_Mo_isWord 1 [fs_r 226, fs_i a] M K := E_Mo_isWord ⟨fun _ => k, fun z => absurd z h⟩
theorem fi_isSign {K : fs_K} {a : Int} (h : ¬ M 226 23 = 0) (k : K (some (fs_i 0)) M) : fs_C2 g m_Mo_isSign 1 [fs_r 226, fs_i a] M K := E_Mo_isSign ⟨fun _ => k, fun z => absurd z h⟩
/-- a part of the model's reading does nothing behind a FAULT -/
def fs_mI (g : fs_G) (md : fs_D) (b : Nat) : Prop := ∀ (M : fs_M) (K : fs_K) (d : Nat), b ≤ d → ¬ M 226 23 = 0 → K none M → fs_C2 g md d [fs_r 226] M K
theorem fi_primary : fs_mI g m_Mo_primary 8 := fun M K d0 hb h k => by
  obtain ⟨d, rfl⟩ : ∃ d, d0 = d + 1 := ⟨d0 - 1, by omega⟩
  exact E_Mo_primary (by omega) ⟨fun z => absurd z h, fun _ => k⟩
theorem fi_product4 {K : fs_K} {d : Nat} (hd : 7 ≤ d) (h : ¬ M 226 23 = 0) (k : K none M) : fs_A2 g m_Mo_product (d + 1) 4 [(0, fs_r 226)] [] M K := L_Mo_product_4 hd (fi_isSign h ⟨0, rfl, fun z => absurd rfl z, fun _ => fi_isSign h ⟨0, rfl, fun _ => k, fun z => absurd rfl z⟩⟩)
theorem fi_product : fs_mI g m_Mo_product 9 := fun M K d0 hb h k => by
  obtain ⟨d, rfl⟩ : ∃ d, d0 = d + 1 := ⟨d0 - 1, by omega⟩
  exact E_Mo_product (by omega) (fi_primary M _ d (by omega) h ⟨rfl, fi_product4 (by omega) h k⟩)
theorem fi_sum4 {K : fs_K} {d : Nat} (hd : 7 ≤ d) (h : ¬ M 226 23 = 0) (k : K none M) : fs_A2 g m_Mo_sum (d + 1) 4 [(0, fs_r 226)] [] M K := L_Mo_sum_4 hd (fi_isSign h ⟨0, rfl, fun z => absurd rfl z, fun _ => fi_isSign h ⟨0, rfl, fun _ => k, fun z => absurd rfl z⟩⟩)
theorem fi_sum : fs_mI g m_Mo_sum 10 := fun M K d0 hb h k => by
  obtain ⟨d, rfl⟩ : ∃ d, d0 = d + 1 := ⟨d0 - 1, by omega⟩
  exact E_Mo_sum (by omega) (fi_product M _ d (by omega) h ⟨rfl, fi_sum4 (by omega) h k⟩)
theorem fi_negation : fs_mI g m_Mo_negation 11 := fun M K d0 hb h k => by
  obtain ⟨d, rfl⟩ : ∃ d, d0 = d + 1 := ⟨d0 - 1, by omega⟩
  exact E_Mo_negation (by omega) (fi_isWord h ⟨0, rfl, fun _ => fi_sum M _ d (by omega) h ⟨rfl, fun _ => k, fun z => absurd z h⟩, fun z => absurd rfl z⟩)
theorem fi_conjunction4 {K : fs_K} {d : Nat} (hd : 7 ≤ d) (h : ¬ M 226 23 = 0) (k : K none M) : fs_A2 g m_Mo_conjunction (d + 1) 4 [(0, fs_r 226)] [] M K := L_Mo_conjunction_4 hd (fi_isWord h ⟨0, rfl, fun _ => k, fun z => absurd rfl z⟩)
theorem fi_conjunction : fs_mI g m_Mo_conjunction 12 := fun M K d0 hb h k => by
  obtain ⟨d, rfl⟩ : ∃ d, d0 = d + 1 := ⟨d0 - 1, by omega⟩
  exact E_Mo_conjunction (by omega) (fi_negation M _ d (by omega) h ⟨rfl, fi_conjunction4 (by omega) h k⟩)
theorem fi_expression4 {K : fs_K} {d : Nat} (hd : 7 ≤ d) (h : ¬ M 226 23 = 0) (k : K none M) : fs_A2 g m_Mo_expression (d + 1) 4 [(0, fs_r 226)] [] M K := L_Mo_expression_4 hd (fi_isWord h ⟨0, rfl, fun _ => k, fun z => absurd rfl z⟩)
end MBASE
