-- ===== the class reads expressions =====
theorem fs_lx_kind {T : Int → Int} {E p : Int} : (fs_lxt T E p = 1034 → p < E ∧ fs_ilt (T p) = true) ∧ (fs_lxt T E p = 1017 → p < E ∧ fs_ilt (T p) = false ∧ fs_idg (T p) = true) := by
  by_cases c : E ≤ p
  · have e : fs_lxt T E p = 1035 := if_pos c
    rw [e]
    exact ⟨fun z => absurd z (by decide), fun z => absurd z (by decide)⟩
  · have lt : p < E := by omega
    by_cases hl : fs_ilt (T p) = true
    · obtain ⟨_, _, _, _, _, _, a7⟩ := fs_lx_word lt hl rfl
      refine ⟨fun _ => ⟨lt, hl⟩, fun z => ?_⟩
      rcases a7 with y | y | y <;> omega
    · have hl2 : fs_ilt (T p) = false := Bool.eq_false_iff.mpr hl
      by_cases hd : fs_idg (T p) = true
      · obtain ⟨a, _⟩ := fs_lx_num lt hl2 hd
        rw [a]
        exact ⟨fun z => absurd z (by decide), fun _ => ⟨lt, hl2, hd⟩⟩
      · obtain ⟨a, _⟩ := fs_lx_sgn lt hl2 (Bool.eq_false_iff.mpr hd)
        obtain ⟨_, _, _, r4, r5, r6, r7, r8⟩ := fs_sg_rel (c := T p) (b := if E ≤ p + 1 then 0 else T (p + 1)) (d := if E ≤ p + 1 then 0 else T (p + 1)) (Or.inl rfl)
        rw [a]
        exact ⟨fun z => absurd z r6, fun z => by omega⟩
theorem fs_n1z : (1 : Int) ≠ 0 := by decide
theorem fs_n2z : (2 : Int) ≠ 0 := by decide
theorem fs_n3z : (3 : Int) ≠ 0 := by decide
def fs_FqC (o k : Int) : Prop := (o = 29 ∧ (k = 2 ∨ k = 3 ∨ (6 ≤ k ∧ k ≤ 11))) ∨ (o = 23 ∧ k = 2) ∨ o = 24 ∨ o = 25
/-- the class stands at the token at place p -/
def fs_tC (M : fs_M) (T : Int → Int) (E p : Int) : Prop := M 29 5 = E ∧ M 30 = T ∧ M 29 8 = p ∧ M 29 6 = fs_lxq T E p ∧ M 29 7 = fs_lxt T E p ∧ (fs_lxt T E p = 1034 → M 29 10 = fs_lxl T E p) ∧ (fs_lxt T E p = 1017 → M 29 9 = fs_lxn T E p) ∧ 0 ≤ p ∧ p ≤ E ∧ E ≤ 600 ∧ M 29 3 = -1
theorem fs_tC.cg {M M' : fs_M} {T : Int → Int} {E p : Int} (h : fs_tC M T E p) (he : ∀ o k, (o = 29 ∧ (k = 3 ∨ (5 ≤ k ∧ k ≤ 10))) ∨ o = 30 → M' o k = M o k) : fs_tC M' T E p := by
  obtain ⟨a1, a2, a3, a4, a5, a6, a7, a8, a9, a10, a11⟩ := h
  refine ⟨by rw [he 29 5 (by omega)]; exact a1, ?_, by rw [he 29 8 (by omega)]; exact a3, by rw [he 29 6 (by omega)]; exact a4, by rw [he 29 7 (by omega)]; exact a5, fun z => by rw [he 29 10 (by omega)]; exact a6 z, fun z => by rw [he 29 9 (by omega)]; exact a7 z, a8, a9, a10, by rw [he 29 3 (by omega)]; exact a11⟩
  rw [← a2]
  funext x
  exact he 30 x (Or.inr rfl)
def fs_cS (M : fs_M) (T : Int → Int) (E : Int) (s : fs_q3) : Prop := fs_tC M T E s.1 ∧ M 29 2 = 0 ∧ M 29 11 = s.2.1 ∧ 0 ≤ s.2.1 ∧ s.2.1 ≤ 64 ∧ M 23 2 = (s.2.2.length : Int) ∧ (s.2.2.length : Int) ≤ s.2.1 ∧ ∀ (j : Nat) (q : Int × Int), s.2.2[j]? = some q → M 24 j = q.1 ∧ (q.1 = 1017 → M 25 j = q.2)
theorem fs_app_get {L : List (Int × Int)} {x q : Int × Int} {j : Nat} (h : (L ++ [x])[j]? = some q) : (j < L.length ∧ L[j]? = some q) ∨ (j = L.length ∧ q = x) := by
  by_cases c : j < L.length
  · rw [List.getElem?_append_left c] at h
    exact Or.inl ⟨c, h⟩
  · rw [List.getElem?_append_right (by omega)] at h
    by_cases d : j = L.length
    · rw [d, Nat.sub_self] at h
      have e : x = q := Option.some.inj h
      exact Or.inr ⟨d, e.symm⟩
    · obtain ⟨n, hn⟩ : ∃ n, j - L.length = n + 1 := ⟨j - L.length - 1, by omega⟩
      rw [hn] at h
      cases h
/-- the contract of a part of an expression -/
def fs_cX (g : fs_G) (T : Int → Int) (E : Int) (md : fs_D) (d : Nat) (args : List fs_V) (X : fs_q3 → fs_qR) : Prop := ∀ (M : fs_M) (s : fs_q3) (K : fs_K), fs_cS M T E s → (∀ M' s', X s = .inr s' → fs_out fs_FqC M M' → fs_cS M' T E s' → K (some (fs_i 1)) M') → (∀ M' e, X s = .inl e → fs_out fs_FqC M M' → M' 29 2 = e.1 → M' 29 3 = e.2 → e.1 ≠ 0 → K (some (fs_i 0)) M') → fs_C2 g md d args M K
def fs_qPs : Nat → fs_q3 → fs_q3
  | 0, s => s
  | k + 1, s => fs_qPs k (fs_qP s 1020 0)
section CEXP
variable {g : fs_G} {M : fs_M} {T : Int → Int} {E : Int}
theorem sp_advC {K : fs_K} {p : Int} (h : fs_tC M T E p) (hK : ∀ M', fs_out (fun o k => o = 29 ∧ 6 ≤ k ∧ k ≤ 10) M M' → fs_tC M' T E (fs_qn T E p) → K none M') : fs_C2 g m_Reader_advance 3 [fs_r 29] M K := by
  obtain ⟨hE, hT, h8, h6, h7, h10, h9, p0, p1, E1, h3⟩ := h
  obtain ⟨_, _, qa, qb, _⟩ := fs_lx_all (T := T) p1
  refine sp_advance hE h6 (by omega) qb E1 (fun M' o' e8 e6 e7 e10 e9 => ?_)
  rw [hT] at e8 e6 e7 e10 e9
  obtain ⟨r, hr⟩ : ∃ r, fs_qn T E p = r := ⟨_, rfl⟩
  have pn : fs_lxp T E (fs_lxq T E p) = r := hr
  rw [pn] at e8 e6 e7 e10 e9
  have nb := fs_qn_b (T := T) p1
  rw [hr] at nb hK
  obtain ⟨k1, k2⟩ := fs_lx_kind (T := T) (E := E) (p := r)
  refine hK M' o' ⟨by rw [o' 29 5 (by omega)]; exact hE, ?_, e8, e6, e7, fun z => e10 (k1 z).1 (k1 z).2, fun z => e9 (k2 z).1 (k2 z).2.1 (k2 z).2.2, by omega, nb.2.1, E1, by rw [o' 29 3 (by omega)]; exact h3⟩
  rw [← hT]
  funext x
  exact o' 30 x (by omega)
theorem sp_stumC {K : fs_K} {kind p : Int} (h8 : M 29 8 = p) (hK : ∀ M', fs_out fs_FqC M M' → M' 29 2 = kind → M' 29 3 = p → K (some (fs_i 0)) M') : fs_C2 g m_Reader_stumble 1 [fs_r 29, fs_i kind] M K := by
  refine E_Reader_stumble (hK _ ((fs_out.rf.st ?_).st ?_) ?_ ?_)
  · unfold fs_FqC
    omega
  · unfold fs_FqC
    omega
  · rw [fs_st_k (by omega)]
    exact fs_st_s
  · rw [fs_st_s]
    exact h8
theorem sp_advS {K : fs_K} {s : fs_q3} (h : fs_cS M T E s) (hK : ∀ M', fs_out fs_FqC M M' → fs_cS M' T E (fs_qA T E s) → K none M') : fs_C2 g m_Reader_advance 3 [fs_r 29] M K := by
  obtain ⟨hT, h2, h11, c0, c1, hl, hle, hk⟩ := h
  refine sp_advC hT (fun M' o' t' => ?_)
  have p' : ∀ o k, ¬ (o = 29 ∧ 6 ≤ k ∧ k ≤ 10) → M' o k = M o k := o'
  refine hK M' (o'.wk (fun o k q => ?_)) ⟨t', ?_, ?_, c0, c1, ?_, hle, fun j q z => ?_⟩
  · have q2 : o = 29 ∧ 6 ≤ k ∧ k ≤ 10 := q
    unfold fs_FqC
    omega
  · rw [p' 29 2 (by omega)]
    exact h2
  · rw [p' 29 11 (by omega)]
    exact h11
  · rw [p' 23 2 (by omega)]
    exact hl
  · rw [p' 24 j (by omega), p' 25 j (by omega)]
    exact hk j q z
theorem sp_knotC {K : fs_K} {s : fs_q3} (h : fs_cS M T E s) (ok : s.2.1 < 64 → ∀ M', fs_out fs_FqC M M' → fs_cS M' T E (s.1, s.2.1 + 1, s.2.2) → K (some (fs_i 1)) M') (no : ¬ s.2.1 < 64 → ∀ M', fs_out fs_FqC M M' → M' 29 2 = 2 → M' 29 3 = s.1 → K (some (fs_i 0)) M') : fs_C2 g m_Reader_countKnot 2 [fs_r 29] M K := by
  obtain ⟨hT, h2, h11, c0, c1, hl, hle, hk⟩ := h
  refine E_Reader_countKnot ?_
  rw [h11]
  refine ⟨fun z => ?_, fun z => sp_stumC hT.2.2.1 (fun M' o' e2 e3 => ⟨0, rfl, Or.inl rfl, no z M' o' e2 e3⟩)⟩
  rw [fs_w32_of (x := s.2.1 + 1) (by omega) (by omega)]
  have hF : fs_FqC 29 11 := by
    unfold fs_FqC
    omega
  refine ok z _ (fs_out.rf.st hF) ⟨hT.cg (fun o k q => ?_), ?_, fs_st_s, ?_, ?_, ?_, ?_, fun j q z => ?_⟩
  · rcases q with q | q
    · rw [q.1, fs_st_k (by omega)]
    · rw [q, fs_st_o (by omega)]
  · rw [fs_st_k (by omega)]
    exact h2
  · show 0 ≤ s.2.1 + 1
    omega
  · show s.2.1 + 1 ≤ 64
    omega
  · rw [fs_st_o (by omega)]
    exact hl
  · show (s.2.2.length : Int) ≤ s.2.1 + 1
    omega
  · rw [fs_st_o (by omega), fs_st_o (by omega)]
    exact hk j q z
theorem sp_addC {K : fs_K} {s : fs_q3} {t n m : Int} (h : fs_cS M T E s) (lt : (s.2.2.length : Int) < s.2.1) (ht : fs_tk t) (hm : t = 1017 → n = m) (hK : ∀ M', fs_out fs_FqC M M' → fs_cS M' T E (fs_qP s t m) → K none M') : fs_C2 g m_Laws_add 1 [fs_r 23, fs_r t, fs_i n] M K := by
  obtain ⟨hT, h2, h11, c0, c1, hl, hle, hk⟩ := h
  obtain ⟨L, hL⟩ : ∃ L : Int, (s.2.2.length : Int) = L := ⟨_, rfl⟩
  rw [hL] at lt hl hle
  refine E_Laws_add io_23 ht ?_
  rw [hl]
  have e1 : fs_st M (23 + 1) L t 23 2 = L := by
    rw [fs_st_o (by omega)]
    exact hl
  rw [e1]
  have e2 : fs_st (fs_st M (23 + 1) L t) (23 + 2) L n 23 2 = L := by
    rw [fs_st_o (by omega)]
    exact e1
  rw [e2, fs_w32_of (x := L + 1) (by omega) (by omega)]
  refine ⟨fun z => absurd z (by omega), fun _ => ⟨by omega, by omega, by omega, ?_⟩⟩
  obtain ⟨N, hN⟩ : ∃ N, fs_st (fs_st (fs_st M (23 + 1) L t) (23 + 2) L n) 23 2 (L + 1) = N := ⟨_, rfl⟩
  rw [hN]
  have oN : fs_out (fun o k => (o = 24 ∧ k = L) ∨ (o = 25 ∧ k = L) ∨ (o = 23 ∧ k = 2)) M N := by
    rw [← hN]
    exact ((fs_out.rf.st (Or.inl ⟨rfl, rfl⟩)).st (Or.inr (Or.inl ⟨rfl, rfl⟩))).st (Or.inr (Or.inr ⟨rfl, rfl⟩))
  have pN : ∀ o k, ¬ ((o = 24 ∧ k = L) ∨ (o = 25 ∧ k = L) ∨ (o = 23 ∧ k = 2)) → N o k = M o k := oN
  have v24 : N 24 L = t := by
    rw [← hN, fs_st_o (by omega), fs_st_o (by omega)]
    exact fs_st_s
  have v25 : N 25 L = n := by
    rw [← hN, fs_st_o (by omega)]
    exact fs_st_s
  have v23 : N 23 2 = L + 1 := by
    rw [← hN]
    exact fs_st_s
  refine hK N (oN.wk (fun o k q => ?_)) ⟨hT.cg (fun o k q => pN o k (by omega)), ?_, ?_, c0, c1, ?_, ?_, fun j q z => ?_⟩
  · have q2 : (o = 24 ∧ k = L) ∨ (o = 25 ∧ k = L) ∨ (o = 23 ∧ k = 2) := q
    unfold fs_FqC
    omega
  · rw [pN 29 2 (by omega)]
    exact h2
  · rw [pN 29 11 (by omega)]
    exact h11
  · show N 23 2 = ((s.2.2 ++ [(t, m)]).length : Int)
    rw [v23, List.length_append]
    simp only [List.length_cons, List.length_nil]
    omega
  · show ((s.2.2 ++ [(t, m)]).length : Int) ≤ s.2.1
    rw [List.length_append]
    simp only [List.length_cons, List.length_nil]
    omega
  · rcases fs_app_get z with ⟨j1, y⟩ | ⟨j1, y⟩
    · rw [pN 24 j (by omega), pN 25 j (by omega)]
      exact hk j q y
    · have jl : (j : Int) = L := by omega
      rw [jl, v24, v25, y]
      exact ⟨rfl, hm⟩
theorem fs_inl2 {e : Int × Int} : (Sum.inl e : fs_qR) = .inl e := rfl
theorem sp_loopC {d : Nat} (hd : 4 ≤ d) {X : fs_q3 → fs_qR} (hG : fs_qG E X) {lev o x3 most : Int} (l1 : 1 ≤ lev) (l5 : lev ≤ 5) (m65 : most ≤ 65) (hX : fs_cX g T E m_Reader_readExpression d [fs_r 29, fs_i (lev + 1), fs_i o] X) :
    ∀ (n : Nat) (i : Int) (M : fs_M) (s : fs_q3) (K : fs_K), 0 ≤ i → most - i = n → fs_cS M T E s → (∀ M' s', fs_qL T E X lev n s = .inr s' → fs_out fs_FqC M M' → fs_cS M' T E s' → fs_A2 g m_Reader_readExpression (d + 1) 155 [(0, fs_r 29), (3, fs_i x3), (5, fs_i 0)] [] M' K) → (∀ M' e, fs_qL T E X lev n s = .inl e → fs_out fs_FqC M M' → M' 29 2 = e.1 → M' 29 3 = e.2 → e.1 ≠ 0 → K (some (fs_i 0)) M') →
      fs_A2 g m_Reader_readExpression (d + 1) 83 [(0, fs_r 29), (1, fs_i lev), (2, fs_i o), (3, fs_i x3), (4, fs_i most), (5, fs_i i)] [] M K := by
  intro n
  induction n with
  | zero =>
    intro i M s K i0 hn hs ok no
    exact L_Reader_readExpression_83 hd ⟨fun _ => ok M s rfl fs_out.rf hs, fun z => absurd z (by omega)⟩
  | succ n ih =>
    intro i M s K i0 hn hs ok no
    have e7 : M 29 7 = fs_lxt T E s.1 := hs.1.2.2.2.2.1
    obtain ⟨tk, _, _, _, _⟩ := fs_lx_all (T := T) (E := E) (p := s.1) hs.1.2.2.2.2.2.2.2.2.1
    refine L_Reader_readExpression_83 hd ?_
    rw [e7, fs_w32_of (x := lev + 1) (by omega) (by omega), fs_w32_of (x := i + 1) (by omega) (by omega)]
    refine ⟨fun z => absurd z (by omega), fun _ => ⟨tk, fun z => ok M s (if_neg z) fs_out.rf hs, fun z => ?_⟩⟩
    have e : fs_qL T E X lev (n + 1) s = fs_qB (fs_qK s) (fun s1 => fs_qB (X (fs_qA T E s1)) (fun s2 => fs_qL T E X lev n (fs_qP s2 (fs_lxt T E s.1) 0))) := if_pos z
    rw [e] at ok no
    refine sp_knotC hs (fun lt M2 o2 h2 => ⟨1, rfl, fun _ => sp_advS h2 (fun M3 o3 h3 => ⟨rfl, ?_⟩), fun y => absurd y (by decide)⟩) (fun nlt M2 o2 e2 e3 => ⟨0, rfl, fun y => absurd rfl y, fun _ => no M2 (2, s.1) ?_ o2 e2 e3 fs_n2z⟩)
    · have ek : fs_qK s = .inr (s.1, s.2.1 + 1, s.2.2) := if_pos lt
      rw [ek] at ok no
      refine hX M3 _ _ h3 (fun M7 s2 ex o7 h7 => ⟨1, rfl, fun _ => ?_, fun y => absurd y (by decide)⟩) (fun M7 e' ex o7 e2 e3 e4 => ⟨0, rfl, fun y => absurd rfl y, fun _ => no M7 e' ?_ ((o2.tr o3).tr o7) e2 e3 e4⟩)
      · have ex2 : fs_qB (X (fs_qA T E (s.1, s.2.1 + 1, s.2.2))) (fun s2 => fs_qL T E X lev n (fs_qP s2 (fs_lxt T E s.1) 0)) = fs_qL T E X lev n (fs_qP s2 (fs_lxt T E s.1) 0) := by
          rw [ex]
          rfl
        have ok2 : ∀ M' s', fs_qL T E X lev n (fs_qP s2 (fs_lxt T E s.1) 0) = .inr s' → fs_out fs_FqC M M' → fs_cS M' T E s' → fs_A2 g m_Reader_readExpression (d + 1) 155 [(0, fs_r 29), (3, fs_i x3), (5, fs_i 0)] [] M' K := fun M' s' y => ok M' s' (ex2.trans y)
        have no2 : ∀ M' e, fs_qL T E X lev n (fs_qP s2 (fs_lxt T E s.1) 0) = .inl e → fs_out fs_FqC M M' → M' 29 2 = e.1 → M' 29 3 = e.2 → e.1 ≠ 0 → K (some (fs_i 0)) M' := fun M' s' y => no M' s' (ex2.trans y)
        have nb := fs_qn_b (T := T) (E := E) (p := s.1) hs.1.2.2.2.2.2.2.2.2.1
        obtain ⟨_, _, _, W, w1, w2, _, _⟩ := hG _ s2 ex h3.1.2.2.2.2.2.2.2.1 h3.1.2.2.2.2.2.2.2.2.1 h3.2.2.2.2.1
        have w1' : s2.2.2 = s.2.2 ++ W := w1
        have w2' : s2.2.1 = s.2.1 + 1 + (W.length : Int) := w2
        have hle := hs.2.2.2.2.2.2.1
        refine sp_addC h7 ?_ tk (m := 0) (fun _ => rfl) (fun M8 o8 h8 => ⟨rfl, ?_⟩)
        · rw [w1', w2', List.length_append]
          omega
        · have oo := ((o2.tr o3).tr o7).tr o8
          exact ih (i + 1) M8 _ K (by omega) (by omega) h8 (fun M' s' y o' => ok2 M' s' y (oo.tr o')) (fun M' e' y o' => no2 M' e' y (oo.tr o'))
      · show fs_qB (X (fs_qA T E (s.1, s.2.1 + 1, s.2.2))) _ = _
        rw [ex]
        rfl
    · have ek : fs_qK s = .inl (2, s.1) := if_neg nlt
      rw [ek]
      rfl
theorem sp_notsC {d : Nat} (hd : 4 ≤ d) {x3 : Int} (x65 : x3 ≤ 65) : ∀ (k : Nat) (i : Int) (M : fs_M) (s : fs_q3) (K : fs_K), 0 ≤ i → x3 - i = k → fs_cS M T E s → (s.2.2.length : Int) + k ≤ s.2.1 → (∀ M', fs_out fs_FqC M M' → fs_cS M' T E (fs_qPs k s) → K (some (fs_i 1)) M') → fs_A2 g m_Reader_readExpression (d + 1) 155 [(0, fs_r 29), (3, fs_i x3), (5, fs_i i)] [] M K := by
  intro k
  induction k with
  | zero =>
    intro i M s K i0 hn hs hk ok
    exact L_Reader_readExpression_155 hd ⟨fun _ => ok M fs_out.rf hs, fun z => absurd z (by omega)⟩
  | succ k ih =>
    intro i M s K i0 hn hs hk ok
    refine L_Reader_readExpression_155 hd ⟨fun z => absurd z (by omega), fun _ => sp_addC hs (by omega) ⟨by omega, by omega⟩ (m := 0) (fun _ => rfl) (fun M9 o9 h9 => ⟨rfl, ?_⟩)⟩
    rw [fs_w32_of (x := i + 1) (by omega) (by omega)]
    refine ih (i + 1) M9 _ K (by omega) (by omega) h9 ?_ (fun M' o' h' => ok M' (o9.tr o') h')
    show ((s.2.2 ++ [(1020, 0)]).length : Int) + k ≤ s.2.1
    rw [List.length_append]
    simp only [List.length_cons, List.length_nil]
    omega
theorem sp_54C {d : Nat} (hd : 4 ≤ d) {X : fs_q3 → fs_qR} (hG : fs_qG E X) {lev o : Int} (l1 : 1 ≤ lev) (l5 : lev ≤ 5) (hX : fs_cX g T E m_Reader_readExpression d [fs_r 29, fs_i (lev + 1), fs_i o] X) {n : Nat} (h3 : lev = 3 → n = 1) (h3n : lev ≠ 3 → n = 65) {k : Nat} (k65 : k ≤ 65)
    {M : fs_M} {s : fs_q3} {K : fs_K} (hs : fs_cS M T E s) (hk : (s.2.2.length : Int) + k ≤ s.2.1) (ok : ∀ M' s', fs_qI T E X lev n s = .inr s' → fs_out fs_FqC M M' → fs_cS M' T E (fs_qPs k s') → K (some (fs_i 1)) M') (no : ∀ M' e, fs_qI T E X lev n s = .inl e → fs_out fs_FqC M M' → M' 29 2 = e.1 → M' 29 3 = e.2 → e.1 ≠ 0 → K (some (fs_i 0)) M') :
      fs_A2 g m_Reader_readExpression (d + 1) 54 [(0, fs_r 29), (1, fs_i lev), (2, fs_i o), (3, fs_i (k : Int))] [] M K := by
  refine L_Reader_readExpression_54 hd ?_
  rw [fs_w32_of (x := lev + 1) (by omega) (by omega)]
  refine hX M s _ hs (fun M4 s1 ex o4 h4 => ⟨1, rfl, fun _ => ?_, fun y => absurd y (by decide)⟩) (fun M4 e' ex o4 e2 e3 e4 => ⟨0, rfl, fun y => absurd rfl y, fun _ => no M4 e' ?_ o4 e2 e3 e4⟩)
  · have ei : fs_qI T E X lev n s = fs_qL T E X lev n s1 := by
      unfold fs_qI
      rw [ex]
      rfl
    rw [ei] at ok no
    obtain ⟨_, a2, a3, W, w1, w2, _, _⟩ := hG s s1 ex hs.1.2.2.2.2.2.2.2.1 hs.1.2.2.2.2.2.2.2.2.1 hs.2.2.2.2.1
    have go : ∀ most : Int, most = n → most ≤ 65 → fs_A2 g m_Reader_readExpression (d + 1) 83 [(0, fs_r 29), (1, fs_i lev), (2, fs_i o), (3, fs_i (k : Int)), (4, fs_i most), (5, fs_i 0)] [] M4 K := fun most hm m65 => by
      refine sp_loopC hd hG l1 l5 m65 hX n 0 M4 s1 K (by omega) (by omega) h4 (fun M' s' y o' h' => ?_) (fun M' e' y o' => no M' e' y (o4.tr o'))
      obtain ⟨_, _, _, W2, v1, v2, _, _⟩ := fs_qL_good l1 l5 hG n s1 s' y h4.1.2.2.2.2.2.2.2.1 h4.1.2.2.2.2.2.2.2.2.1 h4.2.2.2.2.1
      refine sp_notsC hd (by omega) k 0 M' s' K (by omega) (by omega) h' ?_ (fun M2 o2 h2 => ok M2 s' y ((o4.tr o').tr o2) h2)
      rw [v1, v2, w1, w2, List.length_append, List.length_append]
      omega
    exact ⟨fun z => go 65 (by rw [h3n z]; rfl) (by omega), fun z => go 1 (by rw [h3 z]; rfl) (by omega)⟩
  · unfold fs_qI
    rw [ex]
    rfl
theorem sp_levC {d : Nat} (hd : 4 ≤ d) {X : fs_q3 → fs_qR} (hG : fs_qG E X) {lev o : Int} (l1 : 1 ≤ lev) (l5 : lev ≤ 5) (l3 : lev ≠ 3) (hX : fs_cX g T E m_Reader_readExpression d [fs_r 29, fs_i (lev + 1), fs_i o] X) : fs_cX g T E m_Reader_readExpression (d + 1) [fs_r 29, fs_i lev, fs_i o] (fs_qI T E X lev 65) := by
  intro M s K hs ok no
  have hle := hs.2.2.2.2.2.2.1
  exact E_Reader_readExpression hd ⟨fun _ => ⟨fun _ => sp_54C hd hG l1 l5 hX (fun z => absurd z l3) (fun _ => rfl) (k := 0) (by omega) hs (by omega) ok no, fun z => absurd z l3⟩, fun z => absurd z (by omega)⟩
theorem sp_19C {d : Nat} (hd : 4 ≤ d) {X : fs_q3 → fs_qR} (hG : fs_qG E X) {o : Int} (hX : fs_cX g T E m_Reader_readExpression d [fs_r 29, fs_i (3 + 1), fs_i o] X) : ∀ (n k : Nat) (M : fs_M) (s : fs_q3) (K : fs_K), k + n = 65 → fs_cS M T E s → (s.2.2.length : Int) + k ≤ s.2.1 → (∀ M' s', fs_qN T E (fs_qI T E X 3 1) n s = .inr s' → fs_out fs_FqC M M' → fs_cS M' T E (fs_qPs k s') → K (some (fs_i 1)) M') → (∀ M' e, fs_qN T E (fs_qI T E X 3 1) n s = .inl e → fs_out fs_FqC M M' → M' 29 2 = e.1 → M' 29 3 = e.2 → e.1 ≠ 0 → K (some (fs_i 0)) M') →
      fs_A2 g m_Reader_readExpression (d + 1) 19 [(0, fs_r 29), (1, fs_i 3), (2, fs_i o), (3, fs_i (k : Int))] [] M K := by
  intro n
  induction n with
  | zero =>
    intro k M s K hn hs hk ok no
    exact L_Reader_readExpression_19 hd ⟨fun _ => sp_54C hd hG (by omega) (by omega) hX (fun _ => rfl) (fun z => absurd rfl z) (by omega) hs hk ok no, fun z => absurd z (by omega)⟩
  | succ n ih =>
    intro k M s K hn hs hk ok no
    have e7 : M 29 7 = fs_lxt T E s.1 := hs.1.2.2.2.2.1
    obtain ⟨tk, _, _, _, _⟩ := fs_lx_all (T := T) (E := E) (p := s.1) hs.1.2.2.2.2.2.2.2.2.1
    refine L_Reader_readExpression_19 hd ?_
    rw [e7]
    refine ⟨fun z => absurd z (by omega), fun _ => ⟨tk, fun z => ?_, fun z => ?_⟩⟩
    · have e : fs_qN T E (fs_qI T E X 3 1) (n + 1) s = fs_qI T E X 3 1 s := if_neg z
      rw [e] at ok no
      exact sp_54C hd hG (by omega) (by omega) hX (fun _ => rfl) (fun z => absurd rfl z) (by omega) hs hk ok no
    · have e : fs_qN T E (fs_qI T E X 3 1) (n + 1) s = fs_qB (fs_qK s) (fun s1 => fs_qB (fs_qN T E (fs_qI T E X 3 1) n (fs_qA T E s1)) (fun s2 => .inr (fs_qP s2 1020 0))) := if_pos z
      rw [e] at ok no
      refine sp_knotC hs (fun lt M2 o2 h2 => ⟨1, rfl, fun _ => sp_advS h2 (fun M3 o3 h3 => ⟨rfl, ?_⟩), fun y => absurd y (by decide)⟩) (fun nlt M2 o2 e2 e3 => ⟨0, rfl, fun y => absurd rfl y, fun _ => no M2 (2, s.1) ?_ o2 e2 e3 fs_n2z⟩)
      · have ek : fs_qK s = .inr (s.1, s.2.1 + 1, s.2.2) := if_pos lt
        rw [ek] at ok no
        rw [fs_wsucc (by omega)]
        refine ih (k + 1) M3 _ K (by omega) h3 ?_ (fun M' s' y o' h' => ok M' (fs_qP s' 1020 0) ?_ ((o2.tr o3).tr o') h') (fun M' e' y o' => no M' e' ?_ ((o2.tr o3).tr o'))
        · show (s.2.2.length : Int) + ((k + 1 : Nat) : Int) ≤ s.2.1 + 1
          omega
        · show fs_qB (fs_qN T E (fs_qI T E X 3 1) n (fs_qA T E (s.1, s.2.1 + 1, s.2.2))) _ = _
          rw [y]
          rfl
        · show fs_qB (fs_qN T E (fs_qI T E X 3 1) n (fs_qA T E (s.1, s.2.1 + 1, s.2.2))) _ = _
          rw [y]
          rfl
      · have ek : fs_qK s = .inl (2, s.1) := if_neg nlt
        rw [ek]
        rfl
theorem sp_lev3C {d : Nat} (hd : 4 ≤ d) {X : fs_q3 → fs_qR} (hG : fs_qG E X) {o : Int} (hX : fs_cX g T E m_Reader_readExpression d [fs_r 29, fs_i (3 + 1), fs_i o] X) : fs_cX g T E m_Reader_readExpression (d + 1) [fs_r 29, fs_i 3, fs_i o] (fs_qN T E (fs_qI T E X 3 1) 65) := by
  intro M s K hs ok no
  have hle := hs.2.2.2.2.2.2.1
  exact E_Reader_readExpression hd ⟨fun _ => ⟨fun z => absurd rfl z, fun _ => sp_19C hd hG hX 65 0 M s K rfl hs (by omega) ok no⟩, fun z => absurd (by decide) z⟩
theorem sp_lev6C {d : Nat} (hd : 4 ≤ d) {V : fs_q3 → fs_qR} {o : Int} (hV : fs_cX g T E m_Reader_readValue d [fs_r 29, fs_i o] V) : fs_cX g T E m_Reader_readExpression (d + 1) [fs_r 29, fs_i 6, fs_i o] V := by
  intro M s K hs ok no
  exact E_Reader_readExpression hd ⟨fun z => absurd z (by omega), fun _ => hV M s _ hs (fun M' s' y o' h' => ⟨1, rfl, Or.inr rfl, ok M' s' y o' h'⟩) (fun M' e y o' e2 e3 e4 => ⟨0, rfl, Or.inl rfl, no M' e y o' e2 e3 e4⟩)⟩
theorem sp_chainC {b : Nat} (hb : 4 ≤ b) {V : fs_q3 → fs_qR} (hG : fs_qG E V) {o : Int} (hV : fs_cX g T E m_Reader_readValue b [fs_r 29, fs_i o] V) : fs_cX g T E m_Reader_readExpression (b + 6) [fs_r 29, fs_i 1, fs_i o] (fs_qC T E V) := by
  have g5 := fs_qI_good (T := T) (lev := 5) (n := 65) (by omega) (by omega) hG
  have g4 := fs_qI_good (T := T) (lev := 4) (n := 65) (by omega) (by omega) g5
  have g3 := fs_qN_good (T := T) (fs_qI_good (T := T) (lev := 3) (n := 1) (by omega) (by omega) g4) 65
  have g2 := fs_qI_good (T := T) (lev := 2) (n := 65) (by omega) (by omega) g3
  have x6 := sp_lev6C hb hV
  have x5 : fs_cX g T E m_Reader_readExpression (b + 2) [fs_r 29, fs_i 5, fs_i o] (fs_qI T E V 5 65) := sp_levC (by omega) hG (by omega) (by omega) (by omega) x6
  have x4 : fs_cX g T E m_Reader_readExpression (b + 3) [fs_r 29, fs_i 4, fs_i o] (fs_qI T E (fs_qI T E V 5 65) 4 65) := sp_levC (by omega) g5 (by omega) (by omega) (by omega) x5
  have x3 : fs_cX g T E m_Reader_readExpression (b + 4) [fs_r 29, fs_i 3, fs_i o] (fs_qN T E (fs_qI T E (fs_qI T E (fs_qI T E V 5 65) 4 65) 3 1) 65) := sp_lev3C (by omega) g4 x4
  have x2 : fs_cX g T E m_Reader_readExpression (b + 5) [fs_r 29, fs_i 2, fs_i o] (fs_qI T E (fs_qN T E (fs_qI T E (fs_qI T E (fs_qI T E V 5 65) 4 65) 3 1) 65) 2 65) := sp_levC (by omega) g3 (by omega) (by omega) (by omega) x3
  exact sp_levC (by omega) g2 (by omega) (by omega) (by omega) x2
end CEXP
