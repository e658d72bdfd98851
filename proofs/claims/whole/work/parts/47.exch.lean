-- ===== exchange: what it is; the class's findExchange =====
theorem fs_env.bE {E M : fs_M} (h : fs_env E M) (hB : fs_bE E) : fs_bE M := by
  have hl := h.law.2
  obtain ⟨b1, b2, b3, b4, b5, b6, b7⟩ := hB
  have e5 : M 1 5 = E 1 5 := h 1 5 (by unfold fs_eC; omega)
  have e9 : M 1 9 = E 1 9 := h 1 9 (by unfold fs_eC; omega)
  unfold fs_bE
  rw [e5, e9]
  refine ⟨b1, b2, b3, b4, fun x x0 x1 => ?_, fun d d0 d1 => ?_, fun k k0 k1 => hl k (b7 k k0 k1)⟩
  · rw [h 3 x (by unfold fs_eC; omega), h 4 x (by unfold fs_eC; omega), h 5 x (by unfold fs_eC; omega)]
    exact b5 x x0 x1
  · rw [h 7 d (by unfold fs_eC; omega), h 8 d (by unfold fs_eC; omega)]
    exact b6 d d0 d1
theorem fs_env.rt {E M : fs_M} (h : fs_env E M) (hT : fs_rt E) : fs_rt M := by
  obtain ⟨t1, t2, t3, t4, t5⟩ := hT
  have e5 : M 1 5 = E 1 5 := h 1 5 (by unfold fs_eC; omega)
  have e9 : M 1 9 = E 1 9 := h 1 9 (by unfold fs_eC; omega)
  unfold fs_rt
  rw [e5, e9, h 228 0 (by unfold fs_eC; omega), h 228 1 (by unfold fs_eC; omega)]
  refine ⟨t1, t2, fun x x0 x1 => ?_, fun d d0 d1 => ?_, h.rl t5⟩
  · rw [h 230 x (by unfold fs_eC; omega), h 231 x (by unfold fs_eC; omega), h 232 x (by unfold fs_eC; omega), h 3 x (by unfold fs_eC; omega), h 4 x (by unfold fs_eC; omega), h 5 x (by unfold fs_eC; omega)]
    exact t3 x x0 x1
  · rw [h 235 d (by unfold fs_eC; omega), h 236 d (by unfold fs_eC; omega), h 7 d (by unfold fs_eC; omega), h 8 d (by unfold fs_eC; omega)]
    exact t4 d d0 d1
/-- the class's, the model's memory has what E has of environment and plan -/
def fs_envC (E M : fs_M) : Prop := ∀ o k, fs_eC o ∨ (31 ≤ o ∧ o ≤ 36) → M o k = E o k
def fs_envM (E M : fs_M) : Prop := ∀ o k, fs_eC o ∨ fs_mlc 0 o k → M o k = E o k
theorem fs_envC.env {E M : fs_M} (h : fs_envC E M) : fs_env E M := fun o k q => h o k (Or.inl q)
theorem fs_envM.env {E M : fs_M} (h : fs_envM E M) : fs_env E M := fun o k q => h o k (Or.inl q)
def fs_pv (E : fs_M) (i : Int) : Int := E (33 + i / 9) (i % 9)
theorem fs_sw_at {M : fs_M} {i j o k : Int} (i0 : 0 ≤ i) (i1 : i < 27) (j0 : 0 ≤ j) (j1 : j < 27) :
    fs_sw M 31 i j o k = if 33 ≤ o ∧ o ≤ 35 ∧ 0 ≤ k ∧ k < 9 then (if 9 * (o - 33) + k = j then fs_pv M i else if 9 * (o - 33) + k = i then fs_pv M j else M o k) else M o k := by
  unfold fs_sw fs_pv fs_st
  (repeat' split) <;> first | rfl | (exfalso; omega)
theorem fs_pv_sw {M : fs_M} {i j x : Int} (i0 : 0 ≤ i) (i1 : i < 27) (j0 : 0 ≤ j) (j1 : j < 27) (x0 : 0 ≤ x) (x1 : x < 27) : fs_pv (fs_sw M 31 i j) x = if x = j then fs_pv M i else if x = i then fs_pv M j else fs_pv M x := by
  show fs_sw M 31 i j (33 + x / 9) (x % 9) = _
  rw [fs_sw_at i0 i1 j0 j1, if_pos (by omega), show 9 * (33 + x / 9 - 33) + x % 9 = x by omega]
  rfl
theorem fs_sw_back {M M5 : fs_M} {i j o k : Int} (i0 : 0 ≤ i) (i1 : i < 27) (j0 : 0 ≤ j) (j1 : j < 27) (h : ∀ o k, 33 ≤ o → o ≤ 35 → M5 o k = fs_sw M 31 i j o k) (o0 : 33 ≤ o) (o1 : o ≤ 35) : fs_sw M5 31 i j o k = M o k := by
  have pv : ∀ x, 0 ≤ x → x < 27 → fs_pv M5 x = if x = j then fs_pv M i else if x = i then fs_pv M j else fs_pv M x := fun x x0 x1 => by
    rw [← fs_pv_sw i0 i1 j0 j1 x0 x1]
    exact h _ _ (by omega) (by omega)
  rw [fs_sw_at i0 i1 j0 j1]
  by_cases r : 33 ≤ o ∧ o ≤ 35 ∧ 0 ≤ k ∧ k < 9
  · have ok : ∀ x, 9 * (o - 33) + k = x → fs_pv M x = M o k := fun x hx => by
      show M (33 + x / 9) (x % 9) = _
      rw [show 33 + x / 9 = o by omega, show x % 9 = k by omega]
    rw [if_pos r]
    by_cases a : 9 * (o - 33) + k = j
    · rw [if_pos a, pv i i0 i1]
      by_cases b : i = j
      · rw [if_pos b, b]
        exact ok j a
      · rw [if_neg b, if_pos rfl]
        exact ok j a
    · rw [if_neg a]
      by_cases b : 9 * (o - 33) + k = i
      · rw [if_pos b, pv j j0 j1, if_pos rfl]
        exact ok i b
      · rw [if_neg b, h o k o0 o1, fs_sw_at i0 i1 j0 j1, if_pos r, if_neg a, if_neg b]
  · rw [if_neg r, h o k o0 o1, fs_sw_at i0 i1 j0 j1, if_neg r]
/-- two places of the plan swapped, in both -/
def fs_sw2 (E : fs_M) (i j : Int) : fs_M := fun o k => if o = 241 then (if k = j then E 241 i else if k = i then E 241 j else E o k) else fs_sw E 31 i j o k
theorem fs_sw2_o {E : fs_M} {i j o k : Int} (i0 : 0 ≤ i) (i1 : i < 27) (j0 : 0 ≤ j) (j1 : j < 27) (h : o < 33 ∨ 35 < o) (h2 : o ≠ 241) : fs_sw2 E i j o k = E o k := by
  unfold fs_sw2
  rw [if_neg h2]
  exact fs_sw_o (by omega) i0 i1 j0 j1
theorem fs_sw2_env {E : fs_M} {i j : Int} (i0 : 0 ≤ i) (i1 : i < 27) (j0 : 0 ≤ j) (j1 : j < 27) : fs_env E (fs_sw2 E i j) := fun o k q => by
  unfold fs_eC at q
  exact fs_sw2_o i0 i1 j0 j1 (by omega) (by omega)
theorem fs_in_row {E : fs_M} {i : Int} (hp : fs_rp E 31 0) (hz : fs_rz E 31 0) (i0 : 0 ≤ i) (i1 : i < 27) (h : fs_ct2 E 31 i ≠ -1) : i / 9 < E 1 9 ∧ i % 9 < E 36 (i / 9) ∧ fs_ct2 E 31 i = fs_pv E i ∧ fs_pv E i = E 241 i ∧ 0 ≤ fs_pv E i ∧ fs_pv E i < E 1 5 := by
  unfold fs_ct2 at h
  by_cases c : E (31 + 5) (i / 9) ≤ i % 9
  · rw [if_pos c] at h
    exact absurd rfl h
  · have c2 : ¬ E 36 (i / 9) ≤ i % 9 := c
    have c9 : i / 9 < E 1 9 := by
      by_cases a : i / 9 < E 1 9
      · exact a
      · have := (hz (i / 9) (by omega) (by omega) (by omega)).1
        have t : E 36 (i / 9) = 0 := this
        omega
    obtain ⟨a1, a2, a3, a4⟩ := hp.2.2 (i / 9) (by omega) c9
    obtain ⟨y1, y2, y3⟩ := a4 (i % 9) (by omega) (by omega)
    have e : 27 * (0 : Int) + 9 * (i / 9) + i % 9 = i := by omega
    rw [e] at y1
    refine ⟨c9, by omega, ?_, y1, y2, y3⟩
    unfold fs_ct2
    rw [if_neg c]
    rfl
theorem fs_rp_sw2 {E : fs_M} {i j : Int} (hD : E 1 9 ≤ 3) (hp : fs_rp E 31 0) (hz : fs_rz E 31 0) (i0 : 0 ≤ i) (i1 : i < 27) (j0 : 0 ≤ j) (j1 : j < 27) (hi : fs_ct2 E 31 i ≠ -1) (hj : fs_ct2 E 31 j ≠ -1) : fs_rp (fs_sw2 E i j) 31 0 ∧ fs_rz (fs_sw2 E i j) 31 0 := by
  obtain ⟨a1, a2, a3, a4, a5, a6⟩ := fs_in_row hp hz i0 i1 hi
  obtain ⟨b1, b2, b3, b4, b5, b6⟩ := fs_in_row hp hz j0 j1 hj
  have so : ∀ o k, o < 33 ∨ 35 < o → o ≠ 241 → fs_sw2 E i j o k = E o k := fun o k q1 q2 => fs_sw2_o i0 i1 j0 j1 q1 q2
  obtain ⟨p1, p2, p3⟩ := hp
  refine ⟨⟨?_, ?_, fun d d0 d1 => ?_⟩, fun d d0 d1 d2 => ?_⟩
  · rw [so 31 2 (by decide) (by decide), so 243 0 (by decide) (by decide)]
    exact p1
  · rw [so 31 3 (by decide) (by decide), so 244 0 (by decide) (by decide)]
    exact p2
  · rw [so 1 9 (by decide) (by decide)] at d1
    obtain ⟨x1, x2, x3, x4⟩ := p3 d d0 d1
    rw [so (31 + 5) d (by decide) (by decide), so 242 _ (by decide) (by decide), so 1 5 (by decide) (by decide)]
    refine ⟨x1, x2, x3, fun k k0 k1 => ?_⟩
    obtain ⟨y1, y2, y3⟩ := x4 k k0 k1
    have e1 : fs_sw2 E i j (31 + 2 + d) k = if 9 * d + k = j then fs_pv E i else if 9 * d + k = i then fs_pv E j else E (31 + 2 + d) k := by
      unfold fs_sw2
      rw [if_neg (by omega), fs_sw_at i0 i1 j0 j1, if_pos (by omega), show 9 * (31 + 2 + d - 33) + k = 9 * d + k by omega]
    have e2 : fs_sw2 E i j 241 (27 * 0 + 9 * d + k) = if 9 * d + k = j then E 241 i else if 9 * d + k = i then E 241 j else E 241 (9 * d + k) := by
      unfold fs_sw2
      rw [if_pos rfl, show 27 * 0 + 9 * d + k = 9 * d + k by omega]
    rw [show 27 * 0 + 9 * d + k = 9 * d + k by omega] at y1
    rw [e1, e2]
    split
    · exact ⟨a4, a5, a6⟩
    · split
      · exact ⟨b4, b5, b6⟩
      · exact ⟨y1, y2, y3⟩
  · rw [so 1 9 (by decide) (by decide)] at d1
    rw [so (31 + 5) d (by decide) (by decide), so 242 _ (by decide) (by decide)]
    exact hz d d0 d1 d2
-- the best exchange
def fs_xu (E : fs_M) (i j : Int) : Prop := fs_ct2 E 31 i = -1 ∨ fs_ct2 E 31 j = -1 ∨ fs_ct2 E 31 i = fs_ct2 E 31 j
def fs_xf (E : fs_M) (i j : Int) (B : Int × Int × Int) : Int × Int × Int := if fs_ct2 E 31 i = -1 then B else if fs_ct2 E 31 j = -1 then B else if fs_ct2 E 31 i = fs_ct2 E 31 j then B else if fs_vGain (fs_sw2 E i j) ≤ B.1 then B else (fs_vGain (fs_sw2 E i j), i, j)
def fs_xj (E : fs_M) (i : Int) : Nat → Int → Int × Int × Int → Int × Int × Int
  | 0, _, B => B
  | n + 1, j, B => fs_xj E i n (j + 1) (fs_xf E i j B)
def fs_xi (E : fs_M) : Nat → Int → Int × Int × Int → Int × Int × Int
  | 0, _, B => B
  | n + 1, i, B => fs_xi E n (i + 1) (fs_xj E i (26 - i).toNat (i + 1) B)
def fs_xb (E : fs_M) : Int × Int × Int := fs_xi E 27 0 (fs_vGain E, -1, -1)
theorem fs_xf_n {E : fs_M} {i j : Int} {B : Int × Int × Int} (h : fs_xu E i j) : fs_xf E i j B = B := by
  unfold fs_xu at h
  unfold fs_xf
  by_cases a : fs_ct2 E 31 i = -1
  · rw [if_pos a]
  · by_cases b : fs_ct2 E 31 j = -1
    · rw [if_neg a, if_pos b]
    · rw [if_neg a, if_neg b, if_pos (by omega)]
theorem fs_xf_y {E : fs_M} {i j : Int} {B : Int × Int × Int} (h : ¬ fs_xu E i j) : fs_xf E i j B = if fs_vGain (fs_sw2 E i j) ≤ B.1 then B else (fs_vGain (fs_sw2 E i j), i, j) := by
  unfold fs_xu at h
  unfold fs_xf
  rw [if_neg (by omega), if_neg (by omega), if_neg (by omega)]
theorem fs_xj_0 {E : fs_M} {i : Int} (h : fs_ct2 E 31 i = -1) : ∀ (n : Nat) (j : Int) (B : Int × Int × Int), fs_xj E i n j B = B
  | 0, _, _ => rfl
  | n + 1, j, B => by
    show fs_xj E i n (j + 1) (fs_xf E i j B) = B
    rw [fs_xf_n (Or.inl h)]
    exact fs_xj_0 h n (j + 1) B
theorem fs_xb_ind {E : fs_M} (P : Int × Int × Int → Prop) (h0 : P (fs_vGain E, -1, -1)) (hs : ∀ i j B, 0 ≤ i → i < 27 → 0 ≤ j → j < 27 → P B → P (fs_xf E i j B)) : P (fs_xb E) := by
  have inner : ∀ (i : Int), 0 ≤ i → i < 27 → ∀ (n : Nat) (j : Int) (B : Int × Int × Int), 0 ≤ j → j + n ≤ 27 → P B → P (fs_xj E i n j B) := by
    intro i i0 i1 n
    induction n with
    | zero => intro j B _ _ h; exact h
    | succ n ih => intro j B j0 j1 h; exact ih (j + 1) _ (by omega) (by omega) (hs i j B i0 i1 j0 (by omega) h)
  have outer : ∀ (n : Nat) (i : Int) (B : Int × Int × Int), 0 ≤ i → i + n ≤ 27 → P B → P (fs_xi E n i B) := by
    intro n
    induction n with
    | zero => intro i B _ _ h; exact h
    | succ n ih => intro i B i0 i1 h; exact ih (i + 1) _ (by omega) (by omega) (inner i i0 (by omega) _ _ B (by omega) (by omega) h)
  exact outer 27 0 _ (by decide) (by decide) h0
theorem fs_vGain_b {E : fs_M} (hB : fs_bE E) : 0 ≤ fs_vGain E ∧ fs_vGain E ≤ 594 := by
  have h5 := hB.1
  have h6 := hB.2.1
  have h := fs_gain_b (S := (fs_Xm E 240).2) (hv := E 31 2) hB (E 1 5).toNat (by omega)
  unfold fs_vGain
  omega
/-- the best is none, or an exchange that brings more -/
theorem fs_xb_is {E : fs_M} : ((fs_xb E).1 = fs_vGain E ∧ (fs_xb E).2.1 = -1) ∨ (fs_vGain E < (fs_xb E).1 ∧ 0 ≤ (fs_xb E).2.1 ∧ (fs_xb E).2.1 < 27 ∧ 0 ≤ (fs_xb E).2.2 ∧ (fs_xb E).2.2 < 27 ∧ fs_ct2 E 31 (fs_xb E).2.1 ≠ -1 ∧ fs_ct2 E 31 (fs_xb E).2.2 ≠ -1 ∧ (fs_xb E).1 = fs_vGain (fs_sw2 E (fs_xb E).2.1 (fs_xb E).2.2)) := by
  refine fs_xb_ind (fun B => (B.1 = fs_vGain E ∧ B.2.1 = -1) ∨ (fs_vGain E < B.1 ∧ 0 ≤ B.2.1 ∧ B.2.1 < 27 ∧ 0 ≤ B.2.2 ∧ B.2.2 < 27 ∧ fs_ct2 E 31 B.2.1 ≠ -1 ∧ fs_ct2 E 31 B.2.2 ≠ -1 ∧ B.1 = fs_vGain (fs_sw2 E B.2.1 B.2.2))) (Or.inl ⟨rfl, rfl⟩) (fun i j B i0 i1 j0 j1 h => ?_)
  by_cases u : fs_xu E i j
  · rw [fs_xf_n u]
    exact h
  · rw [fs_xf_y u]
    unfold fs_xu at u
    by_cases c : fs_vGain (fs_sw2 E i j) ≤ B.1
    · rw [if_pos c]
      exact h
    · rw [if_neg c]
      refine Or.inr ⟨?_, i0, i1, j0, j1, fun q => u (Or.inl q), fun q => u (Or.inr (Or.inl q)), rfl⟩
      show fs_vGain E < fs_vGain (fs_sw2 E i j)
      rcases h with h | h
      · omega
      · omega
def fs_FX (o k : Int) : Prop := fs_F5 o k ∨ (o = 0 ∧ 14 ≤ k ∧ k ≤ 16)
theorem fs_FX_C {E M M' : fs_M} (h : fs_envC E M) (ho : fs_out fs_FX M M') : fs_envC E M' := fun o k q => by
  rw [ho o k (by unfold fs_FX fs_F5 fs_F2; unfold fs_eC at q; omega)]
  exact h o k q
theorem fs_ct2_cong {E M : fs_M} {i : Int} (h : ∀ o k, 31 ≤ o → o ≤ 36 → M o k = E o k) (i0 : 0 ≤ i) (i1 : i < 27) : fs_ct2 M 31 i = fs_ct2 E 31 i := by
  unfold fs_ct2
  rw [h (31 + 5) _ (by decide) (by decide), h (31 + 2 + i / 9) _ (by omega) (by omega)]
section EXCH
variable {g : fs_G}
theorem sp_courseE {E M : fs_M} {K : fs_K} (hB : fs_bE E) (hp : fs_rp E 31 0) (hE : fs_envC E M) (hK : ∀ M', fs_out fs_F5 M M' → fs_cR E M' 31 (-1) (fs_Xm E 240) → K none M') : fs_C2 g m_Course_run 7 [fs_r 43, fs_r 31, fs_i (-1)] M K := by
  have er : fs_rows E M 31 = fs_rows E E 31 := by
    funext d
    unfold fs_rows
    by_cases c : 0 ≤ d ∧ d < E 1 9
    · have h3 := hB.2.2.2.1
      rw [if_pos c, if_pos c, hE (31 + 5) d (by omega)]
      exact fs_lst_cong (fun k _ _ => hE _ _ (by omega))
    · rw [if_neg c, if_neg c]
  have bp : fs_bP E M 31 := fun d d0 d1 => by
    have h3 := hB.2.2.2.1
    obtain ⟨x1, x2, x3⟩ := hp.bP d d0 d1
    rw [hE (31 + 5) d (by omega)]
    refine ⟨x1, x2, fun k k0 k1 => ?_⟩
    rw [hE (31 + 2 + d) k (by omega)]
    exact x3 k k0 k1
  refine sp_run hB fs_pl31 hE.env bp (fun M' o r => hK M' o ?_)
  rw [er, hE 31 2 (by omega), hE 31 3 (by omega)] at r
  exact r
theorem sp_findExchange {E M : fs_M} {K : fs_K} (hB : fs_bE E) (hp : fs_rp E 31 0) (hz : fs_rz E 31 0) (hE : fs_envC E M)
    (hK : ∀ M', fs_out fs_FX M M' → M' 0 14 = (fs_xb E).1 → M' 0 15 = (fs_xb E).2.1 → M' 0 16 = (fs_xb E).2.2 → K none M') : fs_C2 g m_Fs_findExchange 8 [fs_r 0] M K := by
  have h3 := hB.2.2.2.1
  refine E_Fs_findExchange (sp_courseE hB hp hE (fun M1 o1 r1 => ⟨rfl, ?_⟩))
  have e31 : M1 31 2 = E 31 2 := by rw [o1 31 2 (by unfold fs_F5 fs_F2; omega), hE 31 2 (by omega)]
  rw [e31]
  refine sp_gained (S := (fs_Xm E 240).2) hB r1.1 r1.2.2.2.2.1 (fun h _ _ => by have := fs_Xm_7 hB hp (m := 240) (by decide) h; omega) ⟨_, rfl, ?_⟩
  have outer : ∀ (n : Nat) (i : Int) (B : Int × Int × Int) (M2 : fs_M), 0 ≤ i → i ≤ 27 → 27 - i = n → fs_out fs_FX M M2 → M2 0 14 = B.1 → M2 0 15 = B.2.1 → M2 0 16 = B.2.2 → fs_xi E n i B = fs_xb E → fs_A2 g m_Fs_findExchange 8 42 [(0, fs_r 0), (1, fs_i i)] [] M2 K := by
    intro n
    induction n with
    | zero =>
      intro i B M2 i0 i1 hn o2 a b c hx
      have hx2 : B = fs_xb E := hx
      rw [hx2] at a b c
      exact L_Fs_findExchange_42 ⟨fun _ => hK M2 o2 a b c, fun z => absurd z (by omega)⟩
    | succ n ih =>
      intro i B M2 i0 i1 hn o2 a b c hx
      refine L_Fs_findExchange_42 ⟨fun z => absurd z (by omega), fun _ => ?_⟩
      rw [fs_w32_of (by omega) (by omega)]
      have inner : ∀ (n2 : Nat) (j : Int) (B2 : Int × Int × Int) (M3 : fs_M), 0 ≤ j → j ≤ 27 → 27 - j = n2 → fs_out fs_FX M M3 → M3 0 14 = B2.1 → M3 0 15 = B2.2.1 → M3 0 16 = B2.2.2 → fs_xj E i n2 j B2 = fs_xj E i (26 - i).toNat (i + 1) B → fs_A2 g m_Fs_findExchange 8 52 [(0, fs_r 0), (1, fs_i i), (2, fs_i j)] [] M3 K := by
        intro n2
        induction n2 with
        | zero =>
          intro j B2 M3 j0 j1 hn2 o3 a b c hj
          refine L_Fs_findExchange_52 ⟨fun _ => ?_, fun z => absurd z (by omega)⟩
          rw [fs_w32_of (by omega) (by omega)]
          have hB2 : B2 = fs_xj E i (26 - i).toNat (i + 1) B := hj
          refine ih (i + 1) B2 M3 (by omega) (by omega) (by omega) o3 a b c ?_
          rw [hB2]
          exact hx
        | succ n2 ih2 =>
          intro j B2 M3 j0 j1 hn2 o3 a b c hj
          have E3 := fs_FX_C hE o3
          have hj2 : fs_xj E i n2 (j + 1) (fs_xf E i j B2) = fs_xj E i (26 - i).toNat (i + 1) B := hj
          have ci : fs_ct2 M3 31 i = fs_ct2 E 31 i := fs_ct2_cong (fun o k q w => E3 o k (Or.inr ⟨q, w⟩)) i0 (by omega)
          have cj : fs_ct2 M3 31 j = fs_ct2 E 31 j := fs_ct2_cong (fun o k q w => E3 o k (Or.inr ⟨q, w⟩)) j0 (by omega)
          have wj : fs_w32 (j + 1) = j + 1 := fs_w32_of (by omega) (by omega)
          refine L_Fs_findExchange_52 ⟨fun z => absurd z (by omega), fun _ => ?_⟩
          rw [wj]
          refine sp_areUnlike io_31 i0 (by omega) j0 (by omega) (fun u => ⟨0, rfl, fun _ => ?_, fun w => absurd rfl w⟩) (fun u => ⟨1, rfl, fun w => absurd w (by decide), fun _ => sp_swap io_31 i0 (by omega) j0 (by omega) ⟨rfl, ?_⟩⟩)
          · rw [ci, cj] at u
            rw [fs_xf_n u] at hj2
            exact ih2 (j + 1) B2 M3 (by omega) (by omega) (by omega) o3 a b c hj2
          · rw [ci, cj] at u
            have u' : ¬ fs_xu E i j := u
            rw [fs_xf_y u'] at hj2
            have ui : fs_ct2 E 31 i ≠ -1 := fun q => u (Or.inl q)
            have uj : fs_ct2 E 31 j ≠ -1 := fun q => u (Or.inr (Or.inl q))
            obtain ⟨hp', hz'⟩ := fs_rp_sw2 h3 hp hz i0 (by omega) j0 (by omega) ui uj
            have env' : fs_env E (fs_sw2 E i j) := fs_sw2_env i0 (by omega) j0 (by omega)
            have hB' := env'.bE hB
            have E4 : fs_envC (fs_sw2 E i j) (fs_sw M3 31 i j) := fun o k q => by
              have q2 : o ≠ 241 := by unfold fs_eC at q; omega
              unfold fs_sw2
              rw [if_neg q2, fs_sw_at i0 (by omega) j0 (by omega), fs_sw_at i0 (by omega) j0 (by omega)]
              have pvi : fs_pv M3 i = fs_pv E i := E3 _ _ (by omega)
              have pvj : fs_pv M3 j = fs_pv E j := E3 _ _ (by omega)
              rw [pvi, pvj, E3 o k q]
            refine sp_courseE hB' hp' E4 (fun M5 o5 r5 => ⟨rfl, sp_swap io_31 i0 (by omega) j0 (by omega) ⟨rfl, ?_⟩⟩)
            have back : ∀ o k, 33 ≤ o → o ≤ 35 → fs_sw M5 31 i j o k = M3 o k := fun o k q w => fs_sw_back i0 (by omega) j0 (by omega) (fun o k q w => o5 o k (by unfold fs_F5 fs_F2; omega)) q w
            have oth : ∀ o k, o < 33 ∨ 35 < o → fs_sw M5 31 i j o k = M5 o k := fun o k q => fs_sw_o (by omega) i0 (by omega) j0 (by omega)
            have oth4 : ∀ o k, o < 33 ∨ 35 < o → fs_sw M3 31 i j o k = M3 o k := fun o k q => fs_sw_o (by omega) i0 (by omega) j0 (by omega)
            have o6 : fs_out fs_FX M (fs_sw M5 31 i j) := fun o k nF => by
              by_cases q : 33 ≤ o ∧ o ≤ 35
              · rw [back o k q.1 q.2]
                exact o3 o k nF
              · rw [oth o k (by omega), o5 o k (fun z => nF (Or.inl z)), oth4 o k (by omega)]
                exact o3 o k nF
            have e6 : fs_sw M5 31 i j 31 2 = fs_sw2 E i j 31 2 := by
              rw [oth 31 2 (by decide), o5 31 2 (by unfold fs_F5 fs_F2; omega)]
              exact E4 31 2 (by omega)
            have env6 : fs_env (fs_sw2 E i j) (fs_sw M5 31 i j) := fun o k q => by
              rw [oth o k (by unfold fs_eC at q; omega)]
              exact r5.1 o k q
            have f0 : ∀ k, 14 ≤ k → k ≤ 16 → fs_sw M5 31 i j 0 k = M3 0 k := fun k _ _ => by
              rw [oth 0 k (by decide), o5 0 k (by unfold fs_F5 fs_F2; omega), oth4 0 k (by decide)]
            have s6 : ∀ h, 0 ≤ h → h < fs_sw2 E i j 1 5 → fs_sw M5 31 i j 49 h = (fs_Xm (fs_sw2 E i j) 240).2 7 h ∧ fs_sw M5 31 i j 50 h = (fs_Xm (fs_sw2 E i j) 240).2 8 h := fun h a b => by
              rw [oth 49 h (by decide), oth 50 h (by decide)]
              exact r5.2.2.2.2.1 h a b
            have t6 : ∀ h, 0 ≤ h → h < fs_sw2 E i j 1 5 → -3 ≤ (fs_Xm (fs_sw2 E i j) 240).2 7 h := fun h _ _ => by have := fs_Xm_7 hB' hp' (m := 240) (by decide) h; omega
            rw [e6]
            refine sp_gained hB' env6 s6 t6 ⟨_, rfl, fun le => ?_, fun gt => ?_⟩
            · rw [f0 14 (by decide) (by decide), a] at le
              have le2 : fs_vGain (fs_sw2 E i j) ≤ B2.1 := le
              rw [if_pos le2] at hj2
              exact ih2 (j + 1) B2 _ (by omega) (by omega) (by omega) o6 (by rw [f0 14 (by decide) (by decide), a]) (by rw [f0 15 (by decide) (by decide), b]) (by rw [f0 16 (by decide) (by decide), c]) hj2
            · rw [f0 14 (by decide) (by decide), a] at gt
              have gt2 : ¬ fs_vGain (fs_sw2 E i j) ≤ B2.1 := gt
              rw [if_neg gt2] at hj2
              rw [e6]
              refine sp_gained hB' env6 s6 t6 ⟨_, rfl, ?_⟩
              refine ih2 (j + 1) _ _ (by omega) (by omega) (by omega) (((o6.st ?_).st ?_).st ?_) ?_ ?_ ?_ hj2
              · exact Or.inr ⟨rfl, by decide, by decide⟩
              · exact Or.inr ⟨rfl, by decide, by decide⟩
              · exact Or.inr ⟨rfl, by decide, by decide⟩
              · rw [fs_st_k (by decide), fs_st_k (by decide), fs_st_s]
                rfl
              · rw [fs_st_k (by decide), fs_st_s]
              · rw [fs_st_s]
      exact inner (26 - i).toNat (i + 1) B M2 (by omega) (by omega) (by omega) o2 a b c rfl
  refine outer 27 0 (fs_vGain E, -1, -1) _ (by decide) (by decide) (by decide) (fs_out.st (fs_out.st (fs_out.st (o1.wk (fun _ _ q => Or.inl q)) ?_) ?_) ?_) ?_ ?_ ?_ rfl
  · exact Or.inr ⟨rfl, by decide, by decide⟩
  · exact Or.inr ⟨rfl, by decide, by decide⟩
  · exact Or.inr ⟨rfl, by decide, by decide⟩
  · rw [fs_st_k (by decide), fs_st_k (by decide), fs_st_s]
    rfl
  · rw [fs_st_k (by decide), fs_st_s]
  · rw [fs_st_s]
end EXCH
