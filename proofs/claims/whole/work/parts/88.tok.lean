-- ===== the token at a place: what holds of it; the model's token() =====
theorem fs_scan_all {P : Int → Bool} {T : Int → Int} {E : Int} : ∀ (n : Nat) (i x : Int), i ≤ x → x < fs_scan P T E n i → P (T x) = true
  | 0, i, x, h1, h2 => by
    have e : fs_scan P T E 0 i = i := rfl
    omega
  | n + 1, i, x, h1, h2 => by
    by_cases c : i < E ∧ P (T i) = true
    · rw [fs_scan_y c.1 c.2] at h2
      by_cases d : x = i
      · rw [d]
        exact c.2
      · exact fs_scan_all n (i + 1) x (by omega) h2
    · rw [fs_scan_n c] at h2
      omega
theorem fs_scan_pos {P : Int → Bool} {T : Int → Int} {E p : Int} (h1 : p < E) (h2 : P (T p) = true) : p < fs_scan P T E (E - p).toNat p ∧ fs_scan P T E (E - p).toNat p ≤ E := by
  obtain ⟨n, hn⟩ : ∃ n, (E - p).toNat = n + 1 := ⟨(E - p).toNat - 1, by omega⟩
  rw [hn, fs_scan_y h1 h2]
  have b := fs_scan_b (P := P) (T := T) (E := E) n (p + 1) (by omega)
  omega
theorem fs_scan_cg {P : Int → Bool} {T T' : Int → Int} {E : Int} (h : ∀ i, 0 ≤ i → i < E → T' i = T i) : ∀ (n : Nat) (i : Int), 0 ≤ i → fs_scan P T' E n i = fs_scan P T E n i
  | 0, _, _ => rfl
  | n + 1, i, i0 => by
    have ih := fs_scan_cg (P := P) h n (i + 1) (by omega)
    unfold fs_scan
    by_cases c : i < E
    · rw [h i i0 c, ih]
    · rw [if_neg (fun z => c z.1), if_neg (fun z => c z.1)]
theorem fs_dnum_cg {T T' : Int → Int} {E : Int} (h : ∀ i, 0 ≤ i → i < E → T' i = T i) : ∀ (n : Nat) (i a : Int), 0 ≤ i → fs_dnum T' E n i a = fs_dnum T E n i a
  | 0, _, _, _ => rfl
  | n + 1, i, a, i0 => by
    unfold fs_dnum
    by_cases c : i < E
    · rw [h i i0 c, fs_dnum_cg h n (i + 1) _ (by omega)]
    · rw [if_neg (fun z => c z.1), if_neg (fun z => c z.1)]
theorem fs_wcd_cg {T T' : Int → Int} {E p : Int} (h : ∀ i, 0 ≤ i → i < E → T' i = T i) : ∀ (n : Nat) (i a : Int), 0 ≤ i → fs_wcd T' E p n i a = fs_wcd T E p n i a
  | 0, _, _, _ => rfl
  | n + 1, i, a, i0 => by
    unfold fs_wcd
    by_cases c : i < E
    · rw [h i i0 c, fs_wcd_cg h n (i + 1) _ (by omega)]
    · rw [if_neg (fun z => c z.1), if_neg (fun z => c z.1)]
theorem fs_lxp_cg {T T' : Int → Int} {E i : Int} (h : ∀ i, 0 ≤ i → i < E → T' i = T i) (i0 : 0 ≤ i) : fs_lxp T' E i = fs_lxp T E i := fs_scan_cg h _ i i0
theorem fs_lxn_cg {T T' : Int → Int} {E i : Int} (h : ∀ i, 0 ≤ i → i < E → T' i = T i) (i0 : 0 ≤ i) : fs_lxn T' E i = fs_lxn T E i := fs_dnum_cg h _ i 0 i0
theorem fs_lxl_cg {T T' : Int → Int} {E i : Int} (h : ∀ i, 0 ≤ i → i < E → T' i = T i) (i0 : 0 ≤ i) : fs_lxl T' E i = fs_lxl T E i := fs_wcd_cg h _ i 0 i0
theorem fs_lxt_cg {T T' : Int → Int} {E p : Int} (h : ∀ i, 0 ≤ i → i < E → T' i = T i) (p0 : 0 ≤ p) : fs_lxt T' E p = fs_lxt T E p := by
  unfold fs_lxt
  by_cases c : E ≤ p
  · rw [if_pos c, if_pos c]
  · have e : (if E ≤ p + 1 then 0 else T' (p + 1)) = (if E ≤ p + 1 then 0 else T (p + 1)) := by
      by_cases d : E ≤ p + 1
      · rw [if_pos d, if_pos d]
      · rw [if_neg d, if_neg d, h (p + 1) (by omega) (by omega)]
    rw [if_neg c, if_neg c, fs_scan_cg h _ p p0, fs_wcd_cg h _ p 0 p0, h p p0 (by omega), e]
theorem fs_lxq_cg {T T' : Int → Int} {E p : Int} (h : ∀ i, 0 ≤ i → i < E → T' i = T i) (p0 : 0 ≤ p) : fs_lxq T' E p = fs_lxq T E p := by
  unfold fs_lxq
  by_cases c : E ≤ p
  · rw [if_pos c, if_pos c]
  · have e : (if E ≤ p + 1 then 0 else T' (p + 1)) = (if E ≤ p + 1 then 0 else T (p + 1)) := by
      by_cases d : E ≤ p + 1
      · rw [if_pos d, if_pos d]
      · rw [if_neg d, if_neg d, h (p + 1) (by omega) (by omega)]
    rw [if_neg c, if_neg c, fs_scan_cg h _ p p0, fs_scan_cg h _ p p0, h p p0 (by omega), e]
/-- the model's sort of a token, its value where it is a sign -/
def fs_ms (t : Int) : Int := if t = 1035 then 4 else if t = 1036 then 5 else if t = 1034 then 1 else if t = 1017 then 2 else if t ≤ 1020 then 0 else 3
def fs_msv (t : Int) : Int := if t = 1031 then 40 else if t = 1032 then 41 else if t = 1033 then 59 else fs_sgn t
theorem fs_wd_ms : ∀ i : Fin 20, fs_ms ((1000 + fs_wdT i.val : Nat) : Int) = 0 ∧ ((1000 + fs_wdT i.val : Nat) : Int) ≤ 1020 ∧ ((1000 + fs_wdT i.val : Nat) : Int) ≠ 1017 := by decide +kernel
theorem fs_lx_word {T : Int → Int} {E p q : Int} (p1 : p < E) (hl : fs_ilt (T p) = true) (hq : fs_scan fs_ilt T E (E - p).toNat p = q) : p < q ∧ q ≤ E ∧ (∀ x, p ≤ x → x < q → 97 ≤ T x ∧ T x ≤ 122) ∧ fs_lxt T E p = fs_wtk T p q ∧ fs_lxq T E p = q ∧ (q - p ≤ 6 → fs_lxl T E p = ((fs_cd (fs_ltr T p q) 6 : Nat) : Int)) ∧
    ((fs_ms (fs_lxt T E p) = 0 ∧ 1000 ≤ fs_lxt T E p ∧ fs_lxt T E p ≤ 1020 ∧ fs_lxt T E p ≠ 1017 ∧ 0 ≤ fs_wno (fs_lxt T E p)) ∨ (fs_lxt T E p = 1034 ∧ q - p ≤ 6) ∨ (fs_lxt T E p = 1036 ∧ ¬ q - p ≤ 6)) := by
  obtain ⟨b1, b2⟩ := fs_scan_pos (P := fs_ilt) p1 hl
  have al : ∀ x, p ≤ x → x < q → 97 ≤ T x ∧ T x ≤ 122 := fun x x0 x1 => by
    have y := fs_scan_all (P := fs_ilt) (T := T) (E := E) (E - p).toNat p x x0 (by rw [hq]; exact x1)
    exact of_decide_eq_true y
  have cd : q - p ≤ 6 → fs_wcd T E p (E - p).toNat p 0 = ((fs_cd (fs_ltr T p q) 6 : Nat) : Int) := fun h6 => by
    have w := fs_wcd_cd (E := E) h6 al (E - p).toNat 0 (by omega) (by
      have z : p + ((0 : Nat) : Int) = p := by omega
      rw [z]
      exact hq)
    have z : p + ((0 : Nat) : Int) = p := by omega
    have z2 : ((fs_cd (fs_ltr T p q) 0 * 2 ^ (5 * (6 - 0)) : Nat) : Int) = 0 := by
      have z3 : fs_cd (fs_ltr T p q) 0 = 0 := rfl
      rw [z3, Nat.zero_mul]
      rfl
    rw [z, z2] at w
    exact w
  have et : fs_lxt T E p = fs_wtk T p q := by
    unfold fs_lxt fs_wtk
    rw [if_neg (by omega), if_pos hl, hq]
    by_cases h6 : q - p ≤ 6
    · rw [if_pos h6, if_pos h6, cd h6]
    · rw [if_neg h6, if_neg h6]
  refine ⟨by omega, by omega, al, et, ?_, cd, ?_⟩
  · unfold fs_lxq
    rw [if_neg (by omega), if_pos hl]
    exact hq
  · rw [et]
    by_cases m : ∃ i, i < 20 ∧ fs_wmt T p q i
    · obtain ⟨i, hi, mi⟩ := m
      rw [fs_wtk_yes hi al (by omega) mi]
      obtain ⟨m1, m2, m3⟩ := fs_wd_ms ⟨i, hi⟩
      have n := fs_wd_no ⟨i, hi⟩
      have m1' : fs_ms ((1000 + fs_wdT i : Nat) : Int) = 0 := m1
      have m2' : ((1000 + fs_wdT i : Nat) : Int) ≤ 1020 := m2
      have m3' : ((1000 + fs_wdT i : Nat) : Int) ≠ 1017 := m3
      have n' : fs_wno ((1000 + fs_wdT i : Nat) : Int) = (i : Int) := n
      exact Or.inl ⟨m1', by omega, m2', m3', by rw [n']; omega⟩
    · rw [fs_wtk_no al (by omega) (fun i hi mi => m ⟨i, hi, mi⟩)]
      by_cases h6 : q - p ≤ 6
      · rw [if_pos h6]
        exact Or.inr (Or.inl ⟨rfl, h6⟩)
      · rw [if_neg h6]
        exact Or.inr (Or.inr ⟨rfl, h6⟩)
theorem fs_lx_num {T : Int → Int} {E p : Int} (p1 : p < E) (hl : fs_ilt (T p) = false) (hd : fs_idg (T p) = true) : fs_lxt T E p = 1017 ∧ fs_lxq T E p = fs_scan fs_idg T E (E - p).toNat p := by
  have hl2 : ¬ fs_ilt (T p) = true := by rw [hl]; exact Bool.false_ne_true
  have nE : ¬ E ≤ p := by omega
  unfold fs_lxt fs_lxq
  rw [if_neg nE, if_neg nE, if_neg hl2, if_neg hl2, if_pos hd, if_pos hd]
  exact ⟨rfl, rfl⟩
theorem fs_lx_sgn {T : Int → Int} {E p : Int} (p1 : p < E) (hl : fs_ilt (T p) = false) (hd : fs_idg (T p) = false) : fs_lxt T E p = fs_sgT (T p) (if E ≤ p + 1 then 0 else T (p + 1)) ∧ fs_lxq T E p = p + fs_sgB (T p) (if E ≤ p + 1 then 0 else T (p + 1)) := by
  have hl2 : ¬ fs_ilt (T p) = true := by rw [hl]; exact Bool.false_ne_true
  have hd2 : ¬ fs_idg (T p) = true := by rw [hd]; exact Bool.false_ne_true
  have nE : ¬ E ≤ p := by omega
  unfold fs_lxt fs_lxq
  rw [if_neg nE, if_neg nE, if_neg hl2, if_neg hl2, if_neg hd2, if_neg hd2]
  exact ⟨rfl, rfl⟩
theorem fs_sg_rel {c b d : Int} (h : d = b ∨ (b = 0 ∧ d = -1)) : fs_sgB c d = fs_sgB c b ∧ fs_sgS c = fs_ms (fs_sgT c b) ∧ (fs_ms (fs_sgT c b) = 3 → fs_sgV c d = fs_msv (fs_sgT c b)) ∧ 1021 ≤ fs_sgT c b ∧ fs_sgT c b ≤ 1036 ∧ fs_sgT c b ≠ 1034 ∧ fs_sgT c b ≠ 1035 ∧ (fs_sgB c b = 1 ∨ (fs_sgB c b = 2 ∧ b ≠ 0)) := by
  have h61 : (d = 61) = (b = 61) := propext ⟨fun z => by omega, fun z => by omega⟩
  have h62 : (d = 62) = (b = 62) := propext ⟨fun z => by omega, fun z => by omega⟩
  rcases (by omega : c = 60 ∨ c = 62 ∨ c = 61 ∨ c = 43 ∨ c = 45 ∨ c = 42 ∨ c = 47 ∨ c = 40 ∨ c = 41 ∨ c = 59 ∨ (c ≠ 60 ∧ c ≠ 62 ∧ c ≠ 61 ∧ c ≠ 43 ∧ c ≠ 45 ∧ c ≠ 42 ∧ c ≠ 47 ∧ c ≠ 40 ∧ c ≠ 41 ∧ c ≠ 59)) with rfl | rfl | rfl | rfl | rfl | rfl | rfl | rfl | rfl | rfl | ⟨n1, n2, n3, n4, n5, n6, n7, n8, n9, n10⟩
  · by_cases z : b = 61
    · simp [fs_sgB, fs_sgT, fs_sgS, fs_sgV, fs_ms, fs_msv, fs_sgn, h61, h62, z]
    · by_cases z2 : b = 62
      · simp [fs_sgB, fs_sgT, fs_sgS, fs_sgV, fs_ms, fs_msv, fs_sgn, h61, h62, z2]
      · simp [fs_sgB, fs_sgT, fs_sgS, fs_sgV, fs_ms, fs_msv, fs_sgn, h61, h62, z, z2]
  · by_cases z : b = 61
    · simp [fs_sgB, fs_sgT, fs_sgS, fs_sgV, fs_ms, fs_msv, fs_sgn, h61, h62, z]
    · simp [fs_sgB, fs_sgT, fs_sgS, fs_sgV, fs_ms, fs_msv, fs_sgn, h61, h62, z]
  all_goals simp [fs_sgB, fs_sgT, fs_sgS, fs_sgV, fs_ms, fs_msv, fs_sgn, *]
/-- what holds of the token at place p -/
theorem fs_lx_all {T : Int → Int} {E p : Int} (p1 : p ≤ E) : fs_tk (fs_lxt T E p) ∧ (fs_lxt T E p = 1035 ↔ E ≤ p) ∧ p ≤ fs_lxq T E p ∧ fs_lxq T E p ≤ E ∧ (p < E → p < fs_lxq T E p) := by
  by_cases c : E ≤ p
  · have e : fs_lxt T E p = 1035 := if_pos c
    have e2 : fs_lxq T E p = p := if_pos c
    rw [e, e2]
    exact ⟨⟨by omega, by omega⟩, ⟨fun _ => c, fun _ => rfl⟩, by omega, p1, fun z => absurd z (by omega)⟩
  · have lt : p < E := by omega
    by_cases hl : fs_ilt (T p) = true
    · obtain ⟨q, hq⟩ : ∃ q, fs_scan fs_ilt T E (E - p).toNat p = q := ⟨_, rfl⟩
      obtain ⟨a1, a2, _, _, a5, _, a7⟩ := fs_lx_word lt hl hq
      rw [a5]
      refine ⟨?_, ⟨fun z => ?_, fun z => absurd z c⟩, by omega, a2, fun _ => a1⟩
      · rcases a7 with z | z | z
        · exact ⟨by omega, by omega⟩
        · exact ⟨by omega, by omega⟩
        · exact ⟨by omega, by omega⟩
      · rcases a7 with y | y | y <;> omega
    · have hl2 : fs_ilt (T p) = false := Bool.eq_false_iff.mpr hl
      by_cases hd : fs_idg (T p) = true
      · obtain ⟨a, b⟩ := fs_lx_num lt hl2 hd
        have s := fs_scan_pos (P := fs_idg) lt hd
        rw [a, b]
        exact ⟨⟨by omega, by omega⟩, ⟨fun z => absurd z (by omega), fun z => absurd z c⟩, by omega, s.2, fun _ => s.1⟩
      · obtain ⟨a, b⟩ := fs_lx_sgn lt hl2 (Bool.eq_false_iff.mpr hd)
        obtain ⟨_, _, _, r4, r5, _, r7, r8⟩ := fs_sg_rel (c := T p) (b := if E ≤ p + 1 then 0 else T (p + 1)) (d := if E ≤ p + 1 then 0 else T (p + 1)) (Or.inl rfl)
        rw [a, b]
        refine ⟨⟨by omega, by omega⟩, ⟨fun z => absurd z r7, fun z => absurd z c⟩, by omega, ?_, fun _ => by omega⟩
        rcases r8 with y | ⟨y, y2⟩
        · omega
        · by_cases w : E ≤ p + 1
          · rw [if_pos w] at y2
            exact absurd rfl y2
          · omega
theorem fs_dnum_b {T : Int → Int} {E : Int} : ∀ (n : Nat) (i a : Int), 0 ≤ a → a ≤ 100000 → 0 ≤ fs_dnum T E n i a ∧ fs_dnum T E n i a ≤ 100000
  | 0, _, _, a0, a1 => ⟨a0, a1⟩
  | n + 1, i, a, a0, a1 => by
    by_cases c : i < E ∧ fs_idg (T i) = true
    · have d := of_decide_eq_true c.2
      have e : fs_dnum T E (n + 1) i a = fs_dnum T E n (i + 1) (min (a * 10 + T i - 48) 100000) := if_pos c
      rw [e]
      exact fs_dnum_b n (i + 1) _ (by omega) (by omega)
    · rw [fs_dnum_n c]
      exact ⟨a0, a1⟩
theorem fs_lxn_b {T : Int → Int} {E p : Int} : 0 ≤ fs_lxn T E p ∧ fs_lxn T E p ≤ 100000 := fs_dnum_b _ _ _ (by omega) (by omega)
theorem fs_lxp_b {T : Int → Int} {E i : Int} (h : i ≤ E) : i ≤ fs_lxp T E i ∧ fs_lxp T E i ≤ E := fs_scan_b _ _ h
def fs_mv (v : Int) (T : Int → Int) (E p : Int) : Prop := (fs_lxt T E p = 1034 → v = fs_lxl T E p) ∧ (fs_lxt T E p = 1017 → min v 100000 = fs_lxn T E p ∧ 0 ≤ v) ∧ (fs_ms (fs_lxt T E p) = 0 → v = fs_wno (fs_lxt T E p)) ∧ (fs_ms (fs_lxt T E p) = 3 → v = fs_msv (fs_lxt T E p))
/-- the model stands at the token at place p -/
def fs_tM (M : fs_M) (T : Int → Int) (E p : Int) : Prop := M 226 20 = p ∧ M 226 19 = fs_lxq T E p ∧ M 226 21 = fs_ms (fs_lxt T E p) ∧ fs_mv (M 226 22) T E p
theorem fs_tM.cg {M : fs_M} {T T' : Int → Int} {E p : Int} (h : fs_tM M T' E p) (ha : ∀ i, 0 ≤ i → i < E → T' i = T i) (p0 : 0 ≤ p) : fs_tM M T E p := by
  unfold fs_tM fs_mv at h ⊢
  rw [fs_lxt_cg ha p0, fs_lxq_cg ha p0, fs_lxl_cg ha p0, fs_lxn_cg ha p0] at h
  exact h
