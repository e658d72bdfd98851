-- ===== the model's words are the class's tokens with letters =====
/-- the words in the model's text: where each begins, how long it is, which of the class's tokens it is -/
def fs_wdl : List (Nat × Nat × Nat) := [(0, 5, 0), (6, 4, 1), (11, 4, 2), (16, 3, 3), (20, 2, 4), (23, 3, 5), (27, 4, 6), (32, 4, 7), (37, 3, 8), (41, 3, 9), (45, 2, 18), (48, 3, 19), (52, 3, 20), (56, 3, 10), (60, 5, 11), (66, 6, 12), (73, 2, 13), (76, 4, 14), (81, 5, 15), (87, 4, 16)]
def fs_wdS (i : Nat) : Nat := (fs_wdl.getD i (92, 0, 0)).1
def fs_wdL (i : Nat) : Nat := (fs_wdl.getD i (92, 0, 0)).2.1
def fs_wdT (i : Nat) : Nat := (fs_wdl.getD i (92, 0, 0)).2.2
/-- letter j of word i -/
def fs_wdc (i j : Nat) : Nat := if j < fs_wdL i then (fs_wch ((fs_wdS i + j : Nat) : Int) - 96).toNat else 0
theorem fs_wd_key : ∀ i : Fin 20, (∀ j : Fin 7, (j.val < fs_wdL i.val → 97 ≤ fs_wch ((fs_wdS i.val + j.val : Nat) : Int) ∧ fs_wch ((fs_wdS i.val + j.val : Nat) : Int) ≤ 122) ∧ (j.val = fs_wdL i.val → fs_wch ((fs_wdS i.val + j.val : Nat) : Int) = 32)) ∧ fs_wdL i.val ≤ 6 ∧ 1 ≤ fs_wdL i.val ∧ fs_wdS i.val + fs_wdL i.val < 92 ∧ fs_wdS (i.val + 1) = fs_wdS i.val + fs_wdL i.val + 1 ∧ ((fs_cd (fs_wdc i.val) 6 : Nat) : Int) = fs_lets ((1000 + fs_wdT i.val : Nat) : Int) ∧ fs_wdT i.val ≠ 34 ∧ fs_wdT i.val < 37 := by decide +kernel
theorem fs_wd_tok : ∀ j : Fin 37, fs_lets ((1000 + j.val : Nat) : Int) = 0 ∨ ∃ i : Fin 20, fs_wdT i.val = j.val := by decide +kernel
theorem fs_wd_inj : ∀ i : Fin 20, ∀ j : Fin 37, fs_lets ((1000 + j.val : Nat) : Int) = fs_lets ((1000 + fs_wdT i.val : Nat) : Int) → j.val = fs_wdT i.val := by decide +kernel
/-- the model's word for a token of the class (-1: none) -/
def fs_wno (t : Int) : Int := if t ≤ 1009 then t - 1000 else if t ≤ 1016 then t - 997 else if t = 1018 ∨ t = 1019 ∨ t = 1020 then t - 1008 else -1
theorem fs_wd_no : ∀ i : Fin 20, fs_wno ((1000 + fs_wdT i.val : Nat) : Int) = (i.val : Int) := by decide +kernel
theorem fs_cd_inj {l m : Nat → Nat} (hl : ∀ k, l k < 32) (hm : ∀ k, m k < 32) : ∀ n, fs_cd l n = fs_cd m n → ∀ j, j < n → l j = m j
  | 0, _, _, hj => absurd hj (Nat.not_lt_zero _)
  | n + 1, h, j, hj => by
    have e1 : fs_cd l (n + 1) = fs_cd l n * 32 + l n := rfl
    have e2 : fs_cd m (n + 1) = fs_cd m n * 32 + m n := rfl
    rw [e1, e2] at h
    have a := hl n
    have b := hm n
    by_cases c : j = n
    · rw [c]
      omega
    · exact fs_cd_inj hl hm n (by omega) j (by omega)
/-- word i stands from p to q -/
def fs_wmt (T : Int → Int) (p q : Int) (i : Nat) : Prop := q - p = (fs_wdL i : Int) ∧ ∀ j : Nat, j < fs_wdL i → T (p + j) = fs_wch ((fs_wdS i + j : Nat) : Int)
theorem fs_wdc_b {i : Nat} (hi : i < 20) (k : Nat) : fs_wdc i k < 32 := by
  obtain ⟨a, b, _⟩ := fs_wd_key ⟨i, hi⟩
  have b2 : fs_wdL i ≤ 6 := b
  unfold fs_wdc
  split
  · have c := (a ⟨k, by omega⟩).1 (by assumption)
    have c2 : 97 ≤ fs_wch ((fs_wdS i + k : Nat) : Int) ∧ fs_wch ((fs_wdS i + k : Nat) : Int) ≤ 122 := c
    omega
  · omega
theorem fs_wmt_code {T : Int → Int} {p q : Int} {i : Nat} (hi : i < 20) (hl : ∀ x, p ≤ x → x < q → 97 ≤ T x ∧ T x ≤ 122) (hp : p ≤ q) (h6 : q - p ≤ 6) : fs_wmt T p q i ↔ ((fs_cd (fs_ltr T p q) 6 : Nat) : Int) = fs_lets ((1000 + fs_wdT i : Nat) : Int) := by
  obtain ⟨a, b, _, _, _, c, _, _⟩ := fs_wd_key ⟨i, hi⟩
  have b2 : fs_wdL i ≤ 6 := b
  have c2 : ((fs_cd (fs_wdc i) 6 : Nat) : Int) = fs_lets ((1000 + fs_wdT i : Nat) : Int) := c
  have lb := fs_ltr_b hl
  constructor
  · intro ⟨m1, m2⟩
    rw [← c2]
    have e : fs_ltr T p q = fs_wdc i := by
      funext j
      unfold fs_ltr fs_wdc
      by_cases z : j < fs_wdL i
      · rw [if_pos z, if_pos (by omega), m2 j z]
      · rw [if_neg z, if_neg (by omega)]
    rw [e]
  · intro h
    rw [← c2] at h
    have d := fs_cd_inj lb (fs_wdc_b hi) 6 (by omega)
    have pos : ∀ j : Nat, j < fs_wdL i → 97 ≤ fs_wch ((fs_wdS i + j : Nat) : Int) := fun j hj => ((a ⟨j, by omega⟩).1 hj).1
    have len : q - p = (fs_wdL i : Int) := by
      obtain ⟨n, hn⟩ : ∃ n : Nat, q - p = (n : Int) := ⟨(q - p).toNat, by omega⟩
      rw [hn]
      by_cases z : n = fs_wdL i
      · rw [z]
      by_cases z2 : n < fs_wdL i
      · have e := d n (by omega)
        unfold fs_ltr fs_wdc at e
        rw [if_neg (by omega), if_pos z2] at e
        have := pos n z2
        omega
      · have e := d (fs_wdL i) (by omega)
        unfold fs_ltr fs_wdc at e
        rw [if_pos (by omega), if_neg (by omega)] at e
        have := (hl (p + (fs_wdL i : Int)) (by omega) (by omega)).1
        omega
    refine ⟨len, fun j hj => ?_⟩
    have e := d j (by omega)
    unfold fs_ltr fs_wdc at e
    rw [if_pos (by omega), if_pos hj] at e
    have := pos j hj
    have := (hl (p + (j : Int)) (by omega) (by omega)).1
    omega
theorem fs_tsr_no {code : Int} : ∀ (n : Nat) (i : Int), (∀ j, i ≤ j → j < i + n → fs_lets (1000 + j) = code → j = 34) → fs_tsr code n i = 1034
  | 0, _, _ => rfl
  | n + 1, i, h => by
    have e : fs_tsr code (n + 1) i = fs_tsr code n (i + 1) := if_neg (fun z => z.2 (h i (by omega) (by omega) z.1))
    rw [e]
    exact fs_tsr_no n (i + 1) (fun j a b => h j (by omega) (by omega))
theorem fs_tsr_yes {code : Int} : ∀ (n : Nat) (i k : Int), i ≤ k → k < i + n → k ≠ 34 → fs_lets (1000 + k) = code → (∀ j, i ≤ j → j < k → fs_lets (1000 + j) ≠ code) → fs_tsr code n i = 1000 + k := by
  intro n
  induction n with
  | zero =>
    intro i k h1 h2 h3 h4 h5
    exfalso
    clear h3 h4 h5
    omega
  | succ n ih =>
    intro i k h1 h2 h3 h4 h5
    by_cases c : i = k
    · have e : fs_tsr code (n + 1) i = 1000 + i := if_pos (by rw [c]; exact ⟨h4, h3⟩)
      rw [e, c]
    · have d : i + 1 ≤ k := by
        clear h4 h5
        omega
      have d2 : k < i + 1 + n := by
        clear h4 h5
        omega
      have e : fs_tsr code (n + 1) i = fs_tsr code n (i + 1) := if_neg (fun z => h5 i (Int.le_refl i) d z.1)
      rw [e]
      exact ih (i + 1) k d d2 h3 h4 (fun j a b => h5 j (Int.le_trans (Int.le_add_one (Int.le_refl i)) a) b)
/-- the token of the word from p to q -/
def fs_wtk (T : Int → Int) (p q : Int) : Int := if q - p ≤ 6 then fs_tsr ((fs_cd (fs_ltr T p q) 6 : Nat) : Int) 37 0 else 1036
theorem fs_wtk_yes {T : Int → Int} {p q : Int} {i : Nat} (hi : i < 20) (hl : ∀ x, p ≤ x → x < q → 97 ≤ T x ∧ T x ≤ 122) (hp : p ≤ q) (m : fs_wmt T p q i) : fs_wtk T p q = ((1000 + fs_wdT i : Nat) : Int) := by
  obtain ⟨_, b, _, _, _, _, t34, t37⟩ := fs_wd_key ⟨i, hi⟩
  have b2 : fs_wdL i ≤ 6 := b
  have t34' : fs_wdT i ≠ 34 := t34
  have t37' : fs_wdT i < 37 := t37
  have h6 : q - p ≤ 6 := by rw [m.1]; omega
  have e := (fs_wmt_code hi hl hp h6).mp m
  unfold fs_wtk
  rw [if_pos h6, e, fs_tsr_yes 37 0 (fs_wdT i : Int) (by omega) (by omega) (by omega) (by congr 1) (fun j j0 j1 z => ?_)]
  · omega
  · obtain ⟨n, hn⟩ : ∃ n : Nat, j = (n : Int) := ⟨j.toNat, by omega⟩
    subst hn
    have y := fs_wd_inj ⟨i, hi⟩ ⟨n, by omega⟩ (by
      show fs_lets ((1000 + n : Nat) : Int) = fs_lets ((1000 + fs_wdT i : Nat) : Int)
      rw [← z]
      congr 1)
    have y2 : n = fs_wdT i := y
    omega
theorem fs_wtk_no {T : Int → Int} {p q : Int} (hl : ∀ x, p ≤ x → x < q → 97 ≤ T x ∧ T x ≤ 122) (hp : p < q) (m : ∀ i, i < 20 → ¬ fs_wmt T p q i) : fs_wtk T p q = if q - p ≤ 6 then 1034 else 1036 := by
  unfold fs_wtk
  by_cases h6 : q - p ≤ 6
  · rw [if_pos h6, if_pos h6]
    refine fs_tsr_no 37 0 (fun j j0 j1 z => ?_)
    obtain ⟨n, hn⟩ : ∃ n : Nat, j = (n : Int) := ⟨j.toNat, by omega⟩
    subst hn
    have z2 : fs_lets ((1000 + n : Nat) : Int) = ((fs_cd (fs_ltr T p q) 6 : Nat) : Int) := by
      rw [← z]
      congr 1
    rcases fs_wd_tok ⟨n, by omega⟩ with y | ⟨i, y⟩
    · exfalso
      have y2 : fs_lets ((1000 + n : Nat) : Int) = 0 := y
      rw [y2] at z2
      have lb := fs_ltr_b hl
      have z3 : fs_cd (fs_ltr T p q) 6 = fs_cd (fun _ => 0) 6 := by
        have e0 : fs_cd (fun _ => 0) 6 = 0 := by decide
        omega
      have d := fs_cd_inj lb (fun _ => by omega) 6 z3 0 (by omega)
      unfold fs_ltr at d
      rw [if_pos (by omega)] at d
      have := (hl (p + ((0 : Nat) : Int)) (by omega) (by omega)).1
      omega
    · exfalso
      have y2 : fs_wdT i.val = n := y
      refine m i.val i.isLt ((fs_wmt_code i.isLt hl (by omega) h6).mpr ?_)
      rw [y2, z2]
  · rw [if_neg h6, if_neg h6]
section WORDM
variable {g : fs_G} {M : fs_M}
theorem sp_wordM {K : fs_K} {p q : Int} (h20 : M 226 20 = p) (h19 : M 226 19 = q) (p0 : 0 ≤ p) (p1 : p < q) (q1 : q ≤ 600) (hl : ∀ i, p ≤ i → i < q → 97 ≤ M 227 i ∧ M 227 i ≤ 122)
    (hK : K (some (fs_i (fs_wno (fs_wtk (M 227) p q)))) M) : fs_C2 g m_Mo_word 5 [fs_r 226] M K := by
  have lp : ∀ (n i : Nat), 20 - i = n → i ≤ 20 → (∀ j, j < i → ¬ fs_wmt (M 227) p q j) → fs_A2 g m_Mo_word 5 4 [(0, fs_r 226), (1, fs_i (i : Int)), (2, fs_i (fs_wdS i : Int))] [] M K := by
    intro n
    induction n with
    | zero =>
      intro i hn i20 no
      have i2 : i = 20 := by omega
      have s20 : fs_wdS 20 = 92 := rfl
      subst i2
      rw [s20]
      refine L_Mo_word_4 ⟨fun _ => ?_, fun z => absurd (by decide) z⟩
      have e := fs_wtk_no hl p1 no
      rw [e] at hK
      have e2 : fs_wno (if q - p ≤ 6 then 1034 else 1036) = -1 := by split <;> rfl
      rw [e2] at hK
      exact hK
    | succ n ih =>
      intro i hn i20 no
      obtain ⟨ka, kb, kc, kd, ke, kf, _, _⟩ := fs_wd_key ⟨i, by omega⟩
      have ka2 : ∀ j : Nat, j < fs_wdL i → 97 ≤ fs_wch ((fs_wdS i + j : Nat) : Int) := fun j hj => ((ka ⟨j, by have : fs_wdL i ≤ 6 := kb; omega⟩).1 hj).1
      have ka3 : fs_wch ((fs_wdS i + fs_wdL i : Nat) : Int) = 32 := (ka ⟨fs_wdL i, by have : fs_wdL i ≤ 6 := kb; omega⟩).2 rfl
      have kb2 : fs_wdL i ≤ 6 := kb
      have kd2 : fs_wdS i + fs_wdL i < 92 := kd
      have ke2 : fs_wdS (i + 1) = fs_wdS i + fs_wdL i + 1 := ke
      have skip : ¬ fs_wmt (M 227) p q i → ∀ (k j : Nat), fs_wdL i - j = k → j ≤ fs_wdL i → fs_A2 g m_Mo_word 5 97 [(0, fs_r 226), (1, fs_i (i : Int)), (2, fs_i ((fs_wdS i + j : Nat) : Int))] [] M K := by
        intro nm k
        induction k with
        | zero =>
          intro j hk hj
          have j2 : j = fs_wdL i := by omega
          subst j2
          refine L_Mo_word_97 ⟨by omega, by omega, fun _ => ?_, fun z => absurd ka3 z⟩
          rw [fs_wsucc (by omega), fs_wsucc (by omega)]
          have y := ih (i + 1) (by omega) (by omega) (fun m hm => if c : m = i then by rw [c]; exact nm else no m (by omega))
          rw [ke2] at y
          exact y
        | succ k ihk =>
          intro j hk hj
          refine L_Mo_word_97 ⟨by omega, by omega, fun z => ?_, fun _ => ?_⟩
          · have := ka2 j (by omega)
            omega
          · rw [fs_wsucc (by omega)]
            exact ihk (j + 1) (by omega) (by omega)
      have w2 : ∀ j : Nat, j ≤ 6 → fs_w32 ((fs_wdS i : Int) + (j : Int)) = ((fs_wdS i + j : Nat) : Int) := fun j hj => by
        rw [fs_w32_of (by omega) (by omega)]
        omega
      have w3 : ∀ j : Nat, j ≤ 6 → fs_w32 (p + (j : Int)) = p + j := fun j hj => fs_w32_of (by omega) (by omega)
      have out : ∀ j : Nat, j < fs_wdL i → ¬ fs_wmt (M 227) p q i → fs_A2 g m_Mo_word 5 69 [(0, fs_r 226), (1, fs_i (i : Int)), (2, fs_i (fs_wdS i : Int)), (3, fs_i (j : Int))] [] M K := fun j hj nm => by
        refine L_Mo_word_69 ?_
        rw [w2 j (by omega)]
        refine ⟨by omega, by omega, fun _ => skip nm _ 0 rfl (by omega), fun z => ?_⟩
        have := ka2 j hj
        omega
      have go : ∀ (k j : Nat), fs_wdL i - j = k → j ≤ fs_wdL i → (∀ m : Nat, m < j → M 227 (p + m) = fs_wch ((fs_wdS i + m : Nat) : Int)) → p + (j : Int) ≤ q → fs_A2 g m_Mo_word 5 15 [(0, fs_r 226), (1, fs_i (i : Int)), (2, fs_i (fs_wdS i : Int)), (3, fs_i (j : Int))] [] M K := by
        intro k
        induction k with
        | zero =>
          intro j hk hj hm hq
          have j2 : j = fs_wdL i := by omega
          subst j2
          refine L_Mo_word_15 ?_
          rw [w2 _ kb2, ka3]
          refine ⟨by omega, by omega, fun _ => L_Mo_word_69 ?_, fun z => absurd rfl z⟩
          rw [w2 _ kb2, ka3, h20, h19, w3 _ kb2]
          refine ⟨by omega, by omega, fun z => absurd rfl z, fun _ => ⟨fun z => ?_, fun z => ?_⟩⟩
          · exact skip (fun m => z (by have := m.1; omega)) _ 0 rfl (by omega)
          · have mt : fs_wmt (M 227) p q i := ⟨by omega, hm⟩
            rw [fs_wtk_yes (by omega) hl (by omega) mt] at hK
            have e := fs_wd_no ⟨i, by omega⟩
            have e2 : fs_wno ((1000 + fs_wdT i : Nat) : Int) = (i : Int) := e
            rw [e2] at hK
            exact hK
        | succ k ihk =>
          intro j hk hj hm hq
          refine L_Mo_word_15 ?_
          rw [w2 j (by omega), h20, h19, w3 j (by omega)]
          refine ⟨by omega, by omega, fun z => ?_, fun _ => ⟨fun z => ?_, fun z => ⟨by omega, by omega, fun z2 => ?_, fun z2 => ?_⟩⟩⟩
          · have := ka2 j (by omega)
            omega
          · exact out j (by omega) (fun m => by have := m.1; omega)
          · exact out j (by omega) (fun m => z2 (m.2 j (by omega)))
          · rw [fs_wsucc (by omega)]
            refine ihk (j + 1) (by omega) (by omega) (fun m mj => ?_) (by omega)
            by_cases c : m = j
            · rw [c]
              exact z2
            · exact hm m (by omega)
      refine L_Mo_word_4 ⟨fun z => absurd z (by omega), fun _ => ?_⟩
      exact go (fs_wdL i) 0 rfl (by omega) (fun m mj => absurd mj (Nat.not_lt_zero _)) (by omega)
  exact E_Mo_word (lp 20 0 rfl (by omega) (fun j hj => absurd hj (Nat.not_lt_zero _)))
end WORDM
