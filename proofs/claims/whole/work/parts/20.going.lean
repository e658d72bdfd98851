-- ===== going: all who come up to a minute, in their order =====
def fs_lst (f : Int → Int) : Nat → Int → List Int
  | 0, _ => []
  | n + 1, i => f i :: fs_lst f n (i + 1)
theorem fs_lst_len (f : Int → Int) : ∀ (n : Nat) (i : Int), (fs_lst f n i).length = n
  | 0, _ => rfl
  | n + 1, i => by
    show (fs_lst f n (i + 1)).length + 1 = n + 1
    rw [fs_lst_len f n (i + 1)]
theorem fs_lst_mem {f : Int → Int} {h : Int} : ∀ {n : Nat} {i : Int}, h ∈ fs_lst f n i → ∃ k, i ≤ k ∧ k < i + n ∧ f k = h
  | 0, _, q => absurd q (by intro z; cases z)
  | n + 1, i, q => by
    rcases List.mem_cons.1 q with rfl | q
    · exact ⟨i, by omega, by omega, rfl⟩
    · obtain ⟨k, a, b, c⟩ := fs_lst_mem q
      exact ⟨k, by omega, by omega, c⟩
theorem fs_lst_cong {f f2 : Int → Int} : ∀ {n : Nat} {i : Int}, (∀ k, i ≤ k → k < i + n → f k = f2 k) → fs_lst f n i = fs_lst f2 n i
  | 0, _, _ => rfl
  | n + 1, i, q => by
    show f i :: fs_lst f n (i + 1) = f2 i :: fs_lst f2 n (i + 1)
    rw [q i (by omega) (by omega), fs_lst_cong (fun k a b => q k (by omega) (by omega))]
def fs_who (S : fs_M) : Int := if S 0 0 ≤ S 0 1 then (if S 0 0 ≤ S 0 2 then 0 else 2) else (if S 0 1 ≤ S 0 2 then 1 else 2)
theorem fs_who3 (S : fs_M) : 0 ≤ fs_who S ∧ fs_who S < 3 := by
  unfold fs_who
  split
  · split <;> omega
  · split <;> omega
def fs_vok (E : fs_M) (tr d h : Int) (S : fs_M) : Int := fs_okN E tr (if S 7 h = -1 then 1 else 0) (S 0 d) (S 3 d) (S 4 d) h
def fs_stp (E : fs_M) (tr rf d h : Int) (r : List Int) (S : fs_M) : fs_M := fun c i =>
  if c = 7 then (if i = h then (if fs_vok E tr d h S = 0 then S 7 i else d) else S 7 i)
  else if c = 8 then (if i = h then (if fs_vok E tr d h S = 0 then S 8 i else S 0 d) else S 8 i)
  else if c = 9 then (if fs_vok E tr d h S = 0 then fs_or (S 9 i) (fs_shl 1 h) else S 9 i)
  else if c = 10 + d then (if i = S 1 d then S 0 d else S c i)
  else if i = d then
    (if c = 0 then fs_nx E tr r (E 3 h) (fs_vlv E tr rf (if S 7 h = -1 then 1 else 0) (S 0 d) (S 3 d) (S 4 d) h) (fs_vgl E tr rf (if S 7 h = -1 then 1 else 0) (S 0 d) (S 3 d) (S 4 d) h) (fs_vco E tr (if S 7 h = -1 then 1 else 0) (S 0 d) (S 3 d) (S 4 d) h)
    else if c = 1 then S 1 d + 1 else if c = 2 then E 3 h
    else if c = 3 then fs_vgl E tr rf (if S 7 h = -1 then 1 else 0) (S 0 d) (S 3 d) (S 4 d) h
    else if c = 4 then fs_vco E tr (if S 7 h = -1 then 1 else 0) (S 0 d) (S 3 d) (S 4 d) h
    else if c = 5 then fs_vlv E tr rf (if S 7 h = -1 then 1 else 0) (S 0 d) (S 3 d) (S 4 d) h
    else if c = 6 then S 6 d + fs_vok E tr d h S else S c i)
  else S c i
def fs_step (E : fs_M) (tr rf : Int) (X : (Int → List Int) × fs_M) : (Int → List Int) × fs_M := (fun i => if i = fs_who X.2 then (X.1 (fs_who X.2)).tail else X.1 i, fs_stp E tr rf (fs_who X.2) ((X.1 (fs_who X.2)).headD 0) (X.1 (fs_who X.2)).tail X.2)
def fs_go (E : fs_M) (tr rf m : Int) : Nat → (Int → List Int) × fs_M → (Int → List Int) × fs_M
  | 0, X => X
  | n + 1, X => if X.2 0 (fs_who X.2) ≤ m then fs_go E tr rf m n (fs_step E tr rf X) else X
def fs_tot (X : (Int → List Int) × fs_M) : Nat := (X.1 0).length + (X.1 1).length + (X.1 2).length
def fs_bE (E : fs_M) : Prop := 0 ≤ E 1 5 ∧ E 1 5 ≤ 6 ∧ 0 ≤ E 1 9 ∧ E 1 9 ≤ 3 ∧ (∀ h, 0 ≤ h → h < E 1 5 → 0 ≤ E 3 h ∧ E 3 h ≤ 99 ∧ 0 ≤ E 4 h ∧ E 4 h ≤ 99 ∧ 1 ≤ E 5 h ∧ E 5 h ≤ 240) ∧ (∀ d, 0 ≤ d → d < E 1 9 → 0 ≤ E 7 d ∧ E 7 d ≤ 99 ∧ 0 ≤ E 8 d ∧ E 8 d ≤ 9) ∧ ∀ k, 0 ≤ k → k < 4 → fs_lawC E k
def fs_rI1 (E : fs_M) (r : List Int) (S : fs_M) (d : Int) : Prop := (r = [] → S 0 d = 1000) ∧ (S 0 d = 1000 ∨ (1 ≤ S 0 d ∧ S 0 d ≤ 240)) ∧ 0 ≤ S 1 d ∧ S 1 d + r.length ≤ 9 ∧ 0 ≤ S 2 d ∧ S 2 d ≤ 99 ∧ 0 ≤ S 3 d ∧ S 3 d ≤ S 1 d ∧ 0 ≤ S 4 d ∧ S 4 d ≤ 9 ∧ 1 ≤ S 5 d ∧ S 5 d ≤ 300 ∧ 0 ≤ S 6 d ∧ S 6 d ≤ S 1 d ∧ ∀ h, h ∈ r → 0 ≤ h ∧ h < E 1 5
def fs_rI (E : fs_M) (X : (Int → List Int) × fs_M) : Prop := (∀ d, 0 ≤ d → d < E 1 9 → fs_rI1 E (X.1 d) X.2 d) ∧ ∀ d, 0 ≤ d → d < 3 → E 1 9 ≤ d → X.2 0 d = 1000 ∧ X.1 d = []
theorem fs_comes_b {E : fs_M} {tr h place leaves glass coal : Int} (h1 : 0 ≤ E 3 h) (h2 : E 3 h ≤ 99) (h3 : 0 ≤ place) (h4 : place ≤ 99) (h5 : 1 ≤ leaves) : fs_comes E tr h place leaves glass coal = 1000 ∨ (1 ≤ fs_comes E tr h place leaves glass coal ∧ fs_comes E tr h place leaves glass coal ≤ 240) := by
  have hw : 0 ≤ fs_wk E tr h place leaves glass coal := by
    unfold fs_wk
    exact (fs_walk_b (by split <;> omega) (by split <;> omega)).1
  unfold fs_comes
  split
  · exact Or.inr ⟨by omega, by omega⟩
  · exact Or.inl rfl
theorem fs_vlv_b {E : fs_M} {tr rf opn t glass coal h : Int} : t ≤ fs_vlv E tr rf opn t glass coal h ∧ fs_vlv E tr rf opn t glass coal h ≤ t + 60 := by
  have := fs_stay_b (E := E) (minute := t) (glass := glass) (left := coal) (worth := E 4 h)
  unfold fs_vlv
  split
  · omega
  · split <;> omega
theorem fs_vgl_b {E : fs_M} {tr rf opn t glass coal h : Int} : glass ≤ fs_vgl E tr rf opn t glass coal h ∧ fs_vgl E tr rf opn t glass coal h ≤ glass + 1 := by
  unfold fs_vgl
  split
  · omega
  · split <;> omega
theorem fs_vco_b {E : fs_M} {tr opn t glass coal h : Int} (h0 : 0 ≤ coal) : 0 ≤ fs_vco E tr opn t glass coal h ∧ fs_vco E tr opn t glass coal h ≤ coal := by
  unfold fs_vco
  split
  · omega
  · rename_i q
    split
    · omega
    · have : coal ≠ 0 := by
        intro z
        apply q
        unfold fs_okN
        split
        · rfl
        · rfl
      omega
/-- one who comes is one of them, and has somewhere to come to -/
theorem fs_rI.who {E : fs_M} {X : (Int → List Int) × fs_M} (hI : fs_rI E X) (h : X.2 0 (fs_who X.2) ≤ 240) : fs_who X.2 < E 1 9 ∧ ∃ hd tl, X.1 (fs_who X.2) = hd :: tl := by
  have hf := fs_who3 X.2
  have h9 : fs_who X.2 < E 1 9 := by
    by_cases c : fs_who X.2 < E 1 9
    · exact c
    · have := (hI.2 _ hf.1 hf.2 (by omega)).1
      omega
  refine ⟨h9, ?_⟩
  have hi := hI.1 _ hf.1 h9
  cases hr : X.1 (fs_who X.2) with
  | nil => have := hi.1 hr; omega
  | cons a b => exact ⟨a, b, rfl⟩
theorem fs_rI.step {E : fs_M} {tr rf : Int} {X : (Int → List Int) × fs_M} (hB : fs_bE E) (hI : fs_rI E X) (h : X.2 0 (fs_who X.2) ≤ 240) : fs_rI E (fs_step E tr rf X) := by
  obtain ⟨h9, hd, tl, hr⟩ := hI.who h
  have hf := fs_who3 X.2
  obtain ⟨B1, B2, B3, B4, B5, B6, B7⟩ := hB
  obtain ⟨R, S⟩ := X
  unfold fs_step
  dsimp only at hr h hf h9 ⊢
  rw [hr]
  generalize hdd : fs_who S = d at hr h hf h9 ⊢
  show fs_rI E (fun i => if i = d then tl else R i, fs_stp E tr rf d hd tl S)
  refine ⟨fun j j0 j1 => ?_, fun j j0 j1 j2 => ?_⟩
  · dsimp only
    by_cases c : j = d
    · subst c
      rw [if_pos rfl]
      have hi := hI.1 j j0 j1
      dsimp only at hi
      rw [hr] at hi
      obtain ⟨i1, i2, i3, i4, i5, i6, i7, i8, i9, i10, i11, i12, i13, i14, i15⟩ := hi
      rw [List.length_cons] at i4
      have hh := i15 hd List.mem_cons_self
      have hb := B5 hd hh.1 hh.2
      have lb := fs_vlv_b (E := E) (tr := tr) (rf := rf) (opn := if S 7 hd = -1 then 1 else 0) (t := S 0 j) (glass := S 3 j) (coal := S 4 j) (h := hd)
      have gb := fs_vgl_b (E := E) (tr := tr) (rf := rf) (opn := if S 7 hd = -1 then 1 else 0) (t := S 0 j) (glass := S 3 j) (coal := S 4 j) (h := hd)
      have cb := fs_vco_b (E := E) (tr := tr) (opn := if S 7 hd = -1 then 1 else 0) (t := S 0 j) (glass := S 3 j) (coal := S 4 j) (h := hd) i9
      have ob : fs_vok E tr j hd S = 0 ∨ fs_vok E tr j hd S = 1 := fs_okN01 _ _ _ _ _ _ _
      have e : ∀ c, c < 7 → fs_stp E tr rf j hd tl S c j = (if c = 0 then fs_nx E tr tl (E 3 hd) (fs_vlv E tr rf (if S 7 hd = -1 then 1 else 0) (S 0 j) (S 3 j) (S 4 j) hd) (fs_vgl E tr rf (if S 7 hd = -1 then 1 else 0) (S 0 j) (S 3 j) (S 4 j) hd) (fs_vco E tr (if S 7 hd = -1 then 1 else 0) (S 0 j) (S 3 j) (S 4 j) hd)
    else if c = 1 then S 1 j + 1 else if c = 2 then E 3 hd
    else if c = 3 then fs_vgl E tr rf (if S 7 hd = -1 then 1 else 0) (S 0 j) (S 3 j) (S 4 j) hd
    else if c = 4 then fs_vco E tr (if S 7 hd = -1 then 1 else 0) (S 0 j) (S 3 j) (S 4 j) hd
    else if c = 5 then fs_vlv E tr rf (if S 7 hd = -1 then 1 else 0) (S 0 j) (S 3 j) (S 4 j) hd
    else if c = 6 then S 6 j + fs_vok E tr j hd S else S c j) := by
        intro c hc
        unfold fs_stp
        rw [if_neg (by omega), if_neg (by omega), if_neg (by omega), if_neg (by omega), if_pos rfl]
      unfold fs_rI1
      rw [e 0 (by decide), e 1 (by decide), e 2 (by decide), e 3 (by decide), e 4 (by decide), e 5 (by decide), e 6 (by decide)]
      simp only [if_true, if_false, reduceIte, show ¬ (1 : Int) = 0 by decide, show ¬ (2 : Int) = 0 by decide, show ¬ (2 : Int) = 1 by decide, show ¬ (3 : Int) = 0 by decide, show ¬ (3 : Int) = 1 by decide, show ¬ (3 : Int) = 2 by decide, show ¬ (4 : Int) = 0 by decide, show ¬ (4 : Int) = 1 by decide, show ¬ (4 : Int) = 2 by decide, show ¬ (4 : Int) = 3 by decide, show ¬ (5 : Int) = 0 by decide, show ¬ (5 : Int) = 1 by decide, show ¬ (5 : Int) = 2 by decide, show ¬ (5 : Int) = 3 by decide, show ¬ (5 : Int) = 4 by decide, show ¬ (6 : Int) = 0 by decide, show ¬ (6 : Int) = 1 by decide, show ¬ (6 : Int) = 2 by decide, show ¬ (6 : Int) = 3 by decide, show ¬ (6 : Int) = 4 by decide, show ¬ (6 : Int) = 5 by decide]
      refine ⟨fun z => by rw [z]; rfl, ?_, by omega, by omega, by omega, by omega, by omega, by omega, by omega, by omega, by omega, by omega, by omega, by omega, fun h2 hm => i15 h2 (List.mem_cons_of_mem _ hm)⟩
      cases tl with
      | nil => exact Or.inl rfl
      | cons a b =>
        have ha := i15 a (List.mem_cons_of_mem _ List.mem_cons_self)
        have hb2 := B5 a ha.1 ha.2
        exact fs_comes_b (by omega) (by omega) (by omega) (by omega) (by omega)
    · rw [if_neg c]
      have e : ∀ c, c < 7 → fs_stp E tr rf d hd tl S c j = S c j := by
        intro c hc
        unfold fs_stp
        rw [if_neg (by omega), if_neg (by omega), if_neg (by omega), if_neg (by omega), if_neg (by omega)]
      unfold fs_rI1
      rw [e 0 (by decide), e 1 (by decide), e 2 (by decide), e 3 (by decide), e 4 (by decide), e 5 (by decide), e 6 (by decide)]
      exact hI.1 j j0 j1
  · have hj := hI.2 j j0 j1 j2
    dsimp only at hj ⊢
    have c : j ≠ d := by omega
    rw [if_neg c]
    refine ⟨?_, hj.2⟩
    unfold fs_stp
    rw [if_neg (by omega), if_neg (by omega), if_neg (by omega), if_neg (by omega), if_neg c]
    exact hj.1
theorem fs_tot_step {E : fs_M} {tr rf : Int} {X : (Int → List Int) × fs_M} (hI : fs_rI E X) (h : X.2 0 (fs_who X.2) ≤ 240) : fs_tot (fs_step E tr rf X) + 1 = fs_tot X := by
  obtain ⟨h9, hd, tl, hr⟩ := hI.who h
  have hf := fs_who3 X.2
  unfold fs_tot fs_step
  dsimp only
  rw [hr]
  have hl : (hd :: tl).length = tl.length + 1 := rfl
  rcases (by omega : fs_who X.2 = 0 ∨ fs_who X.2 = 1 ∨ fs_who X.2 = 2) with z | z | z
  · rw [z] at hr ⊢
    rw [hr, hl]
    simp
    omega
  · rw [z] at hr ⊢
    rw [hr, hl]
    simp
    omega
  · rw [z] at hr ⊢
    rw [hr, hl]
    simp
    omega
