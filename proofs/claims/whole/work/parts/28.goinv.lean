-- ===== what holds all along a run =====
theorem fs_rI.go {E : fs_M} {tr rf m : Int} (hB : fs_bE E) (hm : m ≤ 240) : ∀ (n : Nat) (X : (Int → List Int) × fs_M), fs_rI E X → fs_rI E (fs_go E tr rf m n X) := by
  intro n
  induction n with
  | zero => intro X h; exact h
  | succ n ih =>
    intro X h
    unfold fs_go
    split
    · exact ih _ (h.step hB (by omega))
    · exact h
/-- a property that each visit keeps -/
theorem fs_go_ind {E : fs_M} {tr rf m : Int} (P : (Int → List Int) × fs_M → Prop) (hB : fs_bE E) (hm : m ≤ 240) (hs : ∀ X, fs_rI E X → P X → X.2 0 (fs_who X.2) ≤ m → P (fs_step E tr rf X)) : ∀ (n : Nat) (X : (Int → List Int) × fs_M), fs_rI E X → P X → P (fs_go E tr rf m n X) := by
  intro n
  induction n with
  | zero => intro X _ h; exact h
  | succ n ih =>
    intro X hI h
    unfold fs_go
    split
    · rename_i c
      exact ih _ (hI.step hB (by omega)) (hs X hI h c)
    · exact h
theorem fs_go_split {E : fs_M} {tr rf m : Int} (hm : m ≤ 240) : ∀ (n : Nat) (X : (Int → List Int) × fs_M), ∃ k, fs_go E tr rf 240 n X = fs_go E tr rf 240 k (fs_go E tr rf m n X) := by
  intro n
  induction n with
  | zero => intro X; exact ⟨0, rfl⟩
  | succ n ih =>
    intro X
    by_cases c : X.2 0 (fs_who X.2) ≤ m
    · obtain ⟨k, e⟩ := ih (fs_step E tr rf X)
      refine ⟨k, ?_⟩
      have a : fs_go E tr rf 240 (n + 1) X = fs_go E tr rf 240 n (fs_step E tr rf X) := by
        show (if _ then _ else _) = _
        rw [if_pos (by omega)]
      have b : fs_go E tr rf m (n + 1) X = fs_go E tr rf m n (fs_step E tr rf X) := by
        show (if _ then _ else _) = _
        rw [if_pos c]
      rw [a, b, e]
    · refine ⟨n + 1, ?_⟩
      have b : fs_go E tr rf m (n + 1) X = X := by
        show (if _ then _ else _) = _
        rw [if_neg c]
      rw [b]
theorem fs_who_min (S : fs_M) {j : Int} (h0 : 0 ≤ j) (h3 : j < 3) : S 0 (fs_who S) ≤ S 0 j := by
  unfold fs_who
  rcases (by omega : j = 0 ∨ j = 1 ∨ j = 2) with z | z | z <;> rw [z] <;> split <;> split <;> omega
/-- none comes after the minute: it stays so -/
theorem fs_tot0 {E : fs_M} {tr rf m : Int} (hB : fs_bE E) (hm : m ≤ 240) : ∀ (n : Nat) (X : (Int → List Int) × fs_M), fs_rI E X → fs_tot X ≤ n → m < (fs_go E tr rf m n X).2 0 (fs_who (fs_go E tr rf m n X).2) := by
  intro n
  induction n with
  | zero =>
    intro X hI ht
    show m < X.2 0 (fs_who X.2)
    by_cases c : X.2 0 (fs_who X.2) ≤ 240
    · have := fs_tot_step (tr := tr) (rf := rf) hI c
      omega
    · omega
  | succ n ih =>
    intro X hI ht
    unfold fs_go
    split
    · rename_i c
      have := fs_tot_step (tr := tr) (rf := rf) hI (by omega)
      exact ih _ (hI.step hB (by omega)) (by omega)
    · omega
/-- by whom: never less than -2 in a run -/
theorem fs_step_7 {E : fs_M} {tr rf lo : Int} {X : (Int → List Int) × fs_M} (h0 : lo ≤ 0) (h : ∀ i, lo ≤ X.2 7 i) : ∀ i, lo ≤ (fs_step E tr rf X).2 7 i := by
  intro i
  have hf := fs_who3 X.2
  have hi := h i
  show lo ≤ fs_stp E tr rf (fs_who X.2) ((X.1 (fs_who X.2)).headD 0) (X.1 (fs_who X.2)).tail X.2 7 i
  rw [fs_stp_7]
  split
  · split <;> omega
  · exact hi
theorem fs_or_lt : ∀ n : Fin 7, ∀ v : Fin 64, ∀ h : Fin 6, v.val < 2 ^ n.val → h.val < n.val → 0 ≤ fs_or (v.val : Int) (fs_shl 1 (h.val : Int)) ∧ fs_or (v.val : Int) (fs_shl 1 (h.val : Int)) < ((2 ^ n.val : Nat) : Int) := by decide +kernel
def fs_p2 (n : Int) : Int := ((2 ^ n.toNat : Nat) : Int)
theorem fs_p2_64 {n : Int} (h6 : n ≤ 6) : fs_p2 n ≤ 64 := by
  unfold fs_p2
  have : 2 ^ n.toNat ≤ 2 ^ 6 := Nat.pow_le_pow_right (by decide) (by omega)
  omega
theorem fs_or_p2 {n v h : Int} (h6 : n ≤ 6) (v0 : 0 ≤ v) (v1 : v < fs_p2 n) (h0 : 0 ≤ h) (hn : h < n) : 0 ≤ fs_or v (fs_shl 1 h) ∧ fs_or v (fs_shl 1 h) < fs_p2 n := by
  have h64 := fs_p2_64 h6
  have r := fs_or_lt ⟨n.toNat, by omega⟩ ⟨v.toNat, by omega⟩ ⟨h.toNat, by omega⟩ (by dsimp only; unfold fs_p2 at v1; omega) (by dsimp only; omega)
  dsimp only at r
  rw [show ((v.toNat : Nat) : Int) = v by omega, show ((h.toNat : Nat) : Int) = h by omega] at r
  exact r
def fs_col (p : Int → Int) : Nat → Int
  | 0 => 0
  | n + 1 => if p n = 1 then fs_or (fs_col p n) (fs_shl 1 n) else fs_col p n
theorem fs_p2_mono {a b : Int} (h : a ≤ b) : fs_p2 a ≤ fs_p2 b := by
  unfold fs_p2
  have : 2 ^ a.toNat ≤ 2 ^ b.toNat := Nat.pow_le_pow_right (by decide) (by omega)
  omega
theorem fs_col_b (p : Int → Int) : ∀ (n : Nat), n ≤ 6 → 0 ≤ fs_col p n ∧ fs_col p n < fs_p2 n
  | 0, _ => ⟨Int.le_refl 0, by show (0 : Int) < 1; decide⟩
  | n + 1, h => by
    have a := fs_col_b p n (by omega)
    have m := fs_p2_mono (a := (n : Int)) (b := ((n + 1 : Nat) : Int)) (by omega)
    unfold fs_col
    split
    · exact fs_or_p2 (by omega) a.1 (by omega) (by omega) (by omega)
    · exact ⟨a.1, by omega⟩
theorem fs_or_0 : ∀ v : Fin 64, fs_or (v.val : Int) 0 = (v.val : Int) := by decide +kernel
theorem fs_or_z {v : Int} (h0 : 0 ≤ v) (h1 : v < 64) : fs_or v 0 = v := by
  have r := fs_or_0 ⟨v.toNat, by omega⟩
  dsimp only at r
  rw [show ((v.toNat : Nat) : Int) = v by omega] at r
  exact r
theorem fs_col_id0 : ∀ n : Fin 7, ∀ v : Fin 64, v.val < 2 ^ n.val → fs_col (fs_bit (v.val : Int)) n.val = (v.val : Int) := by decide +kernel
theorem fs_col_id {n v : Int} (n0 : 0 ≤ n) (n6 : n ≤ 6) (v0 : 0 ≤ v) (v1 : v < fs_p2 n) : fs_col (fs_bit v) n.toNat = v := by
  have h64 := fs_p2_64 n6
  have r := fs_col_id0 ⟨n.toNat, by omega⟩ ⟨v.toNat, by omega⟩ (by dsimp only; unfold fs_p2 at v1; omega)
  dsimp only at r
  rw [show ((v.toNat : Nat) : Int) = v by omega] at r
  exact r
/-- who came in vain: bits of houses only -/
theorem fs_step_9 {E : fs_M} {tr rf m : Int} {X : (Int → List Int) × fs_M} (hB : fs_bE E) (hm : m ≤ 240) (hI : fs_rI E X) (hc : X.2 0 (fs_who X.2) ≤ m) (h : 0 ≤ X.2 9 0 ∧ X.2 9 0 < fs_p2 (E 1 5)) : 0 ≤ (fs_step E tr rf X).2 9 0 ∧ (fs_step E tr rf X).2 9 0 < fs_p2 (E 1 5) := by
  obtain ⟨h9, hd, tl, hX⟩ := hI.who (by omega)
  have hf := fs_who3 X.2
  have e : (fs_step E tr rf X).2 9 0 = fs_stp E tr rf (fs_who X.2) ((X.1 (fs_who X.2)).headD 0) (X.1 (fs_who X.2)).tail X.2 9 0 := rfl
  have hh := (hI.1 _ hf.1 h9).2.2.2.2.2.2.2.2.2.2.2.2.2.2 hd (by rw [hX]; exact List.mem_cons_self)
  rw [e, fs_stp_9, hX]
  show 0 ≤ (if fs_vok E tr (fs_who X.2) hd X.2 = 0 then fs_or (X.2 9 0) (fs_shl 1 hd) else X.2 9 0) ∧ (if fs_vok E tr (fs_who X.2) hd X.2 = 0 then fs_or (X.2 9 0) (fs_shl 1 hd) else X.2 9 0) < fs_p2 (E 1 5)
  split
  · exact fs_or_p2 hB.2.1 h.1 h.2 hh.1 hh.2
  · exact h
theorem fs_comes_gt {E : fs_M} {tr h place leaves glass coal t : Int} (h1 : 0 ≤ E 3 h) (h2 : E 3 h ≤ 99) (h3 : 0 ≤ place) (h4 : place ≤ 99) (ht : t ≤ 240) (h5 : t < leaves) : t < fs_comes E tr h place leaves glass coal := by
  have hw : 0 ≤ fs_wk E tr h place leaves glass coal := by
    unfold fs_wk
    exact (fs_walk_b (by split <;> omega) (by split <;> omega)).1
  unfold fs_comes
  split <;> omega
/-- the times of coming grow -/
theorem fs_step_0 {E : fs_M} {tr rf m t : Int} {X : (Int → List Int) × fs_M} (hB : fs_bE E) (hm : m ≤ 240) (ht : t ≤ 240) (hI : fs_rI E X) (hc : X.2 0 (fs_who X.2) ≤ m) (h : ∀ d, 0 ≤ d → d < 3 → t < X.2 0 d) : ∀ d, 0 ≤ d → d < 3 → t < (fs_step E tr rf X).2 0 d := by
  intro d d0 d3
  have hst := hI.step (tr := tr) (rf := rf) hB (by omega)
  obtain ⟨h9, hd, tl, hX⟩ := hI.who (by omega)
  have hf := fs_who3 X.2
  have e : (fs_step E tr rf X).2 0 d = fs_stp E tr rf (fs_who X.2) hd tl X.2 0 d := by
    show fs_stp E tr rf (fs_who X.2) ((X.1 (fs_who X.2)).headD 0) (X.1 (fs_who X.2)).tail X.2 0 d = _
    rw [hX]
    rfl
  rw [e]
  by_cases c : d = fs_who X.2
  · rw [c, fs_stp_d (by decide) (by decide) hf.1, if_pos rfl]
    have lb := fs_vlv_b (E := E) (tr := tr) (rf := rf) (opn := if X.2 7 hd = -1 then 1 else 0) (t := X.2 0 (fs_who X.2)) (glass := X.2 3 (fs_who X.2)) (coal := X.2 4 (fs_who X.2)) (h := hd)
    have hw := h _ hf.1 hf.2
    cases tl with
    | nil => show t < 1000; omega
    | cons x r =>
      have hx := (hI.1 _ hf.1 h9).2.2.2.2.2.2.2.2.2.2.2.2.2.2 x (by rw [hX]; exact List.mem_cons_of_mem _ List.mem_cons_self)
      have hh := (hI.1 _ hf.1 h9).2.2.2.2.2.2.2.2.2.2.2.2.2.2 hd (by rw [hX]; exact List.mem_cons_self)
      have hb := hB.2.2.2.2.1 x hx.1 hx.2
      have hb2 := hB.2.2.2.2.1 hd hh.1 hh.2
      exact fs_comes_gt (E := E) (by omega) (by omega) (by omega) (by omega) ht (by omega)
  · rw [fs_stp_n (by decide) hf.1 c]
    exact h d d0 d3
/-- when each came: at which place of the row up to a minute -/
theorem fs_came1 {E : fs_M} {tr rf m : Int} {X : (Int → List Int) × fs_M} (hI : fs_rI E X) (hm : m ≤ 240) (hc : X.2 0 (fs_who X.2) ≤ m) (lo : Int → Int) (Q : Int → Int → Prop) (hQ : ∀ d, 0 ≤ d → d < 3 → d = fs_who X.2 → Q d (X.2 0 d)) (h : ∀ d, 0 ≤ d → d < 3 → lo d ≤ X.2 1 d ∧ ∀ i, lo d ≤ i → i < X.2 1 d → Q d (X.2 (10 + d) i)) :
    ∀ d, 0 ≤ d → d < 3 → lo d ≤ (fs_step E tr rf X).2 1 d ∧ ∀ i, lo d ≤ i → i < (fs_step E tr rf X).2 1 d → Q d ((fs_step E tr rf X).2 (10 + d) i) := by
  intro d d0 d3
  have hf := fs_who3 X.2
  obtain ⟨a, b⟩ := h d d0 d3
  have e10 : ∀ i, (fs_step E tr rf X).2 (10 + d) i = (if d = fs_who X.2 ∧ i = X.2 1 (fs_who X.2) then X.2 0 (fs_who X.2) else X.2 (10 + d) i) := fun i => fs_stp_10 hf.1 d0
  by_cases c : d = fs_who X.2
  · have e1 : (fs_step E tr rf X).2 1 d = X.2 1 d + 1 := by
      show fs_stp E tr rf (fs_who X.2) ((X.1 (fs_who X.2)).headD 0) (X.1 (fs_who X.2)).tail X.2 1 d = _
      rw [c, fs_stp_d (by decide) (by decide) hf.1]
      rfl
    rw [e1]
    refine ⟨by omega, fun i i0 i1 => ?_⟩
    rw [e10 i]
    by_cases z : i = X.2 1 d
    · rw [if_pos ⟨c, by rw [← c]; exact z⟩, ← c]
      exact hQ d d0 d3 c
    · rw [if_neg (by rw [← c]; omega)]
      exact b i i0 (by omega)
  · have e1 : (fs_step E tr rf X).2 1 d = X.2 1 d := by
      show fs_stp E tr rf (fs_who X.2) ((X.1 (fs_who X.2)).headD 0) (X.1 (fs_who X.2)).tail X.2 1 d = _
      rw [fs_stp_n (by decide) hf.1 c]
    rw [e1]
    refine ⟨a, fun i i0 i1 => ?_⟩
    rw [e10 i, if_neg (by omega)]
    exact b i i0 i1
theorem fs_where_inv {E : fs_M} {tr rf m : Int} {X : (Int → List Int) × fs_M} (hB : fs_bE E) (hm : m ≤ 240) (hI : fs_rI E X) (ht : fs_tot X ≤ 27) (h0 : ∀ d, 0 ≤ d → d < 3 → X.2 1 d = 0) :
    ∀ d, 0 ≤ d → d < 3 → 0 ≤ (fs_go E tr rf m 27 X).2 1 d ∧ (fs_go E tr rf m 27 X).2 1 d ≤ (fs_go E tr rf 240 27 X).2 1 d ∧ (∀ i, 0 ≤ i → i < (fs_go E tr rf m 27 X).2 1 d → (fs_go E tr rf 240 27 X).2 (10 + d) i ≤ m) ∧ (∀ i, (fs_go E tr rf m 27 X).2 1 d ≤ i → i < (fs_go E tr rf 240 27 X).2 1 d → m < (fs_go E tr rf 240 27 X).2 (10 + d) i) := by
  -- the first leg
  have A : ∀ d, 0 ≤ d → d < 3 → 0 ≤ (fs_go E tr rf m 27 X).2 1 d ∧ ∀ i, 0 ≤ i → i < (fs_go E tr rf m 27 X).2 1 d → (fs_go E tr rf m 27 X).2 (10 + d) i ≤ m := by
    refine fs_go_ind (fun Y => ∀ d, 0 ≤ d → d < 3 → 0 ≤ Y.2 1 d ∧ ∀ i, 0 ≤ i → i < Y.2 1 d → Y.2 (10 + d) i ≤ m) hB hm (fun Y iY hY hc => ?_) 27 X hI (fun d d0 d3 => ⟨by have := h0 d d0 d3; omega, fun i i0 i1 => by have := h0 d d0 d3; omega⟩)
    exact fs_came1 iY hm hc (fun _ => 0) (fun _ v => v ≤ m) (fun d d0 d3 e => by rw [e]; exact hc) hY
  have hIm := hI.go (tr := tr) (rf := rf) hB hm 27
  have hgt := fs_tot0 (tr := tr) (rf := rf) hB hm 27 X hI ht
  obtain ⟨k, ek⟩ := fs_go_split (E := E) (tr := tr) (rf := rf) hm 27 X
  generalize hY : fs_go E tr rf m 27 X = Y at *
  rw [ek]
  have Bq := fs_go_ind (E := E) (tr := tr) (rf := rf) (m := 240) (fun Z => (∀ d, 0 ≤ d → d < 3 → m < Z.2 0 d) ∧ (∀ d, 0 ≤ d → d < 3 → Y.2 1 d ≤ Z.2 1 d ∧ ∀ i, Y.2 1 d ≤ i → i < Z.2 1 d → m < Z.2 (10 + d) i) ∧ (∀ d, 0 ≤ d → d < 3 → ∀ i, 0 ≤ i → i < Y.2 1 d → Z.2 (10 + d) i = Y.2 (10 + d) i)) hB (by decide) (fun Z iZ hZ hc => ?_) k Y hIm ⟨fun d d0 d3 => by have := fs_who_min Y.2 d0 d3; omega, fun d d0 d3 => ⟨Int.le_refl _, fun i i0 i1 => by omega⟩, fun d d0 d3 i i0 i1 => rfl⟩
  · intro d d0 d3
    obtain ⟨b1, b2, b3⟩ := Bq
    refine ⟨(A d d0 d3).1, (b2 d d0 d3).1, fun i i0 i1 => ?_, (b2 d d0 d3).2⟩
    rw [b3 d d0 d3 i i0 i1]
    exact (A d d0 d3).2 i i0 i1
  · obtain ⟨z1, z2, z3⟩ := hZ
    refine ⟨fs_step_0 hB (by decide) hm iZ hc z1, fs_came1 iZ (by decide) hc (fun d => Y.2 1 d) (fun _ v => m < v) (fun d d0 d3 e => z1 d d0 d3) z2, fun d d0 d3 i i0 i1 => ?_⟩
    have hf := fs_who3 Z.2
    have e10 : (fs_step E tr rf Z).2 (10 + d) i = (if d = fs_who Z.2 ∧ i = Z.2 1 (fs_who Z.2) then Z.2 0 (fs_who Z.2) else Z.2 (10 + d) i) := fs_stp_10 hf.1 d0
    have zz := (z2 d d0 d3).1
    rw [e10, if_neg ?_]
    · exact z3 d d0 d3 i i0 i1
    · intro q
      have : i = Z.2 1 d := by rw [q.1]; exact q.2
      omega
