-- ===== the expressions, as one function over the tape: place, knots counted, knots put =====
abbrev fs_q3 : Type := Int × Int × List (Int × Int)
abbrev fs_qR : Type := (Int × Int) ⊕ fs_q3
def fs_qB (r : fs_qR) (f : fs_q3 → fs_qR) : fs_qR := match r with
  | .inl e => .inl e
  | .inr s => f s
/-- the place of the token behind the one at p -/
def fs_qn (T : Int → Int) (E p : Int) : Int := fs_lxp T E (fs_lxq T E p)
def fs_qA (T : Int → Int) (E : Int) (s : fs_q3) : fs_q3 := (fs_qn T E s.1, s.2.1, s.2.2)
def fs_qK (s : fs_q3) : fs_qR := if s.2.1 < 64 then .inr (s.1, s.2.1 + 1, s.2.2) else .inl (2, s.1)
def fs_qP (s : fs_q3) (t n : Int) : fs_q3 := (s.1, s.2.1, s.2.2 ++ [(t, n)])
def fs_qT (T : Int → Int) (E t : Int) (s : fs_q3) : fs_qR := if fs_lxt T E s.1 = t then .inr (fs_qA T E s) else .inl (1, s.1)
def fs_qL (T : Int → Int) (E : Int) (X : fs_q3 → fs_qR) (lev : Int) : Nat → fs_q3 → fs_qR
  | 0, s => .inr s
  | n + 1, s => if fs_lev (fs_lxt T E s.1) = lev then fs_qB (fs_qK s) (fun s1 => fs_qB (X (fs_qA T E s1)) (fun s2 => fs_qL T E X lev n (fs_qP s2 (fs_lxt T E s.1) 0))) else .inr s
def fs_qN (T : Int → Int) (E : Int) (Y : fs_q3 → fs_qR) : Nat → fs_q3 → fs_qR
  | 0, s => Y s
  | n + 1, s => if fs_lxt T E s.1 = 1020 then fs_qB (fs_qK s) (fun s1 => fs_qB (fs_qN T E Y n (fs_qA T E s1)) (fun s2 => .inr (fs_qP s2 1020 0))) else Y s
def fs_qI (T : Int → Int) (E : Int) (X : fs_q3 → fs_qR) (lev : Int) (k : Nat) (s : fs_q3) : fs_qR := fs_qB (X s) (fs_qL T E X lev k)
def fs_qV (T : Int → Int) (E : Int) (B : fs_q3 → fs_qR) (s : fs_q3) : fs_qR :=
  if fs_lxt T E s.1 = 1031 then B s
  else if fs_lev (fs_lxt T E s.1) = 6 then (if fs_lxt T E s.1 = 1017 ∧ 9999 < fs_lxn T E s.1 then .inl (2, s.1) else fs_qB (fs_qK s) (fun s1 => .inr (fs_qA T E (fs_qP s1 (fs_lxt T E s.1) (if fs_lxt T E s.1 = 1017 then fs_lxn T E s.1 else 0)))))
  else .inl (1, s.1)
def fs_qC (T : Int → Int) (E : Int) (V : fs_q3 → fs_qR) : fs_q3 → fs_qR := fs_qI T E (fs_qI T E (fs_qN T E (fs_qI T E (fs_qI T E (fs_qI T E V 5 65) 4 65) 3 1) 65) 2 65) 1 65
/-- an expression in which m more brackets may be opened -/
def fs_qE (T : Int → Int) (E : Int) : Nat → fs_q3 → fs_qR
  | 0 => fs_qC T E (fs_qV T E (fun s => .inl (2, s.1)))
  | m + 1 => fs_qC T E (fs_qV T E (fun s => fs_qB (fs_qE T E m (fs_qA T E s)) (fs_qT T E 1032)))
theorem fs_qB_inr {r : fs_qR} {f : fs_q3 → fs_qR} {s' : fs_q3} (h : fs_qB r f = .inr s') : ∃ s1, r = .inr s1 ∧ f s1 = .inr s' := by
  cases r with
  | inl e => cases h
  | inr s => exact ⟨s, rfl, h⟩
theorem fs_qK_inr {s s' : fs_q3} (h : fs_qK s = .inr s') : s.2.1 < 64 ∧ s' = (s.1, s.2.1 + 1, s.2.2) := by
  unfold fs_qK at h
  by_cases c : s.2.1 < 64
  · rw [if_pos c] at h
    cases h
    exact ⟨c, rfl⟩
  · rw [if_neg c] at h
    cases h
theorem fs_qn_b {T : Int → Int} {E p : Int} (h : p ≤ E) : p ≤ fs_qn T E p ∧ fs_qn T E p ≤ E ∧ (p < E → p < fs_qn T E p) := by
  obtain ⟨_, _, a, b, c⟩ := fs_lx_all (T := T) h
  have d := fs_lxp_b (T := T) (E := E) b
  refine ⟨Int.le_trans a d.1, d.2, fun z => ?_⟩
  have := c z
  unfold fs_qn
  omega
-- parts of a law: what they do to the height of the stack
def fs_wfl : List (Int × Int) → Int → Int → Prop
  | [], h, k => h = k
  | q :: W, h, k => if fs_srt q.1 = 2 then (if fs_val q.1 q.2 = 260 then 1 ≤ h ∧ fs_wfl W h k else 2 ≤ h ∧ fs_wfl W (h - 1) k) else fs_wfl W (h + 1) k
theorem fs_wfl_app : ∀ (W V : List (Int × Int)) (h k m : Int), fs_wfl W h k → fs_wfl V k m → fs_wfl (W ++ V) h m
  | [], V, h, k, m, a, b => by
    have a2 : h = k := a
    rw [a2]
    exact b
  | q :: W, V, h, k, m, a, b => by
    have e : (q :: W) ++ V = q :: (W ++ V) := rfl
    rw [e]
    unfold fs_wfl at a ⊢
    by_cases c : fs_srt q.1 = 2
    · rw [if_pos c] at a ⊢
      by_cases d : fs_val q.1 q.2 = 260
      · rw [if_pos d] at a ⊢
        exact ⟨a.1, fs_wfl_app W V h k m a.2 b⟩
      · rw [if_neg d] at a ⊢
        exact ⟨a.1, fs_wfl_app W V (h - 1) k m a.2 b⟩
    · rw [if_neg c] at a ⊢
      exact fs_wfl_app W V (h + 1) k m a b
def fs_ent (q : Int × Int) : Prop := fs_ct q.1 ∧ fs_lim q.2
theorem fs_lev_key : ∀ j : Fin 37, (1 ≤ fs_lev ((1000 + j.val : Nat) : Int) → fs_lev ((1000 + j.val : Nat) : Int) ≤ 5 → fs_srt ((1000 + j.val : Nat) : Int) = 2 ∧ fs_val ((1000 + j.val : Nat) : Int) 0 ≠ 260 ∧ 1010 ≤ ((1000 + j.val : Nat) : Int) ∧ ((1000 + j.val : Nat) : Int) ≤ 1030) ∧ (fs_lev ((1000 + j.val : Nat) : Int) = 6 → fs_srt ((1000 + j.val : Nat) : Int) ≠ 2 ∧ 1010 ≤ ((1000 + j.val : Nat) : Int) ∧ ((1000 + j.val : Nat) : Int) ≤ 1017) := by decide +kernel
theorem fs_lev_sg {t : Int} (h : fs_tk t) : (1 ≤ fs_lev t → fs_lev t ≤ 5 → fs_srt t = 2 ∧ fs_val t 0 ≠ 260 ∧ fs_ct t) ∧ (fs_lev t = 6 → fs_srt t ≠ 2 ∧ 1010 ≤ t ∧ t ≤ 1017) := by
  obtain ⟨a, b⟩ := h
  obtain ⟨n, hn⟩ : ∃ n : Nat, t = ((1000 + n : Nat) : Int) := ⟨(t - 1000).toNat, by omega⟩
  have k := fs_lev_key ⟨n, by omega⟩
  rw [hn]
  exact ⟨fun x y => (k.1 x y), k.2⟩
/-- a part of an expression: it goes on along the tape, and what it puts is worth one value -/
def fs_qG (E : Int) (X : fs_q3 → fs_qR) : Prop := ∀ s s' : fs_q3, X s = .inr s' → 0 ≤ s.1 → s.1 ≤ E → s.2.1 ≤ 64 → s.1 < s'.1 ∧ s'.1 ≤ E ∧ s'.2.1 ≤ 64 ∧ ∃ W, s'.2.2 = s.2.2 ++ W ∧ s'.2.1 = s.2.1 + (W.length : Int) ∧ (∀ q ∈ W, fs_ent q) ∧ ∀ h, 0 ≤ h → fs_wfl W h (h + 1)
theorem fs_ent0 {t : Int} (h : fs_ct t) : fs_ent (t, 0) := ⟨h, by
  show fs_lim 0
  unfold fs_lim
  omega⟩
theorem fs_qL_good {T : Int → Int} {E : Int} {X : fs_q3 → fs_qR} {lev : Int} (l1 : 1 ≤ lev) (l5 : lev ≤ 5) (hX : fs_qG E X) : ∀ (n : Nat) (s s' : fs_q3), fs_qL T E X lev n s = .inr s' → 0 ≤ s.1 → s.1 ≤ E → s.2.1 ≤ 64 → s.1 ≤ s'.1 ∧ s'.1 ≤ E ∧ s'.2.1 ≤ 64 ∧ ∃ W, s'.2.2 = s.2.2 ++ W ∧ s'.2.1 = s.2.1 + (W.length : Int) ∧ (∀ q ∈ W, fs_ent q) ∧ ∀ h, 1 ≤ h → fs_wfl W h h := by
  intro n
  induction n with
  | zero =>
    intro s s' h h0 h1 h2
    cases h
    exact ⟨by omega, h1, h2, [], by simp, by simp, fun q z => (by cases z), fun h _ => rfl⟩
  | succ n ih =>
    intro s s' h h0 h1 h2
    by_cases c : fs_lev (fs_lxt T E s.1) = lev
    · have e : fs_qL T E X lev (n + 1) s = fs_qB (fs_qK s) (fun s1 => fs_qB (X (fs_qA T E s1)) (fun s2 => fs_qL T E X lev n (fs_qP s2 (fs_lxt T E s.1) 0))) := if_pos c
      rw [e] at h
      obtain ⟨s1, k1, ha⟩ := fs_qB_inr h
      obtain ⟨s2, k2, hb⟩ := fs_qB_inr ha
      obtain ⟨k3, ks⟩ := fs_qK_inr k1
      rw [ks] at k2
      have nb := fs_qn_b (T := T) h1
      obtain ⟨a1, a2, a3, W1, w1, w2, w3, w4⟩ := hX _ s2 k2 (by show 0 ≤ fs_qn T E s.1; omega) nb.2.1 (by show s.2.1 + 1 ≤ 64; omega)
      have a1' : fs_qn T E s.1 < s2.1 := a1
      have w1' : s2.2.2 = s.2.2 ++ W1 := w1
      have w2' : s2.2.1 = s.2.1 + 1 + (W1.length : Int) := w2
      obtain ⟨b1, b2, b3, W2, v1, v2, v3, v4⟩ := ih _ s' hb (by show 0 ≤ s2.1; omega) a2 a3
      have b1' : s2.1 ≤ s'.1 := b1
      have v1' : s'.2.2 = (s2.2.2 ++ [(fs_lxt T E s.1, 0)]) ++ W2 := v1
      have v2' : s'.2.1 = s2.2.1 + (W2.length : Int) := v2
      obtain ⟨g1, g2, g3⟩ := (fs_lev_sg (fs_lx_all (T := T) h1).1).1 (by omega) (by omega)
      refine ⟨by omega, b2, b3, W1 ++ ((fs_lxt T E s.1, 0) :: W2), ?_, ?_, fun q hq => ?_, fun h hh => ?_⟩
      · rw [v1', w1']
        simp
      · rw [v2', w2']
        simp only [List.length_append, List.length_cons]
        omega
      · rcases List.mem_append.mp hq with z | z
        · exact w3 q z
        · rcases List.mem_cons.mp z with z | z
          · rw [z]
            exact fs_ent0 g3
          · exact v3 q z
      · refine fs_wfl_app W1 _ h (h + 1) h (w4 h (by omega)) ?_
        show (if fs_srt (fs_lxt T E s.1) = 2 then (if fs_val (fs_lxt T E s.1) 0 = 260 then 1 ≤ h + 1 ∧ fs_wfl W2 (h + 1) h else 2 ≤ h + 1 ∧ fs_wfl W2 (h + 1 - 1) h) else fs_wfl W2 (h + 1 + 1) h)
        rw [if_pos g1, if_neg g2, show h + 1 - 1 = h from by omega]
        exact ⟨by omega, v4 h hh⟩
    · have e : fs_qL T E X lev (n + 1) s = .inr s := if_neg c
      rw [e] at h
      cases h
      exact ⟨by omega, h1, h2, [], by simp, by simp, fun q z => (by cases z), fun h _ => rfl⟩
theorem fs_qI_good {T : Int → Int} {E : Int} {X : fs_q3 → fs_qR} {lev : Int} {n : Nat} (l1 : 1 ≤ lev) (l5 : lev ≤ 5) (hX : fs_qG E X) : fs_qG E (fs_qI T E X lev n) := by
  intro s s' h h0 h1 h2
  obtain ⟨s1, k1, k2⟩ := fs_qB_inr h
  obtain ⟨a1, a2, a3, W1, w1, w2, w3, w4⟩ := hX s s1 k1 h0 h1 h2
  obtain ⟨b1, b2, b3, W2, v1, v2, v3, v4⟩ := fs_qL_good l1 l5 hX n s1 s' k2 (by omega) a2 a3
  refine ⟨by omega, b2, b3, W1 ++ W2, ?_, ?_, fun q hq => ?_, fun h hh => ?_⟩
  · rw [v1, w1]
    simp
  · rw [v2, w2]
    simp only [List.length_append]
    omega
  · rcases List.mem_append.mp hq with z | z
    · exact w3 q z
    · exact v3 q z
  · exact fs_wfl_app W1 W2 h (h + 1) (h + 1) (w4 h hh) (v4 (h + 1) (by omega))
theorem fs_qN_good {T : Int → Int} {E : Int} {Y : fs_q3 → fs_qR} (hY : fs_qG E Y) : ∀ n, fs_qG E (fs_qN T E Y n) := by
  intro n
  induction n with
  | zero => exact hY
  | succ n ih =>
    intro s s' h h0 h1 h2
    by_cases c : fs_lxt T E s.1 = 1020
    · have e : fs_qN T E Y (n + 1) s = fs_qB (fs_qK s) (fun s1 => fs_qB (fs_qN T E Y n (fs_qA T E s1)) (fun s2 => .inr (fs_qP s2 1020 0))) := if_pos c
      rw [e] at h
      obtain ⟨s1, k1, ha⟩ := fs_qB_inr h
      obtain ⟨s2, k2, hb⟩ := fs_qB_inr ha
      obtain ⟨k3, ks⟩ := fs_qK_inr k1
      rw [ks] at k2
      cases hb
      have nb := fs_qn_b (T := T) h1
      obtain ⟨a1, a2, a3, W1, w1, w2, w3, w4⟩ := ih _ s2 k2 (by show 0 ≤ fs_qn T E s.1; omega) nb.2.1 (by show s.2.1 + 1 ≤ 64; omega)
      have a1' : fs_qn T E s.1 < s2.1 := a1
      have w1' : s2.2.2 = s.2.2 ++ W1 := w1
      have w2' : s2.2.1 = s.2.1 + 1 + (W1.length : Int) := w2
      refine ⟨by show s.1 < s2.1; omega, a2, a3, W1 ++ [(1020, 0)], ?_, ?_, fun q hq => ?_, fun h hh => ?_⟩
      · show s2.2.2 ++ [(1020, 0)] = _
        rw [w1']
        simp
      · show s2.2.1 = _
        rw [w2']
        simp only [List.length_append, List.length_cons, List.length_nil]
        omega
      · rcases List.mem_append.mp hq with z | z
        · exact w3 q z
        · rcases List.mem_cons.mp z with z | z
          · rw [z]
            exact fs_ent0 ⟨by omega, by omega⟩
          · cases z
      · refine fs_wfl_app W1 _ h (h + 1) (h + 1) (w4 h hh) ?_
        show (if fs_srt 1020 = 2 then (if fs_val 1020 0 = 260 then 1 ≤ h + 1 ∧ (h + 1 = h + 1) else 2 ≤ h + 1 ∧ (h + 1 - 1 = h + 1)) else (h + 1 + 1 = h + 1))
        rw [if_pos (by decide), if_pos (by decide)]
        exact ⟨by omega, rfl⟩
    · have e : fs_qN T E Y (n + 1) s = Y s := if_neg c
      rw [e] at h
      exact hY s s' h h0 h1 h2
theorem fs_qV_good {T : Int → Int} {E : Int} {B : fs_q3 → fs_qR} (hB : ∀ s s' : fs_q3, B s = .inr s' → fs_lxt T E s.1 = 1031 → 0 ≤ s.1 → s.1 ≤ E → s.2.1 ≤ 64 → s.1 < s'.1 ∧ s'.1 ≤ E ∧ s'.2.1 ≤ 64 ∧ ∃ W, s'.2.2 = s.2.2 ++ W ∧ s'.2.1 = s.2.1 + (W.length : Int) ∧ (∀ q ∈ W, fs_ent q) ∧ ∀ h, 0 ≤ h → fs_wfl W h (h + 1)) : fs_qG E (fs_qV T E B) := by
  intro s s' h h0 h1 h2
  unfold fs_qV at h
  by_cases c : fs_lxt T E s.1 = 1031
  · rw [if_pos c] at h
    exact hB s s' h c h0 h1 h2
  · rw [if_neg c] at h
    by_cases d : fs_lev (fs_lxt T E s.1) = 6
    · rw [if_pos d] at h
      by_cases e : fs_lxt T E s.1 = 1017 ∧ 9999 < fs_lxn T E s.1
      · rw [if_pos e] at h
        cases h
      · rw [if_neg e] at h
        obtain ⟨s1, k1, ha⟩ := fs_qB_inr h
        obtain ⟨k3, ks⟩ := fs_qK_inr k1
        rw [ks] at ha
        cases ha
        obtain ⟨tk, te, _, _, _⟩ := fs_lx_all (T := T) h1
        obtain ⟨g1, g2, g3⟩ := (fs_lev_sg tk).2 d
        have lt : s.1 < E := by
          by_cases z : E ≤ s.1
          · have := te.mpr z
            omega
          · omega
        have nb := fs_qn_b (T := T) h1
        have b := fs_lxn_b (T := T) (E := E) (p := s.1)
        refine ⟨nb.2.2 lt, nb.2.1, by show s.2.1 + 1 ≤ 64; omega, [(fs_lxt T E s.1, if fs_lxt T E s.1 = 1017 then fs_lxn T E s.1 else 0)], rfl, rfl, fun q hq => ?_, fun h hh => ?_⟩
        · rcases List.mem_cons.mp hq with z | z
          · rw [z]
            refine ⟨⟨g2, by show fs_lxt T E s.1 ≤ 1030; omega⟩, ?_⟩
            show fs_lim (if fs_lxt T E s.1 = 1017 then fs_lxn T E s.1 else 0)
            unfold fs_lim
            split <;> omega
          · cases z
        · show (if fs_srt (fs_lxt T E s.1) = 2 then _ else (h + 1 = h + 1))
          rw [if_neg g1]
    · rw [if_neg d] at h
      cases h
theorem fs_qC_good {T : Int → Int} {E : Int} {V : fs_q3 → fs_qR} (hV : fs_qG E V) : fs_qG E (fs_qC T E V) :=
  fs_qI_good (by omega) (by omega) (fs_qI_good (by omega) (by omega) (fs_qN_good (fs_qI_good (by omega) (by omega) (fs_qI_good (by omega) (by omega) (fs_qI_good (by omega) (by omega) hV))) 65))
theorem fs_qE_good {T : Int → Int} {E : Int} : ∀ m, fs_qG E (fs_qE T E m)
  | 0 => fs_qC_good (fs_qV_good (fun s s' h => by cases h))
  | m + 1 => fs_qC_good (fs_qV_good (fun s s' h c h0 h1 h2 => by
    obtain ⟨s1, k1, k2⟩ := fs_qB_inr h
    have nb := fs_qn_b (T := T) h1
    obtain ⟨a1, a2, a3, W1, w1, w2, w3, w4⟩ := fs_qE_good m _ s1 k1 (by show 0 ≤ fs_qn T E s.1; omega) nb.2.1 h2
    have a1' : fs_qn T E s.1 < s1.1 := a1
    unfold fs_qT at k2
    by_cases d : fs_lxt T E s1.1 = 1032
    · rw [if_pos d] at k2
      cases k2
      have nb2 := fs_qn_b (T := T) a2
      exact ⟨by show s.1 < fs_qn T E s1.1; omega, nb2.2.1, a3, W1, w1, w2, w3, w4⟩
    · rw [if_neg d] at k2
      cases k2))
