-- ===== what holds of all that is told =====
/-- a law's part of the knots, from a to b -/
def fs_lwf (L : List (Int × Int)) (a b : Int) : Prop := 0 ≤ a ∧ ∃ W : List (Int × Int), (∀ j : Nat, j < W.length → L[a.toNat + j]? = W[j]?) ∧ b = a + (W.length : Int) ∧ (W ≠ [] → fs_wfl W 0 1) ∧ (∀ q ∈ W, fs_ent q) ∧ b ≤ (L.length : Int)
theorem fs_lwf.app {L V : List (Int × Int)} {a b : Int} (h : fs_lwf L a b) : fs_lwf (L ++ V) a b := by
  obtain ⟨a0, W, w1, w2, w3, w4, w5⟩ := h
  refine ⟨a0, W, fun j hj => ?_, w2, w3, w4, ?_⟩
  · rw [List.getElem?_append_left (by omega)]
    exact w1 j hj
  · rw [List.length_append]
    omega
theorem fs_lwf.new {L W : List (Int × Int)} (h1 : fs_wfl W 0 1) (h2 : ∀ q ∈ W, fs_ent q) : fs_lwf (L ++ W) (L.length : Int) ((L.length : Int) + (W.length : Int)) := by
  refine ⟨by omega, W, fun j hj => ?_, rfl, fun _ => h1, h2, by rw [List.length_append]; omega⟩
  rw [List.getElem?_append_right (by omega)]
  congr 1
  omega
def fs_invA (A : fs_M) : Prop := 0 ≤ A 15 5 ∧ A 15 5 ≤ 6 ∧ 0 ≤ A 15 9 ∧ A 15 9 ≤ 3 ∧ (∀ h, 0 ≤ h → h < A 15 5 → 0 ≤ A 17 h ∧ A 17 h ≤ 99 ∧ 0 ≤ A 18 h ∧ A 18 h ≤ 99 ∧ 1 ≤ A 19 h ∧ A 19 h ≤ 240) ∧ (∀ d, 0 ≤ d → d < A 15 9 → 0 ≤ A 21 d ∧ A 21 d ≤ 99 ∧ 0 ≤ A 22 d ∧ A 22 d ≤ 9) ∧ (∀ h, A 15 5 ≤ h → h < 6 → fs_bit (A 15 4) h = 0)
def fs_inv (E : Int) (S : fs_qS) : Prop := 0 ≤ S.2.1 ∧ S.2.1 ≤ E ∧ S.2.2.1 ≤ 64 ∧ ((S.2.2.2.length : Int) ≤ S.2.2.1 ∧ (∀ q ∈ S.2.2.2, fs_ent q) ∧ (S.1 15 11 = 0 ∨ S.1 15 11 = 1)) ∧ fs_invA S.1 ∧ ∀ k, 0 ≤ k → k < 4 → fs_lwf S.2.2.2 (S.1 26 k) (S.1 27 k)
theorem fs_qX_inr {α β : Type} {r : (Int × Int) ⊕ α} {f : α → (Int × Int) ⊕ β} {b : β} (h : fs_qX r f = .inr b) : ∃ a, r = .inr a ∧ f a = .inr b := by
  cases r with
  | inl e => cases h
  | inr a => exact ⟨a, rfl, h⟩
theorem fs_qNum_inr {T : Int → Int} {E lo hi : Int} {s : fs_q3} {q : Int × fs_q3} (h : fs_qNum T E lo hi s = .inr q) : fs_lxt T E s.1 = 1017 ∧ lo ≤ q.1 ∧ q.1 ≤ hi ∧ q.2 = fs_qA T E s ∧ q.1 = fs_lxn T E s.1 := by
  unfold fs_qNum at h
  by_cases a : fs_lxt T E s.1 = 1017
  · rw [if_pos a] at h
    by_cases b : fs_lxn T E s.1 < lo
    · rw [if_pos b] at h
      cases h
    · rw [if_neg b] at h
      by_cases c : fs_lxn T E s.1 ≤ hi
      · rw [if_pos c] at h
        cases h
        exact ⟨a, by omega, c, rfl, rfl⟩
      · rw [if_neg c] at h
        cases h
  · rw [if_neg a] at h
    cases h
theorem fs_qNam_inr {T : Int → Int} {E arr cnt : Int} {A : fs_M} {s : fs_q3} {q : Int × fs_q3} (h : fs_qNam T E A arr cnt s = .inr q) : fs_lxt T E s.1 = 1034 ∧ fs_ix (A arr) (fs_lxl T E s.1) cnt.toNat 0 = -1 ∧ q = (fs_lxl T E s.1, fs_qA T E s) := by
  unfold fs_qNam at h
  by_cases a : fs_lxt T E s.1 = 1034
  · rw [if_pos a] at h
    by_cases b : fs_ix (A arr) (fs_lxl T E s.1) cnt.toNat 0 = -1
    · rw [if_pos b] at h
      cases h
      exact ⟨a, b, rfl⟩
    · rw [if_neg b] at h
      cases h
  · rw [if_neg a] at h
    cases h
theorem fs_qA_w {T : Int → Int} {E : Int} {s : fs_q3} (h : s.1 ≤ E) : s.1 ≤ (fs_qA T E s).1 ∧ (fs_qA T E s).1 ≤ E ∧ (fs_qA T E s).2 = s.2 ∧ (fs_lxt T E s.1 ≠ 1035 → s.1 < (fs_qA T E s).1) := by
  obtain ⟨a, b, c⟩ := fs_qn_b (T := T) h
  refine ⟨a, b, rfl, fun z => c ?_⟩
  by_cases d : E ≤ s.1
  · exact absurd ((fs_lx_all (T := T) h).2.1.mpr d) z
  · omega
theorem fs_qBy_inr {T : Int → Int} {E h : Int} {A : fs_M} {s : fs_q3} {S' : fs_qS} (hs : fs_qBy T E h A s = .inr S') : ∃ (B : fs_M) (b : Int) (s4 : fs_q3), S' = fs_qOwn T E h B s4 ∧ 1 ≤ b ∧ b ≤ 240 ∧ (∀ o k, ¬ (o = 19 ∧ k = h) → B o k = A o k) ∧ B 19 h = b ∧ (s4 = s ∨ s4 = fs_qA T E (fs_qA T E s)) := by
  unfold fs_qBy at hs
  by_cases c : fs_lxt T E s.1 = 1004
  · rw [if_pos c] at hs
    obtain ⟨q, a1, a2⟩ := fs_qX_inr hs
    obtain ⟨_, b1, b2, b3, _⟩ := fs_qNum_inr a1
    cases a2
    refine ⟨_, q.1, q.2, rfl, b1, b2, fun o k z => ?_, fs_st_s, Or.inr b3⟩
    by_cases d : o = 19
    · rw [fs_st_k (by omega), fs_st_k (by omega)]
    · rw [fs_st_o d, fs_st_o d]
  · rw [if_neg c] at hs
    cases hs
    refine ⟨_, 240, s, rfl, by omega, by omega, fun o k z => ?_, fs_st_s, Or.inl rfl⟩
    by_cases d : o = 19
    · rw [fs_st_k (by omega)]
    · rw [fs_st_o d]
theorem fs_qOwn_v {T : Int → Int} {E h : Int} {B : fs_M} {s : fs_q3} : (fs_qOwn T E h B s).1 15 5 = h + 1 ∧ (∀ o k, ¬ (o = 15 ∧ (k = 4 ∨ k = 5)) → (fs_qOwn T E h B s).1 o k = B o k) ∧ ((fs_lxt T E s.1 = 1005 ∧ (fs_qOwn T E h B s).1 15 4 = fs_or (B 15 4) (fs_shl 1 h) ∧ (fs_qOwn T E h B s).2 = fs_qA T E s) ∨ (fs_lxt T E s.1 ≠ 1005 ∧ (fs_qOwn T E h B s).1 15 4 = B 15 4 ∧ (fs_qOwn T E h B s).2 = s)) := by
  unfold fs_qOwn
  by_cases c : fs_lxt T E s.1 = 1005
  · rw [if_pos c]
    refine ⟨by simp [fs_st], fun o k z => ?_, Or.inl ⟨c, ?_, rfl⟩⟩
    · by_cases d : o = 15
      · show fs_st (fs_st B 15 4 _) 15 5 _ o k = B o k
        rw [fs_st_k (by omega), fs_st_k (by omega)]
      · show fs_st (fs_st B 15 4 _) 15 5 _ o k = B o k
        rw [fs_st_o d, fs_st_o d]
    · simp [fs_st]
  · rw [if_neg c]
    refine ⟨by simp [fs_st], fun o k z => ?_, Or.inr ⟨c, ?_, rfl⟩⟩
    · by_cases d : o = 15
      · show fs_st B 15 5 _ o k = B o k
        rw [fs_st_k (by omega)]
      · show fs_st B 15 5 _ o k = B o k
        rw [fs_st_o d]
    · simp [fs_st]
theorem fs_inv_house {T : Int → Int} {E : Int} {A : fs_M} {s : fs_q3} {S' : fs_qS} (hs : fs_qHouse T E A s = .inr S') (hi : fs_inv E (A, s)) (t : fs_lxt T E s.1 ≠ 1035) : fs_inv E S' ∧ s.1 < S'.2.1 := by
  obtain ⟨p0, p1, c64, lc, ⟨h0, h6, d0, d3, hh, hd, hb⟩, hl⟩ := hi
  have p0' : 0 ≤ s.1 := p0
  have p1' : s.1 ≤ E := p1
  unfold fs_qHouse at hs
  obtain ⟨x, hx⟩ : ∃ x, A 15 5 = x := ⟨_, rfl⟩
  have h0' : 0 ≤ x := by rw [← hx]; exact h0
  rw [hx] at hs
  by_cases lt : x < 6
  · rw [if_pos lt] at hs
    obtain ⟨q, a1, hs2⟩ := fs_qX_inr hs
    obtain ⟨r, a2, hs3⟩ := fs_qX_inr hs2
    obtain ⟨w, a3, hs4⟩ := fs_qX_inr hs3
    obtain ⟨_, _, eq⟩ := fs_qNam_inr a1
    obtain ⟨_, r1, r2, r3, _⟩ := fs_qNum_inr a2
    obtain ⟨_, w1, w2, w3, _⟩ := fs_qNum_inr a3
    obtain ⟨B, b, s4, e1, b1, b2, b3, b4, b5⟩ := fs_qBy_inr hs4
    obtain ⟨o1, o2, o3⟩ := fs_qOwn_v (T := T) (E := E) (h := x) (B := B) (s := s4)
    rw [← e1] at o1 o2 o3
    -- the place
    obtain ⟨u1, u2, u3, u4⟩ := fs_qA_w (T := T) p1'
    have u5 := u4 t
    obtain ⟨v1, v2, v3, _⟩ := fs_qA_w (T := T) u2
    have q2 : q.2 = fs_qA T E (fs_qA T E s) := by rw [eq]
    rw [← q2] at v1 v2 v3
    obtain ⟨x1, x2, x3, _⟩ := fs_qA_w (T := T) v2
    rw [← r3] at x1 x2 x3
    obtain ⟨y1, y2, y3, _⟩ := fs_qA_w (T := T) x2
    rw [← w3] at y1 y2 y3
    have z4 : w.2.1 ≤ s4.1 ∧ s4.1 ≤ E ∧ s4.2 = w.2.2 := by
      rcases b5 with z | z
      · rw [z]
        exact ⟨by omega, y2, rfl⟩
      · obtain ⟨z1, z2, z3, _⟩ := fs_qA_w (T := T) y2
        obtain ⟨z5, z6, z7, _⟩ := fs_qA_w (T := T) z2
        rw [z]
        exact ⟨by omega, z6, z7.trans z3⟩
    have z5 : s4.1 ≤ S'.2.1 ∧ S'.2.1 ≤ E ∧ S'.2.2 = s4.2 := by
      rcases o3 with ⟨_, _, z⟩ | ⟨_, _, z⟩
      · obtain ⟨z1, z2, z3, _⟩ := fs_qA_w (T := T) z4.2.1
        rw [z]
        exact ⟨z1, z2, z3⟩
      · rw [z]
        exact ⟨by omega, z4.2.1, rfl⟩
    have sq : S'.2.2 = s.2 := by rw [z5.2.2, z4.2.2, y3, x3, v3, u3]
    -- what is told
    have val : ∀ o k, ¬ (o = 15 ∧ (k = 4 ∨ k = 5)) → ¬ (o = 19 ∧ k = x) → S'.1 o k = fs_st (fs_st (fs_st A 16 x q.1) 17 x r.1) 18 x w.1 o k := fun o k n1 n2 => by
      rw [o2 o k n1, b3 o k n2]
    have oth : ∀ o k, ¬ (o = 15 ∧ (k = 4 ∨ k = 5)) → ¬ (16 ≤ o ∧ o ≤ 19 ∧ k = x) → S'.1 o k = A o k := fun o k n1 n2 => by
      rw [val o k n1 (by omega)]
      have st1 : ∀ (M : fs_M) (c v : Int), 16 ≤ c → c ≤ 19 → fs_st M c x v o k = M o k := fun M c v c1 c2 => by
        by_cases g : o = c
        · exact fs_st_k (by omega)
        · exact fs_st_o g
      rw [st1 _ _ _ (by omega) (by omega), st1 _ _ _ (by omega) (by omega), st1 _ _ _ (by omega) (by omega)]
    have x17 : S'.1 17 x = r.1 := by
      rw [val 17 x (by omega) (by omega), fs_st_o (by omega)]
      exact fs_st_s
    have x18 : S'.1 18 x = w.1 := by
      rw [val 18 x (by omega) (by omega)]
      exact fs_st_s
    have x19 : S'.1 19 x = b := by
      rw [o2 19 x (by omega)]
      exact b4
    have B4 : B 15 4 = A 15 4 := by
      rw [b3 15 4 (by omega), fs_st_o (by omega), fs_st_o (by omega), fs_st_o (by omega)]
    refine ⟨⟨by omega, z5.2.1, by rw [sq]; exact c64, ⟨by rw [sq]; exact lc.1, by rw [sq]; exact lc.2.1, by rw [oth 15 11 (by omega) (by omega)]; exact lc.2.2⟩, ⟨by omega, by omega, ?_, ?_, fun h a b => ?_, fun d a b => ?_, fun h a b => ?_⟩, fun k k0 k1 => ?_⟩, by omega⟩
    · rw [oth 15 9 (by omega) (by omega)]
      exact d0
    · rw [oth 15 9 (by omega) (by omega)]
      exact d3
    · rw [o1] at b
      by_cases c : h = x
      · rw [c, x17, x18, x19]
        exact ⟨r1, r2, w1, w2, b1, b2⟩
      · rw [oth 17 h (by omega) (by omega), oth 18 h (by omega) (by omega), oth 19 h (by omega) (by omega)]
        exact hh h a (by show h < A 15 5; omega)
    · rw [oth 15 9 (by omega) (by omega)] at b
      rw [oth 21 d (by omega) (by omega), oth 22 d (by omega) (by omega)]
      exact hd d a b
    · rw [o1] at a
      have z := hb h (by show A 15 5 ≤ h; omega) b
      have z' : fs_bit (A 15 4) h = 0 := z
      rcases o3 with ⟨_, y, _⟩ | ⟨_, y, _⟩
      · rw [y, B4, fs_bit_or1 h0' (by omega) (by omega) b, if_neg (by omega)]
        exact z'
      · rw [y, B4]
        exact z'
    · rw [sq, oth 26 k (by omega) (by omega), oth 27 k (by omega) (by omega)]
      exact hl k k0 k1
  · rw [if_neg lt] at hs
    cases hs
theorem fs_inv_dark {T : Int → Int} {E : Int} {A : fs_M} {s : fs_q3} {S' : fs_qS} (hs : fs_qDark T E A s = .inr S') (hi : fs_inv E (A, s)) (t : fs_lxt T E s.1 ≠ 1035) : fs_inv E S' ∧ s.1 < S'.2.1 := by
  obtain ⟨p0, p1, c64, lc, ⟨h0, h6, d0, d3, hh, hd, hb⟩, hl⟩ := hi
  have p0' : 0 ≤ s.1 := p0
  have p1' : s.1 ≤ E := p1
  unfold fs_qDark at hs
  obtain ⟨x, hx⟩ : ∃ x, A 15 9 = x := ⟨_, rfl⟩
  have d0' : 0 ≤ x := by rw [← hx]; exact d0
  rw [hx] at hs
  by_cases lt : x < 3
  · rw [if_pos lt] at hs
    obtain ⟨q, a1, hs2⟩ := fs_qX_inr hs
    obtain ⟨r, a2, hs3⟩ := fs_qX_inr hs2
    obtain ⟨w, a3, hs4⟩ := fs_qX_inr hs3
    obtain ⟨_, _, eq⟩ := fs_qNam_inr a1
    obtain ⟨_, r1, r2, r3, _⟩ := fs_qNum_inr a2
    obtain ⟨_, w1, w2, w3, _⟩ := fs_qNum_inr a3
    cases hs4
    obtain ⟨u1, u2, u3, u4⟩ := fs_qA_w (T := T) p1'
    have u5 := u4 t
    obtain ⟨v1, v2, v3, _⟩ := fs_qA_w (T := T) u2
    have q2 : q.2 = fs_qA T E (fs_qA T E s) := by rw [eq]
    rw [← q2] at v1 v2 v3
    obtain ⟨x1, x2, x3, _⟩ := fs_qA_w (T := T) v2
    rw [← r3] at x1 x2 x3
    obtain ⟨y1, y2, y3, _⟩ := fs_qA_w (T := T) x2
    rw [← w3] at y1 y2 y3
    have sq : w.2.2 = s.2 := by rw [y3, x3, v3, u3]
    obtain ⟨A', hA⟩ : ∃ A', fs_st (fs_st (fs_st (fs_st A 20 x q.1) 21 x r.1) 22 x w.1) 15 9 (x + 1) = A' := ⟨_, rfl⟩
    rw [hA]
    have oth : ∀ o k, ¬ (o = 15 ∧ k = 9) → ¬ (20 ≤ o ∧ o ≤ 22 ∧ k = x) → A' o k = A o k := fun o k n1 n2 => by
      have st1 : ∀ (M : fs_M) (c v : Int), 20 ≤ c → c ≤ 22 → fs_st M c x v o k = M o k := fun M c v c1 c2 => by
        by_cases g : o = c
        · exact fs_st_k (by omega)
        · exact fs_st_o g
      rw [← hA]
      by_cases g : o = 15
      · rw [fs_st_k (by omega), st1 _ _ _ (by omega) (by omega), st1 _ _ _ (by omega) (by omega), st1 _ _ _ (by omega) (by omega)]
      · rw [fs_st_o g, st1 _ _ _ (by omega) (by omega), st1 _ _ _ (by omega) (by omega), st1 _ _ _ (by omega) (by omega)]
    have x9 : A' 15 9 = x + 1 := by
      rw [← hA]
      exact fs_st_s
    have x21 : A' 21 x = r.1 := by
      rw [← hA, fs_st_o (by omega), fs_st_o (by omega)]
      exact fs_st_s
    have x22 : A' 22 x = w.1 := by
      rw [← hA, fs_st_o (by omega)]
      exact fs_st_s
    refine ⟨⟨by show 0 ≤ w.2.1; omega, y2, by show w.2.2.1 ≤ 64; rw [sq]; exact c64, ⟨by show (w.2.2.2.length : Int) ≤ w.2.2.1; rw [sq]; exact lc.1, by show ∀ q ∈ w.2.2.2, fs_ent q; rw [sq]; exact lc.2.1, by show A' 15 11 = 0 ∨ A' 15 11 = 1; rw [oth 15 11 (by omega) (by omega)]; exact lc.2.2⟩, ⟨?_, ?_, by show 0 ≤ A' 15 9; omega, by show A' 15 9 ≤ 3; omega, fun h a b => ?_, fun d a b => ?_, fun h a b => ?_⟩, fun k k0 k1 => ?_⟩, by show s.1 < w.2.1; omega⟩
    · show 0 ≤ A' 15 5
      rw [oth 15 5 (by omega) (by omega)]
      exact h0
    · show A' 15 5 ≤ 6
      rw [oth 15 5 (by omega) (by omega)]
      exact h6
    · have b' : h < A' 15 5 := b
      rw [oth 15 5 (by omega) (by omega)] at b'
      show 0 ≤ A' 17 h ∧ A' 17 h ≤ 99 ∧ 0 ≤ A' 18 h ∧ A' 18 h ≤ 99 ∧ 1 ≤ A' 19 h ∧ A' 19 h ≤ 240
      rw [oth 17 h (by omega) (by omega), oth 18 h (by omega) (by omega), oth 19 h (by omega) (by omega)]
      exact hh h a b'
    · have b' : d < A' 15 9 := b
      show 0 ≤ A' 21 d ∧ A' 21 d ≤ 99 ∧ 0 ≤ A' 22 d ∧ A' 22 d ≤ 9
      by_cases c : d = x
      · rw [c, x21, x22]
        exact ⟨r1, r2, w1, w2⟩
      · rw [oth 21 d (by omega) (by omega), oth 22 d (by omega) (by omega)]
        exact hd d a (by show d < A 15 9; omega)
    · have a' : A' 15 5 ≤ h := a
      rw [oth 15 5 (by omega) (by omega)] at a'
      show fs_bit (A' 15 4) h = 0
      rw [oth 15 4 (by omega) (by omega)]
      exact hb h a' b
    · show fs_lwf w.2.2.2 (A' 26 k) (A' 27 k)
      rw [sq, oth 26 k (by omega) (by omega), oth 27 k (by omega) (by omega)]
      exact hl k k0 k1
  · rw [if_neg lt] at hs
    cases hs
theorem fs_inv_seed {T : Int → Int} {E : Int} {A : fs_M} {s : fs_q3} {S' : fs_qS} (hs : fs_qSeed T E A s = .inr S') (hi : fs_inv E (A, s)) (t : fs_lxt T E s.1 ≠ 1035) : fs_inv E S' ∧ s.1 < S'.2.1 := by
  obtain ⟨p0, p1, c64, lc, ⟨h0, h6, d0, d3, hh, hd, hb⟩, hl⟩ := hi
  have p0' : 0 ≤ s.1 := p0
  have p1' : s.1 ≤ E := p1
  unfold fs_qSeed at hs
  by_cases z : A 15 11 = 0
  · rw [if_pos z] at hs
    obtain ⟨w, a3, hs4⟩ := fs_qX_inr hs
    obtain ⟨_, w1, w2, w3, _⟩ := fs_qNum_inr a3
    cases hs4
    obtain ⟨u1, u2, u3, u4⟩ := fs_qA_w (T := T) p1'
    have u5 := u4 t
    obtain ⟨v1, v2, v3, _⟩ := fs_qA_w (T := T) u2
    rw [← w3] at v1 v2 v3
    have sq : w.2.2 = s.2 := by rw [v3, u3]
    obtain ⟨A', hA⟩ : ∃ A', fs_st (fs_st A 15 10 w.1) 15 11 1 = A' := ⟨_, rfl⟩
    rw [hA]
    have oth : ∀ o k, ¬ (o = 15 ∧ (k = 10 ∨ k = 11)) → A' o k = A o k := fun o k n1 => by
      rw [← hA]
      by_cases g : o = 15
      · rw [fs_st_k (by omega), fs_st_k (by omega)]
      · rw [fs_st_o g, fs_st_o g]
    refine ⟨⟨by show 0 ≤ w.2.1; omega, v2, by show w.2.2.1 ≤ 64; rw [sq]; exact c64, ⟨by show (w.2.2.2.length : Int) ≤ w.2.2.1; rw [sq]; exact lc.1, by show ∀ q ∈ w.2.2.2, fs_ent q; rw [sq]; exact lc.2.1, by show A' 15 11 = 0 ∨ A' 15 11 = 1; rw [← hA, fs_st_s]; exact Or.inr rfl⟩, ?_, fun k k0 k1 => ?_⟩, by show s.1 < w.2.1; omega⟩
    · show fs_invA A'
      unfold fs_invA
      rw [oth 15 5 (by omega), oth 15 9 (by omega), oth 15 4 (by omega)]
      refine ⟨h0, h6, d0, d3, fun h a b => ?_, fun d a b => ?_, hb⟩
      · rw [oth 17 h (by omega), oth 18 h (by omega), oth 19 h (by omega)]
        exact hh h a b
      · rw [oth 21 d (by omega), oth 22 d (by omega)]
        exact hd d a b
    · show fs_lwf w.2.2.2 (A' 26 k) (A' 27 k)
      rw [sq, oth 26 k (by omega), oth 27 k (by omega)]
      exact hl k k0 k1
  · rw [if_neg z] at hs
    cases hs
theorem fs_inv_law {T : Int → Int} {E : Int} {A : fs_M} {s : fs_q3} {S' : fs_qS} (hs : fs_qLaw T E A s = .inr S') (hi : fs_inv E (A, s)) (t : fs_lxt T E s.1 ≠ 1035) : fs_inv E S' ∧ s.1 < S'.2.1 := by
  obtain ⟨p0, p1, c64, lc, hA0, hl⟩ := hi
  have p0' : 0 ≤ s.1 := p0
  have p1' : s.1 ≤ E := p1
  have c64' : s.2.1 ≤ 64 := c64
  have lc' : (s.2.2.length : Int) ≤ s.2.1 := lc.1
  have le' : ∀ q ∈ s.2.2, fs_ent q := lc.2.1
  obtain ⟨u1, u2, u3, u4⟩ := fs_qA_w (T := T) p1'
  have u5 := u4 t
  obtain ⟨v1, v2, v3, _⟩ := fs_qA_w (T := T) u2
  unfold fs_qLaw at hs
  obtain ⟨x, hx⟩ : ∃ x, fs_lxt T E (fs_qA T E s).1 - 1006 = x := ⟨_, rfl⟩
  rw [hx] at hs
  by_cases c : 1006 ≤ fs_lxt T E (fs_qA T E s).1 ∧ fs_lxt T E (fs_qA T E s).1 ≤ 1009
  · rw [if_pos c] at hs
    by_cases d : A 27 x ≤ A 26 x
    · rw [if_pos d] at hs
      obtain ⟨s3, a1, a2⟩ := fs_qX_inr hs
      cases a2
      have c64'' : (fs_qA T E (fs_qA T E s)).2.1 ≤ 64 := by rw [v3, u3]; exact c64'
      obtain ⟨b1, b2, b3, W, w1, w2, w3, w4⟩ := fs_qE_good 8 _ s3 a1 (by omega) v2 c64''
      rw [v3, u3] at w1 w2
      obtain ⟨A', hA⟩ : ∃ A', fs_st (fs_st A 26 x (s.2.2.length : Int)) 27 x (s3.2.2.length : Int) = A' := ⟨_, rfl⟩
      rw [hA]
      have oth : ∀ o k, ¬ ((o = 26 ∨ o = 27) ∧ k = x) → A' o k = A o k := fun o k n1 => by
        have st1 : ∀ (M : fs_M) (c v : Int), c = 26 ∨ c = 27 → fs_st M c x v o k = M o k := fun M c v c1 => by
          by_cases g : o = c
          · exact fs_st_k (by omega)
          · exact fs_st_o g
        rw [← hA, st1 _ _ _ (Or.inr rfl), st1 _ _ _ (Or.inl rfl)]
      have x26 : A' 26 x = (s.2.2.length : Int) := by
        rw [← hA, fs_st_o (by omega)]
        exact fs_st_s
      have x27 : A' 27 x = (s3.2.2.length : Int) := by
        rw [← hA]
        exact fs_st_s
      refine ⟨⟨by show 0 ≤ s3.1; omega, b2, b3, ?_, ?_, fun k k0 k1 => ?_⟩, by show s.1 < s3.1; omega⟩
      · refine ⟨?_, ?_, ?_⟩
        · show (s3.2.2.length : Int) ≤ s3.2.1
          rw [w1, w2, List.length_append]
          omega
        · show ∀ q ∈ s3.2.2, fs_ent q
          rw [w1]
          intro q hq
          rcases List.mem_append.mp hq with z | z
          · exact le' q z
          · exact w3 q z
        · show A' 15 11 = 0 ∨ A' 15 11 = 1
          rw [oth 15 11 (by omega)]
          exact lc.2.2
      · show fs_invA A'
        obtain ⟨h0, h6, d0, d3, hh, hd, hb⟩ := hA0
        unfold fs_invA
        rw [oth 15 5 (by omega), oth 15 9 (by omega), oth 15 4 (by omega)]
        refine ⟨h0, h6, d0, d3, fun h a b => ?_, fun d a b => ?_, hb⟩
        · rw [oth 17 h (by omega), oth 18 h (by omega), oth 19 h (by omega)]
          exact hh h a b
        · rw [oth 21 d (by omega), oth 22 d (by omega)]
          exact hd d a b
      · show fs_lwf s3.2.2 (A' 26 k) (A' 27 k)
        by_cases e : k = x
        · rw [e, x26, x27, w1, List.length_append]
          have z := fs_lwf.new (L := s.2.2) (w4 0 (by omega)) w3
          have y : ((s.2.2.length + W.length : Nat) : Int) = (s.2.2.length : Int) + (W.length : Int) := by omega
          rw [y]
          exact z
        · rw [oth 26 k (by omega), oth 27 k (by omega), w1]
          exact (hl k k0 k1).app
    · rw [if_neg d] at hs
      cases hs
  · rw [if_neg c] at hs
    cases hs
theorem fs_inv_line {T : Int → Int} {E : Int} {A : fs_M} {s : fs_q3} {S' : fs_qS} (hs : fs_qLine T E A s = .inr S') (hi : fs_inv E (A, s)) : fs_inv E S' ∧ s.1 < S'.2.1 := by
  obtain ⟨S1, k1, k2⟩ := fs_qX_inr hs
  obtain ⟨s2, k3, k4⟩ := fs_qX_inr k2
  cases k4
  have key : fs_inv E S1 ∧ s.1 < S1.2.1 := by
    unfold fs_qKind at k1
    by_cases t0 : fs_lxt T E s.1 = 1000
    · rw [if_pos t0] at k1
      exact fs_inv_house k1 hi (by omega)
    · rw [if_neg t0] at k1
      by_cases t1 : fs_lxt T E s.1 = 1001
      · rw [if_pos t1] at k1
        exact fs_inv_dark k1 hi (by omega)
      · rw [if_neg t1] at k1
        by_cases t2 : fs_lxt T E s.1 = 1002
        · rw [if_pos t2] at k1
          exact fs_inv_seed k1 hi (by omega)
        · rw [if_neg t2] at k1
          by_cases t3 : fs_lxt T E s.1 = 1003
          · rw [if_pos t3] at k1
            exact fs_inv_law k1 hi (by omega)
          · rw [if_neg t3] at k1
            cases k1
  obtain ⟨⟨p0, p1, c64, lc, hA, hl⟩, lt⟩ := key
  unfold fs_qT at k3
  by_cases t : fs_lxt T E S1.2.1 = 1033
  · rw [if_pos t] at k3
    cases k3
    obtain ⟨u1, u2, u3, _⟩ := fs_qA_w (T := T) p1
    exact ⟨⟨by show 0 ≤ (fs_qA T E S1.2).1; omega, u2, c64, lc, hA, hl⟩, by show s.1 < (fs_qA T E S1.2).1; omega⟩
  · rw [if_neg t] at k3
    cases k3
