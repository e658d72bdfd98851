-- ===== the class reads values; whole expressions =====
section CVAL
variable {g : fs_G} {M : fs_M} {T : Int → Int} {E : Int}
theorem sp_takeC {K : fs_K} {s : fs_q3} {t : Int} (ht : fs_tk t) (h : fs_cS M T E s) (ok : fs_lxt T E s.1 = t → ∀ M', fs_out fs_FqC M M' → fs_cS M' T E (fs_qA T E s) → K (some (fs_i 1)) M') (no : ¬ fs_lxt T E s.1 = t → ∀ M', fs_out fs_FqC M M' → M' 29 2 = 1 → M' 29 3 = s.1 → K (some (fs_i 0)) M') : fs_C2 g m_Reader_take 4 [fs_r 29, fs_r t] M K := by
  have e7 : M 29 7 = fs_lxt T E s.1 := h.1.2.2.2.2.1
  obtain ⟨tk, _, _, _, _⟩ := fs_lx_all (T := T) (E := E) (p := s.1) h.1.2.2.2.2.2.2.2.2.1
  refine E_Reader_take ht ?_
  rw [e7]
  exact ⟨tk, fun z => sp_advS h (fun M' o' h' => ⟨rfl, ok z M' o' h'⟩), fun z => sp_stumC h.1.2.2.1 (fun M' o' e2 e3 => ⟨0, rfl, Or.inl rfl, no z M' o' e2 e3⟩)⟩
theorem sp_valC {d : Nat} (hd : 4 ≤ d) {o : Int} {B : fs_q3 → fs_qR} (hO : ∀ (M : fs_M) (s : fs_q3) (K : fs_K), fs_cS M T E s → fs_lxt T E s.1 = 1031 → (∀ M' s', B s = .inr s' → fs_out fs_FqC M M' → fs_cS M' T E s' → K (some (fs_i 1)) M') → (∀ M' e, B s = .inl e → fs_out fs_FqC M M' → M' 29 2 = e.1 → M' 29 3 = e.2 → e.1 ≠ 0 → K (some (fs_i 0)) M') →
      ((o < 8 → fs_C2 g m_Reader_advance 3 [fs_r 29] M (fun v M3 => v = none ∧ fs_C2 g m_Reader_readExpression d [fs_r 29, fs_i 1, fs_i (fs_w32 (o + 1))] M3 (fun v M4 => ∃ r4, v = some (fs_i r4) ∧ ((r4 = 0 → K (some (fs_i 0)) M4) ∧ (¬ r4 = 0 → fs_C2 g m_Reader_take 4 [fs_r 29, fs_r 1032] M4 (fun v M5 => ∃ r5, v = some (fs_i r5) ∧ ((r5 = 0 → K (some (fs_i 0)) M5) ∧ (¬ r5 = 0 → K (some (fs_i 1)) M5)))))))) ∧ (¬ o < 8 → fs_C2 g m_Reader_stumble 1 [fs_r 29, fs_i 2] M (fun v M6 => ∃ r6, v = some (fs_i r6) ∧ ((r6 = 0 ∨ r6 = 1) ∧ K (some (fs_i r6)) M6))))) :
    fs_cX g T E m_Reader_readValue (d + 1) [fs_r 29, fs_i o] (fs_qV T E B) := by
  intro M s K hs ok no
  have e7 : M 29 7 = fs_lxt T E s.1 := hs.1.2.2.2.2.1
  obtain ⟨tk, _, _, _, _⟩ := fs_lx_all (T := T) (E := E) (p := s.1) hs.1.2.2.2.2.2.2.2.2.1
  have hle := hs.2.2.2.2.2.2.1
  refine E_Reader_readValue hd ?_
  rw [e7]
  refine ⟨tk, fun z => ?_, fun z => ?_⟩
  · have ev : fs_qV T E B s = if fs_lev (fs_lxt T E s.1) = 6 then (if fs_lxt T E s.1 = 1017 ∧ 9999 < fs_lxn T E s.1 then .inl (2, s.1) else fs_qB (fs_qK s) (fun s1 => .inr (fs_qA T E (fs_qP s1 (fs_lxt T E s.1) (if fs_lxt T E s.1 = 1017 then fs_lxn T E s.1 else 0))))) else .inl (1, s.1) := if_neg z
    rw [ev] at ok no
    refine ⟨fun l6 => ?_, fun l6 => ?_⟩
    · rw [if_pos l6] at ok no
      have at97 : ¬ (fs_lxt T E s.1 = 1017 ∧ 9999 < fs_lxn T E s.1) → fs_A2 g m_Reader_readValue (d + 1) 97 [(0, fs_r 29)] [] M K := fun w => by
        rw [if_neg w] at ok no
        refine L_Reader_readValue_97 hd (sp_knotC hs (fun lt M7 o7 h7 => ⟨1, rfl, fun _ => ?_, fun y => absurd y (by decide)⟩) (fun nlt M7 o7 e2 e3 => ⟨0, rfl, fun y => absurd rfl y, fun _ => no M7 (2, s.1) ?_ o7 e2 e3 fs_n2z⟩))
        · have ek : fs_qK s = .inr (s.1, s.2.1 + 1, s.2.2) := if_pos lt
          rw [ek] at ok no
          have e77 : M7 29 7 = fs_lxt T E s.1 := h7.1.2.2.2.2.1
          rw [e77]
          refine sp_addC h7 (by show (s.2.2.length : Int) < s.2.1 + 1; omega) tk (m := if fs_lxt T E s.1 = 1017 then fs_lxn T E s.1 else 0) (fun y => ?_) (fun M8 o8 h8 => ⟨rfl, sp_advS h8 (fun M9 o9 h9 => ⟨rfl, ok M9 _ rfl ((o7.tr o8).tr o9) h9⟩)⟩)
          rw [if_pos y]
          exact h7.1.2.2.2.2.2.2.1 y
        · have ek : fs_qK s = .inl (2, s.1) := if_neg nlt
          rw [ek]
          rfl
      refine ⟨fun y => at97 (fun w => y w.1), fun y => ?_⟩
      have e9 : M 29 9 = fs_lxn T E s.1 := hs.1.2.2.2.2.2.2.1 y
      rw [e9]
      refine ⟨fun le => at97 (fun w => by omega), fun gt => sp_stumC hs.1.2.2.1 (fun M' o' e2 e3 => ⟨0, rfl, Or.inl rfl, no M' (2, s.1) ?_ o' e2 e3 fs_n2z⟩)⟩
      rw [if_pos ⟨y, by omega⟩]
    · rw [if_neg l6] at ok no
      exact sp_stumC hs.1.2.2.1 (fun M' o' e2 e3 => ⟨0, rfl, Or.inl rfl, no M' (1, s.1) rfl o' e2 e3 fs_n1z⟩)
  · have ev : fs_qV T E B s = B s := if_pos z
    rw [ev] at ok no
    exact hO M s K hs z ok no
theorem sp_exprC {b : Nat} (hb : 4 ≤ b) : ∀ m : Nat, m ≤ 8 → fs_cX g T E m_Reader_readExpression (b + 7 + 7 * m) [fs_r 29, fs_i 1, fs_i (8 - (m : Int))] (fs_qE T E m) := by
  intro m
  induction m with
  | zero =>
    intro _
    have v : fs_cX g T E m_Reader_readValue (b + 1) [fs_r 29, fs_i (8 - ((0 : Nat) : Int))] (fs_qV T E (fun s => .inl (2, s.1))) := sp_valC hb (fun M s K hs z ok no => ⟨fun y => absurd y (by omega), fun _ => sp_stumC hs.1.2.2.1 (fun M' o' e2 e3 => ⟨0, rfl, Or.inl rfl, no M' (2, s.1) rfl o' e2 e3 fs_n2z⟩)⟩)
    exact sp_chainC (b := b + 1) (by omega) (fs_qV_good (fun s s' h => by cases h)) v
  | succ m ih =>
    intro hm
    have ih2 := ih (by omega)
    have v : fs_cX g T E m_Reader_readValue (b + 7 + 7 * m + 1) [fs_r 29, fs_i (8 - ((m + 1 : Nat) : Int))] (fs_qV T E (fun s => fs_qB (fs_qE T E m (fs_qA T E s)) (fs_qT T E 1032))) := by
      refine sp_valC (by omega) (fun M s K hs z ok no => ⟨fun _ => sp_advS hs (fun M3 o3 h3 => ⟨rfl, ?_⟩), fun y => absurd (by omega) y⟩)
      rw [fs_w32_of (x := 8 - ((m + 1 : Nat) : Int) + 1) (by omega) (by omega), show 8 - ((m + 1 : Nat) : Int) + 1 = 8 - (m : Int) from by omega]
      refine ih2 M3 _ _ h3 (fun M4 s1 ex o4 h4 => ⟨1, rfl, fun y => absurd y (by decide), fun _ => ?_⟩) (fun M4 e ex o4 e2 e3 e4 => ⟨0, rfl, fun _ => no M4 e ?_ (o3.tr o4) e2 e3 e4, fun y => absurd rfl y⟩)
      · rw [ex] at ok no
        refine sp_takeC ⟨by omega, by omega⟩ h4 (fun y M5 o5 h5 => ⟨1, rfl, fun w => absurd w (by decide), fun _ => ok M5 _ (if_pos y) ((o3.tr o4).tr o5) h5⟩) (fun y M5 o5 e2 e3 => ⟨0, rfl, fun _ => no M5 (1, s1.1) (if_neg y) ((o3.tr o4).tr o5) e2 e3 fs_n1z, fun w => absurd rfl w⟩)
      · rw [ex]
        rfl
    exact sp_chainC (b := b + 7 + 7 * m + 1) (by omega) (fs_qV_good (fun s s' h c h0 h1 h2 => by
      obtain ⟨s1, k1, k2⟩ := fs_qB_inr h
      have nb := fs_qn_b (T := T) h1
      obtain ⟨a1, a2, a3, W1, w1, w2, w3, w4⟩ := fs_qE_good m _ s1 k1 (by show 0 ≤ fs_qn T E s.1; omega) nb.2.1 h2
      have a1' : fs_qn T E s.1 < s1.1 := a1
      unfold fs_qT at k2
      by_cases d : fs_lxt T E s1.1 = 1032
      · rw [if_pos d] at k2
        cases k2
        have nb2 := fs_qn_b (T := T) a2
        exact ⟨by show s.1 < fs_qn T E s1.1; omega, nb2.2.1, a3, W1, w1, w2, w3, w4⟩
      · rw [if_neg d] at k2
        cases k2)) v
end CVAL
