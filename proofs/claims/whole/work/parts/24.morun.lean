-- ===== the model's run =====
def fs_gn (tr ta wo h : Int) : Bool := decide ((tr = 3 ∧ ta = h) ∨ wo = h)
def fs_kp (tr ta wo : Int) (l : List Int) : List Int := l.filter (fun h => !fs_gn tr ta wo h)
def fs_rt (E : fs_M) : Prop := E 228 0 = E 1 5 ∧ E 228 1 = E 1 9 ∧ (∀ h, 0 ≤ h → h < E 1 5 → E 230 h = E 3 h ∧ E 231 h = E 4 h ∧ E 232 h = E 5 h) ∧ (∀ d, 0 ≤ d → d < E 1 9 → E 235 d = E 7 d ∧ E 236 d = E 8 d) ∧ fs_rl E
def fs_F6 (o k : Int) : Prop := fs_F4 o k ∨ (253 ≤ o ∧ o ≤ 262) ∨ (o = 226 ∧ k = 56)
theorem fs_F4_F6 {o k : Int} (h : fs_F4 o k) : fs_F6 o k := Or.inl h
theorem fs_F6_env {E M M' : fs_M} (h : fs_env E M) (ho : fs_out fs_F6 M M') : fs_env E M' := fun o k q => by
  rw [ho o k (by unfold fs_F6 fs_F4; unfold fs_eC at q; omega)]
  exact h o k q
theorem fs_env.rl {E M : fs_M} (h : fs_env E M) (hr : fs_rl E) : fs_rl M := fs_rl_cong (fun o k q => h o k (by unfold fs_rlC at q; unfold fs_eC; omega)) hr
/-- the rows of the run stand -/
def fs_rw (E M : fs_M) : Prop := ∀ d, 0 ≤ d → d < E 1 9 → 0 ≤ M 252 d ∧ M 252 d ≤ 9 ∧ ∀ k, 0 ≤ k → k < M 252 d → 0 ≤ M 251 (9 * d + k) ∧ M 251 (9 * d + k) < E 1 5
theorem fs_rw.cong {E M M' : fs_M} (h : fs_rw E M) (ho : ∀ o k, o = 251 ∨ o = 252 → M' o k = M o k) : fs_rw E M' := by
  intro d d0 d1
  obtain ⟨a, b, c⟩ := h d d0 d1
  rw [ho 252 d (by decide)]
  refine ⟨a, b, fun k k0 k1 => ?_⟩
  rw [ho 251 _ (by decide)]
  exact c k k0 k1
def fs_lc (x : Int) : Int := if x = 0 then -2 else x - 1
def fs_left (M : fs_M) (d a : Int) : List Int := fs_lst (M 251) (M 252 d - a).toNat (9 * d + a)
def fs_mR (E M : fs_M) (tr ta wo : Int) (X : (Int → List Int) × fs_M) : Prop :=
  fs_env E M ∧ (M 226 42 = tr ∧ M 226 43 = ta ∧ M 226 44 = wo) ∧ fs_rw E M ∧
  (∀ d, 0 ≤ d → d < 3 → M 257 d = min 241 (X.2 0 d)) ∧
  (∀ d, 0 ≤ d → d < E 1 9 → M 254 d = X.2 2 d ∧ M 255 d = X.2 3 d ∧ M 256 d = X.2 4 d ∧ M 259 d = X.2 5 d ∧ M 260 d = X.2 6 d ∧ (tr = 4 ∧ ta = d → X.1 d = []) ∧ (¬ (tr = 4 ∧ ta = d) → 0 ≤ M 253 d ∧ M 253 d ≤ M 252 d ∧
    (X.1 d ≠ [] → M 253 d < M 252 d ∧ fs_gn tr ta wo (M 251 (9 * d + M 253 d)) = false) ∧ X.1 d = fs_kp tr ta wo (fs_left M d (M 253 d)) ∧
    ((∀ h, 0 ≤ h → h < E 1 5 → fs_gn tr ta wo h = false) → M 253 d = X.2 1 d ∧ M 258 d = fs_lc (X.2 1 d)))) ∧
  (∀ h, 0 ≤ h → h < E 1 5 → M 261 h = X.2 7 h ∧ M 262 h = X.2 8 h) ∧ M 226 56 = X.2 9 0
section MORUN
variable {g : fs_G}
theorem sp_isGone {M : fs_M} {K : fs_K} {tr ta wo h : Int} (h1 : M 226 42 = tr) (h2 : M 226 43 = ta) (h3 : M 226 44 = wo) (hK0 : fs_gn tr ta wo h = false → K (some (fs_i 0)) M) (hK1 : fs_gn tr ta wo h = true → K (some (fs_i 1)) M) : fs_C2 g m_Mo_isGone 1 [fs_r 226, fs_i h] M K := by
  unfold fs_gn at hK0 hK1
  have last : ¬ (tr = 3 ∧ ta = h) → fs_A2 g m_Mo_isGone 1 16 [(0, fs_r 226), (1, fs_i h)] [] M K := fun c => by
    refine L_Mo_isGone_16 ⟨fun z => hK0 ?_, fun z => hK1 ?_⟩
    · rw [h3] at z
      exact decide_eq_false (by omega)
    · rw [h3] at z
      exact decide_eq_true (Or.inr z)
  refine E_Mo_isGone ⟨fun z => last (by omega), fun z => ⟨fun w => hK1 (decide_eq_true (Or.inl ⟨by omega, by omega⟩)), fun w => last (by omega)⟩⟩
theorem sp_next {E M : fs_M} {K : fs_K} {tr ta wo : Int} {X : (Int → List Int) × fs_M} (hI : fs_rI E X) (hR : fs_mR E M tr ta wo X) (hK : K (some (fs_i (fs_who X.2))) M) : fs_C2 g m_Mo_next 1 [fs_r 226] M K := by
  obtain ⟨R1, R2, R3, R4, R5, R6⟩ := hR
  have w : ∀ d, 0 ≤ d → d < 3 → X.2 0 d = 1000 ∨ X.2 0 d ≤ 240 := fun d d0 d1 => by
    by_cases c : d < E 1 9
    · have := (hI.1 d d0 c).2.1; omega
    · exact Or.inl (hI.2 d d0 d1 (by omega)).1
  have w0 := w 0 (by decide) (by decide)
  have w1 := w 1 (by decide) (by decide)
  have w2 := w 2 (by decide) (by decide)
  have c0 := R4 0 (by decide) (by decide)
  have c1 := R4 1 (by decide) (by decide)
  have c2 := R4 2 (by decide) (by decide)
  unfold fs_who at hK
  refine E_Mo_next (L_Mo_next_4 ⟨fun z => absurd z (by decide), fun _ => ⟨by decide, by decide, by decide, fun z => ?_, fun z => ?_⟩⟩)
  · rw [c0, c1] at z
    rw [if_pos (by omega)] at hK
    refine L_Mo_next_4 ⟨fun z => absurd z (by decide), fun _ => ⟨by decide, by decide, by decide, fun z => ?_, fun z => ?_⟩⟩
    · have z' : M 257 0 ≤ M 257 2 := z
      rw [if_pos (by omega)] at hK
      exact L_Mo_next_4 ⟨fun _ => hK, fun z => absurd (by decide) z⟩
    · have z' : ¬ M 257 0 ≤ M 257 2 := z
      rw [if_neg (by omega)] at hK
      exact L_Mo_next_4 ⟨fun _ => hK, fun z => absurd (by decide) z⟩
  · rw [c0, c1] at z
    rw [if_neg (by omega)] at hK
    refine L_Mo_next_4 ⟨fun z => absurd z (by decide), fun _ => ⟨by decide, by decide, by decide, fun z => ?_, fun z => ?_⟩⟩
    · have z' : M 257 1 ≤ M 257 2 := z
      rw [if_pos (by omega)] at hK
      exact L_Mo_next_4 ⟨fun _ => hK, fun z => absurd (by decide) z⟩
    · have z' : ¬ M 257 1 ≤ M 257 2 := z
      rw [if_neg (by omega)] at hK
      exact L_Mo_next_4 ⟨fun _ => hK, fun z => absurd (by decide) z⟩
/-- on to the next house that is there -/
theorem sp_leaves {E M : fs_M} {K : fs_K} {tr ta wo d t : Int} (hB : fs_bE E) (hT : fs_rt E) (hE : fs_env E M) (h1 : M 226 42 = tr) (h2 : M 226 43 = ta) (h3 : M 226 44 = wo) (hw : fs_rw E M) (d0 : 0 ≤ d) (d1 : d < E 1 9)
    (t0 : 1 ≤ t) (t1 : t ≤ 300) (a0 : 0 ≤ M 253 d) (a1 : M 253 d ≤ M 252 d) (b1 : 0 ≤ M 254 d) (b2 : M 254 d ≤ 99) (b3 : 0 ≤ M 255 d) (b4 : M 255 d ≤ 100) (b5 : 0 ≤ M 256 d) (b6 : M 256 d ≤ 100)
    (hK : ∀ M' a, fs_out (fun o k => fs_F4 o k ∨ (o = 253 ∧ k = d) ∨ (o = 257 ∧ k = d)) M M' → M' 253 d = a → M 253 d ≤ a → a ≤ M 252 d → fs_kp tr ta wo (fs_left M d (M 253 d)) = fs_kp tr ta wo (fs_left M d a) →
      (fs_kp tr ta wo (fs_left M d a) ≠ [] → a < M 252 d ∧ fs_gn tr ta wo (M 251 (9 * d + a)) = false) → ((∀ h, 0 ≤ h → h < E 1 5 → fs_gn tr ta wo h = false) → a = M 253 d) →
      M' 257 d = min 241 (fs_nx E tr (fs_kp tr ta wo (fs_left M d a)) (M 254 d) t (M 255 d) (M 256 d)) → K none M') : fs_C2 g m_Mo_leaves 6 [fs_r 226, fs_i d, fs_i t] M K := by
  obtain ⟨B1, B2, B3, B4, B5, B6, B7⟩ := hB
  obtain ⟨T1, T2, T3, T4, T5⟩ := hT
  obtain ⟨w1, w2, w3⟩ := hw d d0 d1
  -- the body: what both labels come to
  have body : ∀ (n : Nat) (M1 : fs_M), (M1 252 d - M1 253 d).toNat = n → fs_out (fun o k => o = 253 ∧ k = d) M M1 → 0 ≤ M1 253 d → M1 253 d ≤ M 252 d → M 253 d ≤ M1 253 d → fs_kp tr ta wo (fs_left M d (M 253 d)) = fs_kp tr ta wo (fs_left M d (M1 253 d)) → ((∀ h, 0 ≤ h → h < E 1 5 → fs_gn tr ta wo h = false) → M1 253 d = M 253 d) →
      (M1 252 d ≤ M1 253 d → fs_A2 g m_Mo_leaves 6 51 [(0, fs_r 226), (1, fs_i d), (2, fs_i t)] [] M1 K) ∧ (¬ M1 252 d ≤ M1 253 d → (0 ≤ fs_w32 ((fs_w32 (9 * d)) + (M1 253 d)) ∧ fs_w32 ((fs_w32 (9 * d)) + (M1 253 d)) < 27 ∧ fs_C2 g m_Mo_isGone 1 [fs_r 226, fs_i (M1 251 (fs_w32 ((fs_w32 (9 * d)) + (M1 253 d))))] M1 (fun v M2 => ∃ r2, v = some (fs_i r2) ∧ ((r2 = 0 → fs_A2 g m_Mo_leaves 6 51 [(0, fs_r 226), (1, fs_i d), (2, fs_i t)] [] M2 K) ∧ (¬ r2 = 0 → fs_A2 g m_Mo_leaves 6 0 [(0, fs_r 226), (1, fs_i d), (2, fs_i t)] [] (fs_st M2 253 d (fs_w32 ((M2 253 d) + 1))) K))))) := by
    intro n
    induction n with
    | zero => ?_
    | succ n ih => ?_
    all_goals
      intro M1 hn o1 a0' a1' a2' hkp hng
      have r1 : ∀ o k, (o ≠ 253 ∨ k ≠ d) → M1 o k = M o k := fun o k q => o1 o k (fun z => by have z2 : o = 253 ∧ k = d := z; omega)
      have e252 : M1 252 d = M 252 d := r1 _ _ (Or.inl (by decide))
      have e251 : ∀ k, M1 251 k = M 251 k := fun k => r1 _ _ (Or.inl (by decide))
      have E1 : fs_env E M1 := fun o k z => by
        rw [r1 o k (Or.inl (by unfold fs_eC at z; omega))]
        exact hE o k z
      -- the end
      have fin : (M1 253 d < M 252 d → fs_gn tr ta wo (M 251 (9 * d + M1 253 d)) = false) → fs_A2 g m_Mo_leaves 6 51 [(0, fs_r 226), (1, fs_i d), (2, fs_i t)] [] M1 K := by
        intro hgn
        refine L_Mo_leaves_51 ⟨d0, by omega, fun z => ?_, fun z => ?_⟩
        · rw [e252] at z
          have e : fs_left M d (M1 253 d) = [] := by
            unfold fs_left
            rw [(by omega : (M 252 d - M1 253 d).toNat = 0)]
            rfl
          refine hK _ (M1 253 d) ((o1.wk (fun _ _ q => Or.inr (Or.inl q))).st (Or.inr (Or.inr ⟨rfl, rfl⟩))) (by rw [fs_st_o (by decide)]) a2' a1' hkp (fun q => ?_) hng ?_
          · rw [e] at q
            exact absurd rfl q
          · rw [fs_st_s, e]
            rfl
        · rw [e252] at z
          have hh := w3 (M1 253 d) a0' (by omega)
          have hb := B5 _ hh.1 hh.2
          obtain ⟨t3, t4, t5⟩ := T3 _ hh.1 hh.2
          rw [show fs_w32 (9 * d) = 9 * d from fs_w32_of (by omega) (by omega), fs_w32_of (by omega) (by omega), e251]
          refine ⟨by omega, by omega, ?_⟩
          generalize hh2 : M 251 (9 * d + M1 253 d) = hd at *
          have q1 : ∀ o k, (o = 254 ∨ o = 255 ∨ o = 256) → M1 o k = M o k := fun o k q => r1 o k (Or.inl (by omega))
          rw [q1 254 d (by decide), q1 255 d (by decide), q1 256 d (by decide)]
          have E1' : fs_env E (fs_st M1 257 d 241) := fun o k q => by
            rw [fs_st_o (by unfold fs_eC at q; omega)]
            exact E1 o k q
          have p3 : fs_st M1 257 d 241 230 hd = E 3 hd := by rw [E1' 230 hd (by unfold fs_eC; omega), t3]
          have p4 : fs_st M1 257 d 241 231 hd = E 4 hd := by rw [E1' 231 hd (by unfold fs_eC; omega), t4]
          have p42 : fs_st M1 257 d 241 226 42 = tr := by rw [fs_st_o (by decide), r1 _ _ (Or.inl (by decide)), h1]
          have lim : ∀ x : Int, 0 ≤ x → x ≤ 1000 → fs_lim x := fun x x0 x1 => by unfold fs_lim; omega
          refine sp_walkOf (E1'.rl T5) hh.1 (by omega) (lim _ (by omega) (by omega)) (lim _ (by omega) (by omega)) (lim _ (by omega) (by omega)) (by rw [p4]; exact lim _ (by omega) (by omega)) b1 b2 (by rw [p3]; omega) (by rw [p3]; omega) (fun M3 o3 => ⟨_, rfl, ?_⟩)
          rw [p42, p3, p4, E1'.walk]
          have wb := fs_walk_b (E := E) (way := if tr = 2 then 0 else E 3 hd - M 254 d) (minute := t) (glass := M 255 d) (left := M 256 d) (worth := E 4 hd) (by split <;> omega) (by split <;> omega)
          rw [fs_w32_of (by omega) (by omega)]
          have e : ∃ tl, fs_kp tr ta wo (fs_left M d (M1 253 d)) = hd :: tl := by
            unfold fs_left
            rw [(by omega : (M 252 d - M1 253 d).toNat = (M 252 d - M1 253 d - 1).toNat + 1)]
            show ∃ tl, fs_kp tr ta wo (M 251 (9 * d + M1 253 d) :: _) = hd :: tl
            unfold fs_kp
            rw [hh2, List.filter_cons_of_pos (by rw [hgn (by omega)]; rfl)]
            exact ⟨_, rfl⟩
          obtain ⟨tl, e⟩ := e
          refine sp_minI ⟨_, rfl, ?_⟩
          refine hK _ (M1 253 d) (fs_out.st (((o1.wk (fun _ _ q => Or.inr (Or.inl q))).st (Or.inr (Or.inr ⟨rfl, rfl⟩))).tr (o3.wk (fun _ _ q => Or.inl q))) (Or.inr (Or.inr ⟨rfl, rfl⟩))) ?_ a2' a1' hkp (fun _ => ⟨by omega, by rw [hh2]; exact hgn (by omega)⟩) hng ?_
          · rw [fs_st_o (by decide), o3 253 d (by unfold fs_F4; omega), fs_st_o (by decide)]
          · rw [fs_st_s, e]
            show _ = min 241 (fs_comes E tr hd (M 254 d) t (M 255 d) (M 256 d))
            unfold fs_comes fs_wk
            split <;> omega
      refine ⟨fun z => fin (fun q => by rw [e252] at z; omega), fun z => ?_⟩
      rw [e252] at z
      have hh := w3 (M1 253 d) a0' (by omega)
      rw [show fs_w32 (9 * d) = 9 * d from fs_w32_of (by omega) (by omega), fs_w32_of (by omega) (by omega), e251]
      refine ⟨by omega, by omega, ?_⟩
      refine sp_isGone (by rw [r1 _ _ (Or.inl (by decide))]; exact h1) (by rw [r1 _ _ (Or.inl (by decide))]; exact h2) (by rw [r1 _ _ (Or.inl (by decide))]; exact h3) (fun q => ⟨_, rfl, fun _ => fin (fun _ => q), fun z => absurd rfl z⟩) (fun q => ⟨_, rfl, fun z => absurd z (by decide), fun _ => ?_⟩)
      rw [fs_w32_of (by omega) (by omega)]
    · exact absurd hn (by omega)
    · refine L_Mo_leaves_0 ⟨d0, by omega, ih _ ?_ (o1.st ⟨rfl, rfl⟩) ?_ ?_ ?_ ?_ ?_⟩
      · rw [fs_st_o (by decide), fs_st_s]; omega
      · rw [fs_st_s]; omega
      · rw [fs_st_s]; omega
      · rw [fs_st_s]; omega
      · rw [fs_st_s, hkp]
        unfold fs_left
        rw [(by omega : (M 252 d - M1 253 d).toNat = (M 252 d - (M1 253 d + 1)).toNat + 1)]
        show fs_kp tr ta wo (M 251 (9 * d + M1 253 d) :: fs_lst (M 251) _ (9 * d + M1 253 d + 1)) = _
        unfold fs_kp
        rw [List.filter_cons_of_neg (by rw [q]; decide), Int.add_assoc]
      · rw [fs_st_s]
        intro hz
        have := hz _ hh.1 hh.2
        rw [this] at q
        cases q
  exact E_Mo_leaves ⟨d0, by omega, body _ M rfl fs_out.rf a0 a1 (by omega) rfl (fun _ => rfl)⟩
end MORUN
