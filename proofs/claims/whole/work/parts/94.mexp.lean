-- ===== the model reads expressions =====
def fs_mX (g : fs_G) (T : Int → Int) (E : Int) (md : fs_D) (off m : Nat) (X : fs_q3 → fs_qR) : Prop := ∀ (M : fs_M) (s : fs_q3) (K : fs_K) (d : Nat), fs_mS M T E m s → (off : Int) + 6 * m + 73 - s.2.1 ≤ d → (∀ M' s', X s = .inr s' → fs_out fs_FqM M M' → fs_mS M' T E m s' → K none M') → (∀ M' e, X s = .inl e → fs_out fs_FqM M M' → M' 226 23 = e.1 → M' 226 24 = e.2 → e.1 ≠ 0 → K none M') → fs_C2 g md d [fs_r 226] M K
def fs_chM (g : fs_G) (md : fs_D) (d : Nat) (w : Int) (Z : fs_M → Prop) (M : fs_M) : Prop := fs_C2 g m_Mo_knot 2 [fs_r 226] M (fun v M3 => v = none ∧ fs_C2 g m_Mo_goOn 7 [fs_r 226] M3 (fun v M4 => v = none ∧ fs_C2 g md d [fs_r 226] M4 (fun v M5 => v = none ∧ fs_C2 g m_Mo_puts 2 [fs_r 226, fs_i 2, fs_i w] M5 (fun v M6 => v = none ∧ Z M6))))
theorem fs_qB_as {r : fs_qR} {f F : fs_q3 → fs_qR} : fs_qB (fs_qB r f) F = fs_qB r (fun s => fs_qB (f s) F) := by
  cases r <;> rfl
theorem fs_qL_y {T : Int → Int} {E : Int} {X : fs_q3 → fs_qR} {lev : Int} {n : Nat} {s : fs_q3} (h : fs_lev (fs_lxt T E s.1) = lev) : fs_qL T E X lev (n + 1) s = fs_qB (fs_qB (fs_qK s) (fun s1 => X (fs_qA T E s1))) (fun s2 => fs_qL T E X lev n (fs_qP s2 (fs_lxt T E s.1) 0)) := by
  rw [fs_qB_as]
  exact if_pos h
theorem fs_qL_n {T : Int → Int} {E : Int} {X : fs_q3 → fs_qR} {lev : Int} {n : Nat} {s : fs_q3} (h : fs_lev (fs_lxt T E s.1) ≠ lev) : fs_qL T E X lev n s = .inr s := by
  cases n with
  | zero => rfl
  | succ n => exact if_neg h
theorem fs_qN_y {T : Int → Int} {E : Int} {Y : fs_q3 → fs_qR} {n : Nat} {s : fs_q3} (h : fs_lxt T E s.1 = 1020) : fs_qN T E Y (n + 1) s = fs_qB (fs_qB (fs_qK s) (fun s1 => fs_qN T E Y n (fs_qA T E s1))) (fun s2 => .inr (fs_qP s2 1020 0)) := by
  rw [fs_qB_as]
  exact if_pos h
theorem fs_qI_r {T : Int → Int} {E : Int} {X : fs_q3 → fs_qR} {lev : Int} {n : Nat} {s s1 : fs_q3} (h : X s = .inr s1) : fs_qI T E X lev n s = fs_qL T E X lev n s1 := by
  unfold fs_qI
  rw [h]
  rfl
theorem fs_qI_l {T : Int → Int} {E : Int} {X : fs_q3 → fs_qR} {lev : Int} {n : Nat} {s : fs_q3} {e : Int × Int} (h : X s = .inl e) : fs_qI T E X lev n s = .inl e := by
  unfold fs_qI
  rw [h]
  rfl
section MEXP
variable {g : fs_G} {M : fs_M} {T : Int → Int} {E : Int}
theorem sp_stepM {md : fs_D} {X : fs_q3 → fs_qR} {b : Nat} (hI : fs_mI g md b) {d m : Nat} (hb : b ≤ d) {Z : fs_M → Prop} {s : fs_q3} {t w : Int} (hs : fs_mS M T E m s) (hG : fs_qG E X) (h1 : fs_srt t = 2) (h2 : fs_val t 0 = w)
    (hX : ∀ (M4 : fs_M) (K4 : fs_K), fs_mS M4 T E m (fs_qA T E (s.1, s.2.1 + 1, s.2.2)) → (∀ M' s', X (fs_qA T E (s.1, s.2.1 + 1, s.2.2)) = .inr s' → fs_out fs_FqM M4 M' → fs_mS M' T E m s' → K4 none M') → (∀ M' e, X (fs_qA T E (s.1, s.2.1 + 1, s.2.2)) = .inl e → fs_out fs_FqM M4 M' → M' 226 23 = e.1 → M' 226 24 = e.2 → e.1 ≠ 0 → K4 none M') → fs_C2 g md d [fs_r 226] M4 K4)
    (ok : ∀ M' s2, fs_qB (fs_qK s) (fun s1 => X (fs_qA T E s1)) = .inr s2 → s.2.1 + 1 ≤ s2.2.1 → fs_out fs_FqM M M' → fs_mS M' T E m (fs_qP s2 t 0) → Z M')
    (no : ∀ M' e, fs_qB (fs_qK s) (fun s1 => X (fs_qA T E s1)) = .inl e → fs_out fs_FqM M M' → M' 226 23 = e.1 → M' 226 24 = e.2 → e.1 ≠ 0 → Z M') : fs_chM g md d w Z M := by
  have hle := hs.2.2.2.2.2.2.2.2.2.1
  refine sp_knotM hs (fun lt M3 o3 h3 => ⟨rfl, E_Mo_goOn ⟨fun z => absurd h3.2.2.2.2.1 z, fun _ => sp_tokS h3 (fun M4 o4 h4 => ⟨rfl, rfl, ?_⟩)⟩⟩) (fun nlt M3 o3 e1 e2 => ?_)
  · have ek : fs_qK s = .inr (s.1, s.2.1 + 1, s.2.2) := if_pos lt
    rw [ek] at ok no
    refine hX M4 _ h4 (fun M5 s2 ex o5 h5 => ⟨rfl, ?_⟩) (fun M5 e ex o5 e1 e2 e3 => ⟨rfl, fi_puts (by rw [e1]; exact e3) ⟨rfl, no M5 e ex ((o3.tr o4).tr o5) e1 e2 e3⟩⟩)
    obtain ⟨_, _, _, W, w1, w2, _, _⟩ := hG _ s2 ex h4.2.2.1 h4.2.2.2.1 h4.2.2.2.2.2.2.2.1
    have w1' : s2.2.2 = s.2.2 ++ W := w1
    have w2' : s2.2.1 = s.2.1 + 1 + (W.length : Int) := w2
    refine sp_putM h5 ?_ h1.symm h2.symm (fun M6 o6 h6 => ⟨rfl, ok M6 s2 ex (by omega) (((o3.tr o4).tr o5).tr o6) h6⟩)
    rw [w1', w2', List.length_append]
    omega
  · have ek : fs_qK s = .inl (2, s.1) := if_neg nlt
    rw [ek] at ok no
    have f : ¬ M3 226 23 = 0 := by
      rw [e1]
      decide
    exact ⟨rfl, fi_goOn f ⟨rfl, hI M3 _ d hb f ⟨rfl, fi_puts f ⟨rfl, no M3 (2, s.1) rfl o3 e1 e2 fs_n2z⟩⟩⟩⟩
theorem sp_loopM {md : fs_D} {X : fs_q3 → fs_qR} {b : Nat} (hI : fs_mI g md b) {d m off : Nat} (hb : b ≤ d) (hG : fs_qG E X) {lev : Int} (l1 : 1 ≤ lev) (l5 : lev ≤ 5) {K : fs_K} {A : fs_M → Prop} (hX : fs_mX g T E md off m X)
    (hidle : ∀ M, ¬ M 226 23 = 0 → K none M → A M) (hstop : ∀ M s, fs_mS M T E m s → fs_lev (fs_lxt T E s.1) ≠ lev → K none M → A M)
    (hgo : ∀ M s, fs_mS M T E m s → fs_lev (fs_lxt T E s.1) = lev → fs_chM g md d (fs_val (fs_lxt T E s.1) 0) A M → A M) :
    ∀ (n : Nat) (M : fs_M) (s : fs_q3), fs_mS M T E m s → 65 - (n : Int) ≤ s.2.1 → (off : Int) + 6 * m + 73 - (s.2.1 + 1) ≤ d → (∀ M' s', fs_qL T E X lev n s = .inr s' → fs_out fs_FqM M M' → fs_mS M' T E m s' → K none M') → (∀ M' e, fs_qL T E X lev n s = .inl e → fs_out fs_FqM M M' → M' 226 23 = e.1 → M' 226 24 = e.2 → e.1 ≠ 0 → K none M') → A M := by
  intro n
  induction n with
  | zero =>
    intro M s hs hn hd ok no
    have := hs.2.2.2.2.2.2.2.1
    omega
  | succ n ih =>
    intro M s hs hn hd ok no
    by_cases c : fs_lev (fs_lxt T E s.1) = lev
    · rw [fs_qL_y c] at ok no
      obtain ⟨tk, _, _, _, _⟩ := fs_lx_all (T := T) (E := E) (p := s.1) hs.2.2.2.1
      obtain ⟨g1, g2, g3⟩ := (fs_lev_sg tk).1 (by omega) (by omega)
      refine hgo M s hs c (sp_stepM hI hb hs hG g1 rfl (fun M4 K4 h4 ok4 no4 => hX M4 _ K4 d h4 hd ok4 no4) (fun M' s2 ex cc o' h' => ?_) (fun M' e ex o' e1 e2 e3 => hidle M' (by rw [e1]; exact e3) (no M' e (by rw [ex]; rfl) o' e1 e2 e3)))
      rw [ex] at ok no
      refine ih M' _ h' (by show 65 - (n : Int) ≤ s2.2.1; omega) (by show (off : Int) + 6 * m + 73 - (s2.2.1 + 1) ≤ d; omega) (fun M2 s' y o2 h2 => ok M2 s' y (o'.tr o2) h2) (fun M2 e y o2 => no M2 e y (o'.tr o2))
    · exact hstop M s hs c (ok M s (fs_qL_n c) fs_out.rf hs)
theorem fs_mS.tk {m : Nat} {s : fs_q3} (h : fs_mS M T E m s) : fs_tk (fs_lxt T E s.1) := (fs_lx_all (T := T) (E := E) (p := s.1) h.2.2.2.1).1
theorem sp_exM {m : Nat} {X : fs_q3 → fs_qR} (hG : fs_qG E X) (hX : fs_mX g T E m_Mo_conjunction 4 m X) : fs_mX g T E m_Mo_expression 5 m (fs_qI T E X 1 65) := by
  intro M s K d0 hs hd ok no
  have c64 := hs.2.2.2.2.2.2.2.1
  obtain ⟨d, rfl⟩ : ∃ d, d0 = d + 1 := ⟨d0 - 1, by omega⟩
  refine E_Mo_expression (by omega) (hX M s _ d hs (by omega) (fun M1 s1 ex o1 h1 => ⟨rfl, ?_⟩) (fun M1 e ex o1 e1 e2 e3 => ⟨rfl, fi_expression4 (by omega) (by rw [e1]; exact e3) (no M1 e (fs_qI_l ex) o1 e1 e2 e3)⟩))
  have ei : fs_qI T E X 1 65 s = fs_qL T E X 1 65 s1 := fs_qI_r ex
  rw [ei] at ok no
  obtain ⟨_, _, _, W, w1, w2, _, _⟩ := hG s s1 ex hs.2.2.1 hs.2.2.2.1 c64
  have c0 := hs.2.2.2.2.2.2.1
  refine sp_loopM (d := d) (m := m) (A := fun N => fs_A2 g m_Mo_expression (d + 1) 4 [(0, fs_r 226)] [] N K) fi_conjunction (by omega) hG (by omega) (by omega) hX (fun N h k => fi_expression4 (by omega) h k) (fun N r hr nl k => L_Mo_expression_4 (by omega) (sp_isWordM hr.2.2.2.2.1 hr.2.1 (fun y => absurd ((fs_mt hr.tk).1.mp y) nl) (fun _ => ⟨0, rfl, fun _ => k, fun z => absurd rfl z⟩))) (fun N r hr l ch => L_Mo_expression_4 (by omega) (sp_isWordM hr.2.2.2.2.1 hr.2.1 (fun _ => ⟨1, rfl, fun z => absurd z (by decide), fun _ => ?_⟩) (fun y => absurd ((fs_mt hr.tk).1.mpr l) y))) 65 M1 s1 h1 (by omega) (by omega) (fun M' s' y o' h' => ok M' s' y (o1.tr o') h') (fun M' e y o' => no M' e y (o1.tr o'))
  have w : fs_val (fs_lxt T E r.1) 0 = 262 := (fs_mt2 hr.tk).2.1 l
  rw [w] at ch
  exact ch
theorem sp_coM {m : Nat} {X : fs_q3 → fs_qR} (hG : fs_qG E X) (hX : fs_mX g T E m_Mo_negation 3 m X) : fs_mX g T E m_Mo_conjunction 4 m (fs_qI T E X 2 65) := by
  intro M s K d0 hs hd ok no
  have c64 := hs.2.2.2.2.2.2.2.1
  obtain ⟨d, rfl⟩ : ∃ d, d0 = d + 1 := ⟨d0 - 1, by omega⟩
  refine E_Mo_conjunction (by omega) (hX M s _ d hs (by omega) (fun M1 s1 ex o1 h1 => ⟨rfl, ?_⟩) (fun M1 e ex o1 e1 e2 e3 => ⟨rfl, fi_conjunction4 (by omega) (by rw [e1]; exact e3) (no M1 e (fs_qI_l ex) o1 e1 e2 e3)⟩))
  have ei : fs_qI T E X 2 65 s = fs_qL T E X 2 65 s1 := fs_qI_r ex
  rw [ei] at ok no
  obtain ⟨_, _, _, W, w1, w2, _, _⟩ := hG s s1 ex hs.2.2.1 hs.2.2.2.1 c64
  have c0 := hs.2.2.2.2.2.2.1
  refine sp_loopM (d := d) (m := m) (A := fun N => fs_A2 g m_Mo_conjunction (d + 1) 4 [(0, fs_r 226)] [] N K) fi_negation (by omega) hG (by omega) (by omega) hX (fun N h k => fi_conjunction4 (by omega) h k) (fun N r hr nl k => L_Mo_conjunction_4 (by omega) (sp_isWordM hr.2.2.2.2.1 hr.2.1 (fun y => absurd ((fs_mt hr.tk).2.1.mp y) nl) (fun _ => ⟨0, rfl, fun _ => k, fun z => absurd rfl z⟩))) (fun N r hr l ch => L_Mo_conjunction_4 (by omega) (sp_isWordM hr.2.2.2.2.1 hr.2.1 (fun _ => ⟨1, rfl, fun z => absurd z (by decide), fun _ => ?_⟩) (fun y => absurd ((fs_mt hr.tk).2.1.mpr l) y))) 65 M1 s1 h1 (by omega) (by omega) (fun M' s' y o' h' => ok M' s' y (o1.tr o') h') (fun M' e y o' => no M' e y (o1.tr o'))
  have w : fs_val (fs_lxt T E r.1) 0 = 261 := (fs_mt2 hr.tk).2.2.1 l
  rw [w] at ch
  exact ch
theorem sp_neM {m : Nat} {X : fs_q3 → fs_qR} (hG : fs_qG E X) (hX : fs_mX g T E m_Mo_sum 2 m X) : ∀ (n : Nat) (M : fs_M) (s : fs_q3) (K : fs_K) (d : Nat), fs_mS M T E m s → 65 - (n : Int) ≤ s.2.1 → ((3 : Nat) : Int) + 6 * m + 73 - s.2.1 ≤ d → (∀ M' s', fs_qN T E (fs_qI T E X 3 1) n s = .inr s' → fs_out fs_FqM M M' → fs_mS M' T E m s' → K none M') → (∀ M' e, fs_qN T E (fs_qI T E X 3 1) n s = .inl e → fs_out fs_FqM M M' → M' 226 23 = e.1 → M' 226 24 = e.2 → e.1 ≠ 0 → K none M') → fs_C2 g m_Mo_negation d [fs_r 226] M K := by
  have hGY : fs_qG E (fs_qI T E X 3 1) := fs_qI_good (by omega) (by omega) hG
  intro n
  induction n with
  | zero =>
    intro M s K d0 hs hn hd ok no
    have := hs.2.2.2.2.2.2.2.1
    omega
  | succ n ih =>
    intro M s K d0 hs hn hd ok no
    have c64 := hs.2.2.2.2.2.2.2.1
    have c0 := hs.2.2.2.2.2.2.1
    obtain ⟨d, rfl⟩ : ∃ d, d0 = d + 1 := ⟨d0 - 1, by omega⟩
    refine E_Mo_negation (by omega) (sp_isWordM hs.2.2.2.2.1 hs.2.1 (fun y => ⟨1, rfl, fun z => absurd z (by decide), fun _ => ?_⟩) (fun y => ⟨0, rfl, fun _ => ?_, fun z => absurd rfl z⟩))
    · have t20 := (fs_mt hs.tk).2.2.1.mp y
      rw [fs_qN_y t20] at ok no
      have ch : fs_chM g m_Mo_negation d 260 (fun N => K none N) M := sp_stepM (t := 1020) fi_negation (by omega) hs (fs_qN_good hGY n) (by decide) (by decide) (fun M4 K4 h4 ok4 no4 => ih M4 _ K4 d h4 (by show 65 - (n : Int) ≤ s.2.1 + 1; omega) (by show ((3 : Nat) : Int) + 6 * m + 73 - (s.2.1 + 1) ≤ d; omega) ok4 no4) (fun M' s2 ex cc o' h' => ok M' (fs_qP s2 1020 0) (by rw [ex]; rfl) o' h') (fun M' e ex o' e1 e2 e3 => no M' e (by rw [ex]; rfl) o' e1 e2 e3)
      exact ch
    · have t20 : ¬ fs_lxt T E s.1 = 1020 := fun z => y ((fs_mt hs.tk).2.2.1.mpr z)
      have e : fs_qN T E (fs_qI T E X 3 1) (n + 1) s = fs_qI T E X 3 1 s := if_neg t20
      rw [e] at ok no
      refine hX M s _ d hs (by omega) (fun M2 s1 ex o1 h1 => ⟨rfl, fun z => absurd h1.2.2.2.2.1 z, fun _ => ?_⟩) (fun M2 e ex o1 e1 e2 e3 => ⟨rfl, fun _ => no M2 e (fs_qI_l ex) o1 e1 e2 e3, fun z => absurd (e1.symm.trans z) e3⟩)
      have ei : fs_qI T E X 3 1 s = fs_qL T E X 3 1 s1 := fs_qI_r ex
      rw [ei] at ok no
      obtain ⟨_, _, _, W, w1, w2, _, _⟩ := hG s s1 ex hs.2.2.1 hs.2.2.2.1 c64
      obtain ⟨_, _, e21, _, _, _, e22⟩ := h1.2.1
      have stop : fs_lev (fs_lxt T E s1.1) ≠ 3 → K none M2 := fun nl => ok M2 s1 (fs_qL_n nl) o1 h1
      have go : fs_lev (fs_lxt T E s1.1) = 3 → fs_A2 g m_Mo_negation (d + 1) 87 [(0, fs_r 226)] [] M2 K := fun l => by
        have m3 := ((fs_mt h1.tk).2.2.2.1.mpr l).1
        have v22 : M2 226 22 = fs_val (fs_lxt T E s1.1) 0 := by
          rw [e22 m3]
          exact (fs_mt2 h1.tk).1 (by omega) (by omega)
        refine L_Mo_negation_87 (by omega) ?_
        rw [v22]
        rw [fs_qL_y l] at ok no
        obtain ⟨g1, g2, g3⟩ := (fs_lev_sg h1.tk).1 (by omega) (by omega)
        have ch : fs_chM g m_Mo_sum d (fs_val (fs_lxt T E s1.1) 0) (fun N => K none N) M2 := sp_stepM fi_sum (by omega) h1 hG g1 rfl (fun M4 K4 h4 ok4 no4 => hX M4 _ K4 d h4 (by show ((2 : Nat) : Int) + 6 * m + 73 - (s1.2.1 + 1) ≤ d; omega) ok4 no4) (fun M' s2 ex cc o' h' => ok M' (fs_qP s2 (fs_lxt T E s1.1) 0) (by rw [ex]; rfl) (o1.tr o') h') (fun M' e ex o' e1 e2 e3 => no M' e (by rw [ex]; rfl) (o1.tr o') e1 e2 e3)
        exact ch
      rw [e21]
      refine ⟨fun z => stop (fun l => z ((fs_mt h1.tk).2.2.2.1.mpr l).1), fun z => ?_⟩
      rw [e22 z]
      have yes : (fs_msv (fs_lxt T E s1.1) = 60 ∨ fs_msv (fs_lxt T E s1.1) = 62 ∨ fs_msv (fs_lxt T E s1.1) = 61 ∨ 256 ≤ fs_msv (fs_lxt T E s1.1)) → fs_A2 g m_Mo_negation (d + 1) 87 [(0, fs_r 226)] [] M2 K := fun w => go ((fs_mt h1.tk).2.2.2.1.mp ⟨z, w⟩)
      refine ⟨fun w => yes (Or.inl w), fun n1 => ⟨fun w => yes (Or.inr (Or.inl w)), fun n2 => ⟨fun w => yes (Or.inr (Or.inr (Or.inl w))), fun n3 => ⟨fun w => yes (Or.inr (Or.inr (Or.inr w))), fun n4 => stop (fun l => ?_)⟩⟩⟩⟩
      rcases ((fs_mt h1.tk).2.2.2.1.mpr l).2 with w | w | w | w
      · exact n1 w
      · exact n2 w
      · exact n3 w
      · exact n4 w
theorem sp_suM {m : Nat} {X : fs_q3 → fs_qR} (hG : fs_qG E X) (hX : fs_mX g T E m_Mo_product 1 m X) : fs_mX g T E m_Mo_sum 2 m (fs_qI T E X 4 65) := by
  intro M s K d0 hs hd ok no
  have c64 := hs.2.2.2.2.2.2.2.1
  obtain ⟨d, rfl⟩ : ∃ d, d0 = d + 1 := ⟨d0 - 1, by omega⟩
  refine E_Mo_sum (by omega) (hX M s _ d hs (by omega) (fun M1 s1 ex o1 h1 => ⟨rfl, ?_⟩) (fun M1 e ex o1 e1 e2 e3 => ⟨rfl, fi_sum4 (by omega) (by rw [e1]; exact e3) (no M1 e (fs_qI_l ex) o1 e1 e2 e3)⟩))
  have ei : fs_qI T E X 4 65 s = fs_qL T E X 4 65 s1 := fs_qI_r ex
  rw [ei] at ok no
  obtain ⟨_, _, _, W, w1, w2, _, _⟩ := hG s s1 ex hs.2.2.1 hs.2.2.2.1 c64
  have c0 := hs.2.2.2.2.2.2.1
  refine sp_loopM (d := d) (m := m) (A := fun N => fs_A2 g m_Mo_sum (d + 1) 4 [(0, fs_r 226)] [] N K) fi_product (by omega) hG (by omega) (by omega) hX (fun N h k => fi_sum4 (by omega) h k) (fun N r hr nl k => L_Mo_sum_4 (by omega) (sp_isSignM hr.2.2.2.2.1 hr.2.1 (fun y => absurd ((fs_mt hr.tk).2.2.2.2.1.mp ⟨y.1, Or.inl y.2⟩) nl) (fun _ => ⟨0, rfl, fun z => absurd rfl z, fun _ => sp_isSignM hr.2.2.2.2.1 hr.2.1 (fun y => absurd ((fs_mt hr.tk).2.2.2.2.1.mp ⟨y.1, Or.inr y.2⟩) nl) (fun _ => ⟨0, rfl, fun _ => k, fun z => absurd rfl z⟩)⟩))) (fun N r hr l ch => ?_) 65 M1 s1 h1 (by omega) (by omega) (fun M' s' y o' h' => ok M' s' y (o1.tr o') h') (fun M' e y o' => no M' e y (o1.tr o'))
  obtain ⟨m3, mv⟩ := (fs_mt hr.tk).2.2.2.2.1.mpr l
  have go : fs_A2 g m_Mo_sum (d + 1) 22 [(0, fs_r 226)] [] N K := by
    have v22 : N 226 22 = fs_val (fs_lxt T E r.1) 0 := by
      rw [hr.2.1.2.2.2.2.2.2 m3]
      exact (fs_mt2 hr.tk).1 (by omega) (by omega)
    refine L_Mo_sum_22 (by omega) ?_
    rw [v22]
    exact ch
  exact L_Mo_sum_4 (by omega) (sp_isSignM hr.2.2.2.2.1 hr.2.1 (fun _ => ⟨1, rfl, fun _ => go, fun z => absurd z (by decide)⟩) (fun n1 => ⟨0, rfl, fun z => absurd rfl z, fun _ => sp_isSignM hr.2.2.2.2.1 hr.2.1 (fun _ => ⟨1, rfl, fun z => absurd z (by decide), fun _ => go⟩) (fun n2 => absurd mv (fun w => w.elim (fun w => n1 ⟨m3, w⟩) (fun w => n2 ⟨m3, w⟩)))⟩))
theorem sp_prM {m : Nat} {X : fs_q3 → fs_qR} (hG : fs_qG E X) (hX : fs_mX g T E m_Mo_primary 0 m X) : fs_mX g T E m_Mo_product 1 m (fs_qI T E X 5 65) := by
  intro M s K d0 hs hd ok no
  have c64 := hs.2.2.2.2.2.2.2.1
  obtain ⟨d, rfl⟩ : ∃ d, d0 = d + 1 := ⟨d0 - 1, by omega⟩
  refine E_Mo_product (by omega) (hX M s _ d hs (by omega) (fun M1 s1 ex o1 h1 => ⟨rfl, ?_⟩) (fun M1 e ex o1 e1 e2 e3 => ⟨rfl, fi_product4 (by omega) (by rw [e1]; exact e3) (no M1 e (fs_qI_l ex) o1 e1 e2 e3)⟩))
  have ei : fs_qI T E X 5 65 s = fs_qL T E X 5 65 s1 := fs_qI_r ex
  rw [ei] at ok no
  obtain ⟨_, _, _, W, w1, w2, _, _⟩ := hG s s1 ex hs.2.2.1 hs.2.2.2.1 c64
  have c0 := hs.2.2.2.2.2.2.1
  refine sp_loopM (d := d) (m := m) (A := fun N => fs_A2 g m_Mo_product (d + 1) 4 [(0, fs_r 226)] [] N K) fi_primary (by omega) hG (by omega) (by omega) hX (fun N h k => fi_product4 (by omega) h k) (fun N r hr nl k => L_Mo_product_4 (by omega) (sp_isSignM hr.2.2.2.2.1 hr.2.1 (fun y => absurd ((fs_mt hr.tk).2.2.2.2.2.1.mp ⟨y.1, Or.inl y.2⟩) nl) (fun _ => ⟨0, rfl, fun z => absurd rfl z, fun _ => sp_isSignM hr.2.2.2.2.1 hr.2.1 (fun y => absurd ((fs_mt hr.tk).2.2.2.2.2.1.mp ⟨y.1, Or.inr y.2⟩) nl) (fun _ => ⟨0, rfl, fun _ => k, fun z => absurd rfl z⟩)⟩))) (fun N r hr l ch => ?_) 65 M1 s1 h1 (by omega) (by omega) (fun M' s' y o' h' => ok M' s' y (o1.tr o') h') (fun M' e y o' => no M' e y (o1.tr o'))
  obtain ⟨m3, mv⟩ := (fs_mt hr.tk).2.2.2.2.2.1.mpr l
  have go : fs_A2 g m_Mo_product (d + 1) 22 [(0, fs_r 226)] [] N K := by
    have v22 : N 226 22 = fs_val (fs_lxt T E r.1) 0 := by
      rw [hr.2.1.2.2.2.2.2.2 m3]
      exact (fs_mt2 hr.tk).1 (by omega) (by omega)
    refine L_Mo_product_22 (by omega) ?_
    rw [v22]
    exact ch
  exact L_Mo_product_4 (by omega) (sp_isSignM hr.2.2.2.2.1 hr.2.1 (fun _ => ⟨1, rfl, fun _ => go, fun z => absurd z (by decide)⟩) (fun n1 => ⟨0, rfl, fun z => absurd rfl z, fun _ => sp_isSignM hr.2.2.2.2.1 hr.2.1 (fun _ => ⟨1, rfl, fun z => absurd z (by decide), fun _ => go⟩) (fun n2 => absurd mv (fun w => w.elim (fun w => n1 ⟨m3, w⟩) (fun w => n2 ⟨m3, w⟩)))⟩))
end MEXP
