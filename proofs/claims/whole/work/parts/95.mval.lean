-- ===== the model reads values; whole expressions =====
theorem fs_mS.reopen {M : fs_M} {T : Int → Int} {E : Int} {m n : Nat} {s : fs_q3} {v : Int} (h : fs_mS M T E m s) (hv : v = 8 - (n : Int)) : fs_mS (fs_st M 226 27 v) T E n s := by
  obtain ⟨ht, hm, p0, p1, hf, hc, c0, c1, hl, hle, hk, ho⟩ := h
  refine ⟨ht.cg (fs_st_k (by omega)) (fs_st_k (by omega)) (fun x => fs_st_o (by omega)), hm.same (fun k k0 k1 => fs_st_k (by omega)), p0, p1, ?_, ?_, c0, c1, ?_, hle, fun j q z => ?_, ?_⟩
  · rw [fs_st_k (by omega)]
    exact hf
  · rw [fs_st_k (by omega)]
    exact hc
  · rw [fs_st_o (by omega)]
    exact hl
  · rw [fs_st_o (by omega), fs_st_o (by omega)]
    exact hk j q z
  · rw [fs_st_s]
    exact hv
section MVAL
variable {g : fs_G} {M : fs_M} {T : Int → Int} {E : Int}
theorem fi_primary176 {K : fs_K} {d : Nat} (hd : 7 ≤ d) {x1 y : Int} (h : ¬ M 226 23 = 0) (k : K none M) : fs_A2 g m_Mo_primary (d + 1) 176 [(0, fs_r 226), (1, fs_i x1)] [fs_i y, fs_r 226] M K :=
  L_Mo_primary_176 hd ⟨fun _ => fi_puts h ⟨rfl, fi_goOn h ⟨rfl, k⟩⟩, fun _ => fi_puts h ⟨rfl, fi_goOn h ⟨rfl, k⟩⟩⟩
theorem fi_primary162 {K : fs_K} {d : Nat} (hd : 7 ≤ d) {x1 : Int} (h : ¬ M 226 23 = 0) (k : K none M) : fs_A2 g m_Mo_primary (d + 1) 162 [(0, fs_r 226), (1, fs_i x1)] [] M K :=
  L_Mo_primary_162 hd (fi_knot h ⟨rfl, fun _ => fi_primary176 hd h k, fun _ => fi_primary176 hd h k⟩)
theorem sp_goOnM {K : fs_K} {m : Nat} {s : fs_q3} (h : fs_mS M T E m s) (hK : ∀ M', fs_out fs_FqM M M' → fs_mS M' T E m (fs_qA T E s) → K none M') : fs_C2 g m_Mo_goOn 7 [fs_r 226] M K :=
  E_Mo_goOn ⟨fun z => absurd h.2.2.2.2.1 z, fun _ => sp_tokS h (fun M' o' h' => ⟨rfl, hK M' o' h'⟩)⟩
theorem sp_vaM {m : Nat} {B : fs_q3 → fs_qR} (hO : ∀ (M : fs_M) (s : fs_q3) (K : fs_K) (d : Nat), fs_mS M T E m s → fs_lxt T E s.1 = 1031 → ((0 : Nat) : Int) + 6 * m + 73 - s.2.1 ≤ ((d + 1 : Nat) : Int) → (∀ M' s', B s = .inr s' → fs_out fs_FqM M M' → fs_mS M' T E m s' → K none M') → (∀ M' e, B s = .inl e → fs_out fs_FqM M M' → M' 226 23 = e.1 → M' 226 24 = e.2 → e.1 ≠ 0 → K none M') →
      ((¬ M 226 27 = 8 → fs_A2 g m_Mo_primary (d + 1) 31 [(0, fs_r 226)] [] M K) ∧ (M 226 27 = 8 → fs_C2 g m_Mo_wrong 1 [fs_r 226, fs_i 2] M (fun v M2 => v = none ∧ fs_A2 g m_Mo_primary (d + 1) 31 [(0, fs_r 226)] [] M2 K)))) : fs_mX g T E m_Mo_primary 0 m (fs_qV T E B) := by
  intro M s K d0 hs hd ok no
  have c64 := hs.2.2.2.2.2.2.2.1
  have c0 := hs.2.2.2.2.2.2.1
  have hle := hs.2.2.2.2.2.2.2.2.2.1
  have hf := hs.2.2.2.2.1
  obtain ⟨d, rfl⟩ : ∃ d, d0 = d + 1 := ⟨d0 - 1, by omega⟩
  have d7 : 7 ≤ d := by omega
  have mt := fs_mt hs.tk
  obtain ⟨_, _, e21, _, e22n, e22w, _⟩ := hs.2.1
  refine E_Mo_primary d7 ⟨fun _ => sp_isSignM hf hs.2.1 (fun y => ⟨1, rfl, fun z => absurd z (by decide), fun _ => ?_⟩) (fun y => ⟨0, rfl, fun _ => ?_, fun z => absurd rfl z⟩), fun z => absurd hf z⟩
  · have t31 := mt.2.2.2.2.2.2.1.mp y
    have ev : fs_qV T E B s = B s := if_pos t31
    rw [ev] at ok no
    exact hO M s K d hs t31 hd ok no
  · have t31 : ¬ fs_lxt T E s.1 = 1031 := fun z => y (mt.2.2.2.2.2.2.1.mpr z)
    have ev : fs_qV T E B s = if fs_lev (fs_lxt T E s.1) = 6 then (if fs_lxt T E s.1 = 1017 ∧ 9999 < fs_lxn T E s.1 then .inl (2, s.1) else fs_qB (fs_qK s) (fun s1 => .inr (fs_qA T E (fs_qP s1 (fs_lxt T E s.1) (if fs_lxt T E s.1 = 1017 then fs_lxn T E s.1 else 0))))) else .inl (1, s.1) := if_neg t31
    rw [ev] at ok no
    have l17 : fs_lev 1017 = 6 := (fs_mt2 hs.tk).2.2.2.2.2.2
    have v162 : ∀ x1 : Int, fs_lev (fs_lxt T E s.1) = 6 → ¬ (fs_lxt T E s.1 = 1017 ∧ 9999 < fs_lxn T E s.1) → (x1 = 0 → fs_lxt T E s.1 ≠ 1017) → (¬ x1 = 0 → fs_lxt T E s.1 = 1017) → fs_A2 g m_Mo_primary (d + 1) 162 [(0, fs_r 226), (1, fs_i x1)] [] M K := fun x1 l6 w x0 x1' => by
      rw [if_pos l6, if_neg w] at ok no
      refine L_Mo_primary_162 d7 (sp_knotM hs (fun lt M9 o9 h9 => ⟨rfl, ?_⟩) (fun nlt M9 o9 e1 e2 => ?_))
      · have ek : fs_qK s = .inr (s.1, s.2.1 + 1, s.2.2) := if_pos lt
        rw [ek] at ok no
        have lt2 : (s.2.2.length : Int) < s.2.1 + 1 := by omega
        obtain ⟨_, _, _, _, f22n, f22w, _⟩ := h9.2.1
        refine ⟨fun z => L_Mo_primary_176 d7 ⟨fun _ => ?_, fun q => absurd z q⟩, fun z => L_Mo_primary_176 d7 ⟨fun q => absurd q z, fun _ => ?_⟩⟩
        · have n17 := x0 z
          obtain ⟨s1, s2, s3⟩ := (fs_mt2 hs.tk).2.2.2.1 l6 n17
          have m0 := (mt.2.2.2.2.2.2.2.2.2.2.mpr ⟨l6, n17⟩)
          have v : M9 226 22 = fs_wno (fs_lxt T E s.1) := f22w m0.1
          rw [if_neg n17] at ok
          rw [v, fs_w32_of (x := fs_wno (fs_lxt T E s.1) - 13) (by omega) (by omega)]
          refine sp_putM h9 lt2 s1.symm s2.symm (fun M10 o10 h10 => ⟨rfl, sp_goOnM h10 (fun M11 o11 h11 => ⟨rfl, ok M11 _ rfl ((o9.tr o10).tr o11) h11⟩)⟩)
        · have t17 := x1' z
          have v : min (M9 226 22) 100000 = fs_lxn T E s.1 ∧ 0 ≤ M9 226 22 := f22n t17
          have v2 : M9 226 22 = fs_lxn T E s.1 := by
            have : ¬ 9999 < fs_lxn T E s.1 := fun q => w ⟨t17, q⟩
            omega
          rw [if_pos t17] at ok
          rw [v2]
          refine sp_putM h9 lt2 (t := fs_lxt T E s.1) (n := fs_lxn T E s.1) (by rw [t17]; rfl) (by rw [t17]; rfl) (fun M10 o10 h10 => ⟨rfl, sp_goOnM h10 (fun M11 o11 h11 => ⟨rfl, ok M11 _ rfl ((o9.tr o10).tr o11) h11⟩)⟩)
      · have ek : fs_qK s = .inl (2, s.1) := if_neg nlt
        rw [ek] at ok no
        have f : ¬ M9 226 23 = 0 := by
          rw [e1]
          decide
        have k := no M9 (2, s.1) rfl o9 e1 e2 fs_n2z
        exact ⟨rfl, fun _ => fi_primary176 d7 f k, fun _ => fi_primary176 d7 f k⟩
    refine ⟨fun z => ?_, fun z => ?_⟩
    · rw [e21] at z
      have n17 : fs_lxt T E s.1 ≠ 1017 := fun q => z (mt.2.2.2.2.2.2.2.2.2.1.mpr q)
      have bad : ¬ fs_lev (fs_lxt T E s.1) = 6 → fs_C2 g m_Mo_wrong 1 [fs_r 226, fs_i 1] M (fun v M15 => v = none ∧ fs_A2 g m_Mo_primary (d + 1) 162 [(0, fs_r 226), (1, fs_i 0)] [] M15 K) := fun nl => by
        rw [if_neg nl] at ok no
        refine sp_wrongM hf hs.2.1.1 (fun M' o' e1 e2 => ⟨rfl, fi_primary162 d7 (by rw [e1]; decide) (no M' (1, s.1) rfl (fs_FqM_w o') e1 e2 fs_n1z)⟩)
      refine L_Mo_primary_114 d7 ⟨fun _ => L_Mo_primary_137 d7 ⟨fun q => absurd rfl q, fun _ => ?_⟩, fun q => absurd rfl q⟩
      rw [e21]
      refine ⟨fun q => bad (fun l => q (mt.2.2.2.2.2.2.2.2.2.2.mpr ⟨l, n17⟩).1), fun q => ?_⟩
      rw [e22w q]
      exact ⟨fun r => v162 0 (mt.2.2.2.2.2.2.2.2.2.2.mp ⟨q, r⟩).1 (fun w => n17 w.1) (fun _ => n17) (fun w => absurd rfl w), fun r => bad (fun l => r (mt.2.2.2.2.2.2.2.2.2.2.mpr ⟨l, n17⟩).2)⟩
    · rw [e21] at z
      have t17 : fs_lxt T E s.1 = 1017 := mt.2.2.2.2.2.2.2.2.2.1.mp z
      have l6 : fs_lev (fs_lxt T E s.1) = 6 := by
        rw [t17]
        exact l17
      have vn := e22n t17
      refine L_Mo_primary_114 d7 ⟨fun q => absurd q (by decide), fun _ => ⟨fun le => L_Mo_primary_137 d7 ⟨fun _ => v162 1 l6 (fun w => by omega) (fun w => absurd w (by decide)) (fun _ => t17), fun q => absurd q (by decide)⟩, fun gt => ?_⟩⟩
      rw [if_pos l6, if_pos ⟨t17, by omega⟩] at ok no
      exact sp_wrongM hf hs.2.1.1 (fun M' o' e1 e2 => ⟨rfl, fi_primary162 d7 (by rw [e1]; decide) (no M' (2, s.1) rfl (fs_FqM_w o') e1 e2 fs_n2z)⟩)
theorem sp_chM {m : Nat} {V : fs_q3 → fs_qR} (hG : fs_qG E V) (hV : fs_mX g T E m_Mo_primary 0 m V) : fs_mX g T E m_Mo_expression 5 m (fs_qC T E V) := by
  have g5 := fs_qI_good (T := T) (lev := 5) (n := 65) (by omega) (by omega) hG
  have g4 := fs_qI_good (T := T) (lev := 4) (n := 65) (by omega) (by omega) g5
  have g3 := fs_qN_good (T := T) (fs_qI_good (T := T) (lev := 3) (n := 1) (by omega) (by omega) g4) 65
  have g2 := fs_qI_good (T := T) (lev := 2) (n := 65) (by omega) (by omega) g3
  have x1 := sp_prM hG hV
  have x2 := sp_suM g5 x1
  have x3 : fs_mX g T E m_Mo_negation 3 m (fs_qN T E (fs_qI T E (fs_qI T E (fs_qI T E V 5 65) 4 65) 3 1) 65) := fun M s K d hs hd ok no => by
    have c0 := hs.2.2.2.2.2.2.1
    exact sp_neM g4 x2 65 M s K d hs (by omega) hd ok no
  exact sp_exM g2 (sp_coM g3 x3)
theorem fi_primary78 {K : fs_K} {d : Nat} (hd : 7 ≤ d) (h : ¬ M 226 23 = 0) (k : K none M) : fs_A2 g m_Mo_primary (d + 1) 78 [(0, fs_r 226)] [] M K := L_Mo_primary_78 hd ⟨fun z => absurd z h, fun _ => k⟩
theorem fs_qV_goodE {m : Nat} : fs_qG E (fs_qV T E (fun s => fs_qB (fs_qE T E m (fs_qA T E s)) (fs_qT T E 1032))) := fs_qV_good (fun s s' h c h0 h1 h2 => by
  obtain ⟨s1, k1, k2⟩ := fs_qB_inr h
  have nb := fs_qn_b (T := T) h1
  obtain ⟨a1, a2, a3, W1, w1, w2, w3, w4⟩ := fs_qE_good m _ s1 k1 (by show 0 ≤ fs_qn T E s.1; omega) nb.2.1 h2
  have a1' : fs_qn T E s.1 < s1.1 := a1
  unfold fs_qT at k2
  by_cases d : fs_lxt T E s1.1 = 1032
  · rw [if_pos d] at k2
    cases k2
    have nb2 := fs_qn_b (T := T) a2
    exact ⟨by show s.1 < fs_qn T E s1.1; omega, nb2.2.1, a3, W1, w1, w2, w3, w4⟩
  · rw [if_neg d] at k2
    cases k2)
theorem sp_exprM : ∀ m : Nat, m ≤ 8 → fs_mX g T E m_Mo_expression 5 m (fs_qE T E m) := by
  intro m
  induction m with
  | zero =>
    intro _
    refine sp_chM (fs_qV_good (fun s s' h => by cases h)) (sp_vaM (fun M s K d hs t31 hd ok no => ?_))
    have ho : M 226 27 = 8 := by
      have := hs.2.2.2.2.2.2.2.2.2.2.2
      omega
    have c64 := hs.2.2.2.2.2.2.2.1
    refine ⟨fun z => absurd ho z, fun _ => sp_wrongM hs.2.2.2.2.1 hs.2.1.1 (fun M' o' e1 e2 => ⟨rfl, L_Mo_primary_31 (by omega) ⟨fun z => absurd (e1.symm.trans z) (by decide), fun _ => no M' (2, s.1) rfl (fs_FqM_w o') e1 e2 fs_n2z⟩⟩)⟩
  | succ m ih =>
    intro hm
    have ih2 := ih (by omega)
    refine sp_chM fs_qV_goodE (sp_vaM (fun M s K d hs t31 hd ok no => ?_))
    have ho : M 226 27 = 8 - ((m + 1 : Nat) : Int) := hs.2.2.2.2.2.2.2.2.2.2.2
    have c64 := hs.2.2.2.2.2.2.2.1
    have d7 : 7 ≤ d := by omega
    refine ⟨fun _ => L_Mo_primary_31 d7 ⟨fun _ => ?_, fun z => absurd hs.2.2.2.2.1 z⟩, fun z => absurd z (by omega)⟩
    rw [ho, fs_w32_of (x := 8 - ((m + 1 : Nat) : Int) + 1) (by omega) (by omega)]
    have hF : fs_FqM 226 27 := by
      unfold fs_FqM
      omega
    have oF : ∀ v, fs_out fs_FqM M (fs_st M 226 27 v) := fun v => fs_out.rf.st hF
    refine sp_tokS (hs.reopen (n := m) (by omega)) (fun M3 o3 h3 => ⟨rfl, ih2 M3 _ _ d h3 (by show ((5 : Nat) : Int) + 6 * m + 73 - s.2.1 ≤ d; omega) (fun M4 s1 ex o4 h4 => ⟨rfl, fun z => absurd h4.2.2.2.2.1 z, fun _ => ?_⟩) (fun M4 e ex o4 e1 e2 e3 => ⟨rfl, fun z => fi_primary78 d7 z (no M4 e (by rw [ex]; rfl) (((oF _).tr o3).tr o4) e1 e2 e3), fun z => absurd (e1.symm.trans z) e3⟩)⟩)
    rw [ex] at ok no
    have mt := (fs_mt h4.tk).2.2.2.2.2.2.2.1
    refine sp_isSignM h4.2.2.2.2.1 h4.2.1 (fun y => ⟨1, rfl, fun _ => L_Mo_primary_78 d7 ⟨fun _ => ?_, fun z => absurd h4.2.2.2.2.1 z⟩, fun z => absurd z (by decide)⟩) (fun y => ⟨0, rfl, fun z => absurd rfl z, fun _ => ?_⟩)
    · have h27 : M4 226 27 = 8 - (m : Int) := h4.2.2.2.2.2.2.2.2.2.2.2
      rw [h27, fs_w32_of (x := 8 - (m : Int) - 1) (by omega) (by omega)]
      refine sp_tokS (h4.reopen (n := m + 1) (by omega)) (fun M7 o7 h7 => ⟨rfl, ok M7 _ (if_pos (mt.mp y)) (((oF _).tr o3).tr (o4.tr ((fs_out.rf.st hF).tr o7))) h7⟩)
    · exact sp_wrongM h4.2.2.2.2.1 h4.2.1.1 (fun M' o' e1 e2 => ⟨rfl, fi_primary78 d7 (by rw [e1]; decide) (no M' (1, s1.1) (if_neg (fun z => y (mt.mpr z))) ((((oF _).tr o3).tr o4).tr (fs_FqM_w o')) e1 e2 fs_n1z)⟩)
end MVAL
