-- ===== the class reads a whole TEXT =====
/-- a new script of which nothing is told -/
def fs_A0 (A : fs_M) : Prop := A 15 4 = 0 ∧ A 15 5 = 0 ∧ A 15 9 = 0 ∧ A 15 10 = 0 ∧ A 15 11 = 0 ∧ ∀ k, 0 ≤ k → k < 4 → A 26 k = 0 ∧ A 27 k = 0
theorem fs_A0.inv {A : fs_M} {E p : Int} (h : fs_A0 A) (p0 : 0 ≤ p) (p1 : p ≤ E) : fs_inv E (A, (p, 0, [])) := by
  obtain ⟨a4, a5, a9, a10, a11, ak⟩ := h
  refine ⟨p0, p1, by show (0 : Int) ≤ 64; omega, ⟨by show ((0 : Nat) : Int) ≤ 0; omega, fun q z => (by cases z), Or.inl a11⟩, ⟨by show 0 ≤ A 15 5; omega, by show A 15 5 ≤ 6; omega, by show 0 ≤ A 15 9; omega, by show A 15 9 ≤ 3; omega, fun h x y => ?_, fun d x y => ?_, fun h x y => ?_⟩, fun k k0 k1 => ?_⟩
  · have y' : h < A 15 5 := y
    omega
  · have y' : d < A 15 9 := y
    omega
  · show fs_bit (A 15 4) h = 0
    have x' : A 15 5 ≤ h := x
    rw [a4]
    obtain ⟨n, hn⟩ : ∃ n : Nat, h = (n : Int) := ⟨h.toNat, by omega⟩
    rw [hn]
    exact fs_bit0 n (by omega)
  · show fs_lwf [] (A 26 k) (A 27 k)
    rw [(ak k k0 k1).1, (ak k k0 k1).2]
    refine ⟨by omega, [], fun j hj => absurd hj (Nat.not_lt_zero _), rfl, fun z => absurd rfl z, fun q z => (by cases z), by show (0 : Int) ≤ ((0 : Nat) : Int); omega⟩
def fs_FqR (o k : Int) : Prop := (o = 29 ∧ (1 ≤ k ∧ k ≤ 11)) ∨ (15 ≤ o ∧ o ≤ 27)
section CTEXT
variable {g : fs_G} {M A : fs_M} {T : Int → Int} {E : Int}
theorem sp_linesC : ∀ (n : Nat) (l : Int) (M A : fs_M) (s : fs_q3) (K : fs_K), E - l = n → 0 ≤ l → fs_cL M T E (A, s) → fs_inv E (A, s) → (∀ M' l' S', fs_qTx T E n l (A, s) = .inr (l', S') → fs_out fs_FqL M M' → fs_cL M' T E S' → fs_inv E S' → K (some (fs_i l')) M') → (∀ M' e, fs_qTx T E n l (A, s) = .inl e → fs_out fs_FqL M M' → M' 29 2 = e.1 → M' 29 3 = e.2 → e.1 ≠ 0 → K (some (fs_i (-1))) M') → fs_A2 g m_Reader_read 156 49 [(0, fs_r 29), (2, fs_i l)] [] M K := by
  intro n
  induction n with
  | zero =>
    intro l M A s K hn l0 h hi ok no
    have e5 : M 29 5 = E := h.1.1.1
    exact L_Reader_read_49 ⟨fun _ => ok M l (A, s) rfl fs_out.rf h hi, fun z => absurd z (by omega)⟩
  | succ n ih =>
    intro l M A s K hn l0 h hi ok no
    have e5 : M 29 5 = E := h.1.1.1
    have E1 : E ≤ 600 := h.1.1.2.2.2.2.2.2.2.2.2.1
    have hs : fs_cS M T E s := h.1
    have i0 : 0 ≤ A 15 5 := hi.2.2.2.2.1.1
    have i0' : 0 ≤ A 15 9 := hi.2.2.2.2.1.2.2.1
    refine L_Reader_read_49 ?_
    rw [hs.e7, e5]
    refine ⟨fun z => absurd z (by omega), fun _ => ⟨hs.tk, fun z => ok M l (A, s) (if_pos z) fs_out.rf h hi, fun z => ?_⟩⟩
    have et : fs_qTx T E (n + 1) l (A, s) = fs_qX (fs_qX (fs_qKind T E A s) (fun S => fs_qX (fs_qT T E 1033 S.2) (fun s' => .inr (S.1, s')))) (fun S' => fs_qTx T E n (l + 1) S') := if_neg z
    rw [et] at ok no
    have good : ∀ M1 S1, fs_qKind T E A s = .inr S1 → fs_out fs_FqL M M1 → fs_cL M1 T E S1 → fs_A2 g m_Reader_read 156 140 [(0, fs_r 29), (2, fs_i l)] [fs_i 1] M1 K := fun M1 S1 ek o1 h1 => by
      rw [ek] at ok no
      refine L_Reader_read_140 ⟨fun y => absurd y (by decide), fun _ => sp_takeC ⟨by omega, by omega⟩ h1.1 (fun y M2 o2 h2 => ⟨1, rfl, fun _ => ?_, fun w => absurd w (by decide)⟩) (fun y M2 o2 e2 e3 => ⟨0, rfl, fun w => absurd rfl w, fun _ => ?_⟩)⟩
      · have eT : fs_qT T E 1033 S1.2 = .inr (fs_qA T E S1.2) := if_pos y
        have el : fs_qLine T E A s = .inr (S1.1, fs_qA T E S1.2) := by
          unfold fs_qLine
          rw [ek]
          show fs_qX (fs_qT T E 1033 S1.2) _ = _
          rw [eT]
          rfl
        have iv := (fs_inv_line el hi).1
        have eq : fs_qX (fs_qX (.inr S1) (fun S => fs_qX (fs_qT T E 1033 S.2) (fun s' => (.inr (S.1, s') : fs_qQ)))) (fun S' => fs_qTx T E n (l + 1) S') = fs_qTx T E n (l + 1) (S1.1, fs_qA T E S1.2) := by
          show fs_qX (fs_qX (fs_qT T E 1033 S1.2) _) _ = _
          rw [eT]
          rfl
        rw [eq] at ok no
        rw [fs_w32_of (x := l + 1) (by omega) (by omega)]
        have oo := o1.tr (fs_FqL_c o2)
        exact ih (l + 1) M2 S1.1 (fs_qA T E S1.2) K (by omega) (by omega) (h1.step o2 h2) iv (fun M' l' S' y o' => ok M' l' S' y (oo.tr o')) (fun M' e y o' => no M' e y (oo.tr o'))
      · have eT : fs_qT T E 1033 S1.2 = .inl (1, S1.2.1) := if_neg y
        refine no M2 (1, S1.2.1) ?_ (o1.tr (fs_FqL_c o2)) e2 e3 fs_n1z
        show fs_qX (fs_qX (fs_qT T E 1033 S1.2) _) _ = _
        rw [eT]
        rfl
    have bad : ∀ M1 e, fs_qKind T E A s = .inl e → fs_out fs_FqL M M1 → M1 29 2 = e.1 → M1 29 3 = e.2 → e.1 ≠ 0 → fs_A2 g m_Reader_read 156 140 [(0, fs_r 29), (2, fs_i l)] [fs_i 0] M1 K := fun M1 e ek o1 e2 e3 e4 => by
      rw [ek] at no
      exact L_Reader_read_140 ⟨fun _ => no M1 e rfl o1 e2 e3 e4, fun y => absurd rfl y⟩
    have kind : ∀ (md : fs_D) (d : Nat) (F : fs_M → fs_q3 → fs_qQ), fs_cXL g T E md d F → fs_qKind T E A s = F A s → fs_C2 g md d [fs_r 29] M (fun v M5 => ∃ r5, v = some (fs_i r5) ∧ fs_A2 g m_Reader_read 156 140 [(0, fs_r 29), (2, fs_i l)] [fs_i r5] M5 K) := fun md d F X ek =>
      X M A s _ h i0 i0' (fun M' S' y o' h' => ⟨1, rfl, good M' S' (ek.trans y) o' h'⟩) (fun M' e y o' e2 e3 e4 => ⟨0, rfl, bad M' e (ek.trans y) o' e2 e3 e4⟩)
    refine ⟨fun z0 => ⟨fun z1 => ⟨fun z2 => ⟨fun z3 => ?_, fun z3 => kind _ _ _ sp_lawC ?_⟩, fun z2 => kind _ _ _ sp_seedC ?_⟩, fun z1 => kind _ _ _ sp_darkC ?_⟩, fun z0 => kind _ _ _ sp_houseC ?_⟩
    · refine sp_stumL hs.1.2.2.1 (fun M' o' e2 e3 => ⟨0, rfl, bad M' (1, s.1) ?_ o' e2 e3 fs_n1z⟩)
      unfold fs_qKind
      rw [if_neg z0, if_neg z1, if_neg z2, if_neg z3]
    · unfold fs_qKind
      rw [if_neg z0, if_neg z1, if_neg z2, if_pos z3]
    · unfold fs_qKind
      rw [if_neg z0, if_neg z1, if_pos z2]
    · unfold fs_qKind
      rw [if_neg z0, if_pos z1]
    · unfold fs_qKind
      rw [if_pos z0]
theorem sp_lawsClear {K : fs_K} (hK : ∀ M', fs_out (fun o k => (o = 23 ∧ k = 2) ∨ o = 26 ∨ o = 27) M M' → M' 23 2 = 0 → (∀ k, 0 ≤ k → k < 4 → M' 26 k = 0 ∧ M' 27 k = 0) → K none M') : fs_C2 g m_Laws_clear 1 [fs_r (15 + 8)] M K := by
  have lp : ∀ (n : Nat) (i : Int) (N : fs_M), 4 - i = n → 0 ≤ i → fs_out (fun o k => (o = 23 ∧ k = 2) ∨ o = 26 ∨ o = 27) M N → N 23 2 = 0 → (∀ k, 0 ≤ k → k < i → N 26 k = 0 ∧ N 27 k = 0) → fs_A2 g m_Laws_clear 1 7 [(0, fs_r 23), (1, fs_i i)] [] N K := by
    intro n
    induction n with
    | zero =>
      intro i N hn i0 oN e2 ek
      exact L_Laws_clear_7 io_23 ⟨fun _ => hK N oN e2 (fun k k0 k1 => ek k k0 (by omega)), fun z => absurd z (by omega)⟩
    | succ n ih =>
      intro i N hn i0 oN e2 ek
      refine L_Laws_clear_7 io_23 ⟨fun z => absurd z (by omega), fun _ => ⟨i0, ?_⟩⟩
      rw [fs_w32_of (x := i + 1) (by omega) (by omega)]
      refine ih (i + 1) _ (by omega) (by omega) ((oN.st (Or.inr (Or.inl rfl))).st (Or.inr (Or.inr rfl))) ?_ (fun k k0 k1 => ?_)
      · rw [fs_st_o (by omega), fs_st_o (by omega)]
        exact e2
      · by_cases c : k = i
        · rw [c]
          refine ⟨?_, fs_st_s⟩
          rw [fs_st_o (by omega)]
          exact fs_st_s
        · rw [fs_st_o (by omega), fs_st_k c, fs_st_k c, fs_st_o (by omega)]
          exact ek k k0 (by omega)
  exact E_Laws_clear io_23 (lp 4 0 _ rfl (by omega) (fs_out.rf.st (Or.inl ⟨rfl, rfl⟩)) fs_st_s (fun k k0 k1 => absurd k1 (by omega)))
theorem sp_clearC {K : fs_K} (hK : ∀ M', fs_out (fun o k => 15 ≤ o ∧ o ≤ 27) M M' → M' 23 2 = 0 → fs_A0 M' → K none M') : fs_C2 g m_Script_clear 2 [fs_r 15] M K := by
  refine E_Script_clear io_15 ?_
  obtain ⟨N, hN⟩ : ∃ N, fs_st (fs_st (fs_st (fs_st (fs_st M 15 4 0) 15 5 0) 15 9 0) 15 10 0) 15 11 0 = N := ⟨_, rfl⟩
  rw [hN]
  have oN : fs_out (fun o k => 15 ≤ o ∧ o ≤ 27) M N := by
    rw [← hN]
    exact ((((fs_out.rf.st ⟨by omega, by omega⟩).st ⟨by omega, by omega⟩).st ⟨by omega, by omega⟩).st ⟨by omega, by omega⟩).st ⟨by omega, by omega⟩
  have n4 : N 15 4 = 0 := by rw [← hN]; simp [fs_st]
  have n5 : N 15 5 = 0 := by rw [← hN]; simp [fs_st]
  have n9 : N 15 9 = 0 := by rw [← hN]; simp [fs_st]
  have n10 : N 15 10 = 0 := by rw [← hN]; simp [fs_st]
  have n11 : N 15 11 = 0 := by rw [← hN]; simp [fs_st]
  refine sp_lawsClear (fun M' o' e2 ek => ⟨rfl, hK M' (oN.tr (o'.wk (fun o k q => ?_))) e2 ⟨?_, ?_, ?_, ?_, ?_, ek⟩⟩)
  · have q2 : (o = 23 ∧ k = 2) ∨ o = 26 ∨ o = 27 := q
    show 15 ≤ o ∧ o ≤ 27
    omega
  · rw [o' 15 4 (by omega)]
    exact n4
  · rw [o' 15 5 (by omega)]
    exact n5
  · rw [o' 15 9 (by omega)]
    exact n9
  · rw [o' 15 10 (by omega)]
    exact n10
  · rw [o' 15 11 (by omega)]
    exact n11
theorem sp_readC {K : fs_K} {n : Int} (n0 : 0 ≤ n) (n1 : n ≤ 600)
    (hK : ∀ A, fs_A0 A → (∀ M' l S', fs_qTx (M 30) n n.toNat 0 (A, (fs_lxp (M 30) n 0, 0, [])) = .inr (l, S') → fs_out fs_FqR M M' → M' 29 1 = 0 → fs_cL M' (M 30) n S' → fs_inv n S' → K (some (fs_i l)) M') ∧
      (∀ M' e, fs_qTx (M 30) n n.toNat 0 (A, (fs_lxp (M 30) n 0, 0, [])) = .inl e → fs_out fs_FqR M M' → M' 29 1 = 0 → M' 29 2 = e.1 → M' 29 3 = e.2 → e.1 ≠ 0 → K (some (fs_i (-1))) M')) : fs_C2 g m_Reader_read 156 [fs_r 29, fs_i n] M K := by
  refine E_Reader_read (sp_clearC (fun A oA e23 hA => ⟨rfl, sp_minI ⟨_, rfl, ?_⟩⟩))
  have mn : min n 600 = n := by omega
  rw [mn]
  obtain ⟨ok, no⟩ := hK A hA
  have pA : ∀ o k, ¬ (15 ≤ o ∧ o ≤ 27) → A o k = M o k := oA
  obtain ⟨N, hN⟩ : ∃ N, fs_st (fs_st (fs_st (fs_st (fs_st (fs_st A 29 5 n) 29 6 0) 29 11 0) 29 1 0) 29 2 0) 29 3 (-1) = N := ⟨_, rfl⟩
  rw [hN]
  have oN : fs_out (fun o k => o = 29 ∧ (k = 5 ∨ k = 6 ∨ k = 11 ∨ k = 1 ∨ k = 2 ∨ k = 3)) A N := by
    rw [← hN]
    exact (((((fs_out.rf.st ⟨rfl, by omega⟩).st ⟨rfl, by omega⟩).st ⟨rfl, by omega⟩).st ⟨rfl, by omega⟩).st ⟨rfl, by omega⟩).st ⟨rfl, by omega⟩
  have pN : ∀ o k, ¬ (o = 29 ∧ (k = 5 ∨ k = 6 ∨ k = 11 ∨ k = 1 ∨ k = 2 ∨ k = 3)) → N o k = A o k := oN
  have n5 : N 29 5 = n := by rw [← hN]; simp [fs_st]
  have n6 : N 29 6 = 0 := by rw [← hN]; simp [fs_st]
  have n11 : N 29 11 = 0 := by rw [← hN]; simp [fs_st]
  have n1' : N 29 1 = 0 := by rw [← hN]; simp [fs_st]
  have n2 : N 29 2 = 0 := by rw [← hN]; simp [fs_st]
  have n3 : N 29 3 = -1 := by rw [← hN]; simp [fs_st]
  have n30 : N 30 = M 30 := by
    funext x
    rw [pN 30 x (by omega), pA 30 x (by omega)]
  refine sp_advance n5 n6 (by omega) n0 n1 (fun M3 o3 e8 e6 e7 e10 e9 => ⟨rfl, ?_⟩)
  have p3 : ∀ o k, ¬ (o = 29 ∧ 6 ≤ k ∧ k ≤ 10) → M3 o k = N o k := o3
  rw [n30] at e8 e6 e7 e10 e9
  obtain ⟨p, hp⟩ : ∃ p, fs_lxp (M 30) n 0 = p := ⟨_, rfl⟩
  have pb := fs_lxp_b (T := M 30) n0
  rw [hp] at e8 e6 e7 e10 e9 ok no pb
  obtain ⟨k1, k2⟩ := fs_lx_kind (T := M 30) (E := n) (p := p)
  have tC : fs_tC M3 (M 30) n p := by
    refine ⟨by rw [p3 29 5 (by omega)]; exact n5, ?_, e8, e6, e7, fun z => e10 (k1 z).1 (k1 z).2, fun z => e9 (k2 z).1 (k2 z).2.1 (k2 z).2.2, pb.1, pb.2, n1, by rw [p3 29 3 (by omega)]; exact n3⟩
    rw [← n30]
    funext x
    exact p3 30 x (by omega)
  have cL : fs_cL M3 (M 30) n (A, (p, 0, [])) := by
    refine ⟨⟨tC, by rw [p3 29 2 (by omega)]; exact n2, by rw [p3 29 11 (by omega)]; exact n11, Int.le_refl _, by show (0 : Int) ≤ 64; omega, by rw [p3 23 2 (by omega), pN 23 2 (by omega)]; exact e23, by show ((0 : Nat) : Int) ≤ 0; omega, fun j q z => ?_⟩, fun o k z => ?_⟩
    · have z' : ([] : List (Int × Int))[j]? = some q := z
      simp at z'
    · unfold fs_scq at z
      show M3 o k = A o k
      rw [p3 o k (by omega), pN o k (by omega)]
  have oAll : ∀ M', fs_out fs_FqL M3 M' → fs_out fs_FqR M M' ∧ M' 29 1 = 0 := fun M' o' => by
    constructor
    · intro o k q
      unfold fs_FqR at q
      rw [o' o k (fun z => q (by unfold fs_FqL fs_FqC at z; omega)), p3 o k (by omega), pN o k (by omega), pA o k (by omega)]
    · rw [o' 29 1 (fun z => by unfold fs_FqL fs_FqC at z; omega), p3 29 1 (by omega)]
      exact n1'
  refine sp_linesC n.toNat 0 M3 A (p, 0, []) K (by omega) (by omega) cL (hA.inv pb.1 pb.2) (fun M' l' S' y o' h' iv => ?_) (fun M' e y o' e2 e3 e4 => ?_)
  · obtain ⟨x1, x2⟩ := oAll M' o'
    exact ok M' l' S' y x1 x2 h' iv
  · obtain ⟨x1, x2⟩ := oAll M' o'
    exact no M' e y x1 x2 e2 e3 e4
end CTEXT
