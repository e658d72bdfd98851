-- ===== the model's lines, one behind another =====
theorem fs_FmX_l {M M' : fs_M} (h : fs_oB M M') : fs_oX M M' := ⟨h.1.wk (fun o k q => Or.inl q), h.2⟩
section MTEXT
variable {g : fs_G} {M A : fs_M} {T : Int → Int} {E : Int}
theorem sp_lineM {K : fs_K} {s : fs_q3} {l : Int} (h : fs_mL M T E (A, s)) (hi : fs_inv E (A, s)) (h17 : M 226 17 = l) (l0 : 0 ≤ l) (l1 : l ≤ 1000)
    (ok : ∀ M' S', fs_qLine T E A s = .inr S' → fs_oX M M' → fs_mL M' T E S' → M' 226 17 = l + 1 → K none M') (no : ∀ M' e, fs_qLine T E A s = .inl e → fs_oX M M' → M' 226 23 = e.1 → M' 226 24 = e.2 → e.1 ≠ 0 → K none M') : fs_C2 g m_Mo_line 159 [fs_r 226] M K := by
  have hs : fs_mS M T E 8 s := h.1
  have hm : fs_mr M A := h.2
  obtain ⟨h20, _, e21, _, _, e22, _⟩ := hs.2.1
  have hf := hs.2.2.2.2.1
  have tk := hs.tk
  have hin := hi.2.2.2.2.1
  have a0 : 0 ≤ A 15 5 := hin.1
  have a6 : A 15 5 ≤ 6 := hin.2.1
  have b0 : 0 ≤ A 15 9 := hin.2.2.1
  have b3 : A 15 9 ≤ 3 := hin.2.2.2.1
  have w17 : fs_w32 (l + 1) = l + 1 := fs_w32_of (by omega) (by omega)
  have oX : ∀ M1, fs_oX M M1 → ∀ v, fs_oX M (fs_st M1 226 17 v) := fun M1 o1 v => ⟨o1.1.st (Or.inr ⟨rfl, rfl⟩), fun b i i0 i1 => by rw [fs_st_o (by omega)]; exact o1.2 b i i0 i1⟩
  have bad : ∀ M1 e, fs_qKind T E A s = .inl e → fs_oB M M1 → M1 226 23 = e.1 → M1 226 24 = e.2 → e.1 ≠ 0 → K none M1 := fun M1 e y o1 e1 e2 e3 => no M1 e (by unfold fs_qLine; rw [y]; rfl) (fs_FmX_l o1) e1 e2 e3
  have bad233 : ∀ M1 e, fs_qKind T E A s = .inl e → fs_oB M M1 → M1 226 23 = e.1 → M1 226 24 = e.2 → e.1 ≠ 0 → fs_A2 g m_Mo_line 159 233 [(0, fs_r 226)] [] M1 K := fun M1 e y o1 e1 e2 e3 => L_Mo_line_233 ⟨fun z => absurd (e1.symm.trans z) e3, fun _ => bad M1 e y o1 e1 e2 e3⟩
  have good : ∀ M1 S1, fs_qKind T E A s = .inr S1 → fs_oB M M1 → fs_mL M1 T E S1 → fs_A2 g m_Mo_line 159 233 [(0, fs_r 226)] [] M1 K := fun M1 S1 y o1 h1 => by
    have hs1 : fs_mS M1 T E 8 S1.2 := h1.1
    have f1 := hs1.2.2.2.2.1
    have x17 : M1 226 17 = l := by
      rw [o1.1 226 17 (fun z => by unfold fs_FmL fs_FqM fs_FmW at z; omega)]
      exact h17
    have eL : fs_qLine T E A s = fs_qX (fs_qT T E 1033 S1.2) (fun s' => .inr (S1.1, s')) := by
      unfold fs_qLine
      rw [y]
      rfl
    rw [eL] at ok no
    have m9 := (fs_mt hs1.tk).2.2.2.2.2.2.2.2.1
    refine L_Mo_line_233 ⟨fun _ => sp_isSignM f1 hs1.2.1 (fun z => ⟨1, rfl, fun _ => sp_tokS hs1 (fun M2 o2 h2 => ⟨rfl, L_Mo_line_262 ?_⟩), fun w => absurd w (by decide)⟩) (fun z => ⟨0, rfl, fun w => absurd rfl w, fun _ => sp_wrongM f1 hs1.2.1.1 (fun M2 o2 e1 e2 => ⟨rfl, L_Mo_line_262 ?_⟩)⟩), fun z => absurd f1 z⟩
    · have y17 : M2 226 17 = l := by
        rw [o2 226 17 (fun z => by unfold fs_FqM at z; omega)]
        exact x17
      rw [y17, w17]
      have h2' := h1.step (A := S1.1) o2 h2
      have eT : fs_qT T E 1033 S1.2 = .inr (fs_qA T E S1.2) := if_pos (m9.mp z)
      rw [eT] at ok
      refine ok _ _ rfl (oX _ (fs_FmX_l (o1.tr (fs_FmL_q o2))) _) ⟨h2.cg (fun o k c => ?_), fs_mr.cg h2'.2 (fun o k c => ?_)⟩ fs_st_s
      · by_cases d : o = 226
        · exact fs_st_k (by omega)
        · exact fs_st_o d
      · by_cases d : o = 226
        · exact fs_st_k (by omega)
        · exact fs_st_o d
    · have p2 : ∀ o k, ¬ (o = 226 ∧ (k = 23 ∨ k = 24)) → M2 o k = M1 o k := o2
      have y17 : M2 226 17 = l := by
        rw [p2 226 17 (by omega)]
        exact x17
      rw [y17, w17]
      have eT : fs_qT T E 1033 S1.2 = .inl (1, S1.2.1) := if_neg (fun w => z (m9.mpr w))
      rw [eT] at no
      refine no _ (1, S1.2.1) rfl (oX _ (fs_FmX_l (o1.tr (fs_FmL_q (fs_FqM_w o2)))) _) ?_ ?_ fs_n1z
      · rw [fs_st_k (by omega)]
        exact e1
      · rw [fs_st_k (by omega)]
        exact e2
  -- behind a word that opens no line
  have none1 : ¬ (1000 ≤ fs_lxt T E s.1 ∧ fs_lxt T E s.1 ≤ 1003) → fs_C2 g m_Mo_wrong 1 [fs_r 226, fs_i 1] M (fun v M1 => v = none ∧ K none M1) := fun nt => sp_wrongM hf h20 (fun M' o' e1 e2 => ⟨rfl, bad M' (1, s.1) (by unfold fs_qKind; rw [if_neg (by omega), if_neg (by omega), if_neg (by omega), if_neg (by omega)]) (fs_FmL_q (fs_FqM_w o')) e1 e2 fs_n1z⟩)
  have at82 : ∀ (kind x : Int), fs_qKind T E A s = .inl (kind, s.1) → kind ≠ 0 → fs_C2 g m_Mo_wrong 1 [fs_r 226, fs_i kind] M (fun v M1 => v = none ∧ fs_A2 g m_Mo_line 159 82 [(0, fs_r 226), (1, fs_i x)] [] M1 K) := fun kind x y n0 => sp_wrongM hf h20 (fun M' o' e1 e2 => ⟨rfl, L_Mo_line_82 ⟨fun z => absurd (e1.symm.trans z) n0, fun _ => bad M' (kind, s.1) y (fs_FmL_q (fs_FqM_w o')) e1 e2 n0⟩⟩)
  have w4 : fs_w32 (4 + 0) = 4 := by decide
  have w5 : fs_w32 (4 + 1) = 5 := by decide
  have td := hm.2.2.2.2.2.2.2.2.1
  refine E_Mo_line ?_
  rw [e21]
  refine ⟨fun z => none1 (fun y => z ((fs_mw tk (w := fs_lxt T E s.1 - 1000) (by omega) (by omega)).mpr (by omega)).1), fun z => ?_⟩
  have v22 := e22 z
  have v0 := fs_ms0 tk z
  rw [v22]
  refine ⟨fun le => ?_, fun gt => none1 (fun y => gt (by have := ((fs_mw tk (w := fs_lxt T E s.1 - 1000) (by omega) (by omega)).mpr (by omega)).2; omega))⟩
  have tt := (fs_mw tk (w := fs_wno (fs_lxt T E s.1)) v0 (by omega)).mp ⟨z, rfl⟩
  obtain ⟨v, hv⟩ : ∃ v, fs_wno (fs_lxt T E s.1) = v := ⟨_, rfl⟩
  rw [hv] at tt v0 le
  rw [hv]
  rcases (by omega : v = 0 ∨ v = 1 ∨ v = 2 ∨ v = 3) with rfl | rfl | rfl | rfl
  · have t0 : fs_lxt T E s.1 = 1000 := by omega
    refine ⟨fun y => absurd rfl y, fun _ => E_Mo_fresher ?_⟩
    rw [w4, hm.1]
    refine ⟨by omega, by omega, _, rfl, fun y => at82 2 0 ?_ (by decide), fun y => L_Mo_line_40 ⟨fun _ => L_Mo_line_62 ⟨fun _ => sp_82h h hi t0 (by omega) good bad233, fun w => absurd w (by decide)⟩, fun w => absurd w (by decide)⟩⟩
    unfold fs_qKind fs_qHouse
    rw [if_pos t0, if_neg (by omega)]
  · have t0 : fs_lxt T E s.1 = 1001 := by omega
    refine ⟨fun _ => L_Mo_line_40 ⟨fun w => absurd rfl w, fun _ => E_Mo_fresher ?_⟩, fun w => absurd w (by decide)⟩
    rw [w5, hm.2.1]
    refine ⟨by omega, by omega, _, rfl, fun y => L_Mo_line_62 ⟨fun _ => sp_82d h hi t0 (by omega) good bad233, fun w => absurd w (by decide)⟩, fun y => at82 2 1 ?_ (by decide)⟩
    unfold fs_qKind fs_qDark
    rw [if_neg (by omega), if_pos t0, if_neg (by omega)]
  · have t0 : fs_lxt T E s.1 = 1002 := by omega
    refine ⟨fun _ => L_Mo_line_40 ⟨fun _ => L_Mo_line_62 ⟨fun w => absurd rfl w, fun _ => ⟨fun y => ?_, fun y => at82 3 2 ?_ (by decide)⟩⟩, fun w => absurd w (by decide)⟩, fun w => absurd w (by decide)⟩
    · refine sp_82s h t0 ?_ good bad233
      by_cases c : A 15 11 = 0
      · exact c
      · exact absurd (td.mpr c) y
    · have c : ¬ A 15 11 = 0 := td.mp y
      unfold fs_qKind fs_qSeed
      rw [if_neg (by omega), if_neg (by omega), if_pos t0, if_neg c]
  · have t0 : fs_lxt T E s.1 = 1003 := by omega
    have ek : fs_qKind T E A s = fs_qLaw T E A s := by
      unfold fs_qKind
      rw [if_neg (by omega), if_neg (by omega), if_neg (by omega), if_pos t0]
    refine ⟨fun _ => L_Mo_line_40 ⟨fun _ => L_Mo_line_62 ⟨fun _ => L_Mo_line_82 ⟨fun _ => sp_tokS hs (fun M5 o5 h5 => ⟨rfl, fun w => absurd w (by decide), fun w => absurd w (by decide), fun w => absurd w (by decide), fun _ => ?_⟩), fun w => absurd hf w⟩, fun w => absurd w (by decide)⟩, fun w => absurd w (by decide)⟩, fun w => absurd w (by decide)⟩
    exact sp_lawLineM (h.step o5 h5) hi (fun M7 S' y o7 h7 _ => ⟨rfl, good M7 S' (ek.trans y) ((fs_FmL_q o5).tr o7) h7⟩) (fun M7 e y o7 e1 e2 e3 => ⟨rfl, bad233 M7 e (ek.trans y) ((fs_FmL_q o5).tr o7) e1 e2 e3⟩)
theorem sp_linesM : ∀ (n : Nat) (l : Int) (M A : fs_M) (s : fs_q3) (K : fs_K), E - l = n → 0 ≤ l → l ≤ s.1 → fs_mL M T E (A, s) → fs_inv E (A, s) → M 226 17 = l →
    (∀ M' l' S', fs_qTx T E n l (A, s) = .inr (l', S') → fs_oX M M' → fs_mL M' T E S' → fs_inv E S' → M' 226 17 = l' → fs_A2 g m_Mo_text 160 141 [(0, fs_r 226)] [] M' K) → (∀ M' e, fs_qTx T E n l (A, s) = .inl e → fs_oX M M' → M' 226 23 = e.1 → M' 226 24 = e.2 → e.1 ≠ 0 → fs_A2 g m_Mo_text 160 141 [(0, fs_r 226)] [] M' K) → fs_A2 g m_Mo_text 160 119 [(0, fs_r 226)] [] M K := by
  intro n
  induction n with
  | zero =>
    intro l M A s K hn l0 lp h hi h17 ok no
    have hs : fs_mS M T E 8 s := h.1
    have p1 := hs.2.2.2.1
    have t35 : fs_lxt T E s.1 = 1035 := (fs_lx_all (T := T) p1).2.1.mpr (by omega)
    have e21 := hs.2.1.2.2.1
    refine L_Mo_text_119 ⟨fun z => absurd hs.2.2.2.2.1 z, fun _ => ⟨fun _ => ok M l (A, s) rfl fs_oX.rf h hi h17, fun z => absurd ?_ z⟩⟩
    rw [e21]
    exact (fs_mt2 hs.tk).2.2.2.2.2.1.mpr t35
  | succ n ih =>
    intro l M A s K hn l0 lp h hi h17 ok no
    have hs : fs_mS M T E 8 s := h.1
    have E1 : E ≤ 600 := hs.1.2.1
    have m4 := (fs_mt2 hs.tk).2.2.2.2.2.1
    refine L_Mo_text_119 ⟨fun z => absurd hs.2.2.2.2.1 z, fun _ => ?_⟩
    rw [hs.2.1.2.2.1]
    refine ⟨fun z => ok M l (A, s) (if_pos (m4.mp z)) fs_oX.rf h hi h17, fun z => ?_⟩
    have et : fs_qTx T E (n + 1) l (A, s) = fs_qX (fs_qLine T E A s) (fun S' => fs_qTx T E n (l + 1) S') := if_neg (fun w => z (m4.mpr w))
    rw [et] at ok no
    refine sp_lineM h hi h17 l0 (by omega) (fun M2 S1 y o2 h2 x17 => ⟨rfl, ?_⟩) (fun M2 e y o2 e1 e2 e3 => ⟨rfl, L_Mo_text_119 ⟨fun _ => no M2 e (by rw [y]; rfl) o2 e1 e2 e3, fun w => absurd (e1.symm.trans w) e3⟩⟩)
    obtain ⟨iv, lt⟩ := fs_inv_line y hi
    rw [y] at ok no
    exact ih (l + 1) M2 S1.1 S1.2 K (by omega) (by omega) (by omega) h2 iv x17 (fun M' l' S' w o' => ok M' l' S' w (o2.tr o')) (fun M' e w o' => no M' e w (o2.tr o'))
end MTEXT
