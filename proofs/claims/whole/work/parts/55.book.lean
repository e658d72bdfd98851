-- ===== the class's Book is written: all rows, and what each dark one does by each alone =====
def fs_stt (E : fs_M) (tr rf : Int) (al : Int → Int) : List Int → Int → Int → Int → Int → Option (Int × Int × Int × Int)
  | [], pl, lv, gl, co => some (pl, lv, gl, co)
  | x :: t, pl, lv, gl, co => if fs_comes E tr x pl lv gl co = 1000 then none else fs_stt E tr rf al t (E 3 x) (fs_vlv E tr rf (fs_opn al x) (fs_comes E tr x pl lv gl co) gl co x) (fs_vgl E tr rf (fs_opn al x) (fs_comes E tr x pl lv gl co) gl co x) (fs_vco E tr (fs_opn al x) (fs_comes E tr x pl lv gl co) gl co x)
def fs_nxt (E : fs_M) (tr rf : Int) (al : Int → Int) (x : Int) : Option (Int × Int × Int × Int) → Option (Int × Int × Int × Int)
  | none => none
  | some s => if fs_comes E tr x s.1 s.2.1 s.2.2.1 s.2.2.2 = 1000 then none else some (E 3 x, fs_vlv E tr rf (fs_opn al x) (fs_comes E tr x s.1 s.2.1 s.2.2.1 s.2.2.2) s.2.2.1 s.2.2.2 x, fs_vgl E tr rf (fs_opn al x) (fs_comes E tr x s.1 s.2.1 s.2.2.1 s.2.2.2) s.2.2.1 s.2.2.2 x, fs_vco E tr (fs_opn al x) (fs_comes E tr x s.1 s.2.1 s.2.2.1 s.2.2.2) s.2.2.1 s.2.2.2 x)
def fs_nmi (E : fs_M) (tr : Int) (al : Int → Int) (x : Int) : Option (Int × Int × Int × Int) → Int
  | none => 0
  | some s => if fs_comes E tr x s.1 s.2.1 s.2.2.1 s.2.2.2 = 1000 then 0 else if fs_okN E tr (fs_opn al x) (fs_comes E tr x s.1 s.2.1 s.2.2.1 s.2.2.2) s.2.2.1 s.2.2.2 x = 0 then 0 else fs_comes E tr x s.1 s.2.1 s.2.2.1 s.2.2.2
theorem fs_stt_snoc {E : fs_M} {tr rf : Int} {al : Int → Int} {x : Int} : ∀ (r : List Int) (pl lv gl co : Int), fs_stt E tr rf al (r ++ [x]) pl lv gl co = fs_nxt E tr rf al x (fs_stt E tr rf al r pl lv gl co)
  | [], pl, lv, gl, co => rfl
  | y :: t, pl, lv, gl, co => by
    show (if fs_comes E tr y pl lv gl co = 1000 then none else fs_stt E tr rf al (t ++ [x]) _ _ _ _) = fs_nxt E tr rf al x (if fs_comes E tr y pl lv gl co = 1000 then none else fs_stt E tr rf al t _ _ _ _)
    by_cases c : fs_comes E tr y pl lv gl co = 1000
    · rw [if_pos c, if_pos c]
      rfl
    · rw [if_neg c, if_neg c]
      exact fs_stt_snoc t _ _ _ _
theorem fs_fut_sn {E : fs_M} {tr rf : Int} {al : Int → Int} {x h : Int} (hx : h ≠ x) : ∀ (r : List Int) (pl lv gl co : Int), fs_fut E tr rf al (r ++ [x]) (fs_nx E tr (r ++ [x]) pl lv gl co) gl co h = fs_fut E tr rf al r (fs_nx E tr r pl lv gl co) gl co h
  | [], pl, lv, gl, co => by
    show fs_fut E tr rf al [x] (fs_comes E tr x pl lv gl co) gl co h = 0
    by_cases c : fs_comes E tr x pl lv gl co = 1000
    · rw [c, fs_fut_z]
    · rw [fs_fut_c c, if_neg (fun q => hx q.1)]
      rfl
  | y :: t, pl, lv, gl, co => by
    show fs_fut E tr rf al (y :: (t ++ [x])) (fs_comes E tr y pl lv gl co) gl co h = fs_fut E tr rf al (y :: t) (fs_comes E tr y pl lv gl co) gl co h
    by_cases c : fs_comes E tr y pl lv gl co = 1000
    · rw [c, fs_fut_z, fs_fut_z]
    · rw [fs_fut_c c, fs_fut_c c, fs_fut_sn hx t]
theorem fs_fut_sx {E : fs_M} {tr rf : Int} {al : Int → Int} {x : Int} : ∀ (r : List Int) (pl lv gl co : Int), x ∉ r → fs_fut E tr rf al (r ++ [x]) (fs_nx E tr (r ++ [x]) pl lv gl co) gl co x = fs_nmi E tr al x (fs_stt E tr rf al r pl lv gl co)
  | [], pl, lv, gl, co, _ => by
    show fs_fut E tr rf al [x] (fs_comes E tr x pl lv gl co) gl co x = if fs_comes E tr x pl lv gl co = 1000 then 0 else if fs_okN E tr (fs_opn al x) (fs_comes E tr x pl lv gl co) gl co x = 0 then 0 else fs_comes E tr x pl lv gl co
    by_cases c : fs_comes E tr x pl lv gl co = 1000
    · rw [if_pos c, c, fs_fut_z]
    · rw [if_neg c, fs_fut_c c]
      by_cases o : fs_okN E tr (fs_opn al x) (fs_comes E tr x pl lv gl co) gl co x = 0
      · rw [if_neg (fun q => q.2 o), if_pos o]
        rfl
      · rw [if_pos ⟨rfl, o⟩, if_neg o]
  | y :: t, pl, lv, gl, co, hn => by
    show fs_fut E tr rf al (y :: (t ++ [x])) (fs_comes E tr y pl lv gl co) gl co x = fs_nmi E tr al x (if fs_comes E tr y pl lv gl co = 1000 then none else fs_stt E tr rf al t _ _ _ _)
    by_cases c : fs_comes E tr y pl lv gl co = 1000
    · rw [if_pos c, c, fs_fut_z]
      rfl
    · rw [if_neg c, fs_fut_c c, if_neg (fun q => hn (by rw [← q.1]; exact List.mem_cons_self))]
      exact fs_fut_sx t _ _ _ _ (fun q => hn (List.mem_cons_of_mem _ q))
/-- a list written from place L on -/
def fs_wrt (P : Int → List Int → Prop) : Int → List (List Int) → Prop
  | _, [] => True
  | L, s :: t => P L s ∧ fs_wrt P (L + 1) t
theorem fs_wrt_app {P : Int → List Int → Prop} : ∀ (a b : List (List Int)) (L : Int), fs_wrt P L (a ++ b) ↔ fs_wrt P L a ∧ fs_wrt P (L + a.length) b
  | [], b, L => by
    show fs_wrt P L b ↔ True ∧ fs_wrt P (L + 0) b
    rw [Int.add_zero]
    exact ⟨fun q => ⟨trivial, q⟩, fun q => q.2⟩
  | s :: t, b, L => by
    show P L s ∧ fs_wrt P (L + 1) (t ++ b) ↔ (P L s ∧ fs_wrt P (L + 1) t) ∧ fs_wrt P (L + ((s :: t).length : Int)) b
    rw [fs_wrt_app t b (L + 1), List.length_cons, show L + 1 + (t.length : Int) = L + ((t.length + 1 : Nat) : Int) by omega, and_assoc]
theorem fs_wrt_mono {P Q : Int → List Int → Prop} : ∀ (a : List (List Int)) (L : Int), (∀ j s, L ≤ j → j < L + a.length → s ∈ a → P j s → Q j s) → fs_wrt P L a → fs_wrt Q L a
  | [], _, _, _ => trivial
  | s :: t, L, h, ⟨p1, p2⟩ => by
    rw [List.length_cons] at h
    exact ⟨h L s (by omega) (by omega) List.mem_cons_self p1, fs_wrt_mono t (L + 1) (fun j s2 a b c d => h j s2 (by omega) (by omega) (List.mem_cons_of_mem _ c) d) p2⟩
def fs_gor (M : fs_M) (q : Int) (n : Int) : Option (Int × Int × Int × Int) → Prop
  | none => M q 6 = 1000
  | some s => M q 6 ≠ 1000 ∧ M q 0 = s.1 ∧ M q 1 = s.2.1 ∧ M q 2 = s.2.2.1 ∧ M q 3 = s.2.2.2 ∧ 0 ≤ s.1 ∧ s.1 ≤ 99 ∧ 1 ≤ s.2.1 ∧ s.2.1 ≤ 300 ∧ 0 ≤ s.2.2.1 ∧ s.2.2.1 ≤ n ∧ 0 ≤ s.2.2.2 ∧ s.2.2.2 ≤ 9 ∧ 0 ≤ M q 4 ∧ M q 4 ≤ n
theorem fs_gor.cong {M M' : fs_M} {q q' n : Int} {st : Option (Int × Int × Int × Int)} (h : fs_gor M q n st) (he : ∀ k, 0 ≤ k → k ≤ 6 → M' q' k = M q k) : fs_gor M' q' n st := by
  cases st with
  | none =>
    show M' q' 6 = 1000
    rw [he 6 (by decide) (by decide)]
    exact h
  | some s =>
    obtain ⟨a, b, c, d, e, f⟩ := h
    refine ⟨?_, ?_, ?_, ?_, ?_, f.1, f.2.1, f.2.2.1, f.2.2.2.1, f.2.2.2.2.1, f.2.2.2.2.2.1, f.2.2.2.2.2.2.1, f.2.2.2.2.2.2.2.1, ?_, ?_⟩
    · rw [he 6 (by decide) (by decide)]; exact a
    · rw [he 0 (by decide) (by decide)]; exact b
    · rw [he 1 (by decide) (by decide)]; exact c
    · rw [he 2 (by decide) (by decide)]; exact d
    · rw [he 3 (by decide) (by decide)]; exact e
    · rw [he 4 (by decide) (by decide)]; exact f.2.2.2.2.2.2.2.2.1
    · rw [he 4 (by decide) (by decide)]; exact f.2.2.2.2.2.2.2.2.2
/-- what a course under way for the book keeps to -/
def fs_ctx (E : fs_M) (rf : Int) (al : Int → Int) (M : fs_M) : Prop := fs_env E M ∧ M 43 1 = 31 ∧ M 43 2 = -1 ∧ M 31 2 = rf ∧ ∀ x, 0 ≤ x → x < E 1 5 → (fs_bit (M 60 9) x = 1 ↔ al x ≠ 0)
theorem fs_ctx.out {E M M' : fs_M} {rf : Int} {al : Int → Int} (h : fs_ctx E rf al M) (he : ∀ o k, fs_eC o ∨ o = 43 ∨ o = 31 ∨ (o = 60 ∧ k = 9) → M' o k = M o k) : fs_ctx E rf al M' := by
  obtain ⟨a, b, c, d, e⟩ := h
  refine ⟨fun o k q => by rw [he o k (Or.inl q)]; exact a o k q, by rw [he 43 1 (by omega)]; exact b, by rw [he 43 2 (by omega)]; exact c, by rw [he 31 2 (by omega)]; exact d, ?_⟩
  rw [he 60 9 (by omega)]
  exact e
theorem fs_col_cong {p q : Int → Int} : ∀ (n : Nat), (∀ h : Int, 0 ≤ h → h < n → p h = q h) → fs_col p n = fs_col q n
  | 0, _ => rfl
  | n + 1, h => by
    show (if p n = 1 then fs_or (fs_col p n) (fs_shl 1 n) else fs_col p n) = (if q n = 1 then fs_or (fs_col q n) (fs_shl 1 n) else fs_col q n)
    rw [fs_col_cong n (fun x a b => h x a (by omega)), h n (by omega) (by omega)]
theorem fs_col_bit {p : Int → Int} {i : Int} (i0 : 0 ≤ i) (i1 : i < 6) : ∀ (n : Nat), n ≤ 6 → (fs_bit (fs_col p n) i = 1 ↔ i < n ∧ p i = 1)
  | 0, _ => by
    show fs_bit 0 i = 1 ↔ _
    have z := fs_bit0 i.toNat (by omega)
    rw [show ((i.toNat : Nat) : Int) = i by omega] at z
    rw [z]
    exact ⟨fun q => absurd q (by decide), fun q => by omega⟩
  | n + 1, hn => by
    have ih := fs_col_bit (p := p) i0 i1 n (by omega)
    show fs_bit (if p n = 1 then fs_or (fs_col p n) (fs_shl 1 n) else fs_col p n) i = 1 ↔ _
    by_cases c : p n = 1
    · rw [if_pos c, fs_bit_or1 (by omega) (by omega) i0 i1]
      by_cases e : i = n
      · rw [if_pos e, e]
        exact ⟨fun _ => ⟨by omega, c⟩, fun _ => rfl⟩
      · rw [if_neg e, ih]
        exact ⟨fun q => ⟨by omega, q.2⟩, fun q => ⟨by omega, q.2⟩⟩
    · rw [if_neg c, ih]
      refine ⟨fun q => ⟨by omega, q.2⟩, fun q => ⟨?_, q.2⟩⟩
      by_cases e : i = n
      · rw [e] at q
        exact absurd q.2 c
      · omega
section BOOK
variable {g : fs_G}
theorem sp_doesNext {E M : fs_M} {K : fs_K} {rf q x n : Int} {al : Int → Int} {st : Option (Int × Int × Int × Int)} (hB : fs_bE E) (hq : fs_isO 2 q) (q0 : 83 ≤ q) (q1 : q ≤ 89) (hC : fs_ctx E rf al M) (x0 : 0 ≤ x) (x1 : x < E 1 5) (n0 : 0 ≤ n) (n6 : n ≤ 6) (hg : fs_gor M q n st)
    (hK : ∀ M', fs_out (fun o k => fs_F2 o k ∨ o = q) M M' → fs_gor M' q (n + 1) (fs_nxt E (-1) rf al x st) → K (some (fs_l (if fs_nmi E (-1) al x st = 0 then 0 else fs_lshl (fs_nmi E (-1) al x st) (fs_w32 (8 * x))))) M') : fs_C2 g m_Book_doesNext 6 [fs_r 60, fs_r q, fs_i x] M K := by
  have h6 := hB.2.1
  have hx := hB.2.2.2.2.1 x x0 x1
  obtain ⟨hE, c1, c2, c3, c4⟩ := hC
  cases st with
  | none =>
    have z : M q 6 = 1000 := hg
    refine E_Book_doesNext hq ⟨fun _ => L_Book_doesNext_19 hq ⟨fun _ => ?_, fun w => absurd z w⟩, fun w => absurd z w⟩
    exact hK M fs_out.rf z
  | some s =>
    obtain ⟨pl, lv, gl, co⟩ := s
    obtain ⟨g6, g0, g1, g2, g3, a1, a2, a3, a4, a5, a6, a7, a8, a9, a10⟩ := hg
    dsimp only at g0 g1 g2 g3 a1 a2 a3 a4 a5 a6 a7 a8
    refine E_Book_doesNext hq ⟨fun w => absurd w g6, fun _ => ?_⟩
    refine sp_setOut (tr := -1) hq (by omega) (by omega) hE (hB.2.2.2.2.2.2 0 (by decide) (by decide)) c2 (fun _ => ⟨x0, by omega, hx.1, hx.2.1, by omega, by omega, by omega, by omega⟩) (fun M1 o1 => ⟨rfl, ?_⟩)
    rw [if_neg (by omega), g0, g1, g2, g3]
    have cb := fs_comes_b (tr := -1) (glass := gl) (coal := co) hx.1 hx.2.1 a1 a2 a3
    have w1 : ∀ o k, o ≠ q → ¬ fs_F2 o k → fs_st M1 q 6 (fs_comes E (-1) x pl lv gl co) o k = M o k := fun o k a b => by rw [fs_st_o a, o1 o k b]
    have wq : ∀ k, k ≠ 6 → fs_st M1 q 6 (fs_comes E (-1) x pl lv gl co) q k = M q k := fun k a => by rw [fs_st_k a, o1 q k (by unfold fs_F2; omega)]
    have oS : fs_out (fun o k => fs_F2 o k ∨ o = q) M (fs_st M1 q 6 (fs_comes E (-1) x pl lv gl co)) := fs_out.st (o1.wk (fun _ _ z => Or.inl z)) (Or.inr rfl)
    by_cases c : fs_comes E (-1) x pl lv gl co = 1000
    · have h := hK _ oS (by
        show fs_gor _ q (n + 1) (if fs_comes E (-1) x pl lv gl co = 1000 then none else _)
        rw [if_pos c]
        show fs_st M1 q 6 (fs_comes E (-1) x pl lv gl co) q 6 = 1000
        rw [fs_st_s]
        exact c)
      have e : fs_nmi E (-1) al x (some (pl, lv, gl, co)) = 0 := by
        show (if fs_comes E (-1) x pl lv gl co = 1000 then 0 else _) = 0
        rw [if_pos c]
      rw [e, if_pos rfl] at h
      refine L_Book_doesNext_19 hq ⟨fun _ => h, fun w => ?_⟩
      rw [fs_st_s] at w
      exact absurd c w
    · refine L_Book_doesNext_19 hq ⟨fun w => ?_, fun _ => E_Fs_bit ⟨_, rfl, ?_⟩⟩
      · rw [fs_st_s] at w
        exact absurd w c
      · have e9 : fs_st M1 q 6 (fs_comes E (-1) x pl lv gl co) 60 9 = M 60 9 := w1 60 9 (by omega) (by unfold fs_F2; omega)
        rw [e9]
        have key : ∀ opn, opn = fs_opn al x → fs_A2 g m_Book_doesNext 6 51 [(1, fs_r q), (2, fs_i x)] [fs_i opn, fs_i x, fs_r q, fs_r 43] (fs_st M1 q 6 (fs_comes E (-1) x pl lv gl co)) K := by
          intro opn ho
          have env1 : fs_env E (fs_st M1 q 6 (fs_comes E (-1) x pl lv gl co)) := fun o k z => by
            rw [w1 o k (by unfold fs_eC at z; omega) (by unfold fs_F2; unfold fs_eC at z; omega)]
            exact hE o k z
          have s6 : fs_st M1 q 6 (fs_comes E (-1) x pl lv gl co) q 6 = fs_comes E (-1) x pl lv gl co := fs_st_s
          have s0 := wq 0 (by decide)
          have s1 := wq 1 (by decide)
          have s2 := wq 2 (by decide)
          have s3 := wq 3 (by decide)
          have s4 := wq 4 (by decide)
          rw [g2] at s2
          rw [g3] at s3
          have cbb : 1 ≤ fs_comes E (-1) x pl lv gl co ∧ fs_comes E (-1) x pl lv gl co ≤ 240 := by
            rcases cb with z | z
            · exact absurd z c
            · exact z
          refine L_Book_doesNext_51 hq hq (sp_doesIt (tr := -1) (rf := rf) (pl := 31) hq (by omega) (by omega) env1 hB.2.2.2.2.2.2 (by rw [w1 43 2 (by omega) (by unfold fs_F2; omega)]; exact c2) (by rw [w1 43 1 (by omega) (by unfold fs_F2; omega)]; exact c1) io_31 (by decide) (by omega) (by rw [w1 31 2 (by omega) (by unfold fs_F2; omega)]; exact c3) x0 (by omega) (by rw [s6]; omega) (by rw [s6]; omega) (by rw [s2]; omega) (by rw [s2]; omega) (by rw [s3]; omega) (by rw [s3]; omega) (by rw [s4]; omega) (by rw [s4]; omega) (fun M3 o3 => ⟨_, rfl, ?_⟩))
          rw [s6, s2, s3, ho]
          have v3 : ∀ k, M3 q k = (if k = 0 then E 3 x else if k = 1 then fs_vlv E (-1) rf (fs_opn al x) (fs_comes E (-1) x pl lv gl co) gl co x else if k = 2 then fs_vgl E (-1) rf (fs_opn al x) (fs_comes E (-1) x pl lv gl co) gl co x else if k = 3 then fs_vco E (-1) (fs_opn al x) (fs_comes E (-1) x pl lv gl co) gl co x else if k = 4 then M q 4 + fs_okN E (-1) (fs_opn al x) (fs_comes E (-1) x pl lv gl co) gl co x else fs_st M1 q 6 (fs_comes E (-1) x pl lv gl co) q k) := fun k => by
            rw [o3 q k (by unfold fs_F2; omega)]
            unfold fs_vdd
            rw [if_pos rfl, s6, s2, s3, s4, ho]
          have o3' : fs_out (fun o k => fs_F2 o k ∨ o = q) M M3 := fun o k nF => by
            rw [o3 o k (fun z => nF (Or.inl z))]
            unfold fs_vdd
            rw [if_neg (fun z => nF (Or.inr z))]
            exact w1 o k (fun z => nF (Or.inr z)) (fun z => nF (Or.inl z))
          have b1 := fs_vlv_b (E := E) (tr := -1) (rf := rf) (opn := fs_opn al x) (t := fs_comes E (-1) x pl lv gl co) (glass := gl) (coal := co) (h := x)
          have b2 := fs_vgl_b (E := E) (tr := -1) (rf := rf) (opn := fs_opn al x) (t := fs_comes E (-1) x pl lv gl co) (glass := gl) (coal := co) (h := x)
          have b3 := fs_vco_b (E := E) (tr := -1) (opn := fs_opn al x) (t := fs_comes E (-1) x pl lv gl co) (glass := gl) (h := x) a7
          have b4 := fs_okN01 E (-1) (fs_opn al x) (fs_comes E (-1) x pl lv gl co) gl co x
          have h := hK M3 o3' (by
            show fs_gor _ q (n + 1) (if fs_comes E (-1) x pl lv gl co = 1000 then none else some (E 3 x, fs_vlv E (-1) rf (fs_opn al x) (fs_comes E (-1) x pl lv gl co) gl co x, fs_vgl E (-1) rf (fs_opn al x) (fs_comes E (-1) x pl lv gl co) gl co x, fs_vco E (-1) (fs_opn al x) (fs_comes E (-1) x pl lv gl co) gl co x))
            rw [if_neg c]
            refine ⟨?_, ?_, ?_, ?_, ?_, hx.1, hx.2.1, ?_, ?_, ?_, ?_, ?_, ?_, ?_, ?_⟩
            · rw [v3 6, if_neg (by decide), if_neg (by decide), if_neg (by decide), if_neg (by decide), if_neg (by decide), s6]
              exact c
            · rw [v3 0, if_pos rfl]
            · rw [v3 1, if_neg (by decide), if_pos rfl]
            · rw [v3 2, if_neg (by decide), if_neg (by decide), if_pos rfl]
            · rw [v3 3, if_neg (by decide), if_neg (by decide), if_neg (by decide), if_pos rfl]
            · dsimp only; omega
            · dsimp only; omega
            · dsimp only; omega
            · dsimp only; omega
            · dsimp only; omega
            · dsimp only; omega
            · rw [v3 4, if_neg (by decide), if_neg (by decide), if_neg (by decide), if_neg (by decide), if_pos rfl]
              omega
            · rw [v3 4, if_neg (by decide), if_neg (by decide), if_neg (by decide), if_neg (by decide), if_pos rfl]
              omega)
          have em : fs_nmi E (-1) al x (some (pl, lv, gl, co)) = if fs_okN E (-1) (fs_opn al x) (fs_comes E (-1) x pl lv gl co) gl co x = 0 then 0 else fs_comes E (-1) x pl lv gl co := by
            show (if fs_comes E (-1) x pl lv gl co = 1000 then 0 else if fs_okN E (-1) (fs_opn al x) (fs_comes E (-1) x pl lv gl co) gl co x = 0 then 0 else fs_comes E (-1) x pl lv gl co) = _
            rw [if_neg c]
          rw [em] at h
          refine ⟨fun w => ?_, fun w => ?_⟩
          · rw [if_pos w, if_pos rfl] at h
            exact h
          · rw [if_neg w, if_neg (by omega)] at h
            have e6 : M3 q 6 = fs_comes E (-1) x pl lv gl co := by
              rw [v3 6, if_neg (by decide), if_neg (by decide), if_neg (by decide), if_neg (by decide), if_neg (by decide), s6]
            rw [e6]
            exact h
        have cx := c4 x x0 x1
        refine ⟨fun w => key 0 ?_, fun w => key 1 ?_⟩
        · have b1 : fs_bit (M 60 9) x = 1 := by
            rcases fs_bit01 (M 60 9) x with z | z
            · exact absurd z w
            · exact z
          unfold fs_opn
          rw [if_neg (cx.1 b1)]
        · have b1 : fs_bit (M 60 9) x = 0 := w
          unfold fs_opn
          by_cases z : al x = 0
          · rw [if_pos z]
          · have := cx.2 z
            omega
theorem sp_housesInTime {E M : fs_M} {K : fs_K} {did : Int} {p : Int → Int} (hB : fs_bE E) (hE : fs_env E M) (hp : ∀ h, 0 ≤ h → h < E 1 5 → p h = if 1 ≤ fs_mof did h ∧ fs_mof did h ≤ E 5 h then 1 else 0) (hK : K (some (fs_i (fs_col p (E 1 5).toNat))) M) : fs_C2 g m_Book_housesInTime 2 [fs_r 60, fs_l did] M K := by
  have h5 := hB.1
  have h6 := hB.2.1
  have e15 : M 1 5 = E 1 5 := hE 1 5 (by unfold fs_eC; omega)
  have loop : ∀ (n : Nat) (i : Nat), (E 1 5).toNat - i = n → i ≤ (E 1 5).toNat → fs_A2 g m_Book_housesInTime 2 5 [(0, fs_r 60), (1, fs_l did), (3, fs_i (fs_col p i)), (4, fs_i (i : Int))] [] M K := by
    intro n
    induction n with
    | zero =>
      intro i hn hi
      refine L_Book_housesInTime_5 ⟨fun _ => ?_, fun z => ?_⟩
      · rw [show i = (E 1 5).toNat by omega]
        exact hK
      · rw [e15] at z
        omega
    | succ n ih =>
      intro i hn hi
      refine L_Book_housesInTime_5 ⟨fun z => ?_, fun _ => E_Book_minuteOf ⟨_, rfl, ?_⟩⟩
      · rw [e15] at z
        omega
      · have nx := ih (i + 1) (by omega) (by omega)
        rw [show fs_w32 ((i : Int) + 1) = ((i + 1 : Nat) : Int) by rw [fs_w32_of (by omega) (by omega)]; omega]
        have hpi := hp i (by omega) (by omega)
        have e5 : M 5 i = E 5 i := hE 5 i (by unfold fs_eC; omega)
        have es : fs_col p (i + 1) = if p i = 1 then fs_or (fs_col p i) (fs_shl 1 i) else fs_col p i := rfl
        rw [es] at nx
        have em : fs_and (fs_w32 (fs_lshr did (fs_w32 (8 * (i : Int))))) 255 = fs_mof did i := rfl
        rw [em, e5]
        refine ⟨fun z => ?_, fun z => ⟨by omega, by omega, fun z2 => ?_, fun z2 => ?_⟩⟩
        · rw [if_neg (by rw [hpi, if_neg (by omega)]; decide)] at nx
          exact nx
        · rw [if_neg (by rw [hpi, if_neg (by omega)]; decide)] at nx
          exact nx
        · rw [if_pos (by rw [hpi, if_pos (by omega)])] at nx
          exact nx
  exact E_Book_housesInTime (loop _ 0 rfl (Nat.zero_le _))
/-- all rows are written -/
def fs_P12 (M : fs_M) (j : Int) (s : List Int) : Prop := M 61 j = fs_cod s 0 0 ∧ M 62 j = fs_bts s 0
theorem sp_addRows {E : fs_M} (hB : fs_bE E) : ∀ (n dd : Nat) (r : List Int) (L : Int) (M : fs_M) (K : fs_K), n + 2 ≤ dd → r.length + n = 6 → (∀ h, h ∈ r → 0 ≤ h ∧ h < E 1 5) → fs_env E M → M 60 2 = L → 0 ≤ L → L + (fs_ext (E 1 5).toNat fs_tt n r).length ≤ 1957 →
    (∀ M', fs_out (fun o k => ((o = 61 ∨ o = 62) ∧ L ≤ k) ∨ (o = 60 ∧ k = 2)) M M' → M' 60 2 = L + (fs_ext (E 1 5).toNat fs_tt n r).length → fs_wrt (fs_P12 M') L (fs_ext (E 1 5).toNat fs_tt n r) → K none M') →
    fs_C2 g m_Book_addRows dd [fs_r 60, fs_i (fs_cod r 0 0), fs_i (r.length : Int), fs_i (fs_bts r 0)] M K := by
  have h5 := hB.1
  have h6 := hB.2.1
  intro n
  induction n with
  | zero =>
    intro dd r L M K hd hr hb hE hL l0 ll hK
    obtain ⟨d, rfl⟩ : ∃ d, dd = d + 1 := ⟨dd - 1, by omega⟩
    have l1 : L < 1957 := by
      have : (fs_ext (E 1 5).toNat fs_tt 0 r).length = 1 := rfl
      omega
    refine E_Book_addRows (by omega) ⟨fun _ => ⟨by omega, ?_⟩, fun z => by omega⟩
    rw [hL, fs_w32_of (by omega) (by omega)]
    have fin : K none (fs_st (fs_st (fs_st M 61 L (fs_cod r 0 0)) 62 L (fs_bts r 0)) 60 2 (L + 1)) := by
      refine hK _ (((fs_out.rf.st ?_).st ?_).st ?_) ?_ ⟨⟨?_, ?_⟩, trivial⟩
      · exact Or.inl ⟨Or.inl rfl, Int.le_refl _⟩
      · exact Or.inl ⟨Or.inr rfl, Int.le_refl _⟩
      · exact Or.inr ⟨rfl, rfl⟩
      · rw [fs_st_s]
        rfl
      · rw [fs_st_o (by decide), fs_st_o (by decide), fs_st_s]
      · rw [fs_st_o (by decide), fs_st_s]
    exact L_Book_addRows_44 (by omega) ⟨fun _ => fin, fun _ => ⟨fun _ => fin, fun z => by omega⟩⟩
  | succ n ih =>
    intro dd r L M K hd hr hb hE hL l0 ll hK
    obtain ⟨d, rfl⟩ : ∃ d, dd = d + 1 := ⟨dd - 1, by omega⟩
    rw [fs_ext_s, List.length_cons] at ll
    refine E_Book_addRows (by omega) ⟨fun _ => ⟨by omega, ?_⟩, fun z => by omega⟩
    rw [hL, fs_w32_of (by omega) (by omega)]
    have loop : ∀ (m : Nat) (x L1 : Int) (M1 : fs_M), x + m = E 1 5 → 0 ≤ x → fs_env E M1 → M1 60 2 = L1 → 0 ≤ L1 → L1 + (fs_fmp (fun h => fs_ext (E 1 5).toNat fs_tt n (r ++ [h])) (fs_hf fs_tt r m x)).length ≤ 1957 →
        (∀ M', fs_out (fun o k => ((o = 61 ∨ o = 62) ∧ L1 ≤ k) ∨ (o = 60 ∧ k = 2)) M1 M' → M' 60 2 = L1 + (fs_fmp (fun h => fs_ext (E 1 5).toNat fs_tt n (r ++ [h])) (fs_hf fs_tt r m x)).length → fs_wrt (fs_P12 M') L1 (fs_fmp (fun h => fs_ext (E 1 5).toNat fs_tt n (r ++ [h])) (fs_hf fs_tt r m x)) → K none M') →
        fs_A2 g m_Book_addRows (d + 1) 44 [(0, fs_r 60), (1, fs_i (fs_cod r 0 0)), (2, fs_i (r.length : Int)), (3, fs_i (fs_bts r 0)), (4, fs_i x)] [] M1 K := by
      intro m
      induction m with
      | zero =>
        intro x L1 M1 hx x0 hE1 hL1 l10 ll1 hK1
        refine L_Book_addRows_44 (by omega) ⟨fun _ => hK1 M1 fs_out.rf (by rw [hL1]; exact (Int.add_zero _).symm) trivial, fun z => ?_⟩
        rw [hE1 1 5 (by unfold fs_eC; omega)] at z
        omega
      | succ m ihm =>
        intro x L1 M1 hx x0 hE1 hL1 l10 ll1 hK1
        have e15 : M1 1 5 = E 1 5 := hE1 1 5 (by unfold fs_eC; omega)
        have wx : fs_w32 (x + 1) = x + 1 := fs_w32_of (by omega) (by omega)
        have bb := fs_bts_in (i := x) x0 (by omega) (r := r) (fun h hh => ⟨(hb h hh).1, by have := (hb h hh).2; omega⟩)
        refine L_Book_addRows_44 (by omega) ⟨fun z => by omega, fun _ => ⟨fun z => by omega, fun _ => E_Fs_bit ⟨_, rfl, fun z => ?_, fun z => ?_⟩⟩⟩
        · have xin : x ∈ r := bb.1 (by
            rcases fs_bit01 (fs_bts r 0) x with w | w
            · exact absurd w z
            · exact w)
          rw [fs_hf_n (Or.inr xin)] at ll1 hK1
          rw [wx]
          exact ihm (x + 1) L1 M1 (by omega) (by omega) hE1 hL1 l10 ll1 hK1
        · have xn : x ∉ r := fun w => by
            have q := bb.2 w
            have z2 : fs_bit (fs_bts r 0) x = 0 := z
            omega
          rw [fs_hf_y rfl xn] at ll1 hK1
          have ea : fs_fmp (fun h => fs_ext (E 1 5).toNat fs_tt n (r ++ [h])) (x :: fs_hf fs_tt r m (x + 1)) = fs_ext (E 1 5).toNat fs_tt n (r ++ [x]) ++ fs_fmp (fun h => fs_ext (E 1 5).toNat fs_tt n (r ++ [h])) (fs_hf fs_tt r m (x + 1)) := rfl
          rw [ea, List.length_append] at ll1 hK1
          have ec : fs_or (fs_cod r 0 0) (fs_shl (fs_w32 (x + 1)) (fs_w32 (3 * (r.length : Int)))) = fs_cod (r ++ [x]) 0 0 := by
            rw [fs_cod_snoc, wx, Int.zero_add]
          have eb : fs_or (fs_bts r 0) (fs_shl 1 x) = fs_bts (r ++ [x]) 0 := (fs_bts_snoc r 0).symm
          have el : fs_w32 ((r.length : Int) + 1) = ((r ++ [x]).length : Int) := by
            rw [List.length_append, List.length_singleton, fs_w32_of (by omega) (by omega)]
            omega
          rw [ec, eb, el, wx]
          refine ih d (r ++ [x]) L1 M1 _ (by omega) (by rw [List.length_append, List.length_singleton]; omega) (fun h hh => ?_) hE1 hL1 l10 (by omega) (fun M2 o2 e2 w2 => ⟨rfl, ?_⟩)
          · rcases List.mem_append.1 hh with w | w
            · exact hb h w
            · rcases List.mem_cons.1 w with w | w
              · rw [w]
                exact ⟨x0, by omega⟩
              · cases w
          · have env2 : fs_env E M2 := fun o k w => by
              rw [o2 o k (by unfold fs_eC at w; omega)]
              exact hE1 o k w
            refine ihm (x + 1) _ M2 (by omega) (by omega) env2 e2 (by omega) (by omega) (fun M3 o3 e3 w3 => ?_)
            refine hK1 M3 (o2.tr (o3.wk (fun o k w => ?_))) (by rw [e3]; omega) ?_
            · rcases w with w | w
              · exact Or.inl ⟨w.1, by omega⟩
              · exact Or.inr w
            · refine (fs_wrt_app _ _ _).2 ⟨fs_wrt_mono _ _ (fun j s j0 j1 _ hp => ?_) w2, w3⟩
              unfold fs_P12 at hp ⊢
              rw [o3 61 j (by omega), o3 62 j (by omega)]
              exact hp
    refine loop (E 1 5).toNat 0 (L + 1) _ (by omega) (by decide) (fun o k w => ?_) (by rw [fs_st_s]) (by omega) (by omega) (fun M3 o3 e3 w3 => ?_)
    · rw [fs_st_o (by unfold fs_eC at w; omega), fs_st_o (by unfold fs_eC at w; omega), fs_st_o (by unfold fs_eC at w; omega)]
      exact hE o k w
    · refine hK M3 (fs_out.tr (((fs_out.rf.st ?_).st ?_).st ?_) (o3.wk (fun o k w => ?_))) (by rw [e3, fs_ext_s, List.length_cons]; omega) ?_
      · exact Or.inl ⟨Or.inl rfl, Int.le_refl _⟩
      · exact Or.inl ⟨Or.inr rfl, Int.le_refl _⟩
      · exact Or.inr ⟨rfl, rfl⟩
      · rcases w with w | w
        · exact Or.inl ⟨w.1, by omega⟩
        · exact Or.inr w
      · rw [fs_ext_s]
        refine ⟨⟨?_, ?_⟩, w3⟩
        · rw [o3 61 L (by omega), fs_st_o (by decide), fs_st_o (by decide), fs_st_s]
        · rw [o3 62 L (by omega), fs_st_o (by decide), fs_st_s]
end BOOK
