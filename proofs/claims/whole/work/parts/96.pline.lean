-- ===== the lines of a TEXT, as one function: what is told lies where the class's new script lies (15 .. 22, 26, 27) =====
abbrev fs_qS : Type := fs_M × fs_q3
abbrev fs_qQ : Type := (Int × Int) ⊕ fs_qS
abbrev fs_qZ : Type := (Int × Int) ⊕ (Int × fs_q3)
def fs_qX {α β : Type} (r : (Int × Int) ⊕ α) (f : α → (Int × Int) ⊕ β) : (Int × Int) ⊕ β := match r with
  | .inl e => .inl e
  | .inr a => f a
def fs_qNum (T : Int → Int) (E lo hi : Int) (s : fs_q3) : fs_qZ := if fs_lxt T E s.1 = 1017 then (if fs_lxn T E s.1 < lo then .inl (2, s.1) else if fs_lxn T E s.1 ≤ hi then .inr (fs_lxn T E s.1, fs_qA T E s) else .inl (2, s.1)) else .inl (1, s.1)
def fs_qNam (T : Int → Int) (E : Int) (A : fs_M) (arr cnt : Int) (s : fs_q3) : fs_qZ := if fs_lxt T E s.1 = 1034 then (if fs_ix (A arr) (fs_lxl T E s.1) cnt.toNat 0 = -1 then .inr (fs_lxl T E s.1, fs_qA T E s) else .inl (3, s.1)) else .inl (1, s.1)
def fs_qOwn (T : Int → Int) (E h : Int) (A : fs_M) (s : fs_q3) : fs_qS := if fs_lxt T E s.1 = 1005 then (fs_st (fs_st A 15 4 (fs_or (A 15 4) (fs_shl 1 h))) 15 5 (h + 1), fs_qA T E s) else (fs_st A 15 5 (h + 1), s)
def fs_qBy (T : Int → Int) (E h : Int) (A : fs_M) (s : fs_q3) : fs_qQ := if fs_lxt T E s.1 = 1004 then fs_qX (fs_qNum T E 1 240 (fs_qA T E s)) (fun q => .inr (fs_qOwn T E h (fs_st (fs_st A 19 h 240) 19 h q.1) q.2)) else .inr (fs_qOwn T E h (fs_st A 19 h 240) s)
def fs_qHouse (T : Int → Int) (E : Int) (A : fs_M) (s : fs_q3) : fs_qQ := if A 15 5 < 6 then fs_qX (fs_qNam T E A 16 (A 15 5) (fs_qA T E s)) (fun q => fs_qX (fs_qNum T E 0 99 q.2) (fun r => fs_qX (fs_qNum T E 0 99 r.2) (fun w => fs_qBy T E (A 15 5) (fs_st (fs_st (fs_st A 16 (A 15 5) q.1) 17 (A 15 5) r.1) 18 (A 15 5) w.1) w.2))) else .inl (2, s.1)
def fs_qDark (T : Int → Int) (E : Int) (A : fs_M) (s : fs_q3) : fs_qQ := if A 15 9 < 3 then fs_qX (fs_qNam T E A 20 (A 15 9) (fs_qA T E s)) (fun q => fs_qX (fs_qNum T E 0 99 q.2) (fun r => fs_qX (fs_qNum T E 0 9 r.2) (fun w => .inr (fs_st (fs_st (fs_st (fs_st A 20 (A 15 9) q.1) 21 (A 15 9) r.1) 22 (A 15 9) w.1) 15 9 (A 15 9 + 1), w.2)))) else .inl (2, s.1)
def fs_qSeed (T : Int → Int) (E : Int) (A : fs_M) (s : fs_q3) : fs_qQ := if A 15 11 = 0 then fs_qX (fs_qNum T E 0 99999 (fs_qA T E s)) (fun w => .inr (fs_st (fs_st A 15 10 w.1) 15 11 1, w.2)) else .inl (3, s.1)
def fs_qLaw (T : Int → Int) (E : Int) (A : fs_M) (s : fs_q3) : fs_qQ :=
  if 1006 ≤ fs_lxt T E (fs_qA T E s).1 ∧ fs_lxt T E (fs_qA T E s).1 ≤ 1009 then
    (if A 27 (fs_lxt T E (fs_qA T E s).1 - 1006) ≤ A 26 (fs_lxt T E (fs_qA T E s).1 - 1006) then
      fs_qX (fs_qE T E 8 (fs_qA T E (fs_qA T E s))) (fun s3 => .inr (fs_st (fs_st A 26 (fs_lxt T E (fs_qA T E s).1 - 1006) (s.2.2.length : Int)) 27 (fs_lxt T E (fs_qA T E s).1 - 1006) (s3.2.2.length : Int), s3))
    else .inl (3, (fs_qA T E s).1))
  else .inl (1, (fs_qA T E s).1)
def fs_qKind (T : Int → Int) (E : Int) (A : fs_M) (s : fs_q3) : fs_qQ := if fs_lxt T E s.1 = 1000 then fs_qHouse T E A s else if fs_lxt T E s.1 = 1001 then fs_qDark T E A s else if fs_lxt T E s.1 = 1002 then fs_qSeed T E A s else if fs_lxt T E s.1 = 1003 then fs_qLaw T E A s else .inl (1, s.1)
def fs_qLine (T : Int → Int) (E : Int) (A : fs_M) (s : fs_q3) : fs_qQ := fs_qX (fs_qKind T E A s) (fun S => fs_qX (fs_qT T E 1033 S.2) (fun s' => .inr (S.1, s')))
def fs_qTx (T : Int → Int) (E : Int) : Nat → Int → fs_qS → (Int × Int) ⊕ (Int × fs_qS)
  | 0, l, S => .inr (l, S)
  | n + 1, l, S => if fs_lxt T E S.2.1 = 1035 then .inr (l, S) else fs_qX (fs_qLine T E S.1 S.2) (fun S' => fs_qTx T E n (l + 1) S')
-- ===== the class reads lines =====
def fs_scq (o k : Int) : Prop := (o = 15 ∧ (k = 4 ∨ k = 5 ∨ k = 9 ∨ k = 10 ∨ k = 11)) ∨ (16 ≤ o ∧ o ≤ 22) ∨ o = 26 ∨ o = 27
def fs_FqL (o k : Int) : Prop := fs_FqC o k ∨ (15 ≤ o ∧ o ≤ 22) ∨ o = 26 ∨ o = 27
def fs_cL (M : fs_M) (T : Int → Int) (E : Int) (S : fs_qS) : Prop := fs_cS M T E S.2 ∧ ∀ o k, fs_scq o k → M o k = S.1 o k
def fs_cXL (g : fs_G) (T : Int → Int) (E : Int) (md : fs_D) (d : Nat) (F : fs_M → fs_q3 → fs_qQ) : Prop := ∀ (M A : fs_M) (s : fs_q3) (K : fs_K), fs_cL M T E (A, s) → 0 ≤ A 15 5 → 0 ≤ A 15 9 → (∀ M' S', F A s = .inr S' → fs_out fs_FqL M M' → fs_cL M' T E S' → K (some (fs_i 1)) M') → (∀ M' e, F A s = .inl e → fs_out fs_FqL M M' → M' 29 2 = e.1 → M' 29 3 = e.2 → e.1 ≠ 0 → K (some (fs_i 0)) M') → fs_C2 g md d [fs_r 29] M K
theorem fs_FqL_c {M M' : fs_M} (h : fs_out fs_FqC M M') : fs_out fs_FqL M M' := h.wk (fun o k q => Or.inl q)
theorem fs_cS.cg {M M' : fs_M} {T : Int → Int} {E : Int} {s : fs_q3} (h : fs_cS M T E s) (he : ∀ o k, o = 29 ∨ o = 30 ∨ (o = 23 ∧ k = 2) ∨ o = 24 ∨ o = 25 → M' o k = M o k) : fs_cS M' T E s := by
  obtain ⟨a, b, c, d, e, f, i, j⟩ := h
  refine ⟨a.cg (fun o k q => he o k (by omega)), by rw [he 29 2 (by omega)]; exact b, by rw [he 29 11 (by omega)]; exact c, d, e, by rw [he 23 2 (by omega)]; exact f, i, fun x q z => ?_⟩
  rw [he 24 x (by omega), he 25 x (by omega)]
  exact j x q z
theorem fs_cL.st {M A : fs_M} {T : Int → Int} {E : Int} {s : fs_q3} {o k v : Int} (h : fs_cL M T E (A, s)) (ho : (15 ≤ o ∧ o ≤ 22) ∨ o = 26 ∨ o = 27) : fs_cL (fs_st M o k v) T E (fs_st A o k v, s) := by
  refine ⟨h.1.cg (fun a b q => fs_st_o (by omega)), fun a b q => ?_⟩
  have e : M a b = A a b := h.2 a b q
  show fs_st M o k v a b = fs_st A o k v a b
  unfold fs_st
  rw [e]
theorem fs_cL.step {M M' A : fs_M} {T : Int → Int} {E : Int} {s s' : fs_q3} (h : fs_cL M T E (A, s)) (o' : fs_out fs_FqC M M') (h' : fs_cS M' T E s') : fs_cL M' T E (A, s') := by
  refine ⟨h', fun a b q => ?_⟩
  have e : M a b = A a b := h.2 a b q
  show M' a b = A a b
  rw [← e]
  refine o' a b (fun z => ?_)
  unfold fs_FqC at z
  unfold fs_scq at q
  omega
section CLINE
variable {g : fs_G} {M A : fs_M} {T : Int → Int} {E : Int}
theorem sp_stumL {K : fs_K} {kind p : Int} (h8 : M 29 8 = p) (hK : ∀ M', fs_out fs_FqL M M' → M' 29 2 = kind → M' 29 3 = p → K (some (fs_i 0)) M') : fs_C2 g m_Reader_stumble 1 [fs_r 29, fs_i kind] M K := sp_stumC h8 (fun M' o' e2 e3 => hK M' (fs_FqL_c o') e2 e3)
theorem sp_advL {K : fs_K} {s : fs_q3} (h : fs_cL M T E (A, s)) (hK : ∀ M', fs_out fs_FqL M M' → fs_cL M' T E (A, fs_qA T E s) → K none M') : fs_C2 g m_Reader_advance 3 [fs_r 29] M K := sp_advS h.1 (fun M' o' h' => hK M' (fs_FqL_c o') (h.step o' h'))
theorem fs_cS.e7 {s : fs_q3} (h : fs_cS M T E s) : M 29 7 = fs_lxt T E s.1 := h.1.2.2.2.2.1
theorem fs_cS.tk {s : fs_q3} (h : fs_cS M T E s) : fs_tk (fs_lxt T E s.1) := (fs_lx_all (T := T) (E := E) (p := s.1) h.1.2.2.2.2.2.2.2.2.1).1
theorem sp_nameL {K : fs_K} {s : fs_q3} {arr cnt : Int} {n0 : Nat} (hi : fs_isA 0 n0 arr) (h : fs_cL M T E (A, s)) (ha : arr = 16 ∨ arr = 20) (c0 : 0 ≤ cnt) (c1 : cnt < n0) (c2 : cnt ≤ 100) (ok : ∀ M' q, fs_qNam T E A arr cnt s = .inr q → fs_out fs_FqL M M' → fs_cL M' T E (fs_st A arr cnt q.1, q.2) → K (some (fs_i 1)) M') (no : ∀ M' e, fs_qNam T E A arr cnt s = .inl e → fs_out fs_FqL M M' → M' 29 2 = e.1 → M' 29 3 = e.2 → e.1 ≠ 0 → K (some (fs_i 0)) M') : fs_C2 g m_Reader_takeNewName 4 [fs_r 29, fs_r arr, fs_i cnt] M K := by
  have hs : fs_cS M T E s := h.1
  refine E_Reader_takeNewName hi ?_
  rw [hs.e7]
  refine ⟨hs.tk, fun z => ?_, fun z => sp_stumL hs.1.2.2.1 (fun M' o' e2 e3 => ⟨0, rfl, Or.inl rfl, no M' (1, s.1) (if_neg z) o' e2 e3 fs_n1z⟩)⟩
  have e10 : M 29 10 = fs_lxl T E s.1 := hs.1.2.2.2.2.2.1 z
  have ea : M arr = A arr := by
    funext x
    exact h.2 arr x (by unfold fs_scq; omega)
  refine sp_indexOf hi c0 (by omega) c2 ⟨_, rfl, ?_⟩
  rw [e10, ea]
  refine ⟨fun y => ⟨c0, c1, ?_⟩, fun y => sp_stumL hs.1.2.2.1 (fun M' o' e2 e3 => ⟨0, rfl, Or.inl rfl, no M' (3, s.1) ?_ o' e2 e3 fs_n3z⟩)⟩
  · have oF : ∀ v, fs_out fs_FqL M (fs_st M arr cnt v) := fun v => fs_out.rf.st (by unfold fs_FqL; omega)
    refine sp_advL (h.st (by omega)) (fun M' o' h' => ⟨rfl, ok M' (fs_lxl T E s.1, fs_qA T E s) ?_ ((oF _).tr o') h'⟩)
    unfold fs_qNam
    rw [if_pos z, if_pos y]
  · unfold fs_qNam
    rw [if_pos z, if_neg y]
theorem sp_numL {K : fs_K} {s : fs_q3} {lo hi : Int} (h : fs_cL M T E (A, s)) (ok : ∀ M' q, fs_qNum T E lo hi s = .inr q → fs_out fs_FqL M M' → fs_cL M' T E (A, q.2) → M' 29 2 = 0 → K (some (fs_i q.1)) M') (no : ∀ M' e, fs_qNum T E lo hi s = .inl e → fs_out fs_FqL M M' → M' 29 2 = e.1 → M' 29 3 = e.2 → e.1 ≠ 0 → K (some (fs_i 0)) M') : fs_C2 g m_Reader_takeNumber 4 [fs_r 29, fs_i lo, fs_i hi] M K := by
  have hs : fs_cS M T E s := h.1
  refine E_Reader_takeNumber ?_
  rw [hs.e7]
  refine ⟨hs.tk, fun z => ?_, fun z => sp_stumL hs.1.2.2.1 (fun M' o' e2 e3 => ⟨0, rfl, no M' (1, s.1) (if_neg z) o' e2 e3 fs_n1z⟩)⟩
  have e9 : M 29 9 = fs_lxn T E s.1 := hs.1.2.2.2.2.2.2.1 z
  rw [e9]
  refine ⟨fun y => sp_stumL hs.1.2.2.1 (fun M' o' e2 e3 => ⟨0, rfl, no M' (2, s.1) ?_ o' e2 e3 fs_n2z⟩), fun y => ⟨fun w => sp_advL h (fun M' o' h' => ⟨rfl, ok M' (fs_lxn T E s.1, fs_qA T E s) ?_ o' h' h'.1.2.1⟩), fun w => sp_stumL hs.1.2.2.1 (fun M' o' e2 e3 => ⟨0, rfl, no M' (2, s.1) ?_ o' e2 e3 fs_n2z⟩)⟩⟩
  · unfold fs_qNum
    rw [if_pos z, if_pos y]
  · unfold fs_qNum
    rw [if_pos z, if_neg y, if_pos w]
  · unfold fs_qNum
    rw [if_pos z, if_neg y, if_neg w]
theorem fs_FqL_st {M1 : fs_M} (h : fs_out fs_FqL M M1) {o k v : Int} (ho : (15 ≤ o ∧ o ≤ 22) ∨ o = 26 ∨ o = 27) : fs_out fs_FqL M (fs_st M1 o k v) := h.st (by unfold fs_FqL; omega)
theorem sp_seedC : fs_cXL g T E m_Reader_readSeed 5 (fs_qSeed T E) := by
  intro M A s K h h0 h0' ok no
  have hs : fs_cS M T E s := h.1
  have e11 : M 15 11 = A 15 11 := h.2 15 11 (by unfold fs_scq; omega)
  refine E_Reader_readSeed ?_
  rw [e11]
  refine ⟨fun z => ?_, fun z => sp_stumL hs.1.2.2.1 (fun M' o' e2 e3 => ⟨0, rfl, Or.inl rfl, no M' (3, s.1) (if_neg z) o' e2 e3 fs_n3z⟩)⟩
  have e : fs_qSeed T E A s = fs_qX (fs_qNum T E 0 99999 (fs_qA T E s)) (fun w => .inr (fs_st (fs_st A 15 10 w.1) 15 11 1, w.2)) := if_pos z
  rw [e] at ok no
  refine sp_advL h (fun M1 o1 h1 => ⟨rfl, sp_numL h1 (fun M2 q eq o2 h2 f2 => ⟨_, rfl, fun y => absurd f2 y, fun _ => ?_⟩) (fun M2 e eq o2 e2 e3 e4 => ⟨_, rfl, fun _ => ?_, fun y => absurd (e2.symm.trans y) e4⟩)⟩)
  · rw [eq] at ok
    exact ok _ _ rfl (fs_FqL_st (fs_FqL_st (o1.tr o2) (by omega)) (by omega)) ((h2.st (by omega)).st (by omega))
  · rw [eq] at no
    refine no _ e rfl (fs_FqL_st (fs_FqL_st (o1.tr o2) (by omega)) (by omega)) ?_ ?_ e4
    · rw [fs_st_o (by omega), fs_st_o (by omega)]
      exact e2
    · rw [fs_st_o (by omega), fs_st_o (by omega)]
      exact e3
theorem sp_darkC : fs_cXL g T E m_Reader_readDark 5 (fs_qDark T E) := by
  intro M A s K h h0 h0' ok no
  have hs : fs_cS M T E s := h.1
  obtain ⟨d, hd⟩ : ∃ d, A 15 9 = d := ⟨_, rfl⟩
  have e9 : M 15 9 = d := (h.2 15 9 (by unfold fs_scq; omega)).trans hd
  rw [hd] at h0'
  refine E_Reader_readDark ?_
  rw [e9]
  unfold fs_qDark at ok no
  rw [hd] at ok no
  refine ⟨fun z => ?_, fun z => sp_stumL hs.1.2.2.1 (fun M' o' e2 e3 => ⟨0, rfl, Or.inl rfl, no M' (2, s.1) (if_neg z) o' e2 e3 fs_n2z⟩)⟩
  rw [if_pos z] at ok no
  refine sp_advL h (fun M1 o1 h1 => ⟨rfl, sp_nameL ia_20 h1 (Or.inr rfl) h0' z (by omega) (fun M2 q eq o2 h2 => ⟨1, rfl, fun _ => ?_, fun y => absurd y (by decide)⟩) (fun M2 e eq o2 e2 e3 e4 => ⟨0, rfl, fun y => absurd rfl y, fun _ => ?_⟩)⟩)
  · rw [eq] at ok no
    refine sp_numL h2 (fun M3 r eq3 o3 h3 f3 => ⟨_, rfl, h0', fun _ => ?_, fun y => absurd f3 y⟩) (fun M3 e eq3 o3 e2 e3 e4 => ⟨_, rfl, h0', fun y => absurd (e2.symm.trans y) e4, fun _ => ?_⟩)
    · have ok2 := ok
      have no2 := no
      have u : ∀ F : (Int × fs_q3) → fs_qQ, fs_qX (fs_qNum T E 0 99 q.2) F = F r := fun F => by
        rw [eq3]
        rfl
      refine sp_numL (h3.st (by omega)) (fun M4 w eq4 o4 h4 f4 => ⟨_, rfl, fun y => absurd f4 y, fun _ => ?_⟩) (fun M4 e eq4 o4 e2 e3 e4 => ⟨_, rfl, fun _ => ?_, fun y => absurd (e2.symm.trans y) e4⟩)
      · have x9 : M4 15 9 = d := by
          rw [h4.2 15 9 (by unfold fs_scq; omega)]
          show fs_st (fs_st A 20 d q.1) 21 d r.1 15 9 = d
          rw [fs_st_o (by omega), fs_st_o (by omega)]
          exact hd
        rw [x9, fs_w32_of (x := d + 1) (by omega) (by omega)]
        refine ok _ _ ?_ (fs_FqL_st (fs_FqL_st ((fs_FqL_st ((o1.tr o2).tr o3) (by omega)).tr o4) (by omega)) (by omega)) ((h4.st (by omega)).st (by omega))
        show fs_qX (fs_qNum T E 0 99 q.2) _ = _
        rw [u, eq4]
        rfl
      · have x9 : M4 29 2 = e.1 := e2
        refine no _ e ?_ (fs_FqL_st (fs_FqL_st ((fs_FqL_st ((o1.tr o2).tr o3) (by omega)).tr o4) (by omega)) (by omega)) ?_ ?_ e4
        · show fs_qX (fs_qNum T E 0 99 q.2) _ = _
          rw [u, eq4]
          rfl
        · rw [fs_st_o (by omega), fs_st_o (by omega)]
          exact e2
        · rw [fs_st_o (by omega), fs_st_o (by omega)]
          exact e3
    · refine no _ e ?_ (fs_FqL_st ((o1.tr o2).tr o3) (by omega)) ?_ ?_ e4
      · show fs_qX (fs_qNum T E 0 99 q.2) _ = _
        rw [eq3]
        rfl
      · rw [fs_st_o (by omega)]
        exact e2
      · rw [fs_st_o (by omega)]
        exact e3
  · rw [eq] at no
    exact no M2 e rfl (o1.tr o2) e2 e3 e4
end CLINE
