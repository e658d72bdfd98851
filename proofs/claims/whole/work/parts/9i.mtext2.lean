-- ===== the model's text() =====
/-- what it may change where nothing is told in the end -/
def fs_FnM (o k : Int) : Prop := (o = 226 ∧ k ≤ 28) ∨ (o = 228 ∧ 4 ≤ k) ∨ (229 ≤ o ∧ o ≤ 233 ∧ 6 ≤ k) ∨ (234 ≤ o ∧ o ≤ 236 ∧ 3 ≤ k) ∨ (237 ≤ o ∧ o ≤ 238 ∧ 4 ≤ k) ∨ (239 ≤ o ∧ o ≤ 240 ∧ 64 ≤ k)
def fs_FtM (o k : Int) : Prop := (o = 226 ∧ (k ≤ 28 ∨ k = 37 ∨ k = 38 ∨ k = 68 ∨ k = 69)) ∨ (228 ≤ o ∧ o ≤ 240) ∨ (242 ≤ o ∧ o ≤ 246)
def fs_mF (M A : fs_M) (L : List (Int × Int)) : Prop :=
  (M 226 2 = 0 ∧ M 226 25 = 0 ∧ M 226 26 = -1 ∧ M 226 37 = 0 ∧ M 226 38 = 0 ∧ M 226 68 = 0 ∧ M 226 69 = -1) ∧ (M 228 0 = A 15 5 ∧ M 228 1 = A 15 9 ∧ M 228 3 = (L.length : Int)) ∧
  (∀ h, 0 ≤ h → h < A 15 5 → M 229 h = A 16 h ∧ M 230 h = A 17 h ∧ M 231 h = A 18 h ∧ M 232 h = A 19 h ∧ (M 233 h = 0 ↔ fs_bit (A 15 4) h = 0)) ∧ (∀ d, 0 ≤ d → d < A 15 9 → M 234 d = A 20 d ∧ M 235 d = A 21 d ∧ M 236 d = A 22 d) ∧
  ((∀ k, 0 ≤ k → k < 4 → M 237 k = A 26 k ∧ M 238 k = A 27 k) ∧ (∀ (j : Nat) (q : Int × Int), L[j]? = some q → M 239 j = fs_srt q.1 ∧ M 240 j = fs_val q.1 q.2)) ∧
  ((∀ d, 0 ≤ d → d < 3 → M 242 d = 0) ∧ M 243 0 = 0 ∧ M 244 0 = 0 ∧ M 245 0 = A 15 10 ∧ M 246 0 = 0) ∧ fs_b01 M
theorem fs_td0 {A : fs_M} (h : fs_A0 A) : fs_td 0 A := by
  obtain ⟨_, _, _, _, a11, ak⟩ := h
  refine ⟨by omega, by omega, ⟨fun z => absurd z (by decide), fun z => absurd a11 z⟩, fun k k0 k4 => ?_⟩
  rw [(ak k k0 k4).1, (ak k k0 k4).2]
  have key : ∀ k : Fin 4, ¬ fs_and (fs_shr 0 (1 + (k.val : Int))) 1 = 1 := by decide +kernel
  obtain ⟨n, hn⟩ : ∃ n : Nat, k = (n : Int) := ⟨k.toNat, by omega⟩
  rw [hn]
  exact ⟨fun z => absurd z (key ⟨n, by omega⟩), fun z => absurd z (by omega)⟩
section MTEXT2
variable {g : fs_G} {M A : fs_M} {T : Int → Int}
theorem sp_textM {K : fs_K} {n : Int} (n0 : 0 ≤ n) (n2 : n ≤ M 226 2) (n6 : n ≤ 600) (ht : ∀ x, 0 ≤ x → x < n → M 227 x = T x ∧ 0 ≤ T x ∧ T x ≤ 255) (h01 : fs_b01 M) (hA : fs_A0 A)
    (ok : ∀ M' l A' s, fs_qTx T n n.toNat 0 (A, (fs_lxp T n 0, 0, [])) = .inr (l, (A', s)) → fs_out fs_FtM M M' → fs_inv n (A', s) → fs_mF M' A' s.2.2 → K (some (fs_i l)) M')
    (no : ∀ M' e, fs_qTx T n n.toNat 0 (A, (fs_lxp T n 0, 0, [])) = .inl e → fs_out fs_FnM M M' → fs_b01 M' → M' 226 2 = 0 → M' 226 25 = e.1 → M' 226 26 = e.2 → K (some (fs_i (-1))) M') : fs_C2 g m_Mo_text 160 [fs_r 226, fs_i n] M K := by
  refine E_Mo_text ⟨fun z => absurd z (by omega), fun _ => ⟨fun _ => ?_, fun z => absurd n2 z⟩⟩
  obtain ⟨N, hN⟩ : ∃ N, fs_st (fs_st (fs_st (fs_st (fs_st (fs_st M 226 0 0) 226 18 n) 226 2 0) 226 19 0) 226 23 0) 226 24 (-1) = N := ⟨_, rfl⟩
  rw [hN]
  have oN : fs_out (fun o k => o = 226 ∧ (k = 0 ∨ k = 2 ∨ k = 18 ∨ k = 19 ∨ k = 23 ∨ k = 24)) M N := by
    rw [← hN]
    exact (((((fs_out.rf.st ⟨rfl, by omega⟩).st ⟨rfl, by omega⟩).st ⟨rfl, by omega⟩).st ⟨rfl, by omega⟩).st ⟨rfl, by omega⟩).st ⟨rfl, by omega⟩
  have pN : ∀ o k, ¬ (o = 226 ∧ (k = 0 ∨ k = 2 ∨ k = 18 ∨ k = 19 ∨ k = 23 ∨ k = 24)) → N o k = M o k := oN
  have v18 : N 226 18 = n := by rw [← hN]; simp [fs_st]
  have v2 : N 226 2 = 0 := by rw [← hN]; simp [fs_st]
  have v19 : N 226 19 = 0 := by rw [← hN]; simp [fs_st]
  have v23 : N 226 23 = 0 := by rw [← hN]; simp [fs_st]
  have v24 : N 226 24 = -1 := by rw [← hN]; simp [fs_st]
  -- behind the loops
  have main : ∀ N2, fs_out (fun o k => (o = 228 ∧ 4 ≤ k ∧ k < 8) ∨ ((o = 237 ∨ o = 238) ∧ 4 ≤ k ∧ k < 8)) N N2 → (∀ k, 4 ≤ k → k < 8 → N2 228 k = 0) → (∀ k, 4 ≤ k → k < 8 → N2 237 k = 0 ∧ N2 238 k = 0) → fs_C2 g m_Mo_token 6 [fs_r 226] (fs_st (fs_st (fs_st (fs_st N2 226 16 0) 226 17 0) 226 27 0) 226 28 0) (fun v M1 => v = none ∧ fs_A2 g m_Mo_text 160 119 [(0, fs_r 226)] [] M1 K) := by
    intro N2 o2 z28 z37
    have p2 : ∀ o k, ¬ ((o = 228 ∧ 4 ≤ k ∧ k < 8) ∨ ((o = 237 ∨ o = 238) ∧ 4 ≤ k ∧ k < 8)) → N2 o k = N o k := o2
    obtain ⟨Q, hQ⟩ : ∃ Q, fs_st (fs_st (fs_st (fs_st N2 226 16 0) 226 17 0) 226 27 0) 226 28 0 = Q := ⟨_, rfl⟩
    rw [hQ]
    have oQ : fs_out (fun o k => o = 226 ∧ (k = 16 ∨ k = 17 ∨ k = 27 ∨ k = 28)) N2 Q := by
      rw [← hQ]
      exact (((fs_out.rf.st ⟨rfl, by omega⟩).st ⟨rfl, by omega⟩).st ⟨rfl, by omega⟩).st ⟨rfl, by omega⟩
    have pQ : ∀ o k, ¬ (o = 226 ∧ (k = 16 ∨ k = 17 ∨ k = 27 ∨ k = 28)) → Q o k = N2 o k := oQ
    have q16 : Q 226 16 = 0 := by rw [← hQ]; simp [fs_st]
    have q17 : Q 226 17 = 0 := by rw [← hQ]; simp [fs_st]
    have q27 : Q 226 27 = 0 := by rw [← hQ]; simp [fs_st]
    have q28 : Q 226 28 = 0 := by rw [← hQ]; simp [fs_st]
    have q18 : Q 226 18 = n := by rw [pQ 226 18 (by omega), p2 226 18 (by omega)]; exact v18
    have q19 : Q 226 19 = 0 := by rw [pQ 226 19 (by omega), p2 226 19 (by omega)]; exact v19
    have q23 : Q 226 23 = 0 := by rw [pQ 226 23 (by omega), p2 226 23 (by omega)]; exact v23
    have q24 : Q 226 24 = -1 := by rw [pQ 226 24 (by omega), p2 226 24 (by omega)]; exact v24
    have qt : ∀ x, Q 227 x = M 227 x := fun x => by rw [pQ 227 x (by omega), p2 227 x (by omega), pN 227 x (by omega)]
    have ag : ∀ i, 0 ≤ i → i < n → Q 227 i = T i := fun i i0 i1 => by rw [qt i]; exact (ht i i0 i1).1
    refine sp_tokenM q18 q19 (by omega) n0 n6 (fun x x0 x1 => by rw [ag x x0 x1]; exact (ht x x0 x1).2) (fun M1 o1 t1 => ⟨rfl, ?_⟩)
    have p1 : ∀ o k, ¬ (o = 226 ∧ 19 ≤ k ∧ k ≤ 22) → M1 o k = Q o k := o1
    have ep : fs_lxp (Q 227) n 0 = fs_lxp T n 0 := fs_lxp_cg ag (by omega)
    rw [ep] at t1
    obtain ⟨p, hp⟩ : ∃ p, fs_lxp T n 0 = p := ⟨_, rfl⟩
    have pb := fs_lxp_b (T := T) n0
    rw [hp] at t1 ok no pb
    have t2 : fs_tM M1 T n p := t1.cg ag pb.1
    have arr : ∀ o k, 228 ≤ o → o ≤ 240 → M1 o k = N2 o k := fun o k a b => by rw [p1 o k (by omega), pQ o k (by omega)]
    obtain ⟨a4, a5, a9, a10, a11, ak⟩ := hA
    have hmr : fs_mr M1 A := by
      unfold fs_mr
      rw [arr 228 4 (by omega) (by omega), arr 228 5 (by omega) (by omega), arr 228 6 (by omega) (by omega), z28 4 (by omega) (by omega), z28 5 (by omega) (by omega), z28 6 (by omega) (by omega), a5, a9, a10, p1 226 16 (by omega), q16]
      refine ⟨rfl, rfl, rfl, fun h x y => absurd y (by omega), fun h x y => absurd y (by omega), fun k k0 k4 => ?_, fs_td0 ⟨a4, a5, a9, a10, a11, ak⟩⟩
      rw [arr 237 _ (by omega) (by omega), arr 238 _ (by omega) (by omega), (z37 (4 + k) (by omega) (by omega)).1, (z37 (4 + k) (by omega) (by omega)).2, (ak k k0 k4).1, (ak k k0 k4).2]
      exact ⟨rfl, rfl⟩
    have hmL : fs_mL M1 T n (A, (p, 0, [])) := by
      refine ⟨⟨⟨⟨by rw [p1 226 18 (by omega)]; exact q18, by rw [p1 226 24 (by omega)]; exact q24⟩, n6, fun x x0 x1 => ?_⟩, t2, pb.1, pb.2, by rw [p1 226 23 (by omega)]; exact q23, by rw [p1 226 28 (by omega)]; exact q28, Int.le_refl _, by show (0 : Int) ≤ 64; omega, ?_, by show ((0 : Nat) : Int) ≤ 0; omega, fun j q z => ?_, by rw [p1 226 27 (by omega)]; exact q27⟩, hmr⟩
      · rw [p1 227 x (by omega), ag x x0 x1]
        exact ⟨rfl, (ht x x0 x1).2⟩
      · rw [arr 228 7 (by omega) (by omega)]
        exact z28 7 (by omega) (by omega)
      · have z' : ([] : List (Int × Int))[j]? = some q := z
        simp at z'
    have o28 : fs_out (fun o k => (o = 226 ∧ k ≤ 28) ∨ (o = 228 ∧ 4 ≤ k) ∨ ((o = 237 ∨ o = 238) ∧ 4 ≤ k)) M M1 := by
      refine (fs_out.wk oN (fun o k q => ?_)).tr ((fs_out.wk o2 (fun o k q => ?_)).tr ((fs_out.wk oQ (fun o k q => ?_)).tr (fs_out.wk o1 (fun o k q => ?_))))
      · have q2 : o = 226 ∧ (k = 0 ∨ k = 2 ∨ k = 18 ∨ k = 19 ∨ k = 23 ∨ k = 24) := q
        exact Or.inl ⟨q2.1, by omega⟩
      · have q2 : (o = 228 ∧ 4 ≤ k ∧ k < 8) ∨ ((o = 237 ∨ o = 238) ∧ 4 ≤ k ∧ k < 8) := q
        rcases q2 with q2 | q2
        · exact Or.inr (Or.inl ⟨q2.1, q2.2.1⟩)
        · exact Or.inr (Or.inr ⟨q2.1, q2.2.1⟩)
      · have q2 : o = 226 ∧ (k = 16 ∨ k = 17 ∨ k = 27 ∨ k = 28) := q
        exact Or.inl ⟨q2.1, by omega⟩
      · have q2 : o = 226 ∧ 19 ≤ k ∧ k ≤ 22 := q
        exact Or.inl ⟨q2.1, by omega⟩
    have b1 : fs_b01 M1 := fun k k0 k1 => by
      rw [o28 233 k (by omega)]
      exact h01 k k0 k1
    have m2 : M1 226 2 = 0 := by rw [p1 226 2 (by omega), pQ 226 2 (by omega), p2 226 2 (by omega)]; exact v2
    have wX : ∀ {M'}, fs_oX M1 M' → fs_out fs_FnM M M' ∧ M' 226 2 = 0 := fun {M'} oX => by
      refine ⟨(fs_out.wk o28 (fun o k q => ?_)).tr (fs_out.wk oX.1 (fun o k q => ?_)), ?_⟩
      · have q2 : (o = 226 ∧ k ≤ 28) ∨ (o = 228 ∧ 4 ≤ k) ∨ ((o = 237 ∨ o = 238) ∧ 4 ≤ k) := q
        unfold fs_FnM
        rcases q2 with q2 | q2 | q2
        · exact Or.inl q2
        · exact Or.inr (Or.inl q2)
        · exact Or.inr (Or.inr (Or.inr (Or.inr (Or.inl ⟨by omega, by omega, q2.2⟩))))
      · unfold fs_FmX fs_FmL fs_FqM fs_FmW at q
        unfold fs_FnM
        rcases q with ((q | q | q | q) | q | (q | q | q | q)) | q
        · exact Or.inl ⟨q.1, by omega⟩
        · exact Or.inr (Or.inl ⟨q.1, by omega⟩)
        · exact Or.inr (Or.inr (Or.inr (Or.inr (Or.inr ⟨by omega, by omega, q.2⟩))))
        · exact Or.inr (Or.inr (Or.inr (Or.inr (Or.inr ⟨by omega, by omega, q.2⟩))))
        · exact Or.inl ⟨q.1, by omega⟩
        · exact Or.inr (Or.inl q)
        · exact Or.inr (Or.inr (Or.inl q))
        · exact Or.inr (Or.inr (Or.inr (Or.inl q)))
        · exact Or.inr (Or.inr (Or.inr (Or.inr (Or.inl q))))
        · exact Or.inl ⟨q.1, by omega⟩
      · rw [oX.1 226 2 (fun z => by
          unfold fs_FmX fs_FmL fs_FqM fs_FmW at z
          omega)]
        exact m2
    refine sp_linesM n.toNat 0 M1 A (p, 0, []) K (by omega) (by omega) pb.1 hmL (fs_A0.inv ⟨a4, a5, a9, a10, a11, ak⟩ pb.1 pb.2) (by rw [p1 226 17 (by omega)]; exact q17) (fun M2 l S' eq oX h2 iv e17 => ?_) (fun M2 e eq oX e1 e2 e3 => ?_)
    · obtain ⟨A', s⟩ := S'
      have hs2 : fs_mS M2 T n 8 s := h2.1
      have hm2 : fs_mr M2 A' := h2.2
      obtain ⟨f1, f2⟩ := wX oX
      have b2 := oX.2 b1
      obtain ⟨r1, r2, r3, r4, r5, r6, r7⟩ := hm2
      have rl := hs2.2.2.2.2.2.2.2.2.1
      have rj := hs2.2.2.2.2.2.2.2.2.2.2.1
      have ri : 0 ≤ A' 15 5 ∧ A' 15 5 ≤ 6 ∧ 0 ≤ A' 15 9 ∧ A' 15 9 ≤ 3 := ⟨iv.2.2.2.2.1.1, iv.2.2.2.2.1.2.1, iv.2.2.2.2.1.2.2.1, iv.2.2.2.2.1.2.2.2.1⟩
      have lle : (s.2.2.length : Int) ≤ 64 := by
        have x1 : (s.2.2.length : Int) ≤ s.2.1 := iv.2.2.2.1.1
        have x2 : s.2.1 ≤ 64 := iv.2.2.1
        omega
      have hm228 : fs_hm 228 = 4 := by decide
      have hm6 : ∀ o, 229 ≤ o → o ≤ 233 → fs_hm o = 6 := fun o a b => by
        unfold fs_hm
        rw [if_neg (by omega), if_pos b]
      have hm3 : ∀ o, 234 ≤ o → o ≤ 236 → fs_hm o = 3 := fun o a b => by
        unfold fs_hm
        rw [if_neg (by omega), if_neg (by omega), if_pos b]
      have hm4 : ∀ o, 237 ≤ o → o ≤ 238 → fs_hm o = 4 := fun o a b => by
        unfold fs_hm
        rw [if_neg (by omega), if_neg (by omega), if_neg (by omega), if_pos b]
      have hm64 : ∀ o, 239 ≤ o → o ≤ 240 → fs_hm o = 64 := fun o a b => by
        unfold fs_hm
        rw [if_neg (by omega), if_neg (by omega), if_neg (by omega), if_neg (by omega)]
      refine sp_endM hs2.2.2.2.2.1 hs2.1.1.2 b2 (fun M' ha hb hc z42 z43 z44 z45 z46 z25 z26 z37 z38 z68 z69 => ?_)
      rw [e17]
      have g228 : ∀ k, 0 ≤ k → k < 4 → M' 228 k = M2 228 (4 + k) := fun k k0 k4 => by
        rw [ha 228 k (by omega) (by omega) k0 (by rw [hm228]; exact k4), hm228]
      have g6 : ∀ o k, 229 ≤ o → o ≤ 233 → 0 ≤ k → k < 6 → M' o k = M2 o (6 + k) := fun o k a b k0 k4 => by
        rw [ha o k (by omega) (by omega) k0 (by rw [hm6 o a b]; exact k4), hm6 o a b]
      have g3 : ∀ o k, 234 ≤ o → o ≤ 236 → 0 ≤ k → k < 3 → M' o k = M2 o (3 + k) := fun o k a b k0 k4 => by
        rw [ha o k (by omega) (by omega) k0 (by rw [hm3 o a b]; exact k4), hm3 o a b]
      have g4 : ∀ o k, 237 ≤ o → o ≤ 238 → 0 ≤ k → k < 4 → M' o k = M2 o (4 + k) := fun o k a b k0 k4 => by
        rw [ha o k (by omega) (by omega) k0 (by rw [hm4 o a b]; exact k4), hm4 o a b]
      have g64 : ∀ o k, 239 ≤ o → o ≤ 240 → 0 ≤ k → k < 64 → M' o k = M2 o (64 + k) := fun o k a b k0 k4 => by
        rw [ha o k (by omega) (by omega) k0 (by rw [hm64 o a b]; exact k4), hm64 o a b]
      refine ok M' l A' s eq (fun o k q => ?_) iv ⟨⟨?_, z25, z26, z37, z38, z68, z69⟩, ⟨?_, ?_, ?_⟩, fun h h0 h1 => ?_, fun d d0 d1 => ?_, ⟨fun k k0 k4 => ?_, fun j q hq => ?_⟩, ⟨z42, z43, z44, ?_, z46⟩, fun k k0 k1 => ?_⟩
      · unfold fs_FtM at q
        rw [hc o k (fun w => q (Or.inr (Or.inl w))) (fun w => q (Or.inr (Or.inr ⟨by omega, by omega⟩))) (fun w => q (Or.inr (Or.inr ⟨by omega, by omega⟩))) (fun w => q (Or.inl ⟨w.1, by omega⟩))]
        refine f1 o k (fun w => ?_)
        unfold fs_FnM at w
        rcases w with w | w | w | w | w | w
        · exact q (Or.inl ⟨w.1, by omega⟩)
        · exact q (Or.inr (Or.inl ⟨by omega, by omega⟩))
        · exact q (Or.inr (Or.inl ⟨by omega, by omega⟩))
        · exact q (Or.inr (Or.inl ⟨by omega, by omega⟩))
        · exact q (Or.inr (Or.inl ⟨by omega, by omega⟩))
        · exact q (Or.inr (Or.inl ⟨by omega, by omega⟩))
      · rw [hc 226 2 (by omega) (by omega) (by omega) (by omega)]
        exact f2
      · rw [g228 0 (by omega) (by omega)]
        exact r1
      · rw [g228 1 (by omega) (by omega)]
        exact r2
      · rw [g228 3 (by omega) (by omega)]
        exact rl
      · rw [g6 229 h (by omega) (by omega) h0 (by omega), g6 230 h (by omega) (by omega) h0 (by omega), g6 231 h (by omega) (by omega) h0 (by omega), g6 232 h (by omega) (by omega) h0 (by omega), g6 233 h (by omega) (by omega) h0 (by omega)]
        exact r4 h h0 h1
      · rw [g3 234 d (by omega) (by omega) d0 (by omega), g3 235 d (by omega) (by omega) d0 (by omega), g3 236 d (by omega) (by omega) d0 (by omega)]
        exact r5 d d0 d1
      · rw [g4 237 k (by omega) (by omega) k0 k4, g4 238 k (by omega) (by omega) k0 k4]
        exact r6 k k0 k4
      · have lt : j < s.2.2.length := (List.getElem?_eq_some_iff.mp hq).1
        rw [g64 239 j (by omega) (by omega) (by omega) (by omega), g64 240 j (by omega) (by omega) (by omega) (by omega)]
        exact rj j q hq
      · rw [z45]
        exact r3
      · by_cases c : k < 6
        · rw [g6 233 k (by omega) (by omega) k0 c]
          exact b2 _ (by omega) (by omega)
        · rw [hb 233 k (by omega) (by omega) (by rw [hm6 233 (by omega) (by omega)]; omega)]
          exact b2 k k0 k1
    · obtain ⟨f1, f2⟩ := wX oX
      have b2 := oX.2 b1
      refine L_Mo_text_141 ⟨fun z => absurd (e1.symm.trans z) e3, fun _ => ?_⟩
      refine no _ e eq ((f1.st (Or.inl ⟨rfl, by omega⟩)).st (Or.inl ⟨rfl, by omega⟩)) (fun k k0 k1 => ?_) ?_ ?_ ?_
      · rw [fs_st_o (by omega), fs_st_o (by omega)]
        exact b2 k k0 k1
      · rw [fs_st_k (by omega), fs_st_k (by omega)]
        exact f2
      · rw [fs_st_k (by omega), fs_st_s]
        exact e1
      · rw [fs_st_s]
        exact e2
  have l69 : ∀ (m : Nat) (i : Int) (N2 : fs_M), 8 - i = m → 4 ≤ i → fs_out (fun o k => (o = 228 ∧ 4 ≤ k ∧ k < 8) ∨ ((o = 237 ∨ o = 238) ∧ 4 ≤ k ∧ k < 8)) N N2 → (∀ k, 4 ≤ k → k < 8 → N2 228 k = 0) → (∀ k, 4 ≤ k → k < i → N2 237 k = 0 ∧ N2 238 k = 0) → fs_A2 g m_Mo_text 160 69 [(0, fs_r 226), (2, fs_i i)] [] N2 K := by
    intro m
    induction m with
    | zero =>
      intro i N2 hm i4 o2 z28 z37
      exact L_Mo_text_69 ⟨fun _ => main N2 o2 z28 (fun k k0 k1 => z37 k k0 (by omega)), fun z => absurd z (by omega)⟩
    | succ m ih =>
      intro i N2 hm i4 o2 z28 z37
      refine L_Mo_text_69 ⟨fun z => absurd z (by omega), fun _ => ⟨by omega, ?_⟩⟩
      rw [fs_w32_of (x := i + 1) (by omega) (by omega)]
      refine ih (i + 1) _ (by omega) (by omega) ((o2.st (Or.inr ⟨Or.inl rfl, i4, by omega⟩)).st (Or.inr ⟨Or.inr rfl, i4, by omega⟩)) (fun k k0 k1 => ?_) (fun k k0 k1 => ?_)
      · rw [fs_st_o (by omega), fs_st_o (by omega)]
        exact z28 k k0 k1
      · by_cases c : k = i
        · rw [c]
          refine ⟨?_, fs_st_s⟩
          rw [fs_st_o (by omega)]
          exact fs_st_s
        · rw [fs_st_o (by omega), fs_st_k c, fs_st_k c, fs_st_o (by omega)]
          exact z37 k k0 (by omega)
  have l47 : ∀ (m : Nat) (i : Int) (N2 : fs_M), 4 - i = m → 0 ≤ i → fs_out (fun o k => (o = 228 ∧ 4 ≤ k ∧ k < 8) ∨ ((o = 237 ∨ o = 238) ∧ 4 ≤ k ∧ k < 8)) N N2 → (∀ k, 4 ≤ k → k < 4 + i → N2 228 k = 0) → fs_A2 g m_Mo_text 160 47 [(0, fs_r 226), (2, fs_i i)] [] N2 K := by
    intro m
    induction m with
    | zero =>
      intro i N2 hm i0 o2 z28
      exact L_Mo_text_47 ⟨fun _ => l69 4 4 N2 rfl (by omega) o2 (fun k k0 k1 => z28 k k0 (by omega)) (fun k k0 k1 => absurd k1 (by omega)), fun z => absurd z (by omega)⟩
    | succ m ih =>
      intro i N2 hm i0 o2 z28
      refine L_Mo_text_47 ⟨fun z => absurd z (by omega), fun _ => ?_⟩
      rw [fs_w32_of (x := 4 + i) (by omega) (by omega), fs_w32_of (x := i + 1) (by omega) (by omega)]
      refine ⟨by omega, by omega, ih (i + 1) _ (by omega) (by omega) (o2.st (Or.inl ⟨rfl, by omega, by omega⟩)) (fun k k0 k1 => ?_)⟩
      by_cases c : k = 4 + i
      · rw [c]
        exact fs_st_s
      · rw [fs_st_k c]
        exact z28 k k0 (by omega)
  exact l47 4 0 N rfl (by omega) fs_out.rf (fun k k0 k1 => absurd k1 (by omega))
end MTEXT2
