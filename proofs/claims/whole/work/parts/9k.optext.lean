-- ===== a TEXT that is told; text =====
theorem fs_val_nd {t m n : Int} (h : t ≠ 1017) : fs_val t m = fs_val t n := by
  unfold fs_val
  rw [if_neg h, if_neg h]
theorem fs_wf_of {cs cv : Int → Int} : ∀ (W : List (Int × Int)) (i h : Int), (∀ (j : Nat) (q : Int × Int), W[j]? = some q → cs (i + j) = fs_srt q.1 ∧ cv (i + j) = fs_val q.1 q.2) → fs_wfl W h 1 → fs_wf cs cv W.length i h
  | [], i, h, _, hw => hw
  | q :: W, i, h, hc, hw => by
    obtain ⟨c1, c2⟩ := hc 0 q rfl
    have z : i + ((0 : Nat) : Int) = i := by omega
    rw [z] at c1 c2
    have nx : ∀ (j : Nat) (r : Int × Int), W[j]? = some r → cs (i + 1 + j) = fs_srt r.1 ∧ cv (i + 1 + j) = fs_val r.1 r.2 := fun j r hr => by
      have y := hc (j + 1) r hr
      rw [show i + 1 + (j : Int) = i + ((j + 1 : Nat) : Int) from by omega]
      exact y
    show (if cs i = 2 then (if cv i = 260 then 1 ≤ h ∧ fs_wf cs cv W.length (i + 1) h else 2 ≤ h ∧ fs_wf cs cv W.length (i + 1) (h - 1)) else fs_wf cs cv W.length (i + 1) (h + 1))
    unfold fs_wfl at hw
    rw [c1, c2]
    by_cases a : fs_srt q.1 = 2
    · rw [if_pos a] at hw ⊢
      by_cases b : fs_val q.1 q.2 = 260
      · rw [if_pos b] at hw ⊢
        exact ⟨hw.1, fs_wf_of W (i + 1) h nx hw.2⟩
      · rw [if_neg b] at hw ⊢
        exact ⟨hw.1, fs_wf_of W (i + 1) (h - 1) nx hw.2⟩
    · rw [if_neg a] at hw ⊢
      exact fs_wf_of W (i + 1) (h + 1) nx hw
theorem fs_Rl.told {M M1 M2 A : fs_M} {s : fs_q3} {n : Int} (h : fs_Rl M) (o1 : fs_out fs_FtC M M1) (o2 : fs_out fs_FtM M1 M2) (iv : fs_inv n (A, s)) (c : fs_cF M1 A s.2.2) (m : fs_mF M2 A s.2.2) (hl : ∀ j, 0 ≤ j → j < 64 → fs_lim (M1 11 j)) : fs_Rl M2 := by
  have cls : ∀ o k, o < 226 → M2 o k = M1 o k := fun o k a => o2 o k (fun z => by unfold fs_FtM at z; omega)
  have e951 : M2 95 1 = M 95 1 := by
    rw [cls 95 1 (by omega)]
    exact o1 95 1 (fun z => by unfold fs_FtC at z; omega)
  obtain ⟨_, _, _, _, e, _, _, _, _, _, _⟩ := h
  obtain ⟨⟨c1, c2, c3, c4, c5⟩, ⟨c6, c7, c8⟩, ch, cd, ⟨cl, cj, ck⟩, ⟨p1, p2, p3⟩, ⟨n1, n2⟩, t1, t2, u1⟩ := c
  obtain ⟨⟨m1, m2, m3, m4, m5, m6, m7⟩, ⟨g1, g2, g3⟩, gh, gd, ⟨gk, gj⟩, ⟨r1, r2, r3, r4, r5⟩, b2⟩ := m
  obtain ⟨_, _, i3, ⟨i4, i5, _⟩, ⟨h0, h6, d0, d3, hh, hd, hb⟩, il⟩ := iv
  have i3' : s.2.1 ≤ 64 := i3
  have i4' : (s.2.2.length : Int) ≤ s.2.1 := i4
  have e5 : M2 1 5 = A 15 5 := (cls 1 5 (by omega)).trans c7
  have e9 : M2 1 9 = A 15 9 := (cls 1 9 (by omega)).trans c8
  have h0' : 0 ≤ A 15 5 := h0
  have h6' : A 15 5 ≤ 6 := h6
  have d0' : 0 ≤ A 15 9 := d0
  have d3' : A 15 9 ≤ 3 := d3
  have vh : ∀ o x, 2 ≤ o → o ≤ 5 → 0 ≤ x → x < A 15 5 → M2 o x = A (o + 14) x := fun o x a b x0 x1 => (cls o x (by omega)).trans (ch o x a b x0 (by omega))
  have vd : ∀ o x, 6 ≤ o → o ≤ 8 → 0 ≤ x → x < A 15 9 → M2 o x = A (o + 14) x := fun o x a b x0 x1 => (cls o x (by omega)).trans (cd o x a b x0 (by omega))
  -- the laws
  have ent : ∀ (j : Nat) (q : Int × Int), s.2.2[j]? = some q → M2 10 j = q.1 ∧ fs_csC M2 j = fs_srt q.1 ∧ fs_cvC M2 j = fs_val q.1 q.2 := fun j q hq => by
    obtain ⟨x1, x2⟩ := cj j q hq
    have y1 : M2 10 j = q.1 := (cls 10 j (by omega)).trans x1
    refine ⟨y1, ?_, ?_⟩
    · unfold fs_csC
      rw [y1]
    · unfold fs_cvC
      rw [y1]
      by_cases z : q.1 = 1017
      · rw [cls 11 j (by omega), x2 z]
      · exact fs_val_nd z
  have law : ∀ k, 0 ≤ k → k < 4 → fs_lawC M2 k ∧ ∀ x, M2 12 k ≤ x → x < M2 13 k → M2 239 x = fs_csC M2 x ∧ M2 240 x = fs_cvC M2 x := fun k k0 k4 => by
    obtain ⟨a0, W, w1, w2, w3, w4, w5⟩ := il k k0 k4
    have x12 : M2 12 k = A 26 k := (cls 12 k (by omega)).trans (ck k k0 k4).1
    have x13 : M2 13 k = A 27 k := (cls 13 k (by omega)).trans (ck k k0 k4).2
    have a0' : 0 ≤ A 26 k := a0
    have w2' : A 27 k = A 26 k + (W.length : Int) := w2
    have w5' : A 27 k ≤ (s.2.2.length : Int) := w5
    have at' : ∀ x, A 26 k ≤ x → x < A 27 k → ∃ (j : Nat) (q : Int × Int), x = (j : Int) ∧ s.2.2[j]? = some q ∧ W[j - (A 26 k).toNat]? = some q ∧ q ∈ W := fun x x0 x1 => by
      have lt : (x - A 26 k).toNat < W.length := by omega
      have gw : W[(x - A 26 k).toNat]? = some W[(x - A 26 k).toNat] := List.getElem?_eq_getElem lt
      refine ⟨x.toNat, W[(x - A 26 k).toNat], by omega, ?_, ?_, List.getElem_mem lt⟩
      · have y := w1 _ lt
        have y' : s.2.2[(A 26 k).toNat + (x - A 26 k).toNat]? = W[(x - A 26 k).toNat]? := y
        rw [show (A 26 k).toNat + (x - A 26 k).toNat = x.toNat from by omega] at y'
        rw [y', gw]
      · rw [show x.toNat - (A 26 k).toNat = (x - A 26 k).toNat from by omega, gw]
    unfold fs_lawC
    rw [x12, x13]
    refine ⟨⟨a0', by omega, by omega, fun x x0 x1 => ?_, fun lt => ?_⟩, fun x x0 x1 => ?_⟩
    · obtain ⟨j, q, xj, sq, _, qW⟩ := at' x x0 x1
      subst xj
      rw [(ent j q sq).1]
      refine ⟨(w4 q qW).1, ?_⟩
      rw [cls 11 _ (by omega)]
      exact hl _ (by omega) (by omega)
    · have ne : W ≠ [] := fun z => by
        rw [z] at w2'
        have : (([] : List (Int × Int)).length : Int) = 0 := rfl
        omega
      rw [show (A 27 k - A 26 k).toNat = W.length from by omega]
      refine fs_wf_of W (A 26 k) 0 (fun j q hq => ?_) (w3 ne)
      have lt' : j < W.length := (List.getElem?_eq_some_iff.mp hq).1
      have y := w1 j lt'
      have y' : s.2.2[(A 26 k).toNat + j]? = W[j]? := y
      rw [hq] at y'
      have z := ent _ q y'
      rw [show (((A 26 k).toNat + j : Nat) : Int) = A 26 k + (j : Int) from by omega] at z
      exact z.2
    · obtain ⟨j, q, xj, sq, _, _⟩ := at' x x0 x1
      subst xj
      obtain ⟨y1, y2⟩ := gj j q sq
      obtain ⟨_, z1, z2⟩ := ent j q sq
      rw [y1, y2, z1, z2]
      exact ⟨rfl, rfl⟩
  have e36 : ∀ d, 0 ≤ d → d < 3 → M2 36 d = 0 := fun d a b => (cls 36 d (by omega)).trans (p3 d a b)
  have e952 : M2 95 2 = 0 := (cls 95 2 (by omega)).trans u1
  have hrp : fs_rp M2 31 0 := by
    refine ⟨by rw [cls 31 2 (by omega), p1, r2], by rw [cls 31 3 (by omega), p2, r3], fun d x0 x1 => ?_⟩
    rw [e9] at x1
    have z : M2 (31 + 5) d = 0 := e36 d x0 (by omega)
    rw [z, show 3 * 0 + d = d from by omega, r1 d x0 (by omega)]
    exact ⟨rfl, by omega, by omega, fun k k0 k1 => absurd k1 (by omega)⟩
  have hrz : fs_rz M2 31 0 := fun d x0 x1 x3 => by
    have z : M2 (31 + 5) d = 0 := e36 d x0 x3
    rw [z, show 3 * 0 + d = d from by omega, r1 d x0 x3]
    exact ⟨rfl, rfl⟩
  refine ⟨⟨by omega, by omega, by omega, by omega, fun x x0 x1 => ?_, fun x x0 x1 => ?_, fun k k0 k4 => (law k k0 k4).1⟩, ⟨by rw [g1, e5], by rw [g2, e9], fun x x0 x1 => ?_, fun x x0 x1 => ?_, fun k k0 k4 => ?_⟩, fun x x0 x1 => ?_, ⟨fun x x0 x1 => ?_, fun x x0 x1 => ?_, ?_, b2⟩, ⟨?_, ?_, ?_, ?_, ?_, hrp, fun j j0 j1 => ?_⟩, ⟨hrz, fun j j0 j1 => ?_⟩, ⟨?_, fun z => ?_⟩, ⟨?_, ?_, fun z => ?_⟩, ⟨?_, ?_, ?_, ?_, ?_, ?_, fun i x0 x1 => ?_⟩, ⟨?_, ?_, ?_, fun i x0 x1 => ?_, ?_, ?_⟩, fun q => ?_⟩
  · rw [e5] at x1
    rw [vh 3 x (by omega) (by omega) x0 x1, vh 4 x (by omega) (by omega) x0 x1, vh 5 x (by omega) (by omega) x0 x1]
    exact hh x x0 x1
  · rw [e9] at x1
    rw [vd 7 x (by omega) (by omega) x0 x1, vd 8 x (by omega) (by omega) x0 x1]
    exact hd x x0 x1
  · rw [e5] at x1
    obtain ⟨_, y2, y3, y4, _⟩ := gh x x0 x1
    rw [vh 3 x (by omega) (by omega) x0 x1, vh 4 x (by omega) (by omega) x0 x1, vh 5 x (by omega) (by omega) x0 x1]
    exact ⟨y2, y3, y4⟩
  · rw [e9] at x1
    obtain ⟨_, y2, y3⟩ := gd x x0 x1
    rw [vd 7 x (by omega) (by omega) x0 x1, vd 8 x (by omega) (by omega) x0 x1]
    exact ⟨y2, y3⟩
  · obtain ⟨y1, y2⟩ := gk k k0 k4
    obtain ⟨z1, z2⟩ := ck k k0 k4
    refine ⟨by rw [y1, cls 12 k (by omega), z1], by rw [y2, cls 13 k (by omega), z2], (law k k0 k4).1, (law k k0 k4).2⟩
  · rw [e5] at x1
    obtain ⟨_, _, _, _, y5⟩ := gh x x0 x1
    rw [cls 1 4 (by omega), c6]
    exact y5
  · rw [e5] at x1
    obtain ⟨y1, _⟩ := gh x x0 x1
    rw [vh 2 x (by omega) (by omega) x0 x1]
    exact y1.symm
  · rw [e9] at x1
    obtain ⟨y1, _⟩ := gd x x0 x1
    rw [vd 6 x (by omega) (by omega) x0 x1]
    exact y1.symm
  · rw [cls 9 2 (by omega), cl, g3]
  · rw [e951]
    exact e.1
  · rw [e951]
    exact e.2.1
  · rw [e952]
    omega
  · rw [e952]
    omega
  · rw [e952]
    exact m5
  · rw [e952] at j1
    omega
  · rw [e952] at j1
    omega
  · rw [cls 0 13 (by omega), c4, m4]
  · rw [cls 0 13 (by omega), c4] at z
    exact absurd rfl z
  · rw [cls 54 3 (by omega), n2, r4]
  · rw [cls 54 2 (by omega), n1, r5]
  · rw [cls 54 2 (by omega), n1] at z
    exact absurd rfl z
  · rw [cls 90 4 (by omega), t1, m6]
  · rw [cls 90 5 (by omega), t2, m7]
  · rw [cls 90 4 (by omega), t1]
    omega
  · rw [cls 90 4 (by omega), t1]
    omega
  · rw [cls 90 5 (by omega), t2]
    omega
  · rw [cls 90 5 (by omega), t2, cls 90 4 (by omega), t1]
    omega
  · rw [cls 90 4 (by omega), t1] at x1
    omega
  · rw [cls 29 1 (by omega), c1, m1]
  · rw [cls 29 1 (by omega), c1]
    omega
  · rw [cls 29 1 (by omega), c1]
    omega
  · rw [cls 29 1 (by omega), c1] at x1
    omega
  · rw [cls 29 2 (by omega), c2, m2]
  · rw [cls 29 3 (by omega), c3, m3]
  · rw [cls 60 5 (by omega), c5] at q
    exact absurd rfl q
section OPTEXT
variable {g : fs_G} {M : fs_M}
theorem op_text {n : Int} (h : fs_Rl M) : fs_C2 g m_Fs_text 157 [fs_r 0, fs_i n] M (fs_KK g m_Mo_text 160 [fs_r 226, fs_i n]) := by
  have tap := h.2.2.2.2.2.2.2.2.2.1
  obtain ⟨ta, t0, t6, tx, _, _⟩ := tap
  have b0 : fs_b01 M := h.2.2.2.1.2.2.2
  refine sp_textC t6 (fun z => ⟨-2, rfl, ?_⟩) (fun A n0 n1 hA => ⟨fun M1 l A' s eq o1 iv c => ⟨l, rfl, b_cinv (fun hI _ => ?_)⟩, fun M1 e eq o1 z1 e2 e3 e4 => ⟨-1, rfl, ?_⟩⟩)
  · refine E_Mo_text ⟨fun _ => ⟨rfl, h.thr⟩, fun y => ⟨fun w => absurd w (by omega), fun _ => ⟨rfl, h.thr⟩⟩⟩
  · have mo : ∀ o k, 226 ≤ o → M1 o k = M o k := fun o k a => o1 o k (fun z => by unfold fs_FtC at z; omega)
    refine sp_textM (T := M 30) (A := A) n0 (by rw [mo 226 2 (by omega)]; omega) (by omega) (fun x x0 x1 => ?_) (fun k k0 k1 => ?_) hA (fun M2 l' A2 s' eq2 o2 iv2 m => ?_) (fun M2 e eq2 o2 b2 z2 f1 f2 => ?_)
    · obtain ⟨y1, y2, y3⟩ := tx x x0 (by omega)
      rw [mo 227 x (by omega)]
      exact ⟨y1.symm, y2, y3⟩
    · rw [mo 233 k (by omega)]
      exact b0 k k0 k1
    · rw [eq] at eq2
      have q1 := Sum.inr.inj eq2
      have l1 : l = l' := congrArg Prod.fst q1
      have q2 : (A', s) = (A2, s') := congrArg Prod.snd q1
      have q3 : A' = A2 := congrArg Prod.fst q2
      have q4 : s = s' := congrArg Prod.snd q2
      subst l1
      subst q3
      subst q4
      refine ⟨rfl, h.told o1 o2 iv c m (fun j j0 j1 => ?_)⟩
      have r := fs_rng32 (o := 11) (k := j) hI.1 (by
        show (decide ((0 : Nat) = 2)) = false
        decide)
      unfold fs_in32 at r
      unfold fs_lim
      omega
    · rw [eq] at eq2
      cases eq2
  · have mo : ∀ o k, 226 ≤ o → M1 o k = M o k := fun o k a => o1 o k (fun z => by unfold fs_FqR at z; omega)
    refine sp_textM (T := M 30) (A := A) n0 (by rw [mo 226 2 (by omega)]; omega) (by omega) (fun x x0 x1 => ?_) (fun k k0 k1 => ?_) hA (fun M2 l' A2 s' eq2 o2 iv2 m => ?_) (fun M2 e' eq2 o2 b2 z2 f1 f2 => ?_)
    · obtain ⟨y1, y2, y3⟩ := tx x x0 (by omega)
      rw [mo 227 x (by omega)]
      exact ⟨y1.symm, y2, y3⟩
    · rw [mo 233 k (by omega)]
      exact b0 k k0 k1
    · rw [eq] at eq2
      cases eq2
    · rw [eq] at eq2
      have q1 : e = e' := Sum.inl.inj eq2
      subst q1
      exact ⟨rfl, h.untold o1 o2 b2 z1 z2 (e2.trans f1.symm) (e3.trans f2.symm)⟩
end OPTEXT
