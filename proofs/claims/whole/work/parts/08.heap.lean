-- ===== fields, arrays, static things: an instruction, a row =====
theorem fs_vin {x : Int} {n : Nat} (hx : fs_in32 x) (h0 : 0 ≤ x) (h1 : x < n) : vp_in (Int32.ofInt x) n := by
  rintro (q | q)
  · rw [Int32.lt_iff_toInt_lt, fs_toI hx] at q
    have : (0 : Int32).toInt = 0 := rfl
    omega
  · rw [Int32.toNatClampNeg_ofInt_of_le (by unfold fs_in32 at hx; omega) (by unfold fs_in32 at hx; omega)] at q
    omega
theorem fs_vcl {x : Int} (hx : fs_in32 x) (h0 : 0 ≤ x) : (Int32.ofInt x).toNatClampNeg = x.toNat := Int32.toNatClampNeg_ofInt_of_le (by unfold fs_in32 at hx; omega) (by unfold fs_in32 at hx; omega)
theorem fs_klen : fs_kinds.length = 271 := by decide +kernel
theorem fs_lt1000 {o : Int} {k : Nat ⊕ (Nat × Nat)} (h0 : 0 ≤ o) (h : fs_kinds[o.toNat]? = some k) : o < 1000 := by
  have h1 := (List.getElem?_eq_some_iff.mp h).1
  rw [fs_klen] at h1
  omega
theorem fs_e_in {g : fs_G} {o : Int} {k : Nat ⊕ (Nat × Nat)} (h0 : 0 ≤ o) (h : fs_kinds[o.toNat]? = some k) : fs_e g (fs_r o) = .ref (g_sz g + o.toNat) := by
  have h1 := fs_lt1000 h0 h
  show va_rf (fs_ro g o) = _
  unfold fs_ro
  rw [if_neg (by omega)]
  show Value.ref (fs_ad g o) = _
  unfold fs_ad
  rw [if_pos h1]
theorem fs_e_so {g : fs_G} {o : Int} (h : 1000 ≤ o) : fs_e g (fs_r o) = .ref (g_so g o) := by
  show va_rf (fs_ro g o) = _
  unfold fs_ro
  rw [if_neg (by omega)]
  show Value.ref (fs_ad g o) = _
  unfold fs_ad
  rw [if_neg (by omega)]
theorem fs_rowk {g : fs_G} {ci k : Nat} {r : Int → Int} (h : k < fs_nf ci) : (fs_row g ci r)[k]? = some (fs_f g (fs_ft ci k) (r k)) := by
  simp [fs_row, h]
theorem fs_ok_fv {t : FieldType} {x : Int} (h : if t = .long then fs_in64 x else fs_in32 x) : fs_ok (fs_fv t x) := by
  cases t <;> first | (rw [if_neg (fun q => by cases q)] at h; exact h) | (rw [if_pos rfl] at h; exact h)
theorem fs_rngO {M : fs_M} (h : fs_rng M) {ci k : Nat} {o : Int} (ho : fs_isO ci o) {C : String} {T : u_T} {N : Nat} {ty : Nat → FieldType} (hk : fs_KC ci C T N ty) (hkN : k < N) : fs_ok (fs_fv (fs_ft ci k) (M o k)) := by
  apply fs_ok_fv
  have h1 := h o k
  have h2 := hk.2.2.2.2.2.2 k hkN
  have h3 : fs_isL o k = decide (ci = 3 ∧ (k : Int) = 6) := by
    unfold fs_isL
    rw [if_neg (by have := ho.1; omega), ho.2]
  rw [h3] at h1
  by_cases a : ci = 3 ∧ k = 6
  · rw [if_pos (h2.mpr a)]
    rw [if_pos (by simp; exact ⟨a.1, by omega⟩)] at h1
    exact h1
  · rw [if_neg (fun q => a (h2.mp q))]
    rw [if_neg (by simp; intro q1 q2; exact a ⟨q1, by omega⟩)] at h1
    exact h1
theorem fs_rngA {M : fs_M} (h : fs_rng M) {ty n : Nat} {o i : Int} (ho : fs_isA ty n o) : if ty = 2 then fs_in64 (M o i) else fs_in32 (M o i) := by
  have h1 := h o i
  have h3 : fs_isL o i = decide (ty = 2) := by
    unfold fs_isL
    rw [if_neg (by have := ho.1; omega), ho.2]
  rw [h3] at h1
  simpa using h1
theorem fs_rngS {M : fs_M} (h : fs_rng M) {o k v : Int} (hv : if fs_isL o k = true then fs_in64 v else fs_in32 v) : fs_rng (fs_st M o k v) := by
  intro a b
  unfold fs_st
  by_cases q1 : a = o
  · by_cases q2 : b = k
    · rw [if_pos q1, if_pos q2, q1, q2]
      exact hv
    · rw [if_pos q1, if_neg q2]
      exact h a b
  · rw [if_neg q1]
    exact h a b
theorem fs_row_set {g : fs_G} {ci k : Nat} {M : fs_M} {o x : Int} : fs_row g ci (fs_st M o k x o) = (fs_row g ci (M o)).set k (fs_f g (fs_ft ci k) x) := by
  apply List.ext_getElem?
  intro j
  by_cases hj : j < fs_nf ci
  · rw [fs_rowk hj]
    by_cases hjk : j = k
    · subst hjk
      rw [List.getElem?_set_self (by simp [fs_row]; exact hj)]
      simp [fs_st]
    · rw [List.getElem?_set_ne (fun q => hjk q.symm), fs_rowk hj]
      have : ¬ (j : Int) = (k : Int) := by omega
      simp [fs_st, this]
  · rw [List.getElem?_eq_none (by simp [fs_row]; omega), List.getElem?_eq_none (by simp [fs_row]; omega)]
theorem fs_cellO {g : fs_G} {ci : Nat} {o : Int} {r : Int → Int} (h : fs_isO ci o) : fs_cell g o.toNat r = .inr (ci, fs_row g ci r) := by
  simp [fs_cell, h.2]
theorem fs_cellA {g : fs_G} {ty n : Nat} {o : Int} {r : Int → Int} (h : fs_isA ty n o) : fs_cell g o.toNat r = .inl (g_tc g ty, n, fs_pay g ty r) := by
  simp [fs_cell, h.2]
theorem fs_P2_O {M : fs_M} (h : fs_P2 M) {ci k : Nat} {o x : Int} (ho : fs_isO ci o) (hp : fs_ptr ci k = none) : fs_P2 (fs_st M o k x) := by
  refine ⟨fun ci' k' off hq o' ho' => ?_, fun ty n o' ho' h3 h6 i h0 hn => ?_⟩
  · rw [← h.1 ci' k' off hq o' ho']
    unfold fs_st
    by_cases a : o' = o
    · by_cases b : (k' : Int) = k
      · subst a
        have e1 : ci' = ci := by
          have := ho'.2.symm.trans ho.2
          simpa using this
        have e2 : k' = k := by omega
        rw [e1, e2, hp] at hq
        cases hq
      · rw [if_pos a, if_neg b]
    · rw [if_neg a]
  · rw [← h.2 ty n o' ho' h3 h6 i h0 hn]
    unfold fs_st
    by_cases a : o' = o
    · subst a
      have := ho'.2.symm.trans ho.2
      simp at this
    · rw [if_neg a]
theorem fs_P2_A {M : fs_M} (h : fs_P2 M) {ty n : Nat} {o i x : Int} (ho : fs_isA ty n o) (hty : ty < 3 ∨ 6 < ty) : fs_P2 (fs_st M o i x) := by
  refine ⟨fun ci' k' off hq o' ho' => ?_, fun ty' n' o' ho' h3 h6 j h0 hn => ?_⟩
  · rw [← h.1 ci' k' off hq o' ho']
    unfold fs_st
    by_cases a : o' = o
    · subst a
      have := ho'.2.symm.trans ho.2
      simp at this
    · rw [if_neg a]
  · rw [← h.2 ty' n' o' ho' h3 h6 j h0 hn]
    unfold fs_st
    by_cases a : o' = o
    · subst a
      have := ho'.2.symm.trans ho.2
      simp at this
      omega
    · rw [if_neg a]
theorem fs_nar_int {g : fs_G} {x : Int} : narrow .int (fs_f g .int x) = fs_f g .int x ∧ fits .int (fs_f g .int x) = true := ⟨rfl, rfl⟩
theorem fs_nar_long {g : fs_G} {x : Int} : narrow .long (fs_f g .long x) = fs_f g .long x ∧ fits .long (fs_f g .long x) = true := ⟨rfl, rfl⟩
theorem fs_nar_bool {g : fs_G} {x : Int} (h : x = 0 ∨ x = 1) : narrow .boolean (fs_f g .boolean x) = fs_f g .boolean x ∧ fits .boolean (fs_f g .boolean x) = true := by
  rcases h with rfl | rfl <;> exact ⟨rfl, rfl⟩
theorem fs_nar_obj {g : fs_G} {x : Int} {C : String} : narrow (.object C) (fs_f g (.object C) x) = fs_f g (.object C) x ∧ fits (.object C) (fs_f g (.object C) x) = true := by
  refine ⟨rfl, ?_⟩
  show fits (.object C) (va_rf (fs_ro g x)) = true
  cases fs_ro g x <;> rfl
theorem fs_nar_arr {g : fs_G} {x : Int} {t : FieldType} : narrow (.array t) (fs_f g (.array t) x) = fs_f g (.array t) x ∧ fits (.array t) (fs_f g (.array t) x) = true := by
  refine ⟨rfl, ?_⟩
  show fits (.array t) (va_rf (fs_ro g x)) = true
  cases fs_ro g x <;> rfl
section HEAP
variable {g : fs_G} {md : fs_D} {d : Nat} {z : fs_Z} {y : Nat × Nat × Nat} {pc : Nat} {ls : List (Nat × fs_V)} {st : List fs_V} {M : fs_M} {K : fs_K}
theorem a_getfield {idx ci k : Nat} {fin : Bool} {o : Int} {v : fs_V} (hd : decode md.2.1 pc = .ok (.getfield idx, 3)) (hf : fs_FL md.1.cls idx ci k fin) (ho : fs_isO ci o) (hn : o.toNat < y.1) (hv : fs_fv (fs_ft ci k) (M o k) = v) (kk : fs_At g md d z y (pc + 3) ls (v :: st) M K) : fs_At g md d z y pc ls (fs_r o :: st) M K := by
  intro p e R s m args below meth c C H locs lc hl hR hS hI hlo hok
  obtain ⟨cn, T, N, ty, hk, hkN, -, hT, hlink⟩ := hf
  subst hv
  have h1 := kk p e R s m args below meth c C H locs lc hl hR hS hI hlo (hok.t.c (fs_rngO hI.1 ho hk hkN))
  rw [List.map_cons, fs_e_fv] at h1
  rw [List.map_cons, fs_e_in ho.1 ho.2]
  have hts : ∀ w ∈ fs_B, w.before args s = true := C.2.2.2.2.2.2.1
  have hrow : (fs_row g ci (M o))[k]? = some (fs_f g (fs_ft ci k) (M o k)) := fs_rowk (by rw [hk.2.2.2.2.1]; exact hkN)
  rcases hlink with hw | ⟨host, hw⟩
  · exact va_get (Ts := fs_B) C.1 C.2.1 hts hk.2.1 C.2.2.2.2.2.1 C.2.2.2.2.2.2.2.1.1 hR.1 o.toNat (fs_W_O ho hn) hk.1 k hkN (hts _ hw) (fun _ q => q) hrow hd h1
  · exact va_getN (Ts := fs_B) C.1 C.2.1 hts hk.2.1 C.2.2.2.2.2.1 C.2.2.2.2.2.2.2.1.1 hR.1 o.toNat (fs_W_O ho hn) hk.1 k hkN (va_Nw.use rfl (C.2.2.2.2.2.2.2.1.2.1 _ hw)) (fun _ q => q) hrow hd h1
/-- a pointer that never changes -/
theorem a_getptr {idx ci k : Nat} {fin : Bool} {o off q : Int} (hd : decode md.2.1 pc = .ok (.getfield idx, 3)) (hf : fs_FL md.1.cls idx ci k fin) (hz : z.1 = 2) (ho : fs_isO ci o) (hn : o.toNat < y.1) (hp : fs_ptr ci k = some off) (hq : o + off = q) (hv : fs_fv (fs_ft ci k) q = fs_r q) (kk : fs_At g md d z y (pc + 3) ls (fs_r q :: st) M K) : fs_At g md d z y pc ls (fs_r o :: st) M K := by
  refine a_inv (fun hI _ _ => ?_)
  have h1 : M o k = q := ((hI.2 hz).1 ci k off hp o ho).trans hq
  exact a_getfield hd hf ho hn (by rw [h1]; exact hv) kk
theorem a_putfield {idx ci k : Nat} {o x : Int} {v : fs_V} (hd : decode md.2.1 pc = .ok (.putfield idx, 3)) (hf : fs_FL md.1.cls idx ci k false) (ho : fs_isO ci o) (hn : o.toNat < y.1) (hv : fs_fv (fs_ft ci k) x = v) (hp : fs_ptr ci k = none) (hnar : narrow (fs_ft ci k) (fs_f g (fs_ft ci k) x) = fs_f g (fs_ft ci k) x ∧ fits (fs_ft ci k) (fs_f g (fs_ft ci k) x) = true)
    (kk : fs_At g md d z y (pc + 3) ls st (fs_st M o k x) K) : fs_At g md d z y pc ls (v :: fs_r o :: st) M K := by
  intro p e R s m args below meth c C H locs lc hl hR hS hI hlo hok
  obtain ⟨cn, T, N, ty, hk, hkN, hfin, hT, hlink⟩ := hf
  subst hv
  rw [List.map_cons, List.map_cons, fs_e_fv, fs_e_in ho.1 ho.2]
  have hts : ∀ w ∈ fs_B, w.before args s = true := C.2.2.2.2.2.2.1
  have hkN' : k < fs_nf ci := by rw [hk.2.2.2.2.1]; exact hkN
  have hlen : k < (fs_row g ci (M o)).length := by simp [fs_row]; exact hkN'
  have hpd : parseFieldDescriptor (T k).2.2.1 = some (fs_ft ci k) := by rw [hk.2.2.2.2.2.1]; exact hk.2.2.1 k hkN
  have hok1 : fs_ok (fs_fv (fs_ft ci k) x) := hok.h
  have hI2 : fs_XI z.1 (fs_st M o k x) := by
    refine ⟨fs_rngS hI.1 ?_, fun q => fs_P2_O (hI.2 q) ho hp⟩
    have h3 : fs_isL o k = decide (ci = 3 ∧ (k : Int) = 6) := by
      unfold fs_isL
      rw [if_neg (by have := ho.1; omega), ho.2]
    have h2 := hk.2.2.2.2.2.2 k hkN
    rw [h3]
    by_cases a : ci = 3 ∧ k = 6
    · rw [if_pos (by simp; exact ⟨a.1, by omega⟩)]
      rw [h2.mpr a] at hok1
      exact hok1
    · rw [if_neg (by simp; intro q1 q2; exact a ⟨q1, by omega⟩)]
      have hne : ¬ fs_ft ci k = .long := fun q => a (h2.mp q)
      revert hok1 hne
      cases fs_ft ci k <;> intro hok1 hne <;> first | exact hok1 | exact absurd rfl hne
  have hset : (fs_W g y.1 M).set o.toNat (g_sz g + o.toNat, .inr (ci, (fs_row g ci (M o)).set k (fs_f g (fs_ft ci k) x))) = fs_W g y.1 (fs_st M o k x) := by
    rw [fs_W_set ho.1, fs_cellO ho, fs_row_set]
  have fin : ∀ (H1 : Heap) (locs1 : List Loc), va_P (g_D g) fs_cl ((fs_W g y.1 M).set o.toNat (g_sz g + o.toNat, .inr (ci, (fs_row g ci (M o)).set k (fs_f g (fs_ft ci k) x)))) H1 → va_D (fs_A g) ((fs_W g y.1 M).set o.toNat (g_sz g + o.toNat, .inr (ci, (fs_row g ci (M o)).set k (fs_f g (fs_ft ci k) x)))) → va_S (fs_A g) s.heap H1 locs1 → W p (g_l g) e R s m args below meth c H1 locs1 y.2.1 y.2.2 (MQ below (fs_Q g z.1 z.2.2.1 K) args s z.2.2.2.1 z.2.2.2.2 (fs_A g)) (F0 m (pc + 3) lc (st.map (fs_e g))) := by
    intro H1 locs1 hP1 _ hS1
    rw [hset] at hP1
    exact kk p e R s m args below meth c C H1 locs1 lc hl ⟨hP1, hR.2⟩ hS1 hI2 hlo hok.t.t
  rcases hlink with hw | ⟨host, hw⟩
  · exact va_put (Ts := fs_B) C.1 C.2.1 hts hk.2.1 ty hk.2.2.1 hk.2.2.2.1 C.2.2.2.2.2.1 C.2.2.2.2.2.2.2.1.1 hR.1 fs_W_D hS o.toNat (fs_W_O ho hn) hk.1 k hkN (hts _ hw) (fun _ q => q) hfin hpd hnar.1 hnar.2 hlen hd fin
  · exact va_putN (Ts := fs_B) C.1 C.2.1 hts hk.2.1 ty hk.2.2.1 hk.2.2.2.1 C.2.2.2.2.2.1 C.2.2.2.2.2.2.2.1.1 hR.1 fs_W_D hS o.toNat (fs_W_O ho hn) hk.1 k hkN (va_Nw.use rfl (C.2.2.2.2.2.2.2.1.2.1 _ hw)) (fun _ q => q) hfin hpd hnar.1 hnar.2 hlen hd fin
-- arrays
theorem a_iaload {n : Nat} {o i : Int} (hd : decode md.2.1 pc = .ok (.iaload, 1)) (ho : fs_isA 0 n o) (hn : o.toNat < y.1) (h0 : 0 ≤ i) (h1 : i < n) (kk : fs_At g md d z y (pc + 1) ls (fs_i (M o i) :: st) M K) : fs_At g md d z y pc ls (fs_i i :: fs_r o :: st) M K := by
  intro p e R s m args below meth c C H locs lc hl hR hS hI hlo hok
  have hi : fs_in32 i := hok.h
  have hv : fs_in32 (M o i) := by simpa using fs_rngA (i := i) hI.1 ho
  have h2 := kk p e R s m args below meth c C H locs lc hl hR hS hI hlo (hok.t.t.c hv)
  rw [List.map_cons, List.map_cons, fs_e_in ho.1 ho.2]
  refine va_iald C.1 C.2.1 C.2.2.2.2.2.2.2.1.1 hR.1 o.toNat 0 (fs_W_A ho hn) (fs_tys_get (by decide)) (fs_vin hi h0 h1) hd ?_
  rw [fs_vcl hi h0, Int.toNat_of_nonneg h0]
  exact h2
theorem a_baload {n : Nat} {o i : Int} (hd : decode md.2.1 pc = .ok (.baload, 1)) (ho : fs_isA 1 n o) (hn : o.toNat < y.1) (h0 : 0 ≤ i) (h1 : i < n) (kk : fs_At g md d z y (pc + 1) ls (fs_i (M o i) :: st) M K) : fs_At g md d z y pc ls (fs_i i :: fs_r o :: st) M K := by
  intro p e R s m args below meth c C H locs lc hl hR hS hI hlo hok
  have hi : fs_in32 i := hok.h
  have hv : fs_in32 (M o i) := by simpa using fs_rngA (i := i) hI.1 ho
  have h2 := kk p e R s m args below meth c C H locs lc hl hR hS hI hlo (hok.t.t.c hv)
  rw [List.map_cons, List.map_cons, fs_e_in ho.1 ho.2]
  refine va_zald C.1 C.2.1 C.2.2.2.2.2.2.2.1.1 hR.1 o.toNat 1 (fs_W_A ho hn) (fs_tys_get (by decide)) (fs_vin hi h0 h1) hd ?_
  rw [fs_vcl hi h0, Int.toNat_of_nonneg h0]
  exact h2
theorem a_laload {n : Nat} {o i : Int} (hd : decode md.2.1 pc = .ok (.laload, 1)) (ho : fs_isA 2 n o) (hn : o.toNat < y.1) (h0 : 0 ≤ i) (h1 : i < n) (kk : fs_At g md d z y (pc + 1) ls (fs_l (M o i) :: st) M K) : fs_At g md d z y pc ls (fs_i i :: fs_r o :: st) M K := by
  intro p e R s m args below meth c C H locs lc hl hR hS hI hlo hok
  have hi : fs_in32 i := hok.h
  have hv : fs_in64 (M o i) := by simpa using fs_rngA (i := i) hI.1 ho
  have h2 := kk p e R s m args below meth c C H locs lc hl hR hS hI hlo (hok.t.t.c hv)
  rw [List.map_cons, List.map_cons, fs_e_in ho.1 ho.2]
  refine va_lald C.1 C.2.1 C.2.2.2.2.2.2.2.1.1 hR.1 o.toNat 2 (fs_W_A ho hn) (fs_tys_get (by decide)) (fs_vin hi h0 h1) hd ?_
  rw [fs_vcl hi h0, Int.toNat_of_nonneg h0]
  exact h2
theorem a_aaload {ty n : Nat} {o i : Int} (hd : decode md.2.1 pc = .ok (.aaload, 1)) (ho : fs_isA ty n o) (hty : 3 ≤ ty ∧ ty < 8) (hn : o.toNat < y.1) (h0 : 0 ≤ i) (h1 : i < n) (kk : fs_At g md d z y (pc + 1) ls (fs_r (M o i) :: st) M K) : fs_At g md d z y pc ls (fs_i i :: fs_r o :: st) M K := by
  intro p e R s m args below meth c C H locs lc hl hR hS hI hlo hok
  have hi : fs_in32 i := hok.h
  have hv : fs_in32 (M o i) := by
    have := fs_rngA (i := i) hI.1 ho
    rw [if_neg (by omega)] at this
    exact this
  have h2 := kk p e R s m args below meth c C H locs lc hl hR hS hI hlo (hok.t.t.c hv)
  rw [List.map_cons, List.map_cons, fs_e_in ho.1 ho.2]
  have hcell : H[g_sz g + o.toNat]? = some (vp_cell (g_tc g ty) (n, fs_pay g ty (M o))) := hR.1 _ _ (fs_W_A ho hn)
  have hpay : fs_pay g ty (M o) = .inr (.inr (.inr (.inr (fun j : Nat => fs_ro g (M o j))))) := by
    obtain ⟨q1, q2⟩ := hty
    rcases (by omega : ty = 3 ∨ ty = 4 ∨ ty = 5 ∨ ty = 6 ∨ ty = 7) with rfl | rfl | rfl | rfl | rfl <;> rfl
  rw [hpay] at hcell
  have href : (fs_at ty).isReference = true := by
    obtain ⟨q1, q2⟩ := hty
    rcases (by omega : ty = 3 ∨ ty = 4 ∨ ty = 5 ∨ ty = 6 ∨ ty = 7) with rfl | rfl | rfl | rfl | rfl <;> rfl
  have hvin := fs_vin hi h0 h1
  refine W.aald (v := va_rf (fs_ro g (M o i))) (ty := fs_at ty) C.1 C.2.1 hcell (((C.2.2.2.2.2.2.2.1.1).2 ty _ (fs_tys_get hty.2)).1 n (fun j => va_rf (fs_ro g (M o j)))) href (fun q => by cases q) ?_ ?_ rfl rfl hd h2
  · show ¬ (Int32.ofInt i < 0 ∨ (arrV _ _ _).slots.size ≤ _)
    rw [arrV_size]
    exact hvin
  · show (arrV _ _ _).slots[_]? = _
    rw [fs_vcl hi h0, arrV_read _ _ (by omega)]
    show some (va_rf (fs_ro g (M o ((i.toNat : Nat) : Int)))) = _
    rw [Int.toNat_of_nonneg h0]
theorem a_aaptr {ty n : Nat} {o i q : Int} (hd : decode md.2.1 pc = .ok (.aaload, 1)) (hz : z.1 = 2) (ho : fs_isA ty n o) (hty : 3 ≤ ty ∧ ty ≤ 6) (hn : o.toNat < y.1) (h0 : 0 ≤ i) (h1 : i < n) (hq : o + (fs_pA o).1 + (fs_pA o).2 * i = q) (kk : fs_At g md d z y (pc + 1) ls (fs_r q :: st) M K) : fs_At g md d z y pc ls (fs_i i :: fs_r o :: st) M K := by
  refine a_inv (fun hI _ _ => ?_)
  have h2 : M o i = q := ((hI.2 hz).2 ty n o ho hty.1 hty.2 i h0 h1).trans hq
  exact a_aaload hd ho ⟨hty.1, by omega⟩ hn h0 h1 (by rw [h2]; exact kk)
theorem a_arraylength {ty n : Nat} {o : Int} (hd : decode md.2.1 pc = .ok (.arraylength, 1)) (ho : fs_isA ty n o) (hty : ty < 8) (hn : o.toNat < y.1) (hN : n < 2147483648) (kk : fs_At g md d z y (pc + 1) ls (fs_i n :: st) M K) : fs_At g md d z y pc ls (fs_r o :: st) M K := by
  intro p e R s m args below meth c C H locs lc hl hR hS hI hlo hok
  have h2 := kk p e R s m args below meth c C H locs lc hl hR hS hI hlo (hok.t.c (show fs_in32 n by unfold fs_in32; omega))
  rw [List.map_cons, fs_e_in ho.1 ho.2]
  refine va_alen C.1 C.2.1 C.2.2.2.2.2.2.2.1.1 hR.1 o.toNat ty (fs_W_A ho hn) (fs_tys_get hty) (v := Int32.ofInt n) ?_ hd h2
  exact Int32.ofInt_eq_ofNat.symm
theorem fs_pay_up0 {g : fs_G} {M : fs_M} {o i x : Int} (h0 : 0 ≤ i) (hi : fs_in32 i) : (.inl (upd (fun j : Nat => Int32.ofInt (M o j)) (Int32.ofInt i).toNatClampNeg (Int32.ofInt x)) : (Nat → Int32) ⊕ (Nat → Int64) ⊕ (Nat → UInt32) ⊕ (Nat → UInt64) ⊕ (Nat → Option Nat)) = fs_pay g 0 (fs_st M o i x o) := by
  show _ = Sum.inl (fun j : Nat => Int32.ofInt (fs_st M o i x o j))
  congr 1
  funext j
  rw [fs_vcl hi h0]
  unfold upd fs_st
  rw [if_pos rfl]
  by_cases a : j = i.toNat
  · rw [if_pos a, if_pos (by omega)]
  · rw [if_neg a, if_neg (by omega)]
theorem a_iastore {n : Nat} {o i x : Int} (hd : decode md.2.1 pc = .ok (.iastore, 1)) (ho : fs_isA 0 n o) (hn : o.toNat < y.1) (h0 : 0 ≤ i) (h1 : i < n) (kk : fs_At g md d z y (pc + 1) ls st (fs_st M o i x) K) : fs_At g md d z y pc ls (fs_i x :: fs_i i :: fs_r o :: st) M K := by
  intro p e R s m args below meth c C H locs lc hl hR hS hI hlo hok
  have hi : fs_in32 i := hok.t.h
  have hx : fs_in32 x := hok.h
  rw [List.map_cons, List.map_cons, List.map_cons, fs_e_in ho.1 ho.2]
  refine va_iast C.1 C.2.1 C.2.2.2.2.2.2.2.1.1 hR.1 fs_W_D hS o.toNat 0 (fs_W_A ho hn) (fs_tys_get (by decide)) (fs_vin hi h0 h1) hd (fun H1 locs1 hP1 _ hS1 => ?_)
  rw [fs_pay_up0 (g := g) h0 hi, ← fs_cellA ho, ← fs_W_set ho.1] at hP1
  refine kk p e R s m args below meth c C H1 locs1 lc hl ⟨hP1, hR.2⟩ hS1 ⟨fs_rngS hI.1 ?_, fun q => fs_P2_A (hI.2 q) ho (Or.inl (by decide))⟩ hlo hok.t.t.t
  have h3 : fs_isL o i = false := by
    unfold fs_isL
    rw [if_neg (by have := ho.1; omega), ho.2]
    rfl
  rw [h3]
  exact hx
theorem a_bastore {n : Nat} {o i x : Int} (hd : decode md.2.1 pc = .ok (.bastore, 1)) (ho : fs_isA 1 n o) (hn : o.toNat < y.1) (h0 : 0 ≤ i) (h1 : i < n) (hx01 : x = 0 ∨ x = 1) (kk : fs_At g md d z y (pc + 1) ls st (fs_st M o i x) K) : fs_At g md d z y pc ls (fs_i x :: fs_i i :: fs_r o :: st) M K := by
  intro p e R s m args below meth c C H locs lc hl hR hS hI hlo hok
  have hi : fs_in32 i := hok.t.h
  have hx : fs_in32 x := hok.h
  rw [List.map_cons, List.map_cons, List.map_cons, fs_e_in ho.1 ho.2]
  refine va_zast C.1 C.2.1 C.2.2.2.2.2.2.2.1.1 hR.1 fs_W_D hS o.toNat 1 (fs_W_A ho hn) (fs_tys_get (by decide)) (fs_vin hi h0 h1) hd (fun H1 locs1 hP1 _ hS1 => ?_)
  have hnx : vp_nar .boolean (Int32.ofInt x) = Int32.ofInt x := by rcases hx01 with rfl | rfl <;> rfl
  have hpe : ∀ r, fs_pay g 1 r = fs_pay g 0 r := fun r => rfl
  rw [hnx, fs_pay_up0 (g := g) h0 hi, ← hpe, ← fs_cellA ho, ← fs_W_set ho.1] at hP1
  refine kk p e R s m args below meth c C H1 locs1 lc hl ⟨hP1, hR.2⟩ hS1 ⟨fs_rngS hI.1 ?_, fun q => fs_P2_A (hI.2 q) ho (Or.inl (by decide))⟩ hlo hok.t.t.t
  have h3 : fs_isL o i = false := by
    unfold fs_isL
    rw [if_neg (by have := ho.1; omega), ho.2]
    rfl
  rw [h3]
  exact hx
theorem a_lastore {n : Nat} {o i x : Int} (hd : decode md.2.1 pc = .ok (.lastore, 1)) (ho : fs_isA 2 n o) (hn : o.toNat < y.1) (h0 : 0 ≤ i) (h1 : i < n) (kk : fs_At g md d z y (pc + 1) ls st (fs_st M o i x) K) : fs_At g md d z y pc ls (fs_l x :: fs_i i :: fs_r o :: st) M K := by
  intro p e R s m args below meth c C H locs lc hl hR hS hI hlo hok
  have hi : fs_in32 i := hok.t.h
  have hx : fs_in64 x := hok.h
  rw [List.map_cons, List.map_cons, List.map_cons, fs_e_in ho.1 ho.2]
  refine va_last C.1 C.2.1 C.2.2.2.2.2.2.2.1.1 hR.1 fs_W_D hS o.toNat 2 (fs_W_A ho hn) (fs_tys_get (by decide)) (fs_vin hi h0 h1) hd (fun H1 locs1 hP1 _ hS1 => ?_)
  have hpe : (.inr (.inl (vp_updL (fun j : Nat => Int64.ofInt (M o j)) (Int32.ofInt i).toNatClampNeg (Int64.ofInt x))) : (Nat → Int32) ⊕ (Nat → Int64) ⊕ (Nat → UInt32) ⊕ (Nat → UInt64) ⊕ (Nat → Option Nat)) = fs_pay g 2 (fs_st M o i x o) := by
    show _ = Sum.inr (Sum.inl (fun j : Nat => Int64.ofInt (fs_st M o i x o j)))
    congr 2
    funext j
    rw [fs_vcl hi h0]
    unfold vp_updL fs_st
    rw [if_pos rfl]
    by_cases a : j = i.toNat
    · rw [if_pos a, if_pos (by omega)]
    · rw [if_neg a, if_neg (by omega)]
  rw [hpe, ← fs_cellA ho, ← fs_W_set ho.1] at hP1
  refine kk p e R s m args below meth c C H1 locs1 lc hl ⟨hP1, hR.2⟩ hS1 ⟨fs_rngS hI.1 ?_, fun q => fs_P2_A (hI.2 q) ho (Or.inl (by decide))⟩ hlo hok.t.t.t
  have h3 : fs_isL o i = true := by
    unfold fs_isL
    rw [if_neg (by have := ho.1; omega), ho.2]
    rfl
  rw [h3]
  exact hx
end HEAP
