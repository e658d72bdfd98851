-- ===== static things; comparing tokens; System.arraycopy =====
def fs_lets (t : Int) : Int := (fs_tokL.getD (t.toNat - 1000) 0).toInt
def fs_lev (t : Int) : Int := (fs_tokV.getD (t.toNat - 1000) 0).toInt
def fs_ord (t : Int) : Int := (fs_tokO.getD (t.toNat - 1000) 0).toInt
def fs_sm (i : Int) : Int := (fs_smap.getD i.toNat 0).toInt
def fs_tk (t : Int) : Prop := 1000 ≤ t ∧ t < 1037
theorem fs_tk_ad {t : Int} (h : fs_tk t) : t = ((1000 + (t.toNat - 1000) : Nat) : Int) ∧ t.toNat - 1000 < fs_tokN.length := by
  have h1 : fs_tokN.length = 37 := by decide +kernel
  obtain ⟨a, b⟩ := h
  omega
section STAT
variable {g : fs_G} {md : fs_D} {d : Nat} {z : fs_Z} {y : Nat × Nat × Nat} {pc : Nat} {ls : List (Nat × fs_V)} {st : List fs_V} {M : fs_M} {K : fs_K}
/-- a static that holds a thing at a place of its own, or a number -/
theorem a_getstatic {idx : Nat} {C0 n0 d0 : String} {v : fs_V} (hd : decode md.2.1 pc = .ok (.getstatic idx, 3)) (hl : Cond.fieldLink md.1.cls idx C0 n0 d0 ∈ fs_B ∨ ∃ host, Cond.fieldLinkNest md.1.cls idx C0 n0 d0 host ∈ fs_NW) (hZ : ∀ (s : State) (H : Heap), fs_ST g s H → va_Z C0 n0 d0 (fs_e g v) (fs_A g) s H) (hv : fs_ok v) (kk : fs_At g md d z y (pc + 3) ls (v :: st) M K) : fs_At g md d z y pc ls st M K := by
  intro p e R s m args below meth c C H locs lc hll hR hS hI hlo hok
  have hSt := C.2.2.2.2.2.2.2.1
  have hts : ∀ w ∈ fs_B, w.before args s = true := C.2.2.2.2.2.2.1
  have h1 := kk p e R s m args below meth c C H locs lc hll hR hS hI hlo (hok.c hv)
  rcases hl with hw | ⟨host, hw⟩
  · exact va_gets C.1 C.2.1 (hZ s _ hSt.2.2.1) hS C.2.2.2.2.2.1 (hts _ hw) (fun _ q => q) hd h1
  · exact va_getsN C.1 C.2.1 (hZ s _ hSt.2.2.1) hS C.2.2.2.2.2.1 (va_Nw.use rfl (hSt.2.1 _ hw)) (fun _ q => q) hd h1
theorem fs_Ztok {i : Nat} {n0 : String} {q : Int} (hi : i < 37) (hn : fs_tokN.getD i "" = n0) (hq : q = ((1000 + i : Nat) : Int)) : ∀ (s : State) (H : Heap), fs_ST g s H → va_Z "FirstSill$Token" n0 "LFirstSill$Token;" (fs_e g (fs_r q)) (fs_A g) s H := by
  intro s H h
  have h1 : fs_tokN.length = 37 := by decide +kernel
  have h2 := (h.1.1 i (by omega)).1
  rw [hn] at h2
  rw [fs_e_so (by omega), hq]
  exact h2
theorem fs_ZTOK : ∀ (s : State) (H : Heap), fs_ST g s H → va_Z "FirstSill" "TOKENS" "[LFirstSill$Token;" (fs_e g (fs_r 2000)) (fs_A g) s H := by
  intro s H h
  rw [fs_e_so (by decide)]
  exact h.2.1
theorem fs_ZSM : ∀ (s : State) (H : Heap), fs_ST g s H → va_Z "FirstSill$1" "$SwitchMap$FirstSill$Token" "[I" (fs_e g (fs_r 2001)) (fs_A g) s H := by
  intro s H h
  rw [fs_e_so (by decide)]
  exact h.2.2.2.1
theorem fs_ZCS : ∀ (s : State) (H : Heap), fs_ST g s H → va_Z "java/lang/String" "COMPACT_STRINGS" "Z" (fs_e g (fs_i 1)) (fs_A g) s H := by
  intro s H h
  exact h.2.2.2.2.2.2.2.1
theorem fs_ZFM : ∀ (s : State) (H : Heap), fs_ST g s H → va_Z "jdk/internal/util/Preconditions" "SIOOBE_FORMATTER" "Ljava/util/function/BiFunction;" (fs_e g (fs_r (fs_fm g))) (fs_A g) s H := by
  intro s H h
  exact h.2.2.2.2.2.2.2.2.2.2.2.2.2.2.2
/-- a field of a constant object -/
theorem a_getOF {idx : Nat} {o : Int} {C0 n0 d0 : String} {v : fs_V} (hd : decode md.2.1 pc = .ok (.getfield idx, 3)) (hl : Cond.fieldLink md.1.cls idx C0 n0 d0 ∈ fs_B ∨ ∃ host, Cond.fieldLinkNest md.1.cls idx C0 n0 d0 host ∈ fs_NW) (ho : 1000 ≤ o) (hZ : ∀ (s : State) (H : Heap), fs_ST g s H → va_OF C0 n0 d0 (fs_e g v) (g_so g o) (fs_A g) s H) (hv : fs_ok v) (kk : fs_At g md d z y (pc + 3) ls (v :: st) M K) : fs_At g md d z y pc ls (fs_r o :: st) M K := by
  intro p e R s m args below meth c C H locs lc hll hR hS hI hlo hok
  have hSt := C.2.2.2.2.2.2.2.1
  have hts : ∀ w ∈ fs_B, w.before args s = true := C.2.2.2.2.2.2.1
  have h1 := kk p e R s m args below meth c C H locs lc hll hR hS hI hlo (hok.t.c hv)
  rw [List.map_cons, fs_e_so ho]
  obtain ⟨cf, k, fi, f, cell, h11, h2, h3, h4, h5, h6⟩ := (hZ s _ hSt.2.2.1).kept hS.2.1
  rcases hl with hw | ⟨host, hw⟩
  · exact W.getf C.1 C.2.1 C.2.2.2.2.2.1 (hts _ hw) h11 h2 h3 h4 (v := fs_e g v) h5 rfl rfl hd h1
  · exact va_Wgetf C.1 C.2.1 C.2.2.2.2.2.1 (va_Nw.use rfl (hSt.2.1 _ hw)) h11 h2 h3 h4 (v := fs_e g v) h5 rfl rfl hd h1
theorem fs_OFt {t : Int} {o n0 d0 : String} {vs : List Int32} {x : Int} (ht : fs_tk t) (hq : (o, n0, d0, vs) ∈ fs_tokF) (hx : (vs.getD (t.toNat - 1000) 0).toInt = x) : ∀ (s : State) (H : Heap), fs_ST g s H → va_OF o n0 d0 (fs_e g (fs_i x)) (g_so g t) (fs_A g) s H := by
  intro s H h
  obtain ⟨h1, h2⟩ := fs_tk_ad ht
  have h3 := (h.1.1 (t.toNat - 1000) h2).2.2 _ hq
  subst hx
  show va_OF o n0 d0 (.int (Int32.ofInt _)) (g_so g t) (fs_A g) s H
  rw [Int32.ofInt_toInt]
  have e : g_so g t = g_so g ((1000 + (t.toNat - 1000) : Nat) : Int) := congrArg _ h1
  rw [e]
  exact h3
theorem fs_mF1 : ("FirstSill$Token", "letters", "I", fs_tokL) ∈ fs_tokF := List.mem_cons_self
theorem fs_mF2 : ("FirstSill$Token", "level", "I", fs_tokV) ∈ fs_tokF := List.mem_cons_of_mem _ List.mem_cons_self
theorem fs_mF3 : ("java/lang/Enum", "ordinal", "I", fs_tokO) ∈ fs_tokF := List.mem_cons_of_mem _ (List.mem_cons_of_mem _ List.mem_cons_self)
theorem fs_OFsv : ∀ (s : State) (H : Heap), fs_ST g s H → va_OF "java/lang/String" "value" "[B" (fs_e g (fs_r 3002)) (g_so g 3001) (fs_A g) s H := by
  intro s H h
  rw [fs_e_so (by decide)]
  exact (h.2.2.2.2.2.1.1 0 (by decide)).2.2.1
theorem fs_OFsc : ∀ (s : State) (H : Heap), fs_ST g s H → va_OF "java/lang/String" "coder" "B" (fs_e g (fs_i 0)) (g_so g 3001) (fs_A g) s H := by
  intro s H h
  exact (h.2.2.2.2.2.1.1 0 (by decide)).2.1
theorem a_ldcS {idx : Nat} {tx : String} {q : Int} (hd : decode md.2.1 pc = .ok (.ldc idx, 2)) (hq : 1000 ≤ q) (hq2 : q < 4000) (hZ : ∀ (s : State) (H : Heap), fs_ST g s H → vk_R md.1.cls idx tx (g_so g q) s) (kk : fs_At g md d z y (pc + 2) ls (fs_r q :: st) M K) : fs_At g md d z y pc ls st M K := by
  intro p e R s m args below meth c C H locs lc hll hR hS hI hlo hok
  have hSt := C.2.2.2.2.2.2.2.1
  have h1 := kk p e R s m args below meth c C H locs lc hll hR hS hI hlo (hok.c (show fs_in32 q by unfold fs_in32; omega))
  rw [List.map_cons, fs_e_so hq] at h1
  exact va_ldcS C.1 C.2.1 C.2.2.2.2.2.1 (hZ s _ hSt.2.2.1) hd h1
/-- the static rows -/
theorem a_smload {i : Int} (hd : decode md.2.1 pc = .ok (.iaload, 1)) (h0 : 0 ≤ i) (h1 : i < 37) (kk : fs_At g md d z y (pc + 1) ls (fs_i (fs_sm i) :: st) M K) : fs_At g md d z y pc ls (fs_i i :: fs_r 2001 :: st) M K := by
  intro p e R s m args below meth c C H locs lc hll hR hS hI hlo hok
  have hSt := C.2.2.2.2.2.2.2.1
  have hi : fs_in32 i := hok.h
  have h2 := kk p e R s m args below meth c C H locs lc hll hR hS hI hlo (hok.t.t.c (fs_I_in _))
  rw [List.map_cons, List.map_cons, fs_e_so (by decide)]
  refine va_ti C.1 C.2.1 hSt.2.2.1.2.2.2.2.1 hS (fs_vin hi h0 h1) (v := .int (Int32.ofInt (fs_sm i))) ?_ hd h2
  rw [fs_vcl hi h0]
  show Value.int _ = Value.int (Int32.ofInt (fs_smap.getD i.toNat 0).toInt)
  rw [Int32.ofInt_toInt]
theorem a_tokload {i q : Int} (hd : decode md.2.1 pc = .ok (.aaload, 1)) (h0 : 0 ≤ i) (h1 : i < 37) (hq : q = 1000 + i) (kk : fs_At g md d z y (pc + 1) ls (fs_r q :: st) M K) : fs_At g md d z y pc ls (fs_i i :: fs_r 2000 :: st) M K := by
  intro p e R s m args below meth c C H locs lc hll hR hS hI hlo hok
  have hSt := C.2.2.2.2.2.2.2.1
  have hi : fs_in32 i := hok.h
  have h2 := kk p e R s m args below meth c C H locs lc hll hR hS hI hlo (hok.t.t.c (show fs_in32 q by unfold fs_in32; omega))
  rw [List.map_cons, List.map_cons, fs_e_so (by decide)]
  rw [List.map_cons, fs_e_so (by omega)] at h2
  refine vb_tq C.1 C.2.1 hSt.2.2.1.2.2.1 hS (fs_vin hi h0 h1) (v := .ref (g_so g q)) ?_ hd h2
  rw [fs_vcl hi h0]
  show Value.ref (g_so g (1000 + ((i.toNat : Nat) : Int))) = _
  rw [Int.toNat_of_nonneg h0, hq]
theorem a_toklen (hd : decode md.2.1 pc = .ok (.arraylength, 1)) (kk : fs_At g md d z y (pc + 1) ls (fs_i 37 :: st) M K) : fs_At g md d z y pc ls (fs_r 2000 :: st) M K := by
  intro p e R s m args below meth c C H locs lc hll hR hS hI hlo hok
  have hSt := C.2.2.2.2.2.2.2.1
  have h2 := kk p e R s m args below meth c C H locs lc hll hR hS hI hlo (hok.t.c (show fs_in32 37 by unfold fs_in32; omega))
  rw [List.map_cons, fs_e_so (by decide)]
  exact va_tlen C.1 C.2.1 hSt.2.2.1.2.2.1 hS (v := Int32.ofInt 37) rfl hd h2
theorem fs_wlen : fs_wby.length = 92 := by decide +kernel
theorem a_strload {i x : Int} (hd : decode md.2.1 pc = .ok (.baload, 1)) (h0 : 0 ≤ i) (h1 : i < 92) (hx : (fs_wby.getD i.toNat 0).toInt = x) (kk : fs_At g md d z y (pc + 1) ls (fs_i x :: st) M K) : fs_At g md d z y pc ls (fs_i i :: fs_r 3002 :: st) M K := by
  intro p e R s m args below meth c C H locs lc hll hR hS hI hlo hok
  have hSt := C.2.2.2.2.2.2.2.1
  have hi : fs_in32 i := hok.h
  subst hx
  have h2 := kk p e R s m args below meth c C H locs lc hll hR hS hI hlo (hok.t.t.c (fs_I_in _))
  rw [List.map_cons, List.map_cons, fs_e_so (by decide)]
  have hT := (hSt.2.2.1.2.2.2.2.2.1.1 0 (by decide)).2.2.2
  refine va_tb C.1 C.2.1 hT hS (fs_vin hi h0 ?_) (v := .int (Int32.ofInt (fs_wby.getD i.toNat 0).toInt)) ?_ hd h2
  · show i < ((fs_wby.length : Nat) : Int)
    rw [fs_wlen]; exact h1
  · rw [fs_vcl hi h0, Int32.ofInt_toInt]
    rfl
theorem a_strlen (hd : decode md.2.1 pc = .ok (.arraylength, 1)) (kk : fs_At g md d z y (pc + 1) ls (fs_i 92 :: st) M K) : fs_At g md d z y pc ls (fs_r 3002 :: st) M K := by
  intro p e R s m args below meth c C H locs lc hll hR hS hI hlo hok
  have hSt := C.2.2.2.2.2.2.2.1
  have h2 := kk p e R s m args below meth c C H locs lc hll hR hS hI hlo (hok.t.c (show fs_in32 92 by unfold fs_in32; omega))
  rw [List.map_cons, fs_e_so (by decide)]
  have hT := (hSt.2.2.1.2.2.2.2.2.1.1 0 (by decide)).2.2.2
  refine va_tlen C.1 C.2.1 hT hS (v := Int32.ofInt 92) ?_ hd h2
  show Int32.ofNat fs_wby.length = _
  rw [fs_wlen]; rfl
/-- the script -/
theorem a_sload {i : Int} (hd : decode md.2.1 pc = .ok (.iaload, 1)) (h0 : 0 ≤ i) (h1 : i < g_L g) (kk : fs_At g md d z y (pc + 1) ls (fs_i (g_xs g i.toNat).toInt :: st) M K) : fs_At g md d z y pc ls (fs_i i :: fs_r 3000 :: st) M K := by
  intro p e R s m args below meth c C H locs lc hll hR hS hI hlo hok
  have hSt := C.2.2.2.2.2.2.2.1
  have hi : fs_in32 i := hok.h
  have h2 := kk p e R s m args below meth c C H locs lc hll hR hS hI hlo (hok.t.t.c (fs_I_in _))
  obtain ⟨hX, hA, hb, -⟩ := hSt.2.2.1.2.2.2.2.2.2.2.2.2.2.2.2
  rw [List.map_cons, List.map_cons, fs_e_so (by decide), hb]
  have hbl : g_b g < s.heap.size := by
    obtain ⟨scr, q1, -⟩ := hX
    exact (Array.getElem?_eq_some_iff.mp q1).1
  refine va_sld C.1 C.2.1 hX hbl hA hS (fs_vin hi h0 h1) hd ?_
  rw [fs_vcl hi h0]
  have e : Value.int (g_xs g i.toNat) = fs_e g (fs_i (g_xs g i.toNat).toInt) := by
    show _ = Value.int (Int32.ofInt _)
    rw [Int32.ofInt_toInt]
  rw [e]
  exact h2
theorem a_slen (hd : decode md.2.1 pc = .ok (.arraylength, 1)) (hL : g_L g ≤ 3072) (kk : fs_At g md d z y (pc + 1) ls (fs_i (g_L g) :: st) M K) : fs_At g md d z y pc ls (fs_r 3000 :: st) M K := by
  intro p e R s m args below meth c C H locs lc hll hR hS hI hlo hok
  have hSt := C.2.2.2.2.2.2.2.1
  have h2 := kk p e R s m args below meth c C H locs lc hll hR hS hI hlo (hok.t.c (show fs_in32 (g_L g) by unfold fs_in32; omega))
  obtain ⟨hX, hA, hb, -⟩ := hSt.2.2.1.2.2.2.2.2.2.2.2.2.2.2.2
  rw [List.map_cons, fs_e_so (by decide), hb]
  have hbl : g_b g < s.heap.size := by
    obtain ⟨scr, q1, -⟩ := hX
    exact (Array.getElem?_eq_some_iff.mp q1).1
  refine va_slen C.1 C.2.1 hX hbl hA hS hd ?_
  rw [← Int32.ofInt_eq_ofNat]
  exact h2
/-- two tokens, or none, are one -/
theorem fs_ro_tk {s : State} {H : Heap} (hT : fs_ST g s H) {t u : Int} (ht : fs_tk t ∨ t = -1) (hu : fs_tk u ∨ u = -1) : fs_ro g t = fs_ro g u ↔ t = u := by
  constructor
  · intro h
    unfold fs_ro at h
    rcases ht with ht | ht <;> rcases hu with hu | hu
    · obtain ⟨a1, a2⟩ := ht
      obtain ⟨b1, b2⟩ := hu
      rw [if_neg (by omega), if_neg (by omega)] at h
      have h2 : fs_ad g t = fs_ad g u := Option.some.inj h
      unfold fs_ad at h2
      rw [if_neg (by omega), if_neg (by omega)] at h2
      obtain ⟨e1, l1⟩ := fs_tk_ad (t := t) ⟨a1, a2⟩
      obtain ⟨e2, l2⟩ := fs_tk_ad (t := u) ⟨b1, b2⟩
      have h3 := hT.1.2 (t.toNat - 1000) (u.toNat - 1000) l1 l2 (by
        show g_so g ((1000 : Int) + ((t.toNat - 1000 : Nat) : Int)) = g_so g ((1000 : Int) + ((u.toNat - 1000 : Nat) : Int))
        rw [show (1000 : Int) + ((t.toNat - 1000 : Nat) : Int) = t by omega, show (1000 : Int) + ((u.toNat - 1000 : Nat) : Int) = u by omega]
        exact h2)
      omega
    · obtain ⟨a1, a2⟩ := ht
      rw [if_neg (by omega), if_pos (by omega)] at h
      cases h
    · obtain ⟨b1, b2⟩ := hu
      rw [if_pos (by omega), if_neg (by omega)] at h
      cases h
    · omega
  · intro h
    rw [h]
theorem a_acmp_eq {t u off : Int} {tgt : Nat} (hd : decode md.2.1 pc = .ok (.if_acmp .eq off, 3)) (ht : (pc : Int) + off = (tgt : Int)) (h1 : fs_tk t ∨ t = -1) (h2 : fs_tk u ∨ u = -1) (kt : t = u → fs_At g md d z y tgt ls st M K) (kf : ¬ t = u → fs_At g md d z y (pc + 3) ls st M K) : fs_At g md d z y pc ls (fs_r u :: fs_r t :: st) M K := by
  intro p e R s m args below meth c C H locs lc hll hR hS hI hlo hok
  have hq := fs_ro_tk C.2.2.2.2.2.2.2.1.2.2.1 h1 h2
  exact lv_acmp_eq C.1 C.2.1 hd ht (fun q => kt (hq.mp q) p e R s m args below meth c C H locs lc hll hR hS hI hlo hok.t.t) (fun q => kf (fun q2 => q (hq.mpr q2)) p e R s m args below meth c C H locs lc hll hR hS hI hlo hok.t.t)
theorem a_acmp_ne {t u off : Int} {tgt : Nat} (hd : decode md.2.1 pc = .ok (.if_acmp .ne off, 3)) (ht : (pc : Int) + off = (tgt : Int)) (h1 : fs_tk t ∨ t = -1) (h2 : fs_tk u ∨ u = -1) (kt : ¬ t = u → fs_At g md d z y tgt ls st M K) (kf : t = u → fs_At g md d z y (pc + 3) ls st M K) : fs_At g md d z y pc ls (fs_r u :: fs_r t :: st) M K := by
  intro p e R s m args below meth c C H locs lc hll hR hS hI hlo hok
  have hq := fs_ro_tk C.2.2.2.2.2.2.2.1.2.2.1 h1 h2
  exact lv_acmp_ne C.1 C.2.1 hd ht (fun q => kt (fun q2 => q (hq.mpr q2)) p e R s m args below meth c C H locs lc hll hR hS hI hlo hok.t.t) (fun q => kf (hq.mp q) p e R s m args below meth c C H locs lc hll hR hS hI hlo hok.t.t)
/-- a call of a constant object's method, its own or one that it has from above -/
theorem a_invokeso {idx k : Nat} {mc : fs_D} {dc : Nat} {zc : fs_Z} {o : Int} {C0 : String} {x : MethodName} (as rest : List fs_V) (hd : decode md.2.1 pc = .ok (.invokevirtual idx, 3)) (hl : Cond.methodLink md.1.cls idx x ∈ fs_B) (hx : Cond.sameMethod x.cls mc.1.cls x.name x.desc ∈ fs_B ∧ Cond.selects C0 x mc.1 ∈ fs_B ∧ mc.1 = ⟨mc.1.cls, x.name, x.desc⟩) (hk : fs_MK mc k) (hv : Cond.instanceMethod mc.1 ∈ fs_B) (ho : 1000 ≤ o) (hO : ∀ (s : State) (H : Heap), fs_ST g s H → va_O C0 (g_so g o) (fs_A g) s H) (hlen : as.length = k) (hz : fs_zok d dc z zc y) (hst : as.reverse ++ fs_r o :: rest = st) (hwt : fs_wt rest ≤ 8)
    (h : fs_Call g mc dc zc (fs_r o :: as) M (fun v M1 => fs_At g md d z (zc.2.2.1, y.2.1 + zc.2.2.2.1, y.2.2 + zc.2.2.2.2) (pc + 3) ls (v.toList ++ rest) M1 K)) : fs_At g md d z y pc ls st M K := by
  subst hst
  intro p e R s m args below meth c C H locs lc hll hR hS hI hlo hok
  refine fs_hsz (fun hsz => ?_)
  have hokr : fs_oks rest := fun w hw => hok w (List.mem_append.mpr (Or.inr (List.mem_cons_of_mem _ hw)))
  have hM := h (by rw [hz.2.1]; exact hI) (fun w hw => by
    rcases List.mem_cons.mp hw with rfl | hw
    · exact hok _ (List.mem_append.mpr (Or.inr List.mem_cons_self))
    · exact hok _ (List.mem_append.mpr (Or.inl (List.mem_reverse.mpr hw))))
  have hts : ∀ w ∈ fs_B, w.before args s = true := C.2.2.2.2.2.2.1
  have hSt := C.2.2.2.2.2.2.2.1
  have hroom := C.2.2.2.2.2.2.2.2.1
  have e0 := fs_e_so (g := g) ho
  rw [List.map_append, List.map_cons, List.map_reverse, e0]
  rw [List.map_cons, e0] at hM
  have hrm : (fs_rm dc zc.2.2.2.1 zc.2.2.2.2).frames + 1 ≤ R.frames ∧ 8 + (mc.2.2.1 + 11) + (fs_rm dc zc.2.2.2.1 zc.2.2.2.2).locals ≤ R.locals := by
    have h1 := hz.1
    have h2 := hk.2.2.2.2.2
    have h3 := hroom.1
    have h4 := hroom.2.1
    show dc + 1 ≤ R.frames ∧ 8 + (mc.2.2.1 + 11) + 64 * dc ≤ R.locals
    omega
  have hrecv : ∃ cellB : Cell, H[g_so g o]? = some cellB ∧ cellB.vm.isStatics = false ∧ s.vm.findClass C0 = some cellB.cls := by
    obtain ⟨cell, h1, h2, h3, -⟩ := (hO s _ hSt.2.2.1).kept hS.2.1
    exact ⟨cell, h1, h2, h3⟩
  have hpre : PreV s H C0 (g_so g o) (va_Pc (Value.ref (g_so g o) :: as.map (fs_e g)) (fun U => fs_R g zc.1 zc.2.1 M U.heap ∧ fs_S g U)) (as.map (fs_e g)) := by
    refine ⟨fs_blind, hrecv, ?_⟩
    exact fs_pre hSt hS hR hz.2.2.1 (fun q => fs_sz1 hSt hS hR hsz (by rw [← hz.2.1]; exact q))
  have hcl2 : y.2.1 + zc.2.2.2.1 ≤ R.cells ∧ y.2.2 + zc.2.2.2.2 ≤ R.slots := ⟨Nat.le_trans hz.2.2.2.1 hroom.2.2.1, Nat.le_trans hz.2.2.2.2.1 hroom.2.2.2⟩
  have hwt2 : 2 * (F0 m pc lc ((as.map (fs_e g)).reverse ++ Value.ref (g_so g o) :: rest.map (fs_e g))).monitorRoom + ((rest.map (fs_e g)).map fun v => v.category).sum ≤ 8 := lv_room (by rw [fs_wt_eq]; exact hwt)
  refine fs_kk (rest := rest) C hz hll hR hS hlo hokr (a := (Value.ref (g_so g o) :: as.map (fs_e g)).toArray) ?_
  have hdesc : x.desc = mc.1.desc := by rw [hx.2.2]
  refine va_runU (Ts := fs_B) (own := md.1.cls) (C := C0) (owner := mc.1.cls) (x := x) (nL := md.2.2.1) (n := k) (As := as.map (fs_e g)) (rest := rest.map (fs_e g)) ⟨C.1, C.2.1, C.2.2.1, C.2.2.2.2.2.1, hts⟩ hM (va_cwU k hts ?_ rfl rfl rfl hx.2.2 ⟨hk.2.2.1, hk.2.2.2.1, by rw [hdesc]; exact hk.2.2.2.2.1⟩ hrm) hpre rfl (by rw [List.length_map]; exact hlen) hll.1 rfl hwt2 hd hcl2
  intro w hw2
  unfold va_wsU at hw2
  rcases List.mem_append.mp hw2 with h1 | h1
  · have hmem : w ∈ fs_B := by
      rcases List.mem_cons.mp h1 with rfl | h1
      · exact hl
      rcases List.mem_cons.mp h1 with rfl | h1
      · exact hx.1
      rcases List.mem_cons.mp h1 with rfl | h1
      · exact hx.2.1
      rcases List.mem_cons.mp h1 with rfl | h1
      · exact hv
      rcases List.mem_cons.mp h1 with rfl | h1
      · exact hk.2.1
      · cases h1
    exact ⟨hmem, fs_goodB hmem⟩
  · exact fs_wsGood hk.1 w h1
theorem fs_Otk {t : Int} (ht : fs_tk t) : ∀ (s : State) (H : Heap), fs_ST g s H → va_O "FirstSill$Token" (g_so g t) (fs_A g) s H := by
  intro s H h
  obtain ⟨h1, h2⟩ := fs_tk_ad ht
  have e : g_so g t = g_so g ((1000 + (t.toNat - 1000) : Nat) : Int) := congrArg _ h1
  rw [e]
  exact (h.1.1 (t.toNat - 1000) h2).2.1
theorem fs_Ostr : ∀ (s : State) (H : Heap), fs_ST g s H → va_O "java/lang/String" (g_so g 3001) (fs_A g) s H := fun s H h => (h.2.2.2.2.2.1.1 0 (by decide)).1
/-- some cells of one row of numbers written over some of another -/
def fs_cpy (M : fs_M) (a sp b dp n : Int) : fs_M := fun o k => if o = b then (if dp ≤ k ∧ k < dp + n then M a (sp + (k - dp)) else M o k) else M o k
theorem a_arraycopy {idx n0 n1 : Nat} {a b sp dp n : Int} (hd : decode md.2.1 pc = .ok (.invokestatic idx, 3)) (hw : Cond.methodLink md.1.cls idx arraycopyName ∈ fs_B ∧ Cond.native arraycopyName ∈ fs_B ∧ Cond.static arraycopyName ∈ fs_B ∧ Cond.initialized "java/lang/System" ∈ fs_B) (ha : fs_isA 0 n0 a) (hb : fs_isA 0 n1 b) (hna : a.toNat < y.1) (hnb : b.toNat < y.1) (h1 : 0 ≤ sp) (h2 : 0 ≤ dp) (h3 : 0 ≤ n) (h4 : sp + n ≤ n0) (h5 : dp + n ≤ n1) (hdd : 1 ≤ d) (hwt : fs_wt st ≤ 8)
    (kk : fs_At g md d z y (pc + 3) ls st (fs_cpy M a sp b dp n) K) : fs_At g md d z y pc ls (fs_i n :: fs_i dp :: fs_r b :: fs_i sp :: fs_r a :: st) M K := by
  intro p e R s m args below meth c C H locs lc hll hR hS hI hlo hok
  have hts : ∀ w ∈ fs_B, w.before args s = true := C.2.2.2.2.2.2.1
  have hSt := C.2.2.2.2.2.2.2.1
  have hroom := C.2.2.2.2.2.2.2.2.1
  have in_n : fs_in32 n := hok.h
  have in_dp : fs_in32 dp := hok.t.h
  have in_sp : fs_in32 sp := hok.t.t.t.h
  rw [List.map_cons, List.map_cons, List.map_cons, List.map_cons, List.map_cons, fs_e_in ha.1 ha.2, fs_e_in hb.1 hb.2]
  have nn : ∀ {x : Int}, fs_in32 x → 0 ≤ x → ¬ Int32.ofInt x < 0 := fun hx h0 q => by
    have := (fs_lt32 hx fs_in0).mp q
    omega
  refine va_copyi (f := fun j : Nat => Int32.ofInt (M a j)) (g := fun j : Nat => Int32.ofInt (M b j)) C.1 C.2.1 (C.2.2.1.trans hll.1.symm) C.2.2.2.2.2.1 (hts _ hw.1) (hts _ hw.2.1) (hts _ hw.2.2.1) (hts _ hw.2.2.2) hSt.1 hR.1 fs_W_D hS a.toNat b.toNat 0 0 (fs_W_A ha hna) (fs_W_A hb hnb) (fs_tys_get (by decide)) (fs_tys_get (by decide)) rfl (nn in_sp h1) (nn in_dp h2) (nn in_n h3) ?_ ?_ (fun i _ => rfl) (Nat.le_trans hdd hroom.1) ?_ hd (fun H1 locs1 hP1 _ hS1 => ?_)
  · rw [fs_vcl in_sp h1, fs_vcl in_n h3]; omega
  · rw [fs_vcl in_dp h2, fs_vcl in_n h3]; omega
  · rw [fs_wt_eq]
    have e1 : nativeFrameWords "java/lang/System" "arraycopy" 5 = 7 := by decide +kernel
    rw [e1]
    have := hroom.2.1
    omega
  · have hcell : (fs_W g y.1 M).set b.toNat (g_sz g + b.toNat, .inl (g_tc g 0, n1, .inl (va_cpy (fun j : Nat => Int32.ofInt (M a j)) (fun j : Nat => Int32.ofInt (M b j)) (Int32.ofInt sp).toNatClampNeg (Int32.ofInt dp).toNatClampNeg (Int32.ofInt n).toNatClampNeg))) = fs_W g y.1 (fs_cpy M a sp b dp n) := by
      rw [fs_vcl in_sp h1, fs_vcl in_dp h2, fs_vcl in_n h3]
      apply List.ext_getElem?
      intro i
      have e : ((b.toNat : Nat) : Int) = b := Int.toNat_of_nonneg hb.1
      by_cases hi : i < y.1
      · rw [fs_W_get hi]
        by_cases hio : i = b.toNat
        · subst hio
          rw [List.getElem?_set_self (by simp [fs_W]; exact hi), e, fs_cellA hb]
          congr 4
          refine congrArg (fun q => (n1, q)) ?_
          show (Sum.inl _ : (Nat → Int32) ⊕ (Nat → Int64) ⊕ (Nat → UInt32) ⊕ (Nat → UInt64) ⊕ (Nat → Option Nat)) = Sum.inl (fun j : Nat => Int32.ofInt (fs_cpy M a sp b dp n b j))
          refine congrArg Sum.inl ?_
          funext j
          unfold va_cpy fs_cpy
          rw [if_pos rfl]
          by_cases q : dp.toNat ≤ j ∧ j < dp.toNat + n.toNat
          · rw [if_pos q, if_pos (by omega)]
            show Int32.ofInt (M a ((sp.toNat + (j - dp.toNat) : Nat) : Int)) = _
            congr 2
            omega
          · rw [if_neg q, if_neg (by omega)]
        · rw [List.getElem?_set_ne (fun q => hio q.symm), fs_W_get hi]
          have hne : ¬ (i : Int) = b := fun q => hio (by omega)
          have : fs_cpy M a sp b dp n (i : Int) = M (i : Int) := by
            funext k
            simp [fs_cpy, hne]
          rw [this]
      · rw [List.getElem?_eq_none (by simp [fs_W]; omega), List.getElem?_eq_none (by simp [fs_W]; omega)]
    rw [show (Sum.inl (g_tc g 0, n1, Sum.inl (va_cpy (fun j : Nat => Int32.ofInt (M a j)) (fun j : Nat => Int32.ofInt (M b j)) (Int32.ofInt sp).toNatClampNeg (Int32.ofInt dp).toNatClampNeg (Int32.ofInt n).toNatClampNeg)) : va_E) = _ from rfl] at hP1
    rw [hcell] at hP1
    refine kk p e R s m args below meth c C H1 locs1 lc hll ⟨hP1, hR.2⟩ hS1 ⟨fun o k => ?_, fun q => ⟨fun ci k off hp o ho => ?_, fun ty nn2 o ho q3 q6 i q0 qn => ?_⟩⟩ hlo hok.t.t.t.t.t
    · have h := hI.1 o k
      unfold fs_cpy
      by_cases q1 : o = b
      · subst q1
        rw [if_pos rfl]
        have hL : ∀ k2, fs_isL o k2 = false := by
          intro k2
          unfold fs_isL
          rw [if_neg (by have := hb.1; omega), hb.2]
          rfl
        rw [hL k] at h ⊢
        by_cases q2 : dp ≤ k ∧ k < dp + n
        · rw [if_pos q2]
          have := fs_rngA (i := sp + (k - dp)) hI.1 ha
          simpa using this
        · rw [if_neg q2]
          exact h
      · rw [if_neg q1]
        exact h
    · rw [← (hI.2 q).1 ci k off hp o ho]
      unfold fs_cpy
      rw [if_neg]
      intro q1
      subst q1
      have := ho.2.symm.trans hb.2
      simp at this
    · rw [← (hI.2 q).2 ty nn2 o ho q3 q6 i q0 qn]
      unfold fs_cpy
      rw [if_neg]
      intro q1
      subst q1
      have := ho.2.symm.trans hb.2
      simp at this
      omega
end STAT
