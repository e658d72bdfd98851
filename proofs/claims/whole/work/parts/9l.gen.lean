-- ===== printed by program (wip/whole/gen9l.py): the rows for a frame with any end =====
def fs_Ag (g : fs_G) (md : fs_D) (d : Nat) (z : fs_Z) (y : Nat × Nat × Nat) (pc : Nat) (ls : List (Nat × fs_V)) (st : List fs_V) (M : fs_M) (PX : Code → Prop) (Q : List Frame → Array Value → State → State → Prop) : Prop :=
  ∀ (p : Program) (e : Env) (R : Room) (s : State) (m : MethodId) (args : Array Value) (below : List Frame) (meth : Method) (c : Code), fs_C g md d z p R s m args meth c → PX c →
    ∀ (H : Heap) (locs : List Loc) (lc : Array Slot), lv_has lc md.2.2.1 (fs_lv g ls) → fs_R2 g z y s M H → va_S (fs_A g) s.heap H locs → fs_XI z.1 M → fs_okl ls → fs_oks st →
      W p (g_l g) e R s m args below meth c H locs y.2.1 y.2.2 (Q below args s) (F0 m pc lc (st.map (fs_e g)))
section GEN
variable {g : fs_G} {md : fs_D} {d : Nat} {z : fs_Z} {y : Nat × Nat × Nat} {pc : Nat} {ls ls' : List (Nat × fs_V)} {st : List fs_V} {M : fs_M} {K : fs_K} {PX : Code → Prop} {Q : List Frame → Array Value → State → State → Prop}
/-- a frame whose end is an answer is one of these -/
theorem g_ofA (h : fs_Ag g md d z y pc ls st M (fun _ => True) (fun below args s => MQ below (fs_Q g z.1 z.2.2.1 K) args s z.2.2.2.1 z.2.2.2.2 (fs_A g))) : fs_At g md d z y pc ls st M K := by
  intro p e R s m args below meth c C H locs lc hl hR hS hI hlo hok
  exact h p e R s m args below meth c C trivial H locs lc hl hR hS hI hlo hok
theorem g_toA (h : fs_At g md d z y pc ls st M K) : fs_Ag g md d z y pc ls st M PX (fun below args s => MQ below (fs_Q g z.1 z.2.2.1 K) args s z.2.2.2.1 z.2.2.2.2 (fs_A g)) := by
  intro p e R s m args below meth c C hPX H locs lc hl hR hS hI hlo hok
  exact h p e R s m args below meth c C H locs lc hl hR hS hI hlo hok
/-- an answer, of a method that may also throw -/
theorem g_toX {XC : String → State → State → Prop} (h : fs_At g md d z y pc ls st M K) : fs_Ag g md d z y pc ls st M PX (fun below args s => vx_MQ below (fs_Q g z.1 z.2.2.1 K) XC args s z.2.2.2.1 z.2.2.2.2 (fs_A g)) := by
  intro p e R s m args below meth c C hPX H locs lc hl hR hS hI hlo hok
  exact vx_ret (h p e R s m args below meth c C H locs lc hl hR hS hI hlo hok)
theorem g_iconst {n : Int} (hd : decode md.2.1 pc = .ok (.iconst n, 1)) (hn : fs_in32 n) (k : fs_Ag g md d z y (pc + 1) ls (fs_i n :: st) M PX Q) : fs_Ag g md d z y pc ls (st) M PX Q := by
  intro p e R s m args below meth c C hPX H locs lc hl hR hS hI hlo hok
  refine lv_iconst (v := Int32.ofInt n) C.1 C.2.1 hd rfl ?_
  exact k p e R s m args below meth c C hPX H locs lc hl hR hS hI hlo (hok.c hn)
theorem g_bipush {n : Int} (hd : decode md.2.1 pc = .ok (.bipush n, 2)) (hn : -128 ≤ n ∧ n < 128) (k : fs_Ag g md d z y (pc + 2) ls (fs_i n :: st) M PX Q) : fs_Ag g md d z y pc ls (st) M PX Q := by
  intro p e R s m args below meth c C hPX H locs lc hl hR hS hI hlo hok
  refine lv_bipush (v := Int32.ofInt n) C.1 C.2.1 hd (fs_bi hn.1 hn.2) ?_
  exact k p e R s m args below meth c C hPX H locs lc hl hR hS hI hlo (hok.c (by have := hn.1; have := hn.2; show fs_in32 n; unfold fs_in32; omega))
theorem g_iload_n {n : Fin 4} {i j : Nat} {x : Int} (hd : decode md.2.1 pc = .ok (.iload_n n, 1)) (hi : (n : Nat) = i) (hk : ls[j]? = some (i, fs_i x)) (k : fs_Ag g md d z y (pc + 1) ls (fs_i x :: st) M PX Q) : fs_Ag g md d z y pc ls (st) M PX Q := by
  intro p e R s m args below meth c C hPX H locs lc hl hR hS hI hlo hok
  refine lv_iload_n C.1 C.2.1 hd hi (fs_lv_at hl hk) ?_
  exact k p e R s m args below meth c C hPX H locs lc hl hR hS hI hlo (hok.c (hlo _ (List.mem_of_getElem? hk)))
theorem g_aload_n {n : Fin 4} {i j : Nat} {x : Int} (hd : decode md.2.1 pc = .ok (.aload_n n, 1)) (hi : (n : Nat) = i) (hk : ls[j]? = some (i, fs_r x)) (k : fs_Ag g md d z y (pc + 1) ls (fs_r x :: st) M PX Q) : fs_Ag g md d z y pc ls st M PX Q := by
  intro p e R s m args below meth c C hPX H locs lc hl hR hS hI hlo hok
  have h1 := fs_lv_at hl hk
  have h2 := k p e R s m args below meth c C hPX H locs lc hl hR hS hI hlo (hok.c (hlo _ (List.mem_of_getElem? hk)))
  rw [List.map_cons] at h2
  rcases fs_e_r g x with h0 | ⟨a, h0⟩
  · rw [h0] at h1 h2
    exact lv_aload_nN C.1 C.2.1 hd hi h1 h2
  · rw [h0] at h1 h2
    exact lv_aload_n C.1 C.2.1 hd hi h1 h2
theorem g_astore_n {n : Fin 4} {i : Nat} {x : Int} (hd : decode md.2.1 pc = .ok (.astore_n n, 1)) (hi : (n : Nat) = i) (hn : i < md.2.2.1) (hx : 0 ≤ x) (ks : List Nat) (hs : fs_pick (fs_sto ls i (fs_r x)) ks = ls') (k : fs_Ag g md d z y (pc + 1) ls' st M PX Q) : fs_Ag g md d z y pc ls (fs_r x :: st) M PX Q := by
  intro p e R s m args below meth c C hPX H locs lc hl hR hS hI hlo hok
  have h0 : fs_e g (fs_r x) = .ref (fs_ad g x) := by
    show va_rf (fs_ro g x) = _
    unfold fs_ro
    rw [if_neg (by omega)]
    rfl
  rw [List.map_cons, h0]
  have h1 := fs_lv_sto g ls i (fs_r x)
  rw [h0] at h1
  refine lv_astore_n C.1 C.2.1 hd hi hl hn h1 (fun lc' hl' => ?_)
  exact k p e R s m args below meth c C hPX H locs lc' (fs_lv_pick ks hl' hs) hR hS hI (fs_okl_pick (fs_okl_sto hlo hok.h) hs) hok.t
theorem g_dup {v : fs_V} (hd : decode md.2.1 pc = .ok (.dup, 1)) (hv : fs_isl v = false) (k : fs_Ag g md d z y (pc + 1) ls (v :: v :: st) M PX Q) : fs_Ag g md d z y pc ls (v :: st) M PX Q := by
  intro p e R s m args below meth c C hPX H locs lc hl hR hS hI hlo hok
  refine lv_dup C.1 C.2.1 hd (fs_cat1 g hv) ?_
  exact k p e R s m args below meth c C hPX H locs lc hl hR hS hI hlo (hok.c hok.h)
theorem g_i2l {x : Int} (hd : decode md.2.1 pc = .ok (.i2l, 1)) (k : fs_Ag g md d z y (pc + 1) ls (fs_l x :: st) M PX Q) : fs_Ag g md d z y pc ls (fs_i x :: st) M PX Q := by
  intro p e R s m args below meth c C hPX H locs lc hl hR hS hI hlo hok
  refine lv_i2l (x := Int32.ofInt x) C.1 C.2.1 hd (fs_i2l hok.h) ?_
  exact k p e R s m args below meth c C hPX H locs lc hl hR hS hI hlo (hok.t.c (by have h : fs_in32 x := hok.h; show fs_in64 x; unfold fs_in32 at h; unfold fs_in64; omega))
theorem g_if_ne {x : Int} {off : Int} {tgt : Nat} (hd : decode md.2.1 pc = .ok (.ifCond .ne off, 3)) (ht : (pc : Int) + off = (tgt : Int)) (kt : ¬ x = 0 → fs_Ag g md d z y tgt ls st M PX Q) (kf : x = 0 → fs_Ag g md d z y (pc + 3) ls st M PX Q) : fs_Ag g md d z y pc ls (fs_i x :: st) M PX Q := by
  intro p e R s m args below meth c C hPX H locs lc hl hR hS hI hlo hok

  exact lv_if_ne C.1 C.2.1 hd ht (fun hq => kt (fun q => hq ((fs_eq32 hok.h fs_in0).mpr q)) p e R s m args below meth c C hPX H locs lc hl hR hS hI hlo hok.t) (fun hq => kf ((fs_eq32 hok.h fs_in0).mp hq) p e R s m args below meth c C hPX H locs lc hl hR hS hI hlo hok.t)
theorem g_tableOut {dflt lo hi : Int} {offs : Array Int} {len : Nat} {x : Int} {tgt : Nat} (hd : decode md.2.1 pc = .ok (.tableswitch dflt lo hi offs, len)) (h : x < lo ∨ hi < x) (ht : (pc : Int) + dflt = (tgt : Int)) (k : fs_Ag g md d z y tgt ls st M PX Q) : fs_Ag g md d z y pc ls (fs_i x :: st) M PX Q := by
  intro p e R s m args below meth c C hPX H locs lc hl hR hS hI hlo hok
  have hx : (Int32.ofInt x).toInt = x := fs_toI hok.h
  exact lv_tableOut C.1 C.2.1 hd (by rw [hx]; exact h) ht (k p e R s m args below meth c C hPX H locs lc hl hR hS hI hlo hok.t)
theorem g_tableIn {dflt lo hi : Int} {offs : Array Int} {len : Nat} {x off : Int} {tgt : Nat} (hd : decode md.2.1 pc = .ok (.tableswitch dflt lo hi offs, len)) (h1 : lo ≤ x) (h2 : x ≤ hi) (ho : offs[(x - lo).toNat]? = some off) (ht : (pc : Int) + off = (tgt : Int)) (k : fs_Ag g md d z y tgt ls st M PX Q) : fs_Ag g md d z y pc ls (fs_i x :: st) M PX Q := by
  intro p e R s m args below meth c C hPX H locs lc hl hR hS hI hlo hok
  have hx : (Int32.ofInt x).toInt = x := fs_toI hok.h
  exact lv_tableIn C.1 C.2.1 hd (by rw [hx]; omega) (by rw [hx]; omega) (by rw [hx]; exact ho) ht (k p e R s m args below meth c C hPX H locs lc hl hR hS hI hlo hok.t)
theorem g_getfield {idx ci k : Nat} {fin : Bool} {o : Int} {v : fs_V} (hd : decode md.2.1 pc = .ok (.getfield idx, 3)) (hf : fs_FL md.1.cls idx ci k fin) (ho : fs_isO ci o) (hn : o.toNat < y.1) (hv : fs_fv (fs_ft ci k) (M o k) = v) (kk : fs_Ag g md d z y (pc + 3) ls (v :: st) M PX Q) : fs_Ag g md d z y pc ls (fs_r o :: st) M PX Q := by
  intro p e R s m args below meth c C hPX H locs lc hl hR hS hI hlo hok
  obtain ⟨cn, T, N, ty, hk, hkN, -, hT, hlink⟩ := hf
  subst hv
  have h1 := kk p e R s m args below meth c C hPX H locs lc hl hR hS hI hlo (hok.t.c (fs_rngO hI.1 ho hk hkN))
  rw [List.map_cons, fs_e_fv] at h1
  rw [List.map_cons, fs_e_in ho.1 ho.2]
  have hts : ∀ w ∈ fs_B, w.before args s = true := C.2.2.2.2.2.2.1
  have hrow : (fs_row g ci (M o))[k]? = some (fs_f g (fs_ft ci k) (M o k)) := fs_rowk (by rw [hk.2.2.2.2.1]; exact hkN)
  rcases hlink with hw | ⟨host, hw⟩
  · exact va_get (Ts := fs_B) C.1 C.2.1 hts hk.2.1 C.2.2.2.2.2.1 C.2.2.2.2.2.2.2.1.1 hR.1 o.toNat (fs_W_O ho hn) hk.1 k hkN (hts _ hw) (fun _ q => q) hrow hd h1
  · exact va_getN (Ts := fs_B) C.1 C.2.1 hts hk.2.1 C.2.2.2.2.2.1 C.2.2.2.2.2.2.2.1.1 hR.1 o.toNat (fs_W_O ho hn) hk.1 k hkN (va_Nw.use rfl (C.2.2.2.2.2.2.2.1.2.1 _ hw)) (fun _ q => q) hrow hd h1
theorem g_putfield {idx ci k : Nat} {o x : Int} {v : fs_V} (hd : decode md.2.1 pc = .ok (.putfield idx, 3)) (hf : fs_FL md.1.cls idx ci k false) (ho : fs_isO ci o) (hn : o.toNat < y.1) (hv : fs_fv (fs_ft ci k) x = v) (hp : fs_ptr ci k = none) (hnar : narrow (fs_ft ci k) (fs_f g (fs_ft ci k) x) = fs_f g (fs_ft ci k) x ∧ fits (fs_ft ci k) (fs_f g (fs_ft ci k) x) = true)
    (kk : fs_Ag g md d z y (pc + 3) ls st (fs_st M o k x) PX Q) : fs_Ag g md d z y pc ls (v :: fs_r o :: st) M PX Q := by
  intro p e R s m args below meth c C hPX H locs lc hl hR hS hI hlo hok
  obtain ⟨cn, T, N, ty, hk, hkN, hfin, hT, hlink⟩ := hf
  subst hv
  rw [List.map_cons, List.map_cons, fs_e_fv, fs_e_in ho.1 ho.2]
  have hts : ∀ w ∈ fs_B, w.before args s = true := C.2.2.2.2.2.2.1
  have hkN' : k < fs_nf ci := by rw [hk.2.2.2.2.1]; exact hkN
  have hlen : k < (fs_row g ci (M o)).length := by simp [fs_row]; exact hkN'
  have hpd : parseFieldDescriptor (T k).2.2.1 = some (fs_ft ci k) := by rw [hk.2.2.2.2.2.1]; exact hk.2.2.1 k hkN
  have hok1 : fs_ok (fs_fv (fs_ft ci k) x) := hok.h
  have hI2 : fs_XI z.1 (fs_st M o k x) := by
    refine ⟨fs_rngS hI.1 ?_, fun q => fs_P2_O (hI.2 q) ho hp⟩
    have h3 : fs_isL o k = decide (ci = 3 ∧ (k : Int) = 6) := by
      unfold fs_isL
      rw [if_neg (by have := ho.1; omega), ho.2]
    have h2 := hk.2.2.2.2.2.2 k hkN
    rw [h3]
    by_cases a : ci = 3 ∧ k = 6
    · rw [if_pos (by simp; exact ⟨a.1, by omega⟩)]
      rw [h2.mpr a] at hok1
      exact hok1
    · rw [if_neg (by simp; intro q1 q2; exact a ⟨q1, by omega⟩)]
      have hne : ¬ fs_ft ci k = .long := fun q => a (h2.mp q)
      revert hok1 hne
      cases fs_ft ci k <;> intro hok1 hne <;> first | exact hok1 | exact absurd rfl hne
  have hset : (fs_W g y.1 M).set o.toNat (g_sz g + o.toNat, .inr (ci, (fs_row g ci (M o)).set k (fs_f g (fs_ft ci k) x))) = fs_W g y.1 (fs_st M o k x) := by
    rw [fs_W_set ho.1, fs_cellO ho, fs_row_set]
  have fin : ∀ (H1 : Heap) (locs1 : List Loc), va_P (g_D g) fs_cl ((fs_W g y.1 M).set o.toNat (g_sz g + o.toNat, .inr (ci, (fs_row g ci (M o)).set k (fs_f g (fs_ft ci k) x)))) H1 → va_D (fs_A g) ((fs_W g y.1 M).set o.toNat (g_sz g + o.toNat, .inr (ci, (fs_row g ci (M o)).set k (fs_f g (fs_ft ci k) x)))) → va_S (fs_A g) s.heap H1 locs1 → W p (g_l g) e R s m args below meth c H1 locs1 y.2.1 y.2.2 (Q below args s) (F0 m (pc + 3) lc (st.map (fs_e g))) := by
    intro H1 locs1 hP1 _ hS1
    rw [hset] at hP1
    exact kk p e R s m args below meth c C hPX H1 locs1 lc hl ⟨hP1, hR.2⟩ hS1 hI2 hlo hok.t.t
  rcases hlink with hw | ⟨host, hw⟩
  · exact va_put (Ts := fs_B) C.1 C.2.1 hts hk.2.1 ty hk.2.2.1 hk.2.2.2.1 C.2.2.2.2.2.1 C.2.2.2.2.2.2.2.1.1 hR.1 fs_W_D hS o.toNat (fs_W_O ho hn) hk.1 k hkN (hts _ hw) (fun _ q => q) hfin hpd hnar.1 hnar.2 hlen hd fin
  · exact va_putN (Ts := fs_B) C.1 C.2.1 hts hk.2.1 ty hk.2.2.1 hk.2.2.2.1 C.2.2.2.2.2.1 C.2.2.2.2.2.2.2.1.1 hR.1 fs_W_D hS o.toNat (fs_W_O ho hn) hk.1 k hkN (va_Nw.use rfl (C.2.2.2.2.2.2.2.1.2.1 _ hw)) (fun _ q => q) hfin hpd hnar.1 hnar.2 hlen hd fin
theorem g_inv (k : fs_XI z.1 M → fs_okl ls → fs_oks st → fs_Ag g md d z y pc ls st M PX Q) : fs_Ag g md d z y pc ls st M PX Q := by
  intro p e R s m args below meth c C hPX H locs lc hl hR hS hI hlo hok
  exact k hI hlo hok p e R s m args below meth c C hPX H locs lc hl hR hS hI hlo hok
theorem g_getptr {idx ci k : Nat} {fin : Bool} {o off q : Int} (hd : decode md.2.1 pc = .ok (.getfield idx, 3)) (hf : fs_FL md.1.cls idx ci k fin) (hz : z.1 = 2) (ho : fs_isO ci o) (hn : o.toNat < y.1) (hp : fs_ptr ci k = some off) (hq : o + off = q) (hv : fs_fv (fs_ft ci k) q = fs_r q) (kk : fs_Ag g md d z y (pc + 3) ls (fs_r q :: st) M PX Q) : fs_Ag g md d z y pc ls (fs_r o :: st) M PX Q := by
  refine g_inv (fun hI _ _ => ?_)
  have h1 : M o k = q := ((hI.2 hz).1 ci k off hp o ho).trans hq
  exact g_getfield hd hf ho hn (by rw [h1]; exact hv) kk
theorem g_kk {dc : Nat} {zc : fs_Z} {rest : List fs_V} {p : Program} {e : Env} {R : Room} {s : State} {m : MethodId} {args : Array Value} {below : List Frame} {meth : Method} {c : Code} {lc : Array Slot} {H : Heap} {locs : List Loc} {st0 : List Value} {a : Array Value} (C : fs_C g md d z p R s m args meth c) (hPX : PX c) (hz : fs_zok d dc z zc y)
    (hl : lv_has lc md.2.2.1 (fs_lv g ls)) (hR : fs_R2 g z y s M H) (hS : va_S (fs_A g) s.heap H locs) (hlo : fs_okl ls) (hrest : fs_oks rest)
    (hr : va_Run p (g_l g) e R s m args below meth c H locs y.2.1 y.2.2 zc.2.2.2.1 zc.2.2.2.2 (F0 m pc lc st0) (rest.map (fs_e g)) (fs_Q g zc.1 zc.2.2.1 (fun v M1 => fs_Ag g md d z (zc.2.2.1, y.2.1 + zc.2.2.2.1, y.2.2 + zc.2.2.2.2) (pc + 3) ls (v.toList ++ rest) M1 PX Q) a) (fs_A g)) :
    W p (g_l g) e R s m args below meth c H locs y.2.1 y.2.2 (Q below args s) (F0 m pc lc st0) := by
  refine fs_callgo hr hS (fun v M1 H1 locs1 hp hR1 hI1 hok1 hS1 => ?_)
  have h := hp p e R s m args below meth c C hPX H1 locs1 lc hl ⟨hR1.1, fun q => ?_⟩ hS1 (by rw [← hz.2.1]; exact hI1) hlo ?_
  · rw [List.map_append] at h
    cases v with
    | none => exact h
    | some w => exact h
  · have h1 := hR.2 q
    have h2 := hz.2.2.2.2.2 q
    have h3 := hz.2.2.1
    show s.heap.size + (y.2.1 + zc.2.2.2.1) = g_sz g + zc.2.2.1
    omega
  · cases v with
    | none => exact hrest
    | some w => exact hrest.c (hok1 w rfl)
theorem g_virtual {idx ci k : Nat} {mc : fs_D} {dc : Nat} {zc : fs_Z} {o : Int} {T : u_T} {N : Nat} (as rest : List fs_V) (hd : decode md.2.1 pc = .ok (.invokevirtual idx, 3)) (hl : fs_ML md.1.cls idx mc.1) (hk : fs_MK mc k) (hv : fs_MV mc) (hcl : fs_cl[ci]? = some (mc.1.cls, T, N)) (ho : fs_isO ci o) (hn : o.toNat < y.1) (hlen : as.length = k) (hz : fs_zok d dc z zc y) (hst : as.reverse ++ fs_r o :: rest = st) (hwt : fs_wt rest ≤ 8)
    (h : fs_Call g mc dc zc (fs_r o :: as) M (fun v M1 => fs_Ag g md d z (zc.2.2.1, y.2.1 + zc.2.2.2.1, y.2.2 + zc.2.2.2.2) (pc + 3) ls (v.toList ++ rest) M1 PX Q)) : fs_Ag g md d z y pc ls st M PX Q := by
  subst hst
  intro p e R s m args below meth c C hPX H locs lc hll hR hS hI hlo hok
  refine fs_hsz (fun hsz => ?_)
  have hokr : fs_oks rest := fun w hw => hok w (List.mem_append.mpr (Or.inr (List.mem_cons_of_mem _ hw)))
  have hM := h (by rw [hz.2.1]; exact hI) (fun w hw => by
    rcases List.mem_cons.mp hw with rfl | hw
    · exact hok _ (List.mem_append.mpr (Or.inr List.mem_cons_self))
    · exact hok _ (List.mem_append.mpr (Or.inl (List.mem_reverse.mpr hw))))
  have hts : ∀ w ∈ fs_B, w.before args s = true := C.2.2.2.2.2.2.1
  have hSt := C.2.2.2.2.2.2.2.1
  have hroom := C.2.2.2.2.2.2.2.2.1
  have e0 := fs_e_in (g := g) ho.1 ho.2
  rw [List.map_append, List.map_cons, List.map_reverse, e0]
  rw [List.map_cons, e0] at hM
  have hrm : (fs_rm dc zc.2.2.2.1 zc.2.2.2.2).frames + 1 ≤ R.frames ∧ 8 + (mc.2.2.1 + 11) + (fs_rm dc zc.2.2.2.1 zc.2.2.2.2).locals ≤ R.locals := by
    have h1 := hz.1
    have h2 := hk.2.2.2.2.2
    have h3 := hroom.1
    have h4 := hroom.2.1
    show dc + 1 ≤ R.frames ∧ 8 + (mc.2.2.1 + 11) + 64 * dc ≤ R.locals
    omega
  have hpre : PreV s H mc.1.cls (g_sz g + o.toNat) (va_Pc (Value.ref (g_sz g + o.toNat) :: as.map (fs_e g)) (fun U => fs_R g zc.1 zc.2.1 M U.heap ∧ fs_S g U)) (as.map (fs_e g)) := by
    refine ⟨fs_blind, va_recv hSt.1 hR.1 hcl (fs_W_O ho hn), ?_⟩
    exact fs_pre hSt hS hR hz.2.2.1 (fun q => fs_sz1 hSt hS hR hsz (by rw [← hz.2.1]; exact q))
  have hcl2 : y.2.1 + zc.2.2.2.1 ≤ R.cells ∧ y.2.2 + zc.2.2.2.2 ≤ R.slots := ⟨Nat.le_trans hz.2.2.2.1 hroom.2.2.1, Nat.le_trans hz.2.2.2.2.1 hroom.2.2.2⟩
  have hwt2 : 2 * (F0 m pc lc ((as.map (fs_e g)).reverse ++ Value.ref (g_sz g + o.toNat) :: rest.map (fs_e g))).monitorRoom + ((rest.map (fs_e g)).map fun v => v.category).sum ≤ 8 := lv_room (by rw [fs_wt_eq]; exact hwt)
  refine g_kk (rest := rest) C hPX hz hll hR hS hlo hokr (a := (Value.ref (g_sz g + o.toNat) :: as.map (fs_e g)).toArray) ?_
  rcases hl with hw | ⟨host, hw⟩
  · refine va_runV (Ts := fs_B) (own := md.1.cls) (C := mc.1.cls) (nL := md.2.2.1) (n := k) (As := as.map (fs_e g)) (rest := rest.map (fs_e g)) ⟨C.1, C.2.1, C.2.2.1, C.2.2.2.2.2.1, hts⟩ hM (cwV k hts ?_ rfl rfl rfl ⟨rfl, hk.2.2.1, hk.2.2.2.1, hk.2.2.2.2.1⟩ hrm) hpre rfl (by rw [List.length_map]; exact hlen) hll.1 rfl hwt2 hd hcl2
    intro w hw2
    unfold wsV at hw2
    rcases List.mem_append.mp hw2 with h1 | h1
    · have hmem : w ∈ fs_B := by
        rcases List.mem_cons.mp h1 with rfl | h1
        · exact hw
        rcases List.mem_cons.mp h1 with rfl | h1
        · exact hv.1
        rcases List.mem_cons.mp h1 with rfl | h1
        · exact hv.2
        rcases List.mem_cons.mp h1 with rfl | h1
        · exact hk.2.1
        · cases h1
      exact ⟨hmem, fs_goodB hmem⟩
    · exact fs_wsGood hk.1 w h1
  · exact va_runVN (Ts := fs_B) (own := md.1.cls) (C := mc.1.cls) (nL := md.2.2.1) (n := k) (As := as.map (fs_e g)) (rest := rest.map (fs_e g)) ⟨C.1, C.2.1, C.2.2.1, C.2.2.2.2.2.1, hts⟩ hM ⟨va_cnB k hts (fs_wsGood hk.1) rfl rfl rfl (hSt.2.1 _ hw) (hts _ hk.2.1) ⟨hk.2.2.1, hk.2.2.2.1, hk.2.2.2.2.1⟩ hrm, hts _ hv.1, hts _ hv.2⟩ hpre rfl (by rw [List.length_map]; exact hlen) hll.1 rfl hwt2 hd hcl2
theorem g_static {idx k : Nat} {mc : fs_D} {dc : Nat} {zc : fs_Z} (as rest : List fs_V) (hd : decode md.2.1 pc = .ok (.invokestatic idx, 3)) (hl : fs_ML md.1.cls idx mc.1) (hk : fs_MK mc k) (hv : Cond.static mc.1 ∈ fs_B) (hlen : as.length = k) (hz : fs_zok d dc z zc y) (hst : as.reverse ++ rest = st) (hwt : fs_wt rest ≤ 8)
    (h : fs_Call g mc dc zc as M (fun v M1 => fs_Ag g md d z (zc.2.2.1, y.2.1 + zc.2.2.2.1, y.2.2 + zc.2.2.2.2) (pc + 3) ls (v.toList ++ rest) M1 PX Q)) : fs_Ag g md d z y pc ls st M PX Q := by
  subst hst
  intro p e R s m args below meth c C hPX H locs lc hll hR hS hI hlo hok
  refine fs_hsz (fun hsz => ?_)
  have hokr : fs_oks rest := fun w hw => hok w (List.mem_append.mpr (Or.inr hw))
  have hM := h (by rw [hz.2.1]; exact hI) (fun w hw => hok _ (List.mem_append.mpr (Or.inl (List.mem_reverse.mpr hw))))
  have hts : ∀ w ∈ fs_B, w.before args s = true := C.2.2.2.2.2.2.1
  have hSt := C.2.2.2.2.2.2.2.1
  have hroom := C.2.2.2.2.2.2.2.2.1
  rw [List.map_append, List.map_reverse]
  have hrm : (fs_rm dc zc.2.2.2.1 zc.2.2.2.2).frames + 1 ≤ R.frames ∧ 8 + (mc.2.2.1 + 11) + (fs_rm dc zc.2.2.2.1 zc.2.2.2.2).locals ≤ R.locals := by
    have h1 := hz.1
    have h2 := hk.2.2.2.2.2
    have h3 := hroom.1
    have h4 := hroom.2.1
    show dc + 1 ≤ R.frames ∧ 8 + (mc.2.2.1 + 11) + 64 * dc ≤ R.locals
    omega
  have hpre : PreS s H (va_Pc (as.map (fs_e g)) (fun U => fs_R g zc.1 zc.2.1 M U.heap ∧ fs_S g U)) (as.map (fs_e g)) :=
    ⟨fs_blind, fs_pre hSt hS hR hz.2.2.1 (fun q => fs_sz1 hSt hS hR hsz (by rw [← hz.2.1]; exact q))⟩
  have hcl2 : y.2.1 + zc.2.2.2.1 ≤ R.cells ∧ y.2.2 + zc.2.2.2.2 ≤ R.slots := ⟨Nat.le_trans hz.2.2.2.1 hroom.2.2.1, Nat.le_trans hz.2.2.2.2.1 hroom.2.2.2⟩
  have hwt2 : 2 * (F0 m pc lc ((as.map (fs_e g)).reverse ++ rest.map (fs_e g))).monitorRoom + ((rest.map (fs_e g)).map fun v => v.category).sum ≤ 8 := lv_room (by rw [fs_wt_eq]; exact hwt)
  refine g_kk (rest := rest) C hPX hz hll hR hS hlo hokr (a := (as.map (fs_e g)).toArray) ?_
  rcases hl with hw | ⟨host, hw⟩
  · refine va_runS (Ts := fs_B) (own := md.1.cls) (nL := md.2.2.1) (n := k) (As := as.map (fs_e g)) (rest := rest.map (fs_e g)) ⟨C.1, C.2.1, C.2.2.1, C.2.2.2.2.2.1, hts⟩ hM (va_cwS k hts ?_ rfl rfl rfl ⟨hk.2.2.1, hk.2.2.2.1, hk.2.2.2.2.1⟩ hrm) hpre rfl (by rw [List.length_map]; exact hlen) hll.1 rfl hwt2 hd hcl2
    intro w hw2
    unfold va_wsS at hw2
    rcases List.mem_append.mp hw2 with h1 | h1
    · have hmem : w ∈ fs_B := by
        rcases List.mem_cons.mp h1 with rfl | h1
        · exact hw
        rcases List.mem_cons.mp h1 with rfl | h1
        · exact hv
        rcases List.mem_cons.mp h1 with rfl | h1
        · exact hk.2.1
        · cases h1
      exact ⟨hmem, fs_goodB hmem⟩
    · exact fs_wsGood hk.1 w h1
  · exact va_runSN (Ts := fs_B) (own := md.1.cls) (nL := md.2.2.1) (n := k) (As := as.map (fs_e g)) (rest := rest.map (fs_e g)) ⟨C.1, C.2.1, C.2.2.1, C.2.2.2.2.2.1, hts⟩ hM ⟨va_cnB k hts (fs_wsGood hk.1) rfl rfl rfl (hSt.2.1 _ hw) (hts _ hk.2.1) ⟨hk.2.2.1, hk.2.2.2.1, hk.2.2.2.2.1⟩ hrm, hts _ hv, trivial⟩ hpre rfl (by rw [List.length_map]; exact hlen) hll.1 rfl hwt2 hd hcl2
theorem g_init {idx k : Nat} {mc : fs_D} {dc : Nat} {zc : fs_Z} {o : Int} {q : Nat ⊕ (Nat × Nat)} (as rest : List fs_V) (hd : decode md.2.1 pc = .ok (.invokespecial idx, 3)) (hl : fs_ML md.1.cls idx mc.1) (hk : fs_MK mc k) (hv : Cond.instanceMethod mc.1 ∈ fs_B) (hnm : mc.1.name = "<init>") (hret : mc.2.2.2 = none) (ho : 0 ≤ o ∧ fs_kinds[o.toNat]? = some q) (hlen : as.length = k) (hz : fs_zok d dc z zc y) (hst : as.reverse ++ fs_r o :: rest = st) (hwt : fs_wt rest ≤ 8)
    (h : fs_Call g mc dc zc (fs_r o :: as) M (fun v M1 => fs_Ag g md d z (zc.2.2.1, y.2.1 + zc.2.2.2.1, y.2.2 + zc.2.2.2.2) (pc + 3) ls (v.toList ++ rest) M1 PX Q)) : fs_Ag g md d z y pc ls st M PX Q := by
  subst hst
  intro p e R s m args below meth c C hPX H locs lc hll hR hS hI hlo hok
  refine fs_hsz (fun hsz => ?_)
  have hokr : fs_oks rest := fun w hw => hok w (List.mem_append.mpr (Or.inr (List.mem_cons_of_mem _ hw)))
  have hM := h (by rw [hz.2.1]; exact hI) (fun w hw => by
    rcases List.mem_cons.mp hw with rfl | hw
    · exact hok _ (List.mem_append.mpr (Or.inr List.mem_cons_self))
    · exact hok _ (List.mem_append.mpr (Or.inl (List.mem_reverse.mpr hw))))
  have hts : ∀ w ∈ fs_B, w.before args s = true := C.2.2.2.2.2.2.1
  have hSt := C.2.2.2.2.2.2.2.1
  have hroom := C.2.2.2.2.2.2.2.2.1
  have e0 := fs_e_in (g := g) ho.1 ho.2
  rw [List.map_append, List.map_cons, List.map_reverse, e0]
  rw [List.map_cons, e0] at hM
  have hrm : (fs_rm dc zc.2.2.2.1 zc.2.2.2.2).frames + 1 ≤ R.frames ∧ 8 + (mc.2.2.1 + 11) + (fs_rm dc zc.2.2.2.1 zc.2.2.2.2).locals ≤ R.locals := by
    have h1 := hz.1
    have h2 := hk.2.2.2.2.2
    have h3 := hroom.1
    have h4 := hroom.2.1
    show dc + 1 ≤ R.frames ∧ 8 + (mc.2.2.1 + 11) + 64 * dc ≤ R.locals
    omega
  have hpre : PreS s H (va_Pc (Value.ref (g_sz g + o.toNat) :: as.map (fs_e g)) (fun U => fs_R g zc.1 zc.2.1 M U.heap ∧ fs_S g U)) (Value.ref (g_sz g + o.toNat) :: as.map (fs_e g)) :=
    ⟨fs_blind, fs_pre hSt hS hR hz.2.2.1 (fun q => fs_sz1 hSt hS hR hsz (by rw [← hz.2.1]; exact q))⟩
  have hcl2 : y.2.1 + zc.2.2.2.1 ≤ R.cells ∧ y.2.2 + zc.2.2.2.2 ≤ R.slots := ⟨Nat.le_trans hz.2.2.2.1 hroom.2.2.1, Nat.le_trans hz.2.2.2.2.1 hroom.2.2.2⟩
  have hwt2 : 2 * (F0 m pc lc ((as.map (fs_e g)).reverse ++ Value.ref (g_sz g + o.toNat) :: rest.map (fs_e g))).monitorRoom + ((rest.map (fs_e g)).map fun v => v.category).sum ≤ 8 := lv_room (by rw [fs_wt_eq]; exact hwt)
  have hws : fs_ws mc = Cond.code mc.1 mc.2.1 mc.2.2.1 none :: fs_B := by
    unfold fs_ws
    rw [hret]
  refine g_kk (rest := rest) C hPX hz hll hR hS hlo hokr (a := (Value.ref (g_sz g + o.toNat) :: as.map (fs_e g)).toArray) ?_
  rcases hl with hw | ⟨host, hw⟩
  · exact va_runI (Ts := fs_B) (own := md.1.cls) (nL := md.2.2.1) (n := k) (As := as.map (fs_e g)) (rest := rest.map (fs_e g)) ⟨C.1, C.2.1, C.2.2.1, C.2.2.2.2.2.1, hts⟩ hM (cwI k hts (fs_wsGood hk.1) hws rfl rfl (hts _ hk.2.1) (hts _ hw) (hts _ hv) hnm ⟨hk.2.2.1, hk.2.2.2.1, hk.2.2.2.2.1⟩ hrm) hpre rfl (by rw [List.length_map]; exact hlen) hll.1 rfl hwt2 hd hcl2
  · exact va_runIN (Ts := fs_B) (own := md.1.cls) (nL := md.2.2.1) (n := k) (As := as.map (fs_e g)) (rest := rest.map (fs_e g)) ⟨C.1, C.2.1, C.2.2.1, C.2.2.2.2.2.1, hts⟩ hM ⟨va_cnB k hts (fs_wsGood hk.1) hws rfl rfl (hSt.2.1 _ hw) (hts _ hk.2.1) ⟨hk.2.2.1, hk.2.2.2.1, hk.2.2.2.2.1⟩ hrm, hnm, hts _ hv⟩ hpre rfl (by rw [List.length_map]; exact hlen) hll.1 rfl hwt2 hd hcl2
theorem g_lastore {n : Nat} {o i x : Int} (hd : decode md.2.1 pc = .ok (.lastore, 1)) (ho : fs_isA 2 n o) (hn : o.toNat < y.1) (h0 : 0 ≤ i) (h1 : i < n) (kk : fs_Ag g md d z y (pc + 1) ls st (fs_st M o i x) PX Q) : fs_Ag g md d z y pc ls (fs_l x :: fs_i i :: fs_r o :: st) M PX Q := by
  intro p e R s m args below meth c C hPX H locs lc hl hR hS hI hlo hok
  have hi : fs_in32 i := hok.t.h
  have hx : fs_in64 x := hok.h
  rw [List.map_cons, List.map_cons, List.map_cons, fs_e_in ho.1 ho.2]
  refine va_last C.1 C.2.1 C.2.2.2.2.2.2.2.1.1 hR.1 fs_W_D hS o.toNat 2 (fs_W_A ho hn) (fs_tys_get (by decide)) (fs_vin hi h0 h1) hd (fun H1 locs1 hP1 _ hS1 => ?_)
  have hpe : (.inr (.inl (vp_updL (fun j : Nat => Int64.ofInt (M o j)) (Int32.ofInt i).toNatClampNeg (Int64.ofInt x))) : (Nat → Int32) ⊕ (Nat → Int64) ⊕ (Nat → UInt32) ⊕ (Nat → UInt64) ⊕ (Nat → Option Nat)) = fs_pay g 2 (fs_st M o i x o) := by
    show _ = Sum.inr (Sum.inl (fun j : Nat => Int64.ofInt (fs_st M o i x o j)))
    congr 2
    funext j
    rw [fs_vcl hi h0]
    unfold vp_updL fs_st
    rw [if_pos rfl]
    by_cases a : j = i.toNat
    · rw [if_pos a, if_pos (by omega)]
    · rw [if_neg a, if_neg (by omega)]
  rw [hpe, ← fs_cellA ho, ← fs_W_set ho.1] at hP1
  refine kk p e R s m args below meth c C hPX H1 locs1 lc hl ⟨hP1, hR.2⟩ hS1 ⟨fs_rngS hI.1 ?_, fun q => fs_P2_A (hI.2 q) ho (Or.inl (by decide))⟩ hlo hok.t.t.t
  have h3 : fs_isL o i = true := by
    unfold fs_isL
    rw [if_neg (by have := ho.1; omega), ho.2]
    rfl
  rw [h3]
  exact hx
end GEN
