-- ===== calls; static things =====
theorem fs_S.calling {g : fs_G} {U : State} (h : fs_S g U) (f : JFrame) (mk : MethodId) (a : Array Value) : fs_S g (U.calling f mk a) :=
  fs_S.go (U := U.calling f mk a) h (State.WarmedH.refl U) (va_S.rf (A := fs_A g) (H0 := U.heap)) rfl
theorem fs_blind {g : fs_G} {ph n : Nat} {M : fs_M} {av : List Value} : FrameBlind (va_Pc av (fun U => fs_R g ph n M U.heap ∧ fs_S g U)) := by
  intro a U f mk h
  exact ⟨h.1, h.2.1, h.2.2.calling f mk a⟩
theorem fs_wsGood {md : fs_D} (hc : Cond.code md.1 md.2.1 md.2.2.1 md.2.2.2 ∈ fs_B) : GoodIn fs_B (fs_ws md) := by
  intro w hw
  rcases List.mem_cons.mp hw with rfl | hw
  · exact ⟨hc, fs_goodB hc⟩
  · exact ⟨hw, fs_goodB hw⟩
def fs_wt (vs : List fs_V) : Nat := (vs.map fun v => if fs_isl v then 2 else 1).sum
theorem fs_wt_eq (g : fs_G) (vs : List fs_V) : ((vs.map (fs_e g)).map fun v => v.category).sum = fs_wt vs := by
  unfold fs_wt
  rw [List.map_map]
  congr 1
  apply List.map_congr_left
  intro v _
  show (fs_e g v).category = _
  have h := fs_e_cat g v
  rcases lv_cat (fs_e g v) with h2 | h2
  · rw [h2] at h ⊢
    rw [← h]; rfl
  · rw [h2] at h ⊢
    rw [← h]; rfl
section CALL
variable {g : fs_G} {md : fs_D} {d : Nat} {z : fs_Z} {y : Nat × Nat × Nat} {pc : Nat} {ls : List (Nat × fs_V)} {st : List fs_V} {M : fs_M} {K : fs_K}
theorem fs_callgo {p : Program} {e : Env} {R : Room} {s : State} {m : MethodId} {args : Array Value} {below : List Frame} {meth : Method} {c : Code} {H : Heap} {locs : List Loc} {cells slots mc ms ph n1 : Nat} {Q : State → Prop} {lc : Array Slot} {st0 rest : List Value} {a : Array Value} {Kc : fs_K}
    (hr : va_Run p (g_l g) e R s m args below meth c H locs cells slots mc ms (F0 m pc lc st0) rest (fs_Q g ph n1 Kc a) (fs_A g)) (hS : va_S (fs_A g) s.heap H locs)
    (kk : ∀ (v : Option fs_V) (M1 : fs_M) (H1 : Heap) (locs1 : List Loc), Kc v M1 → fs_R g ph n1 M1 H1 → fs_XI ph M1 → (∀ w, v = some w → fs_ok w) → va_S (fs_A g) s.heap H1 locs1 → W p (g_l g) e R s m args below meth c H1 locs1 (cells + mc) (slots + ms) Q (F0 m (pc + 3) lc ((v.map (fs_e g)).toList ++ rest))) :
    W p (g_l g) e R s m args below meth c H locs cells slots Q (F0 m pc lc st0) := by
  intro T hT X
  obtain ⟨v, st₀, t, T', L, h0, X', hL, e1, e2, ⟨⟨w, M1, hv, hp, hR1, hI1, hok1⟩, hz, hk⟩, st⟩ := hr T hT X
  have hv2 : v = w.map (fs_e g) := by
    injection hv
  subst hv2
  rw [h0] at hz hk
  obtain ⟨t2, a1, b1⟩ := kk w M1 T'.heap (locs ++ L) hp (by rw [e1]; exact hR1) hI1 hok1
    ⟨Nat.le_trans hS.1 (by rw [e1]; exact hz), fun q h1 h2 => by rw [e1, hk q (Nat.lt_of_lt_of_le h1 hS.1) h2]; exact hS.2.1 q h1 h2, fun q hq => by
      rcases List.mem_append.mp hq with h | h
      · exact hS.2.2 q h
      · exact hL q h⟩ T' rfl X'
  exact ⟨t2, st t2 a1, b1⟩
/-- numbers of a call: phase, cells, room -/
def fs_zok (d dc : Nat) (z zc : fs_Z) (y : Nat × Nat × Nat) : Prop := dc + 1 ≤ d ∧ zc.1 = z.1 ∧ zc.2.1 = y.1 ∧ y.2.1 + zc.2.2.2.1 ≤ z.2.2.2.1 ∧ y.2.2 + zc.2.2.2.2 ≤ z.2.2.2.2 ∧ (z.1 = 1 → zc.2.2.2.1 + y.1 = zc.2.2.1)
theorem fs_kk {dc : Nat} {zc : fs_Z} {rest : List fs_V} {p : Program} {e : Env} {R : Room} {s : State} {m : MethodId} {args : Array Value} {below : List Frame} {meth : Method} {c : Code} {lc : Array Slot} {H : Heap} {locs : List Loc} {st0 : List Value} {a : Array Value} (C : fs_C g md d z p R s m args meth c) (hz : fs_zok d dc z zc y)
    (hl : lv_has lc md.2.2.1 (fs_lv g ls)) (hR : fs_R2 g z y s M H) (hS : va_S (fs_A g) s.heap H locs) (hlo : fs_okl ls) (hrest : fs_oks rest)
    (hr : va_Run p (g_l g) e R s m args below meth c H locs y.2.1 y.2.2 zc.2.2.2.1 zc.2.2.2.2 (F0 m pc lc st0) (rest.map (fs_e g)) (fs_Q g zc.1 zc.2.2.1 (fun v M1 => fs_At g md d z (zc.2.2.1, y.2.1 + zc.2.2.2.1, y.2.2 + zc.2.2.2.2) (pc + 3) ls (v.toList ++ rest) M1 K) a) (fs_A g)) :
    W p (g_l g) e R s m args below meth c H locs y.2.1 y.2.2 (MQ below (fs_Q g z.1 z.2.2.1 K) args s z.2.2.2.1 z.2.2.2.2 (fs_A g)) (F0 m pc lc st0) := by
  refine fs_callgo hr hS (fun v M1 H1 locs1 hp hR1 hI1 hok1 hS1 => ?_)
  have h := hp p e R s m args below meth c C H1 locs1 lc hl ⟨hR1.1, fun q => ?_⟩ hS1 (by rw [← hz.2.1]; exact hI1) hlo ?_
  · rw [List.map_append] at h
    cases v with
    | none => exact h
    | some w => exact h
  · have h1 := hR.2 q
    have h2 := hz.2.2.2.2.2 q
    have h3 := hz.2.2.1
    show s.heap.size + (y.2.1 + zc.2.2.2.1) = g_sz g + zc.2.2.1
    omega
  · cases v with
    | none => exact hrest
    | some w => exact hrest.c (hok1 w rfl)
theorem fs_pre {s : State} {H : Heap} {locs : List Loc} {zc : fs_Z} {av : List Value} (hSt : fs_S g s) (hS : va_S (fs_A g) s.heap H locs) (hR : fs_R2 g z y s M H) (hy : zc.2.1 = y.1) (hsz : zc.1 = 1 → H.size = g_sz g + y.1) : ∀ U : State, U.heap = H → s.WarmedH U.vm → va_Pc av (fun U => fs_R g zc.1 zc.2.1 M U.heap ∧ fs_S g U) av.toArray U := by
  intro U hU hW
  refine ⟨rfl, ⟨?_, ?_⟩, hSt.go hW hS hU⟩
  · rw [hU, hy]; exact hR.1
  · rw [hU, hy]; exact hsz
theorem fs_sz1 {s : State} {H : Heap} {locs : List Loc} (hSt : fs_S g s) (hS : va_S (fs_A g) s.heap H locs) (hR : fs_R2 g z y s M H) (hz : H.size ≤ s.heap.size + y.2.1) (h1 : z.1 = 1) : H.size = g_sz g + y.1 := by
  have h2 := fs_W_low hR.1 (Nat.le_trans hSt.2.2.2.1 hS.1)
  have h3 := hR.2 h1
  omega
theorem a_invokevirtual {idx ci k : Nat} {mc : fs_D} {dc : Nat} {zc : fs_Z} {o : Int} {T : u_T} {N : Nat} (as rest : List fs_V) (hd : decode md.2.1 pc = .ok (.invokevirtual idx, 3)) (hl : fs_ML md.1.cls idx mc.1) (hk : fs_MK mc k) (hv : fs_MV mc) (hcl : fs_cl[ci]? = some (mc.1.cls, T, N)) (ho : fs_isO ci o) (hn : o.toNat < y.1) (hlen : as.length = k) (hz : fs_zok d dc z zc y) (hst : as.reverse ++ fs_r o :: rest = st) (hwt : fs_wt rest ≤ 8)
    (h : fs_Call g mc dc zc (fs_r o :: as) M (fun v M1 => fs_At g md d z (zc.2.2.1, y.2.1 + zc.2.2.2.1, y.2.2 + zc.2.2.2.2) (pc + 3) ls (v.toList ++ rest) M1 K)) : fs_At g md d z y pc ls st M K := by
  subst hst
  intro p e R s m args below meth c C H locs lc hll hR hS hI hlo hok
  refine fs_hsz (fun hsz => ?_)
  have hokr : fs_oks rest := fun w hw => hok w (List.mem_append.mpr (Or.inr (List.mem_cons_of_mem _ hw)))
  have hM := h (by rw [hz.2.1]; exact hI) (fun w hw => by
    rcases List.mem_cons.mp hw with rfl | hw
    · exact hok _ (List.mem_append.mpr (Or.inr List.mem_cons_self))
    · exact hok _ (List.mem_append.mpr (Or.inl (List.mem_reverse.mpr hw))))
  have hts : ∀ w ∈ fs_B, w.before args s = true := C.2.2.2.2.2.2.1
  have hSt := C.2.2.2.2.2.2.2.1
  have hroom := C.2.2.2.2.2.2.2.2.1
  have e0 := fs_e_in (g := g) ho.1 ho.2
  rw [List.map_append, List.map_cons, List.map_reverse, e0]
  rw [List.map_cons, e0] at hM
  have hrm : (fs_rm dc zc.2.2.2.1 zc.2.2.2.2).frames + 1 ≤ R.frames ∧ 8 + (mc.2.2.1 + 11) + (fs_rm dc zc.2.2.2.1 zc.2.2.2.2).locals ≤ R.locals := by
    have h1 := hz.1
    have h2 := hk.2.2.2.2.2
    have h3 := hroom.1
    have h4 := hroom.2.1
    show dc + 1 ≤ R.frames ∧ 8 + (mc.2.2.1 + 11) + 64 * dc ≤ R.locals
    omega
  have hpre : PreV s H mc.1.cls (g_sz g + o.toNat) (va_Pc (Value.ref (g_sz g + o.toNat) :: as.map (fs_e g)) (fun U => fs_R g zc.1 zc.2.1 M U.heap ∧ fs_S g U)) (as.map (fs_e g)) := by
    refine ⟨fs_blind, va_recv hSt.1 hR.1 hcl (fs_W_O ho hn), ?_⟩
    exact fs_pre hSt hS hR hz.2.2.1 (fun q => fs_sz1 hSt hS hR hsz (by rw [← hz.2.1]; exact q))
  have hcl2 : y.2.1 + zc.2.2.2.1 ≤ R.cells ∧ y.2.2 + zc.2.2.2.2 ≤ R.slots := ⟨Nat.le_trans hz.2.2.2.1 hroom.2.2.1, Nat.le_trans hz.2.2.2.2.1 hroom.2.2.2⟩
  have hwt2 : 2 * (F0 m pc lc ((as.map (fs_e g)).reverse ++ Value.ref (g_sz g + o.toNat) :: rest.map (fs_e g))).monitorRoom + ((rest.map (fs_e g)).map fun v => v.category).sum ≤ 8 := lv_room (by rw [fs_wt_eq]; exact hwt)
  refine fs_kk (rest := rest) C hz hll hR hS hlo hokr (a := (Value.ref (g_sz g + o.toNat) :: as.map (fs_e g)).toArray) ?_
  rcases hl with hw | ⟨host, hw⟩
  · refine va_runV (Ts := fs_B) (own := md.1.cls) (C := mc.1.cls) (nL := md.2.2.1) (n := k) (As := as.map (fs_e g)) (rest := rest.map (fs_e g)) ⟨C.1, C.2.1, C.2.2.1, C.2.2.2.2.2.1, hts⟩ hM (cwV k hts ?_ rfl rfl rfl ⟨rfl, hk.2.2.1, hk.2.2.2.1, hk.2.2.2.2.1⟩ hrm) hpre rfl (by rw [List.length_map]; exact hlen) hll.1 rfl hwt2 hd hcl2
    intro w hw2
    unfold wsV at hw2
    rcases List.mem_append.mp hw2 with h1 | h1
    · have hmem : w ∈ fs_B := by
        rcases List.mem_cons.mp h1 with rfl | h1
        · exact hw
        rcases List.mem_cons.mp h1 with rfl | h1
        · exact hv.1
        rcases List.mem_cons.mp h1 with rfl | h1
        · exact hv.2
        rcases List.mem_cons.mp h1 with rfl | h1
        · exact hk.2.1
        · cases h1
      exact ⟨hmem, fs_goodB hmem⟩
    · exact fs_wsGood hk.1 w h1
  · exact va_runVN (Ts := fs_B) (own := md.1.cls) (C := mc.1.cls) (nL := md.2.2.1) (n := k) (As := as.map (fs_e g)) (rest := rest.map (fs_e g)) ⟨C.1, C.2.1, C.2.2.1, C.2.2.2.2.2.1, hts⟩ hM ⟨va_cnB k hts (fs_wsGood hk.1) rfl rfl rfl (hSt.2.1 _ hw) (hts _ hk.2.1) ⟨hk.2.2.1, hk.2.2.2.1, hk.2.2.2.2.1⟩ hrm, hts _ hv.1, hts _ hv.2⟩ hpre rfl (by rw [List.length_map]; exact hlen) hll.1 rfl hwt2 hd hcl2
theorem a_invokestatic {idx k : Nat} {mc : fs_D} {dc : Nat} {zc : fs_Z} (as rest : List fs_V) (hd : decode md.2.1 pc = .ok (.invokestatic idx, 3)) (hl : fs_ML md.1.cls idx mc.1) (hk : fs_MK mc k) (hv : Cond.static mc.1 ∈ fs_B) (hlen : as.length = k) (hz : fs_zok d dc z zc y) (hst : as.reverse ++ rest = st) (hwt : fs_wt rest ≤ 8)
    (h : fs_Call g mc dc zc as M (fun v M1 => fs_At g md d z (zc.2.2.1, y.2.1 + zc.2.2.2.1, y.2.2 + zc.2.2.2.2) (pc + 3) ls (v.toList ++ rest) M1 K)) : fs_At g md d z y pc ls st M K := by
  subst hst
  intro p e R s m args below meth c C H locs lc hll hR hS hI hlo hok
  refine fs_hsz (fun hsz => ?_)
  have hokr : fs_oks rest := fun w hw => hok w (List.mem_append.mpr (Or.inr hw))
  have hM := h (by rw [hz.2.1]; exact hI) (fun w hw => hok _ (List.mem_append.mpr (Or.inl (List.mem_reverse.mpr hw))))
  have hts : ∀ w ∈ fs_B, w.before args s = true := C.2.2.2.2.2.2.1
  have hSt := C.2.2.2.2.2.2.2.1
  have hroom := C.2.2.2.2.2.2.2.2.1
  rw [List.map_append, List.map_reverse]
  have hrm : (fs_rm dc zc.2.2.2.1 zc.2.2.2.2).frames + 1 ≤ R.frames ∧ 8 + (mc.2.2.1 + 11) + (fs_rm dc zc.2.2.2.1 zc.2.2.2.2).locals ≤ R.locals := by
    have h1 := hz.1
    have h2 := hk.2.2.2.2.2
    have h3 := hroom.1
    have h4 := hroom.2.1
    show dc + 1 ≤ R.frames ∧ 8 + (mc.2.2.1 + 11) + 64 * dc ≤ R.locals
    omega
  have hpre : PreS s H (va_Pc (as.map (fs_e g)) (fun U => fs_R g zc.1 zc.2.1 M U.heap ∧ fs_S g U)) (as.map (fs_e g)) :=
    ⟨fs_blind, fs_pre hSt hS hR hz.2.2.1 (fun q => fs_sz1 hSt hS hR hsz (by rw [← hz.2.1]; exact q))⟩
  have hcl2 : y.2.1 + zc.2.2.2.1 ≤ R.cells ∧ y.2.2 + zc.2.2.2.2 ≤ R.slots := ⟨Nat.le_trans hz.2.2.2.1 hroom.2.2.1, Nat.le_trans hz.2.2.2.2.1 hroom.2.2.2⟩
  have hwt2 : 2 * (F0 m pc lc ((as.map (fs_e g)).reverse ++ rest.map (fs_e g))).monitorRoom + ((rest.map (fs_e g)).map fun v => v.category).sum ≤ 8 := lv_room (by rw [fs_wt_eq]; exact hwt)
  refine fs_kk (rest := rest) C hz hll hR hS hlo hokr (a := (as.map (fs_e g)).toArray) ?_
  rcases hl with hw | ⟨host, hw⟩
  · refine va_runS (Ts := fs_B) (own := md.1.cls) (nL := md.2.2.1) (n := k) (As := as.map (fs_e g)) (rest := rest.map (fs_e g)) ⟨C.1, C.2.1, C.2.2.1, C.2.2.2.2.2.1, hts⟩ hM (va_cwS k hts ?_ rfl rfl rfl ⟨hk.2.2.1, hk.2.2.2.1, hk.2.2.2.2.1⟩ hrm) hpre rfl (by rw [List.length_map]; exact hlen) hll.1 rfl hwt2 hd hcl2
    intro w hw2
    unfold va_wsS at hw2
    rcases List.mem_append.mp hw2 with h1 | h1
    · have hmem : w ∈ fs_B := by
        rcases List.mem_cons.mp h1 with rfl | h1
        · exact hw
        rcases List.mem_cons.mp h1 with rfl | h1
        · exact hv
        rcases List.mem_cons.mp h1 with rfl | h1
        · exact hk.2.1
        · cases h1
      exact ⟨hmem, fs_goodB hmem⟩
    · exact fs_wsGood hk.1 w h1
  · exact va_runSN (Ts := fs_B) (own := md.1.cls) (nL := md.2.2.1) (n := k) (As := as.map (fs_e g)) (rest := rest.map (fs_e g)) ⟨C.1, C.2.1, C.2.2.1, C.2.2.2.2.2.1, hts⟩ hM ⟨va_cnB k hts (fs_wsGood hk.1) rfl rfl rfl (hSt.2.1 _ hw) (hts _ hk.2.1) ⟨hk.2.2.1, hk.2.2.2.1, hk.2.2.2.2.1⟩ hrm, hts _ hv, trivial⟩ hpre rfl (by rw [List.length_map]; exact hlen) hll.1 rfl hwt2 hd hcl2
/-- a constructor -/
theorem a_invokeinit {idx k : Nat} {mc : fs_D} {dc : Nat} {zc : fs_Z} {o : Int} {q : Nat ⊕ (Nat × Nat)} (as rest : List fs_V) (hd : decode md.2.1 pc = .ok (.invokespecial idx, 3)) (hl : fs_ML md.1.cls idx mc.1) (hk : fs_MK mc k) (hv : Cond.instanceMethod mc.1 ∈ fs_B) (hnm : mc.1.name = "<init>") (hret : mc.2.2.2 = none) (ho : 0 ≤ o ∧ fs_kinds[o.toNat]? = some q) (hlen : as.length = k) (hz : fs_zok d dc z zc y) (hst : as.reverse ++ fs_r o :: rest = st) (hwt : fs_wt rest ≤ 8)
    (h : fs_Call g mc dc zc (fs_r o :: as) M (fun v M1 => fs_At g md d z (zc.2.2.1, y.2.1 + zc.2.2.2.1, y.2.2 + zc.2.2.2.2) (pc + 3) ls (v.toList ++ rest) M1 K)) : fs_At g md d z y pc ls st M K := by
  subst hst
  intro p e R s m args below meth c C H locs lc hll hR hS hI hlo hok
  refine fs_hsz (fun hsz => ?_)
  have hokr : fs_oks rest := fun w hw => hok w (List.mem_append.mpr (Or.inr (List.mem_cons_of_mem _ hw)))
  have hM := h (by rw [hz.2.1]; exact hI) (fun w hw => by
    rcases List.mem_cons.mp hw with rfl | hw
    · exact hok _ (List.mem_append.mpr (Or.inr List.mem_cons_self))
    · exact hok _ (List.mem_append.mpr (Or.inl (List.mem_reverse.mpr hw))))
  have hts : ∀ w ∈ fs_B, w.before args s = true := C.2.2.2.2.2.2.1
  have hSt := C.2.2.2.2.2.2.2.1
  have hroom := C.2.2.2.2.2.2.2.2.1
  have e0 := fs_e_in (g := g) ho.1 ho.2
  rw [List.map_append, List.map_cons, List.map_reverse, e0]
  rw [List.map_cons, e0] at hM
  have hrm : (fs_rm dc zc.2.2.2.1 zc.2.2.2.2).frames + 1 ≤ R.frames ∧ 8 + (mc.2.2.1 + 11) + (fs_rm dc zc.2.2.2.1 zc.2.2.2.2).locals ≤ R.locals := by
    have h1 := hz.1
    have h2 := hk.2.2.2.2.2
    have h3 := hroom.1
    have h4 := hroom.2.1
    show dc + 1 ≤ R.frames ∧ 8 + (mc.2.2.1 + 11) + 64 * dc ≤ R.locals
    omega
  have hpre : PreS s H (va_Pc (Value.ref (g_sz g + o.toNat) :: as.map (fs_e g)) (fun U => fs_R g zc.1 zc.2.1 M U.heap ∧ fs_S g U)) (Value.ref (g_sz g + o.toNat) :: as.map (fs_e g)) :=
    ⟨fs_blind, fs_pre hSt hS hR hz.2.2.1 (fun q => fs_sz1 hSt hS hR hsz (by rw [← hz.2.1]; exact q))⟩
  have hcl2 : y.2.1 + zc.2.2.2.1 ≤ R.cells ∧ y.2.2 + zc.2.2.2.2 ≤ R.slots := ⟨Nat.le_trans hz.2.2.2.1 hroom.2.2.1, Nat.le_trans hz.2.2.2.2.1 hroom.2.2.2⟩
  have hwt2 : 2 * (F0 m pc lc ((as.map (fs_e g)).reverse ++ Value.ref (g_sz g + o.toNat) :: rest.map (fs_e g))).monitorRoom + ((rest.map (fs_e g)).map fun v => v.category).sum ≤ 8 := lv_room (by rw [fs_wt_eq]; exact hwt)
  have hws : fs_ws mc = Cond.code mc.1 mc.2.1 mc.2.2.1 none :: fs_B := by
    unfold fs_ws
    rw [hret]
  refine fs_kk (rest := rest) C hz hll hR hS hlo hokr (a := (Value.ref (g_sz g + o.toNat) :: as.map (fs_e g)).toArray) ?_
  rcases hl with hw | ⟨host, hw⟩
  · exact va_runI (Ts := fs_B) (own := md.1.cls) (nL := md.2.2.1) (n := k) (As := as.map (fs_e g)) (rest := rest.map (fs_e g)) ⟨C.1, C.2.1, C.2.2.1, C.2.2.2.2.2.1, hts⟩ hM (cwI k hts (fs_wsGood hk.1) hws rfl rfl (hts _ hk.2.1) (hts _ hw) (hts _ hv) hnm ⟨hk.2.2.1, hk.2.2.2.1, hk.2.2.2.2.1⟩ hrm) hpre rfl (by rw [List.length_map]; exact hlen) hll.1 rfl hwt2 hd hcl2
  · exact va_runIN (Ts := fs_B) (own := md.1.cls) (nL := md.2.2.1) (n := k) (As := as.map (fs_e g)) (rest := rest.map (fs_e g)) ⟨C.1, C.2.1, C.2.2.1, C.2.2.2.2.2.1, hts⟩ hM ⟨va_cnB k hts (fs_wsGood hk.1) hws rfl rfl (hSt.2.1 _ hw) (hts _ hk.2.1) ⟨hk.2.2.1, hk.2.2.2.1, hk.2.2.2.2.1⟩ hrm, hnm, hts _ hv⟩ hpre rfl (by rw [List.length_map]; exact hlen) hll.1 rfl hwt2 hd hcl2
end CALL
