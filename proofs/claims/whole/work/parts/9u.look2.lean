-- ===== by hand: look of the model; the law's look, which catches; its call =====
section LOOK2
variable {g : fs_G}
theorem om_look {M : fs_M} {K : fs_K} {a b : Int} (h : fs_Rl M) (hK : K (some (fs_i (if fs_lkx M a b = 0 then fs_lkv M a b else 0))) (fs_st M 226 0 (fs_lkx M a b))) : fs_C2 g m_Mo_look 2 [fs_r 226, fs_i a, fs_i b] M K := by
  obtain ⟨b0, b1, -⟩ := h.1
  obtain ⟨r0, r1, r2, -⟩ := h.2.1
  have hown := h.2.2.1
  have hn := h.2.2.2.1.2.2.2
  have hrp : fs_rp M 31 0 := h.2.2.2.2.1.2.2.2.2.2.1
  refine E_Mo_look (sp_mHouse r0 (fun n => ?_) (fun n => ?_))
  · have e : fs_lkx M a b = 1 := by unfold fs_lkx; rw [if_neg n]
    rw [e] at hK
    exact ⟨0, rfl, fun w => absurd rfl w, fun _ => L_Mo_look_27 ⟨fun z => absurd z (by decide), fun _ => hK⟩⟩
  · have k2 : ¬ (0 ≤ b ∧ b ≤ 5) → fs_A2 g m_Mo_look 2 27 [(0, fs_r 226), (1, fs_i a), (2, fs_i b)] [fs_i 2, fs_r 226] M K := fun nb => by
      have e : fs_lkx M a b = 2 := by unfold fs_lkx; rw [if_pos n, if_neg nb]
      rw [e] at hK
      exact L_Mo_look_27 ⟨fun z => absurd z (by decide), fun _ => hK⟩
    refine ⟨1, rfl, fun _ => ⟨fun lt => k2 (by omega), fun ge => ⟨fun le => ?_, fun gt => k2 (by omega)⟩⟩, fun w => absurd w (by decide)⟩
    have e : fs_lkx M a b = 0 := by unfold fs_lkx; rw [if_pos n, if_pos (by omega)]
    rw [e, if_pos rfl] at hK
    obtain ⟨q3, q4, q5⟩ := r2 a n.1 n.2
    have lt12 : a < 12 := by omega
    refine L_Mo_look_27 ⟨fun _ => ⟨fun z => ⟨n.1, lt12, ?_⟩, fun z => ⟨n.1, lt12, ?_⟩, fun z => ⟨n.1, lt12, ?_⟩, fun z => ⟨n.1, lt12, fun w => ?_, fun w => ?_⟩, fun z => ?_, fun z => ?_⟩, fun w => absurd rfl w⟩
    · subst z
      rw [q3]
      exact hK
    · subst z
      rw [q4]
      exact hK
    · subst z
      rw [q5]
      exact hK
    · subst z
      have e3 : fs_lkv M a 3 = 0 := (hown a n.1 n.2).mp w
      rw [e3] at hK
      exact hK
    · subst z
      have e3 : fs_lkv M a 3 = 1 := by
        have h01 := fs_bit01 (M 1 4) a
        have h9 : ¬ fs_bit (M 1 4) a = 0 := fun q => w ((hown a n.1 n.2).mpr q)
        show fs_bit (M 1 4) a = 1
        omega
      rw [e3] at hK
      exact hK
    · subst z
      have e4 : M 31 2 = M 243 0 := hrp.1
      rw [← e4]
      exact hK
    · obtain rfl : b = 5 := by omega
      have e4 : M 31 3 = M 244 0 := hrp.2.1
      rw [← e4]
      exact hK
end LOOK2
section CALLX
variable {g : fs_G} {md : fs_D} {d : Nat} {z : fs_Z} {y : Nat × Nat × Nat} {pc : Nat} {ls : List (Nat × fs_V)} {st : List fs_V} {M : fs_M} {PX : Code → Prop} {Q : List Frame → Array Value → State → State → Prop}
theorem fs_callgoX {p : Program} {e : Env} {R : Room} {s : State} {m : MethodId} {args : Array Value} {below : List Frame} {meth : Method} {c : Code} {H : Heap} {locs : List Loc} {cells slots mc ms n1 : Nat} {Q : State → Prop} {lc : Array Slot} {st0 rest : List Value} {a : Array Value} {Kc : fs_K} {KX : String → Prop}
    (hr : vx_Run p (g_l g) e R s m args below meth c H locs cells slots mc ms (F0 m pc lc st0) rest (fs_Q g 2 n1 Kc a) (fs_XC g n1 M KX) (fs_A g)) (hS : va_S (fs_A g) s.heap H locs)
    (kk : ∀ (v : Option fs_V) (M1 : fs_M) (H1 : Heap) (locs1 : List Loc), Kc v M1 → fs_R g 2 n1 M1 H1 → fs_XI 2 M1 → (∀ w, v = some w → fs_ok w) → va_S (fs_A g) s.heap H1 locs1 → W p (g_l g) e R s m args below meth c H1 locs1 (cells + mc) (slots + ms) Q (F0 m (pc + 3) lc ((v.map (fs_e g)).toList ++ rest)))
    (kx : ∀ (E : String) (H1 : Heap) (locs1 : List Loc) (q : Addr) (ce : Cell), KX E → fs_R g 2 n1 M H1 → va_S (fs_A g) s.heap H1 locs1 → H1[q]? = some ce → ce.vm = .none → s.vm.findClass E = some ce.cls → vx_W p (g_l g) e R s m args below meth c H1 locs1 (cells + mc) (slots + ms) Q (F0 m pc lc rest) q) :
    W p (g_l g) e R s m args below meth c H locs cells slots Q (F0 m pc lc st0) := by
  intro T hT X
  have keep : ∀ (st₀ t T' : State) (L : List Loc), st₀.heap = H → T'.heap = t.heap → (∀ q ∈ L, fs_A g q.base) → va_F (fs_A g) st₀ t → va_S (fs_A g) s.heap T'.heap (locs ++ L) := by
    intro st₀ t T' L h0 e1 hL hF
    obtain ⟨hz, hk⟩ := hF
    rw [h0] at hz hk
    exact ⟨Nat.le_trans hS.1 (by rw [e1]; exact hz), fun q h1 h2 => by rw [e1, hk q (Nat.lt_of_lt_of_le h1 hS.1) h2]; exact hS.2.1 q h1 h2, fun q hq => by
      rcases List.mem_append.mp hq with h | h
      · exact hS.2.2 q h
      · exact hL q h⟩
  rcases hr T hT X with ⟨v, st₀, t, T', L, h0, X', hL, e1, e2, ⟨⟨w, M1, hv, hp, hR1, hI1, hok1⟩, hF⟩, st⟩ | ⟨q, st₀, t, T', L, E, ce, h0, X', hL, e1, e2, ⟨hKE, hR1, hF⟩, hce, hcv, hcl, st⟩
  · have hv2 : v = w.map (fs_e g) := by
      injection hv
    subst hv2
    obtain ⟨t2, a1, b1⟩ := kk w M1 T'.heap (locs ++ L) hp (by rw [e1]; exact hR1) hI1 hok1 (keep st₀ t T' L h0 e1 hL hF) T' rfl X'
    exact ⟨t2, st t2 a1, b1⟩
  · obtain ⟨t2, a1, b1⟩ := kx E T'.heap (locs ++ L) q ce hKE (by rw [e1]; exact hR1) (keep st₀ t T' L h0 e1 hL hF) (by rw [e1]; exact hce) hcv hcl T' rfl X'
    exact ⟨t2, st.trans a1, b1⟩
/-- a call that may throw -/
theorem g_virtualX {idx ci k : Nat} {mc : fs_D} {dc : Nat} {o : Int} {T : u_T} {N : Nat} {KX : String → Prop} {Kc : fs_K} (as rest : List fs_V) (hd : decode md.2.1 pc = .ok (.invokevirtual idx, 3)) (hl : Cond.methodLink md.1.cls idx mc.1 ∈ fs_B) (hk : fs_MK mc k) (hv : fs_MV mc) (hcl : fs_cl[ci]? = some (mc.1.cls, T, N)) (ho : fs_isO ci o) (hz : dc + 1 ≤ d ∧ z.1 = 2 ∧ y.1 = 271 ∧ y.2.1 + 1 ≤ z.2.2.2.1 ∧ y.2.2 + 6 ≤ z.2.2.2.2) (hlen : as.length = k) (hst : as.reverse ++ fs_r o :: rest = st) (hwt : fs_wt rest ≤ 8)
    (h : vx_Met (g_l g) mc.1 (fs_ws mc) (fs_rm dc 1 6) (va_Pc ((fs_r o :: as).map (fs_e g)) (fun U => fs_R g 2 271 M U.heap ∧ fs_S g U)) (fs_Q g 2 271 Kc) (fs_XC g 271 M KX) 1 6 (fs_A g))
    (kk : ∀ v M1, Kc v M1 → fs_Ag g md d z (271, y.2.1 + 1, y.2.2 + 6) (pc + 3) ls (v.toList ++ rest) M1 PX Q)
    (kx : ∀ (E : String), KX E → ∀ (p : Program) (e : Env) (R : Room) (s : State) (m : MethodId) (args : Array Value) (below : List Frame) (meth : Method) (c : Code), fs_C g md d z p R s m args meth c → PX c → ∀ (H : Heap) (locs : List Loc) (lc : Array Slot) (q : Addr) (ce : Cell), lv_has lc md.2.2.1 (fs_lv g ls) → fs_R2 g z (271, y.2.1 + 1, y.2.2 + 6) s M H → va_S (fs_A g) s.heap H locs → H[q]? = some ce → ce.vm = .none → s.vm.findClass E = some ce.cls →
      vx_W p (g_l g) e R s m args below meth c H locs (y.2.1 + 1) (y.2.2 + 6) (Q below args s) (F0 m pc lc (rest.map (fs_e g))) q) : fs_Ag g md d z y pc ls st M PX Q := by
  subst hst
  intro p e R s m args below meth c C hPX H locs lc hll hR hS hI hlo hok
  have hokr : fs_oks rest := fun w hw => hok w (List.mem_append.mpr (Or.inr (List.mem_cons_of_mem _ hw)))
  have hts : ∀ w ∈ fs_B, w.before args s = true := C.2.2.2.2.2.2.1
  have hSt := C.2.2.2.2.2.2.2.1
  have hroom := C.2.2.2.2.2.2.2.2.1
  have e0 := fs_e_in (g := g) ho.1 ho.2
  rw [List.map_append, List.map_cons, List.map_reverse, e0]
  rw [List.map_cons, e0] at h
  have hrm : (fs_rm dc 1 6).frames + 1 ≤ R.frames ∧ 8 + (mc.2.2.1 + 11) + (fs_rm dc 1 6).locals ≤ R.locals := by
    have h1 := hz.1
    have h2 := hk.2.2.2.2.2
    have h3 := hroom.1
    have h4 := hroom.2.1
    show dc + 1 ≤ R.frames ∧ 8 + (mc.2.2.1 + 11) + 64 * dc ≤ R.locals
    omega
  have hpre : PreV s H mc.1.cls (g_sz g + o.toNat) (va_Pc (Value.ref (g_sz g + o.toNat) :: as.map (fs_e g)) (fun U => fs_R g 2 271 M U.heap ∧ fs_S g U)) (as.map (fs_e g)) := by
    refine ⟨fs_blind, va_recv hSt.1 hR.1 hcl (fs_W_O ho (by rw [hz.2.2.1]; exact fs_n2 ho.2)), ?_⟩
    exact fs_pre (z := z) (zc := fs_Z2) hSt hS hR hz.2.2.1.symm (fun q => by cases q)
  have hcl2 : y.2.1 + 1 ≤ R.cells ∧ y.2.2 + 6 ≤ R.slots := ⟨Nat.le_trans hz.2.2.2.1 hroom.2.2.1, Nat.le_trans hz.2.2.2.2 hroom.2.2.2⟩
  have hwt2 : 2 * (F0 m pc lc ((as.map (fs_e g)).reverse ++ Value.ref (g_sz g + o.toNat) :: rest.map (fs_e g))).monitorRoom + ((rest.map (fs_e g)).map fun v => v.category).sum ≤ 8 := lv_room (by rw [fs_wt_eq]; exact hwt)
  refine fs_callgoX (mc := 1) (ms := 6) (n1 := 271) (Kc := Kc) (KX := KX) (M := M) (a := (Value.ref (g_sz g + o.toNat) :: as.map (fs_e g)).toArray) (rest := rest.map (fs_e g)) ?_ hS (fun v M1 H1 locs1 hp hR1 hI1 hok1 hS1 => ?_) (fun E H1 locs1 q ce hKE hR1 hS1 hce hcv hcl9 => ?_)
  · refine vx_runV (Ts := fs_B) (own := md.1.cls) (C := mc.1.cls) (nL := md.2.2.1) (n := k) (As := as.map (fs_e g)) (rest := rest.map (fs_e g)) ⟨C.1, C.2.1, C.2.2.1, C.2.2.2.2.2.1, hts⟩ h (cwV k hts ?_ rfl rfl rfl ⟨rfl, hk.2.2.1, hk.2.2.2.1, hk.2.2.2.2.1⟩ hrm) hpre rfl (by rw [List.length_map]; exact hlen) hll.1 rfl hwt2 hd hcl2
    intro w hw2
    unfold wsV at hw2
    rcases List.mem_append.mp hw2 with h1 | h1
    · have hmem : w ∈ fs_B := by
        rcases List.mem_cons.mp h1 with rfl | h1
        · exact hl
        rcases List.mem_cons.mp h1 with rfl | h1
        · exact hv.1
        rcases List.mem_cons.mp h1 with rfl | h1
        · exact hv.2
        rcases List.mem_cons.mp h1 with rfl | h1
        · exact hk.2.1
        · cases h1
      exact ⟨hmem, fs_goodB hmem⟩
    · exact fs_wsGood hk.1 w h1
  · have h9 := kk v M1 hp p e R s m args below meth c C hPX H1 locs1 lc hll ⟨hR1.1, fun q => absurd (hz.2.1.symm.trans q) (by decide)⟩ hS1 (by rw [hz.2.1]; exact hI1) hlo (by
      cases v with
      | none => exact hokr
      | some w => exact hokr.c (hok1 w rfl))
    rw [List.map_append] at h9
    cases v with
    | none => exact h9
    | some w => exact h9
  · exact kx E hKE p e R s m args below meth c C hPX H1 locs1 lc q ce hll ⟨hR1.1, fun q => absurd (hz.2.1.symm.trans q) (by decide)⟩ hS1 hce hcv hcl9
theorem fs_Met_ofX {l : Launch} {y : MethodName} {ws : List Cond} {rm : Room} {Pc : Array Value → State → Prop} {Qc : Array Value → State → Outcome → State → Prop} {mc ms : Nat} {free : Addr → Prop} (h : vx_Met l y ws rm Pc Qc (fun _ _ _ => False) mc ms free) : Met l y ws rm Pc Qc mc ms free := by
  intro p e a1 a2 a3 s m args below a4 a5 a6 a7
  obtain ⟨k, o, h1, h2, h3, h4⟩ := h p e a1 a2 a3 s m args below a4 a5 a6 a7
  rcases h4 with h4 | ⟨q, -, E, ce, L, hx, -⟩
  · exact ⟨k, o, h1, h2, h3, h4⟩
  · exact hx.elim
theorem g_enterH {args : List fs_V} {K : fs_K} {hh : List (Nat × Nat × Nat × Nat)} (hpl : plainName md.1.cls = true) (hsz : fs_wt args ≤ md.2.2.1) (hls : fs_args 0 args = ls) (hI : fs_XI z.1 M) (hok : fs_oks args)
    (h : fs_Ag g md d z (z.2.1, 0, 0) 0 ls [] M (fun c => c.exceptionTable.toList = tableOf hh) (fun below args s => vx_MQ below (fs_Q g z.1 z.2.2.1 K) (fun _ _ _ => False) args s z.2.2.2.1 z.2.2.2.2 (fs_A g))) :
    Met (g_l g) md.1 (Cond.codeWith md.1 md.2.1 md.2.2.1 md.2.2.2 hh :: fs_B) (fs_rm d z.2.2.2.1 z.2.2.2.2) (va_Pc (args.map (fs_e g)) (fun U => fs_R g z.1 z.2.1 M U.heap ∧ fs_S g U)) (fs_Q g z.1 z.2.2.1 K) z.2.2.2.1 z.2.2.2.2 (fs_A g) := by
  refine fs_Met_ofX (vx_ofWH (cc := md.2.1) (maxL := md.2.2.1) (ret := md.2.2.2) (hh := hh) hpl rfl ?_)
  intro p e s m a below meth c s₁ B hml hv
  obtain ⟨rfl, ⟨hP, hph⟩, hSt⟩ := hv
  have hts : ∀ w ∈ Cond.codeWith md.1 md.2.1 md.2.2.1 md.2.2.2 hh :: fs_B, w.before (args.map (fs_e g)).toArray s = true := atoms_spec B.pre
  have hown : s.vm.findClass md.1.cls = some m.cls := findClass_of_methodNamed B.named
  rw [lg_entry_eq]
  have hl := lv_entry (n := md.2.2.1) (args.map (fs_e g)) (by rw [fs_lgl]; exact hsz)
  rw [fs_args_lv, hls] at hl
  exact h p e _ s m _ below meth c ⟨B.exec, B.bytes, hml, B.returns, B.notSynchronized, hown, fun w hw => hts w (List.mem_cons_of_mem _ hw), hSt, ⟨Nat.le_refl _, Nat.le_refl _, Nat.le_refl _, Nat.le_refl _⟩, (name_of_methodNamed B.named B.method).1⟩ (vx_table (x := md.1) B (hts _ List.mem_cons_self)) s.heap [] _ hl ⟨hP, hph⟩ va_S.rf hI (fun q hq => hok _ (by rw [← hls] at hq; exact fs_args_mem args 0 q hq)) (fun v hv => by cases hv)
end CALLX
def fs_LH : List (Nat × Nat × Nat × Nat) := [(0, 10, 13, 13), (0, 10, 17, 15)]
def fs_lkM (M : fs_M) (a b : Int) : fs_M := if fs_lkx M a b = 0 then fs_st M 270 0 (fs_lkv M a b) else M
section LAWLOOK
variable {g : fs_G}
set_option maxHeartbeats 4000000 in
theorem sp_lawLook {M : fs_M} {K : fs_K} {a b : Int} (hI : fs_XI 2 M) (ha : fs_in32 a) (hb : fs_in32 b) (h5 : M 1 5 ≤ 6) (hK : K (some (fs_i (fs_lkx M a b))) (fs_lkM M a b)) :
    Met (g_l g) m_Law_look.1 (Cond.codeWith m_Law_look.1 m_Law_look.2.1 m_Law_look.2.2.1 m_Law_look.2.2.2 fs_LH :: fs_B) (fs_rm 22 1 6) (va_Pc ([fs_r 0, fs_i a, fs_i b, fs_r 270].map (fs_e g)) (fun U => fs_R g 2 271 M U.heap ∧ fs_S g U)) (fs_Q g 2 271 K) 1 6 (fs_A g) := by
  have hoks : fs_oks [fs_r 0, fs_i a, fs_i b, fs_r 270] := fun v hv => by
    simp only [List.mem_cons, List.not_mem_nil, or_false] at hv
    rcases hv with rfl | rfl | rfl | rfl
    · show fs_in32 0
      unfold fs_in32; omega
    · exact ha
    · exact hb
    · show fs_in32 270
      unfold fs_in32; omega
  refine g_enterH (z := fs_Z3) (ls := [(0, fs_r 0), (1, fs_i a), (2, fs_i b), (3, fs_r 270)]) pn_Law (Nat.le_of_ble_eq_true rfl) rfl hI hoks ?_
  refine g_aload_n (j := 3) d_Law_look_0 rfl rfl ?_
  refine g_iconst d_Law_look_1 (by unfold fs_in32; omega) ?_
  refine g_aload_n (j := 0) d_Law_look_2 rfl rfl ?_
  refine g_iload_n (j := 1) d_Law_look_3 rfl rfl ?_
  refine g_iload_n (j := 2) d_Law_look_4 rfl rfl ?_
  refine g_virtualX (dc := 20) (ci := 10) (T := fs_T10) (N := 17) (KX := fun E => (E = "java/lang/IndexOutOfBoundsException" ∧ fs_lkx M a b = 1) ∨ (E = "java/util/NoSuchElementException" ∧ fs_lkx M a b = 2)) (Kc := fun v M1 => fs_lkx M a b = 0 ∧ v = some (fs_i (fs_lkv M a b)) ∧ M1 = M) [fs_i a, fs_i b] [fs_i 0, fs_r 270] d_Law_look_5 (fs_inB 1313 (by decide +kernel) rfl) k_Fs_look v_Fs_look rfl io_0 ⟨by decide, rfl, rfl, by decide, by decide⟩ rfl rfl (Nat.le_of_ble_eq_true rfl)
    (sp_lookX hI ha hb h5 (fun q => Or.inl ⟨rfl, q⟩) (fun q => Or.inr ⟨rfl, q⟩) (fun q => ⟨q, rfl, rfl⟩)) (fun v M1 hv => ?_) (fun E hE p e R s m args below meth c C hPX H locs lc q ce hl hR hS hce hcv hcl => ?_)
  · obtain ⟨e0, rfl, rfl⟩ := hv
    have eM : fs_lkM M1 a b = fs_st M1 270 0 (fs_lkv M1 a b) := by
      unfold fs_lkM
      rw [if_pos e0]
    rw [eM, e0] at hK
    refine g_toX ?_
    show fs_At g m_Law_look 22 fs_Z3 (271, 1, 6) 8 [(0, fs_r 0), (1, fs_i a), (2, fs_i b), (3, fs_r 270)] [fs_i (fs_lkv M1 a b), fs_i 0, fs_r 270] M1 K
    refine a_i2l d_Law_look_8 ?_
    refine a_lastore d_Law_look_9 ia_270 (by decide) (by decide) (by decide) ?_
    refine a_goto (tgt := 21) d_Law_look_10 rfl ?_
    refine a_iconst d_Law_look_21 (by unfold fs_in32; omega) ?_
    exact a_ireturn d_Law_look_22 rfl rfl ⟨rfl, by decide, by decide⟩ hK
  · have hts : ∀ w ∈ fs_B, w.before args s = true := C.2.2.2.2.2.2.1
    have hSt := C.2.2.2.2.2.2.2.1
    have hEX := hSt.2.2.2.2
    have hl1 : (Cond.classLink "FirstSillLaw" 13 "java/lang/IndexOutOfBoundsException").before args s = true := hts _ (fs_inB 1311 (by decide +kernel) rfl)
    have hl2 : (Cond.classLink "FirstSillLaw" 15 "java/util/NoSuchElementException").before args s = true := hts _ (fs_inB 1312 (by decide +kernel) rfl)
    have fin : ∀ (k : Int) (pc0 : Nat), fs_lkx M a b = k → fs_lkM M a b = M → decode m_Law_look.2.1 pc0 = .ok (.astore 4, 2) → fs_At g m_Law_look 22 fs_Z3 (271, 1, 6) (pc0 + 2) [] [] M K → W p (g_l g) e R s m args below meth c H locs 1 6 (vx_MQ below (fs_Q g 2 271 K) (fun _ _ _ => False) args s 1 6 (fs_A g)) (F0 m pc0 lc [.ref q]) := by
      intro k pc0 hk hM hd hat
      refine lv_astore C.1 C.2.1 hd hl (by decide) rfl (fun lc' hl' => ?_)
      exact vx_ret (hat p e R s m args below meth c C H locs lc' ⟨hl'.1, hl'.2.1, fun x hx => by cases hx⟩ hR hS hI (fun x hx => by cases hx) (fun x hx => by cases hx))
    rcases hE with ⟨rfl, e1⟩ | ⟨rfl, e2⟩
    · have eM : fs_lkM M a b = M := by
        unfold fs_lkM
        rw [if_neg (by rw [e1]; decide)]
      rw [eM, e1] at hK
      refine vx_catch (own := "FirstSillLaw") (name := "java/lang/IndexOutOfBoundsException") C.2.2.2.2.2.1 [] _ _ (hPX.trans rfl) (fun x hx => by cases hx) rfl (by decide) hl1 (fs_EW_use (by simp [fs_EW]) (hEX.2.2.2 _ (by simp [fs_EW]))) hce hcv hcl (fin 1 13 e1 eM d_Law_look_13 ?_)
      refine a_iconst d_Law_look_15 (by unfold fs_in32; omega) ?_
      exact a_ireturn d_Law_look_16 rfl rfl ⟨rfl, by decide, by decide⟩ hK
    · have eM : fs_lkM M a b = M := by
        unfold fs_lkM
        rw [if_neg (by rw [e2]; decide)]
      rw [eM, e2] at hK
      refine vx_catch (own := "FirstSillLaw") (name := "java/util/NoSuchElementException") C.2.2.2.2.2.1 [_] _ _ (hPX.trans rfl) (fun x hx => ?_) rfl (by decide) hl2 (fs_EW_use (by simp [fs_EW]) (hEX.2.2.2 _ (by simp [fs_EW]))) hce hcv hcl (fin 2 17 e2 eM d_Law_look_17 ?_)
      · rw [List.mem_singleton] at hx
        subst hx
        exact Or.inr ⟨by decide, _, hl1, hEX.1⟩
      refine a_iconst d_Law_look_19 (by unfold fs_in32; omega) ?_
      exact a_ireturn d_Law_look_20 rfl rfl ⟨rfl, by decide, by decide⟩ hK
end LAWLOOK
