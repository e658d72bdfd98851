-- ===== the second phase: all cells are there, nothing is made =====
abbrev fs_Z2 : fs_Z := (2, 271, 271, 0, 0)
abbrev fs_A2 (g : fs_G) (md : fs_D) (d pc : Nat) (ls : List (Nat × fs_V)) (st : List fs_V) (M : fs_M) (K : fs_K) : Prop := fs_At g md d fs_Z2 (271, 0, 0) pc ls st M K
abbrev fs_C2 (g : fs_G) (md : fs_D) (d : Nat) (args : List fs_V) (M : fs_M) (K : fs_K) : Prop := fs_Call g md d fs_Z2 args M K
theorem fs_n2 {o : Int} {q : Nat ⊕ (Nat × Nat)} (h : fs_kinds[o.toNat]? = some q) : o.toNat < 271 := by
  have h1 := (List.getElem?_eq_some_iff.mp h).1
  rw [fs_klen] at h1
  exact h1
theorem fs_Q.mono {g : fs_G} {ph n : Nat} {K K' : fs_K} (hK : ∀ v M, K v M → K' v M) {a : Array Value} {s t : State} {o : Outcome} (h : fs_Q g ph n K a s o t) : fs_Q g ph n K' a s o t := by
  obtain ⟨⟨v, M', h1, h2, h3⟩, h4⟩ := h
  exact ⟨⟨v, M', h1, hK v M' h2, h3⟩, h4⟩
theorem fs_Met_mono {l : Launch} {y : MethodName} {ws : List Cond} {rm : Room} {Pc : Array Value → State → Prop} {Qc Qc' : Array Value → State → Outcome → State → Prop} {mc ms : Nat} {free : Addr → Prop} (h : Met l y ws rm Pc Qc mc ms free) (hQ : ∀ a s o t, Qc a s o t → Qc' a s o t) : Met l y ws rm Pc Qc' mc ms free := by
  intro p e a1 a2 a3 s m args below a4 a5 a6 a7
  obtain ⟨k, o, h1, h2, h3, h4, h5⟩ := h p e a1 a2 a3 s m args below a4 a5 a6 a7
  exact ⟨k, o, h1, h2, h3, hQ _ _ _ _ h4, h5⟩
theorem fs_Call.mono {g : fs_G} {md : fs_D} {d : Nat} {z : fs_Z} {args : List fs_V} {M : fs_M} {K K' : fs_K} (hK : ∀ v M, K v M → K' v M) (h : fs_Call g md d z args M K) : fs_Call g md d z args M K' :=
  fun hI hok => fs_Met_mono (h hI hok) (fun _ _ _ _ q => q.mono hK)
theorem fs_At.mono {g : fs_G} {md : fs_D} {d : Nat} {z : fs_Z} {y : Nat × Nat × Nat} {pc : Nat} {ls : List (Nat × fs_V)} {st : List fs_V} {M : fs_M} {K K' : fs_K} (hK : ∀ v M, K v M → K' v M) (h : fs_At g md d z y pc ls st M K) : fs_At g md d z y pc ls st M K' := by
  intro p e R s m args below meth c C H locs lc hl hR hS hI hlo hok T hT X
  obtain ⟨t, a1, o, b1, b2, b3, b4⟩ := h p e R s m args below meth c C H locs lc hl hR hS hI hlo hok T hT X
  exact ⟨t, a1, o, b1, b2, b3.mono hK, b4⟩
theorem fs_zok2 {d dc : Nat} (h : dc + 1 ≤ d) : fs_zok d dc fs_Z2 fs_Z2 (271, 0, 0) := ⟨h, rfl, rfl, Nat.le_refl _, Nat.le_refl _, fun q => by cases q⟩
section TWO
variable {g : fs_G} {md : fs_D} {d : Nat} {pc : Nat} {ls : List (Nat × fs_V)} {st : List fs_V} {M : fs_M} {K : fs_K}
theorem b_getfield {idx ci k : Nat} {fin : Bool} {o : Int} {v : fs_V} (hd : decode md.2.1 pc = .ok (.getfield idx, 3)) (hf : fs_FL md.1.cls idx ci k fin) (ho : fs_isO ci o) (hv : fs_fv (fs_ft ci k) (M o k) = v) (kk : fs_A2 g md d (pc + 3) ls (v :: st) M K) : fs_A2 g md d pc ls (fs_r o :: st) M K := a_getfield hd hf ho (fs_n2 ho.2) hv kk
theorem b_getptr {idx ci k : Nat} {fin : Bool} {o off q : Int} (hd : decode md.2.1 pc = .ok (.getfield idx, 3)) (hf : fs_FL md.1.cls idx ci k fin) (ho : fs_isO ci o) (hp : fs_ptr ci k = some off) (hq : o + off = q) (hv : fs_fv (fs_ft ci k) q = fs_r q) (kk : fs_A2 g md d (pc + 3) ls (fs_r q :: st) M K) : fs_A2 g md d pc ls (fs_r o :: st) M K := a_getptr hd hf rfl ho (fs_n2 ho.2) hp hq hv kk
theorem b_putfield {idx ci k : Nat} {o x : Int} {v : fs_V} (hd : decode md.2.1 pc = .ok (.putfield idx, 3)) (hf : fs_FL md.1.cls idx ci k false) (ho : fs_isO ci o) (hv : fs_fv (fs_ft ci k) x = v) (hp : fs_ptr ci k = none) (hnar : narrow (fs_ft ci k) (fs_f g (fs_ft ci k) x) = fs_f g (fs_ft ci k) x ∧ fits (fs_ft ci k) (fs_f g (fs_ft ci k) x) = true)
    (kk : fs_A2 g md d (pc + 3) ls st (fs_st M o k x) K) : fs_A2 g md d pc ls (v :: fs_r o :: st) M K := a_putfield hd hf ho (fs_n2 ho.2) hv hp hnar kk
theorem b_iaload {n : Nat} {o i v : Int} (hd : decode md.2.1 pc = .ok (.iaload, 1)) (ho : fs_isA 0 n o) (h0 : 0 ≤ i) (h1 : i < n) (hv : M o i = v) (kk : fs_A2 g md d (pc + 1) ls (fs_i v :: st) M K) : fs_A2 g md d pc ls (fs_i i :: fs_r o :: st) M K := a_iaload hd ho (fs_n2 ho.2) h0 h1 (by rw [hv]; exact kk)
theorem b_baload {n : Nat} {o i v : Int} (hd : decode md.2.1 pc = .ok (.baload, 1)) (ho : fs_isA 1 n o) (h0 : 0 ≤ i) (h1 : i < n) (hv : M o i = v) (kk : fs_A2 g md d (pc + 1) ls (fs_i v :: st) M K) : fs_A2 g md d pc ls (fs_i i :: fs_r o :: st) M K := a_baload hd ho (fs_n2 ho.2) h0 h1 (by rw [hv]; exact kk)
theorem b_laload {n : Nat} {o i v : Int} (hd : decode md.2.1 pc = .ok (.laload, 1)) (ho : fs_isA 2 n o) (h0 : 0 ≤ i) (h1 : i < n) (hv : M o i = v) (kk : fs_A2 g md d (pc + 1) ls (fs_l v :: st) M K) : fs_A2 g md d pc ls (fs_i i :: fs_r o :: st) M K := a_laload hd ho (fs_n2 ho.2) h0 h1 (by rw [hv]; exact kk)
theorem b_aaload {ty n : Nat} {o i v : Int} (hd : decode md.2.1 pc = .ok (.aaload, 1)) (ho : fs_isA ty n o) (hty : 3 ≤ ty ∧ ty < 8) (h0 : 0 ≤ i) (h1 : i < n) (hv : M o i = v) (kk : fs_A2 g md d (pc + 1) ls (fs_r v :: st) M K) : fs_A2 g md d pc ls (fs_i i :: fs_r o :: st) M K := a_aaload hd ho hty (fs_n2 ho.2) h0 h1 (by rw [hv]; exact kk)
theorem b_aaptr {ty n : Nat} {o i q : Int} (hd : decode md.2.1 pc = .ok (.aaload, 1)) (ho : fs_isA ty n o) (hty : 3 ≤ ty ∧ ty ≤ 6) (h0 : 0 ≤ i) (h1 : i < n) (hq : o + (fs_pA o).1 + (fs_pA o).2 * i = q) (kk : fs_A2 g md d (pc + 1) ls (fs_r q :: st) M K) : fs_A2 g md d pc ls (fs_i i :: fs_r o :: st) M K := a_aaptr hd rfl ho hty (fs_n2 ho.2) h0 h1 hq kk
theorem b_arraylength {ty n : Nat} {o : Int} (hd : decode md.2.1 pc = .ok (.arraylength, 1)) (ho : fs_isA ty n o) (hty : ty < 8) (hN : n < 2147483648) (kk : fs_A2 g md d (pc + 1) ls (fs_i n :: st) M K) : fs_A2 g md d pc ls (fs_r o :: st) M K := a_arraylength hd ho hty (fs_n2 ho.2) hN kk
theorem b_iastore {n : Nat} {o i x : Int} (hd : decode md.2.1 pc = .ok (.iastore, 1)) (ho : fs_isA 0 n o) (h0 : 0 ≤ i) (h1 : i < n) (kk : fs_A2 g md d (pc + 1) ls st (fs_st M o i x) K) : fs_A2 g md d pc ls (fs_i x :: fs_i i :: fs_r o :: st) M K := a_iastore hd ho (fs_n2 ho.2) h0 h1 kk
theorem b_bastore {n : Nat} {o i x : Int} (hd : decode md.2.1 pc = .ok (.bastore, 1)) (ho : fs_isA 1 n o) (h0 : 0 ≤ i) (h1 : i < n) (hx : x = 0 ∨ x = 1) (kk : fs_A2 g md d (pc + 1) ls st (fs_st M o i x) K) : fs_A2 g md d pc ls (fs_i x :: fs_i i :: fs_r o :: st) M K := a_bastore hd ho (fs_n2 ho.2) h0 h1 hx kk
theorem b_lastore {n : Nat} {o i x : Int} (hd : decode md.2.1 pc = .ok (.lastore, 1)) (ho : fs_isA 2 n o) (h0 : 0 ≤ i) (h1 : i < n) (kk : fs_A2 g md d (pc + 1) ls st (fs_st M o i x) K) : fs_A2 g md d pc ls (fs_l x :: fs_i i :: fs_r o :: st) M K := a_lastore hd ho (fs_n2 ho.2) h0 h1 kk
theorem b_virtual {idx ci k : Nat} {mc : fs_D} {dc : Nat} {o : Int} {T : u_T} {N : Nat} (as rest : List fs_V) (hd : decode md.2.1 pc = .ok (.invokevirtual idx, 3)) (hl : fs_ML md.1.cls idx mc.1) (hk : fs_MK mc k) (hv : fs_MV mc) (hcl : fs_cl[ci]? = some (mc.1.cls, T, N)) (ho : fs_isO ci o) (hlen : as.length = k) (hz : dc + 1 ≤ d) (hst : as.reverse ++ fs_r o :: rest = st) (hwt : fs_wt rest ≤ 8)
    (h : fs_C2 g mc dc (fs_r o :: as) M (fun v M1 => fs_A2 g md d (pc + 3) ls (v.toList ++ rest) M1 K)) : fs_A2 g md d pc ls st M K := a_invokevirtual as rest hd hl hk hv hcl ho (fs_n2 ho.2) hlen (fs_zok2 hz) hst hwt h
theorem b_static {idx k : Nat} {mc : fs_D} {dc : Nat} (as rest : List fs_V) (hd : decode md.2.1 pc = .ok (.invokestatic idx, 3)) (hl : fs_ML md.1.cls idx mc.1) (hk : fs_MK mc k) (hv : Cond.static mc.1 ∈ fs_B) (hlen : as.length = k) (hz : dc + 1 ≤ d) (hst : as.reverse ++ rest = st) (hwt : fs_wt rest ≤ 8)
    (h : fs_C2 g mc dc as M (fun v M1 => fs_A2 g md d (pc + 3) ls (v.toList ++ rest) M1 K)) : fs_A2 g md d pc ls st M K := a_invokestatic as rest hd hl hk hv hlen (fs_zok2 hz) hst hwt h
theorem b_so {idx k : Nat} {mc : fs_D} {dc : Nat} {o : Int} {C0 : String} {x : MethodName} (as rest : List fs_V) (hd : decode md.2.1 pc = .ok (.invokevirtual idx, 3)) (hl : Cond.methodLink md.1.cls idx x ∈ fs_B) (hx : Cond.sameMethod x.cls mc.1.cls x.name x.desc ∈ fs_B ∧ Cond.selects C0 x mc.1 ∈ fs_B ∧ mc.1 = ⟨mc.1.cls, x.name, x.desc⟩) (hk : fs_MK mc k) (hv : Cond.instanceMethod mc.1 ∈ fs_B) (ho : 1000 ≤ o) (hO : ∀ (s : State) (H : Heap), fs_ST g s H → va_O C0 (g_so g o) (fs_A g) s H) (hlen : as.length = k) (hz : dc + 1 ≤ d) (hst : as.reverse ++ fs_r o :: rest = st) (hwt : fs_wt rest ≤ 8)
    (h : fs_C2 g mc dc (fs_r o :: as) M (fun v M1 => fs_A2 g md d (pc + 3) ls (v.toList ++ rest) M1 K)) : fs_A2 g md d pc ls st M K := a_invokeso as rest hd hl hx hk hv ho hO hlen (fs_zok2 hz) hst hwt h
theorem b_arraycopy {idx n0 n1 : Nat} {a b sp dp n : Int} (hd : decode md.2.1 pc = .ok (.invokestatic idx, 3)) (hw : Cond.methodLink md.1.cls idx arraycopyName ∈ fs_B ∧ Cond.native arraycopyName ∈ fs_B ∧ Cond.static arraycopyName ∈ fs_B ∧ Cond.initialized "java/lang/System" ∈ fs_B) (ha : fs_isA 0 n0 a) (hb : fs_isA 0 n1 b) (h1 : 0 ≤ sp) (h2 : 0 ≤ dp) (h3 : 0 ≤ n) (h4 : sp + n ≤ n0) (h5 : dp + n ≤ n1) (hdd : 1 ≤ d) (hwt : fs_wt st ≤ 8)
    (kk : fs_A2 g md d (pc + 3) ls st (fs_cpy M a sp b dp n) K) : fs_A2 g md d pc ls (fs_i n :: fs_i dp :: fs_r b :: fs_i sp :: fs_r a :: st) M K := a_arraycopy hd hw ha hb (fs_n2 ha.2) (fs_n2 hb.2) h1 h2 h3 h4 h5 hdd hwt kk
theorem b_ireturn {x : Int} {ty : FieldType} (hd : decode md.2.1 pc = .ok (.ireturn, 1)) (hr : md.2.2.2 = some ty) (hn : narrow ty (.int (Int32.ofInt x)) = .int (Int32.ofInt x)) (hK : K (some (fs_i x)) M) : fs_A2 g md d pc ls [fs_i x] M K := a_ireturn hd hr hn ⟨rfl, Nat.le_refl _, Nat.le_refl _⟩ hK
theorem b_lreturn {x : Int} (hd : decode md.2.1 pc = .ok (.lreturn, 1)) (hr : md.2.2.2 = some .long) (hK : K (some (fs_l x)) M) : fs_A2 g md d pc ls [fs_l x] M K := a_lreturn hd hr ⟨rfl, Nat.le_refl _, Nat.le_refl _⟩ hK
theorem b_return (hd : decode md.2.1 pc = .ok (.return_, 1)) (hr : md.2.2.2 = none) (hK : K none M) : fs_A2 g md d pc ls [] M K := a_return hd hr ⟨rfl, Nat.le_refl _, Nat.le_refl _⟩ hK
theorem b_enter {args : List fs_V} (hpl : plainFor md.1 = true) (hsz : (lg_sl (args.map (fs_e g))).length ≤ md.2.2.1) (hls : lv_args 0 (args.map (fs_e g)) = fs_lv g ls) (hmem : ∀ q ∈ ls, q.2 ∈ args) (h : fs_A2 g md d 0 ls [] M K) : fs_C2 g md d args M K := fs_enter hpl hsz hls hmem h
theorem fs_nar01 {x : Int} (h : x = 0 ∨ x = 1) : narrow .boolean (.int (Int32.ofInt x)) = .int (Int32.ofInt x) := by
  rcases h with rfl | rfl <;> rfl
/-- what holds of all numbers, of the second phase's pointers, when wanted -/
theorem b_inv (k : fs_XI 2 M → fs_okl ls → fs_oks st → fs_A2 g md d pc ls st M K) : fs_A2 g md d pc ls st M K := a_inv k
theorem b_cinv {args : List fs_V} (k : fs_XI 2 M → fs_oks args → fs_C2 g md d args M K) : fs_C2 g md d args M K := fun hI hok => k hI hok hI hok
end TWO
