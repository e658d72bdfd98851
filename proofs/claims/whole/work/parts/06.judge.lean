-- ===== printed by program (wip/whole/gen05.py), then by hand: static things; the judgement =====
def fs_tokN : List String := ["HOUSE", "DARK", "SEED", "LAW", "BY", "OWN", "WALK", "STAY", "MAY", "CAT", "FAR", "GLASS", "MINUTE", "UP", "LEFT", "WORTH", "HOME", "NUMBER", "OR", "AND", "NOT", "LESS", "UP_TO", "LIKE", "UNLIKE", "FROM", "MORE", "PLUS", "MINUS", "TIMES", "PART", "OPEN", "CLOSE", "STOP", "NAME", "END", "BAD"]
def fs_tokL : List Int32 := [284871840, 135867392, 642945024, 404455424, 93323264, 527892480, 773204992, 658564096, 438075392, 102367232, 202964992, 247516768, 446125701, 721420288, 408113152, 788091136, 284595200, 0, 522190848, 48365568, 486146048, 0, 0, 0, 0, 0, 0, 0, 0, 0, 0, 0, 0, 0, 0, 0, 0]
def fs_tokV : List Int32 := [0, 0, 0, 0, 0, 0, 0, 0, 0, 0, 6, 6, 6, 6, 6, 6, 6, 6, 1, 2, 0, 3, 3, 3, 3, 3, 3, 4, 4, 5, 5, 0, 0, 0, 0, 0, 0]
def fs_tokO : List Int32 := [0, 1, 2, 3, 4, 5, 6, 7, 8, 9, 10, 11, 12, 13, 14, 15, 16, 17, 18, 19, 20, 21, 22, 23, 24, 25, 26, 27, 28, 29, 30, 31, 32, 33, 34, 35, 36]
def fs_tokF : List (String × String × String × List Int32) := [("FirstSill$Token", "letters", "I", fs_tokL), ("FirstSill$Token", "level", "I", fs_tokV), ("java/lang/Enum", "ordinal", "I", fs_tokO)]
def fs_smap : List Int32 := [0, 0, 0, 0, 0, 0, 1, 2, 3, 4, 5, 6, 7, 8, 9, 10, 11, 0, 12, 13, 0, 14, 15, 16, 17, 18, 19, 20, 21, 22, 23, 0, 0, 0, 0, 0, 0]
def fs_wtx : String := "house dark seed law by own walk stay may cat or and not far glass minute up left worth home "
def fs_wby : List Int32 := [104, 111, 117, 115, 101, 32, 100, 97, 114, 107, 32, 115, 101, 101, 100, 32, 108, 97, 119, 32, 98, 121, 32, 111, 119, 110, 32, 119, 97, 108, 107, 32, 115, 116, 97, 121, 32, 109, 97, 121, 32, 99, 97, 116, 32, 111, 114, 32, 97, 110, 100, 32, 110, 111, 116, 32, 102, 97, 114, 32, 103, 108, 97, 115, 115, 32, 109, 105, 110, 117, 116, 101, 32, 117, 112, 32, 108, 101, 102, 116, 32, 119, 111, 114, 116, 104, 32, 104, 111, 109, 101, 32]
def fs_ptr (ci k : Nat) : Option Int := match ci, k with
  | 0, 0 => some 1
  | 0, 1 => some 2
  | 0, 3 => some 3
  | 0, 4 => some 7
  | 0, 6 => some (-59)
  | 0, 7 => some (-17)
  | 0, 10 => some 11
  | 0, 11 => some 12
  | 0, 12 => some 13
  | 0, 13 => some 17
  | 0, 14 => some 22
  | 1, 0 => some (-42)
  | 1, 3 => some 1
  | 1, 4 => some 2
  | 1, 5 => some 6
  | 1, 6 => some 7
  | 3, 0 => some 1
  | 3, 1 => some 2
  | 3, 3 => some 3
  | 3, 4 => some 4
  | 3, 5 => some 5
  | 4, 0 => some 1
  | 4, 1 => some 2
  | 5, 0 => some 1
  | 6, 0 => some 1
  | 6, 1 => some 5
  | 7, 0 => some 1
  | 7, 4 => some (-14)
  | 8, 0 => some 1
  | 8, 1 => some 2
  | 8, 2 => some 3
  | 8, 3 => some 4
  | 8, 6 => some 5
  | 8, 7 => some 6
  | 8, 8 => some 7
  | 8, 12 => some 8
  | 9, 0 => some 1
  | 9, 1 => some 2
  | 9, 2 => some 3
  | 9, 3 => some 4
  | 10, 0 => some 1
  | 10, 1 => some 15
  | 10, 2 => some 29
  | 10, 3 => some 31
  | 10, 4 => some 37
  | 10, 5 => some 43
  | 10, 6 => some 54
  | 10, 7 => some 57
  | 10, 8 => some 60
  | 10, 9 => some 90
  | 10, 10 => some 95
  | 10, 11 => some 217
  | 10, 12 => some 223
  | 11, 1 => some 1
  | 11, 3 => some 2
  | 11, 4 => some 3
  | 11, 5 => some 4
  | 11, 6 => some 5
  | 11, 7 => some 6
  | 11, 8 => some 7
  | 11, 9 => some 8
  | 11, 10 => some 9
  | 11, 11 => some 10
  | 11, 12 => some 11
  | 11, 13 => some 12
  | 11, 14 => some 13
  | 11, 15 => some 14
  | 11, 29 => some 15
  | 11, 30 => some 16
  | 11, 31 => some 17
  | 11, 32 => some 18
  | 11, 33 => some 19
  | 11, 34 => some 20
  | 11, 35 => some 21
  | 11, 36 => some 22
  | 11, 39 => some 23
  | 11, 40 => some 24
  | 11, 45 => some 25
  | 11, 46 => some 26
  | 11, 48 => some 27
  | 11, 49 => some 28
  | 11, 50 => some 29
  | 11, 51 => some 30
  | 11, 52 => some 31
  | 11, 53 => some 32
  | 11, 54 => some 33
  | 11, 55 => some 34
  | 11, 57 => some 35
  | 11, 58 => some 36
  | 11, 64 => some 37
  | 11, 65 => some 38
  | 11, 70 => some 39
  | 11, 71 => some 40
  | 11, 72 => some 41
  | 11, 73 => some 42
  | 11, 76 => some 43
  | _, _ => none
def fs_pA (o : Int) : Int × Int := if o = 44 then (7, 1) else if o = 71 then (12, 1) else if o = 96 then (1, 6) else (1, 1)
def fs_fm (g : fs_G) : Int := if g_so g 3006 = 0 then -1 else 3005
def fs_ST (g : fs_G) (U : State) (H : Heap) : Prop :=
  va_En "FirstSill$Token" "LFirstSill$Token;" fs_tokN fs_tokF (fun i => g_so g (1000 + i)) (fs_A g) U H ∧
  va_Z "FirstSill" "TOKENS" "[LFirstSill$Token;" (.ref (g_so g 2000)) (fs_A g) U H ∧
  va_T (.object "FirstSill$Token") (g_so g 2000) 37 (fun j => .ref (g_so g (1000 + j))) (fs_A g) U H ∧
  va_Z "FirstSill$1" "$SwitchMap$FirstSill$Token" "[I" (.ref (g_so g 2001)) (fs_A g) U H ∧
  va_T .int (g_so g 2001) 37 (fun j => .int (fs_smap.getD j 0)) (fs_A g) U H ∧
  vk_S 1 [fs_wby.length] [fs_wby] (fun _ => g_so g 3001) (fun _ => g_so g 3002) (fs_A g) U H ∧
  vk_R "FirstSillModel" 203 fs_wtx (g_so g 3001) U ∧
  va_Z "java/lang/String" "COMPACT_STRINGS" "Z" (.int 1) (fs_A g) U H ∧
  vk_R "FirstSill" 156 "no such house" (g_so g 3003) U ∧
  vk_R "FirstSill" 185 "no such what" (g_so g 3004) U ∧
  vx_Zq "java/lang/Throwable" "UNASSIGNED_STACK" "[Ljava/lang/StackTraceElement;" (fs_A g) U H ∧
  vx_Zq "java/lang/Throwable" "SUPPRESSED_SENTINEL" "Ljava/util/List;" (fs_A g) U H ∧
  va_X (g_b g) (g_L g) (g_xs g) U H ∧ ¬ fs_A g (g_b g) ∧ g_so g 3000 = g_b g ∧
  va_Z "jdk/internal/util/Preconditions" "SIOOBE_FORMATTER" "Ljava/util/function/BiFunction;" (fs_e g (fs_r (fs_fm g))) (fs_A g) U H
theorem fs_ST.go {g : fs_G} {s U : State} {H0 H : Heap} (h : fs_ST g s H0) (hW : s.WarmedH U.vm) (hq : ∀ a : Nat, a < H0.size → ¬ fs_A g a → H[a]? = H0[a]?) : fs_ST g U H := by
  obtain ⟨a1, a2, a3, a4, a5, a6, a7, a8, a9, a10, a11, a12, a13, a14, a15, a16⟩ := h
  have hv := hW.alike
  refine ⟨(va_En.moved hv a1).kept hq, (va_Z.moved hv a2).kept hq, (va_T.moved hv a3).kept hq, (va_Z.moved hv a4).kept hq, (va_T.moved hv a5).kept hq, (vk_S.moved hv a6).kept hq, vk_R.warm hW a7, (va_Z.moved hv a8).kept hq, vk_R.warm hW a9, vk_R.warm hW a10, (vx_Zq.moved hv a11).kept hq, (vx_Zq.moved hv a12).kept hq, (va_X.moved hv a13).kept ?_, a14, a15, (va_Z.moved hv a16).kept hq⟩
  obtain ⟨scr, q1, -⟩ := a13
  exact hq _ (Array.getElem?_eq_some_iff.mp q1).1 a14
-- a class of arrays over a class of references: it is there, and it is the first one
def fs_AO (n : String) (ty : FieldType) (U : State) : Prop := ∃ (comp c : Nat) (k : Class), U.vm.findClass n = some comp ∧ (U.vm.classes.findIdx? fun (x : Class) => match x.kind with | .array component _ => component == comp | _ => false) = some c ∧ U.vm.classes[c]? = some k ∧ k.kind = .array comp ty ∧ U.vm.findClass ("[" ++ ty.toString) = some c
theorem fs_AO.moved {n : String} {ty : FieldType} {u U : State} (hvm : u.vm.Alike U.vm) (h : fs_AO n ty u) : fs_AO n ty U := by
  obtain ⟨comp, c, k, h1, h2, h3, h4, h5⟩ := h
  obtain ⟨k', hk', he⟩ := hvm.2.2 _ _ h3
  refine ⟨comp, c, k', ?_, ?_, hk', ?_, ?_⟩
  · rw [hvm.findClass]; exact h1
  · have e1 := va_idx_bare U.vm comp
    have e2 := va_idx_bare u.vm comp
    first | rw [hvm.bare_eq] at e1 | rw [← hvm.bare_eq] at e1
    exact (e1.symm.trans e2).trans h2
  · rw [he]; exact h4
  · rw [hvm.findClass]; exact h5
def fs_aos : List (String × FieldType) := [("FirstSill$Token", .object "FirstSill$Token"), ("FirstSill$Goer", .object "FirstSill$Goer"), ("FirstSill$Plan", .object "FirstSill$Plan"), ("[I", .array .int), ("[J", .array .long)]
/-- beside the cells: of the launch and of classes -/
def fs_EW : List Cond := [.declares (Bundle.initS "java/lang/RuntimeException"), .declares (Bundle.initS "java/lang/Exception"), .declares (Bundle.initS "java/lang/Throwable"), .castable "java/lang/IndexOutOfBoundsException" "java/lang/IndexOutOfBoundsException", .castable "java/util/NoSuchElementException" "java/util/NoSuchElementException"]
theorem fs_EW_warm {s U : State} (hW : s.WarmedH U.vm) {w : Cond} (hw : w ∈ fs_EW) (h : va_Nw w s) : va_Nw w U := by
  simp only [fs_EW, List.mem_cons, List.not_mem_nil, or_false] at hw
  rcases hw with e | e | e | e | e
  · rw [e] at h ⊢; exact va_Nw.warmD hW h
  · rw [e] at h ⊢; exact va_Nw.warmD hW h
  · rw [e] at h ⊢; exact va_Nw.warmD hW h
  · rw [e] at h ⊢; exact va_Nw.warmC hW h
  · rw [e] at h ⊢; exact va_Nw.warmC hW h
def fs_EX (g : fs_G) (U : State) : Prop := va_Nc "java/util/NoSuchElementException" "java/lang/IndexOutOfBoundsException" U ∧ (g_l g).stackTraces = false ∧ (∀ q ∈ fs_aos, fs_AO q.1 q.2 U) ∧ ∀ w ∈ fs_EW, va_Nw w U
theorem fs_EX.go {g : fs_G} {s U : State} (h : fs_EX g s) (hW : s.WarmedH U.vm) : fs_EX g U := ⟨va_Nc.moved hW.alike h.1, h.2.1, fun q hq => fs_AO.moved hW.alike (h.2.2.1 q hq), fun w hw => fs_EW_warm hW hw (h.2.2.2 w hw)⟩
def fs_S (g : fs_G) (U : State) : Prop := va_K (g_D g) fs_cl (fs_tys g) U ∧ (∀ w ∈ fs_NW, va_Nw w U) ∧ fs_ST g U U.heap ∧ g_sz g ≤ U.heap.size ∧ fs_EX g U
theorem fs_S.go {g : fs_G} {s U : State} {H : Heap} {locs : List Loc} (h : fs_S g s) (hW : s.WarmedH U.vm) (hS : va_S (fs_A g) s.heap H locs) (hU : U.heap = H) : fs_S g U := by
  obtain ⟨h1, h2, h3, h4, h5⟩ := h
  refine ⟨va_K.moved hW.alike h1, fun w hw => fs_NW_warm hW hw (h2 w hw), ?_, ?_, h5.go hW⟩
  · rw [hU]
    exact h3.go hW hS.2.1
  · rw [hU]
    exact Nat.le_trans h4 hS.1
-- pointers that never change: by class and field, how far; rows of pointers
def fs_P2 (M : fs_M) : Prop := (∀ (ci k : Nat) (off : Int), fs_ptr ci k = some off → ∀ o : Int, fs_isO ci o → M o k = o + off) ∧ (∀ (ty n : Nat) (o : Int), fs_isA ty n o → 3 ≤ ty → ty ≤ 6 → ∀ i : Int, 0 ≤ i → i < n → M o i = o + (fs_pA o).1 + (fs_pA o).2 * i)
def fs_XI (ph : Nat) (M : fs_M) : Prop := fs_rng M ∧ (ph = 2 → fs_P2 M)
abbrev fs_Z : Type := Nat × Nat × Nat × Nat × Nat
def fs_rm (d mc ms : Nat) : Room := { frames := d, cells := mc, slots := ms, locals := 64 * d }
def fs_ws (md : fs_D) : List Cond := .code md.1 md.2.1 md.2.2.1 md.2.2.2 :: fs_B
def fs_R (g : fs_G) (ph n : Nat) (M : fs_M) (H : Heap) : Prop := va_P (g_D g) fs_cl (fs_W g n M) H ∧ (ph = 1 → H.size = g_sz g + n)
abbrev fs_K : Type := Option fs_V → fs_M → Prop
def fs_oks (vs : List fs_V) : Prop := ∀ v ∈ vs, fs_ok v
def fs_okl (ls : List (Nat × fs_V)) : Prop := ∀ q ∈ ls, fs_ok q.2
theorem fs_oks.c {v : fs_V} {vs : List fs_V} (h : fs_ok v) (hs : fs_oks vs) : fs_oks (v :: vs) := fun w hw => (List.mem_cons.mp hw).elim (fun e => e ▸ h) (hs w)
theorem fs_oks.h {v : fs_V} {vs : List fs_V} (h : fs_oks (v :: vs)) : fs_ok v := h v List.mem_cons_self
theorem fs_oks.t {v : fs_V} {vs : List fs_V} (h : fs_oks (v :: vs)) : fs_oks vs := fun w hw => h w (List.mem_cons_of_mem _ hw)
def fs_Q (g : fs_G) (ph n : Nat) (K : fs_K) : Array Value → State → Outcome → State → Prop := fun _ st oc t =>
  (∃ (v : Option fs_V) (M' : fs_M), oc = .returned (v.map (fs_e g)) ∧ K v M' ∧ fs_R g ph n M' t.heap ∧ fs_XI ph M' ∧ ∀ w, v = some w → fs_ok w) ∧ va_F (fs_A g) st t
/-- the contract of method md at room d: z = (phase, cells at its start, at its end, cells and slots that it may make) -/
def fs_Call (g : fs_G) (md : fs_D) (d : Nat) (z : fs_Z) (args : List fs_V) (M : fs_M) (K : fs_K) : Prop :=
  fs_XI z.1 M → fs_oks args → Met (g_l g) md.1 (fs_ws md) (fs_rm d z.2.2.2.1 z.2.2.2.2) (va_Pc (args.map (fs_e g)) (fun U => fs_R g z.1 z.2.1 M U.heap ∧ fs_S g U)) (fs_Q g z.1 z.2.2.1 K) z.2.2.2.1 z.2.2.2.2 (fs_A g)
/-- what holds while a frame of md runs -/
def fs_C (g : fs_G) (md : fs_D) (d : Nat) (z : fs_Z) (p : Program) (R : Room) (s : State) (m : MethodId) (args : Array Value) (meth : Method) (c : Code) : Prop :=
  p.tables.exec = Jvm.exec ∧ c.code = md.2.1 ∧ c.maxLocals = md.2.2.1 ∧ meth.sig.returnType = md.2.2.2 ∧ meth.locks = false ∧ s.vm.findClass md.1.cls = some m.cls ∧ (∀ w ∈ fs_B, w.before args s = true) ∧ fs_S g s ∧ (d ≤ R.frames ∧ 64 * d ≤ R.locals ∧ z.2.2.2.1 ≤ R.cells ∧ z.2.2.2.2 ≤ R.slots) ∧ meth.name = md.1.name
def fs_lv (g : fs_G) (ls : List (Nat × fs_V)) : List (Nat × Value) := ls.map fun q => (q.1, fs_e g q.2)
def fs_R2 (g : fs_G) (z : fs_Z) (y : Nat × Nat × Nat) (s : State) (M : fs_M) (H : Heap) : Prop := va_P (g_D g) fs_cl (fs_W g y.1 M) H ∧ (z.1 = 1 → s.heap.size + y.2.1 = g_sz g + y.1)
/-- a frame of md at pc, with locals ls and stack st, over the memory M, comes to its end with K; (n, k, j): cells of the world, cells and slots made so far -/
def fs_At (g : fs_G) (md : fs_D) (d : Nat) (z : fs_Z) (y : Nat × Nat × Nat) (pc : Nat) (ls : List (Nat × fs_V)) (st : List fs_V) (M : fs_M) (K : fs_K) : Prop :=
  ∀ (p : Program) (e : Env) (R : Room) (s : State) (m : MethodId) (args : Array Value) (below : List Frame) (meth : Method) (c : Code), fs_C g md d z p R s m args meth c →
    ∀ (H : Heap) (locs : List Loc) (lc : Array Slot), lv_has lc md.2.2.1 (fs_lv g ls) → fs_R2 g z y s M H → va_S (fs_A g) s.heap H locs → fs_XI z.1 M → fs_okl ls → fs_oks st →
      W p (g_l g) e R s m args below meth c H locs y.2.1 y.2.2 (MQ below (fs_Q g z.1 z.2.2.1 K) args s z.2.2.2.1 z.2.2.2.2 (fs_A g)) (F0 m pc lc (st.map (fs_e g)))
theorem fs_W_low {g : fs_G} {n : Nat} {M : fs_M} {H : Heap} (hP : va_P (g_D g) fs_cl (fs_W g n M) H) (h0 : g_sz g ≤ H.size) : g_sz g + n ≤ H.size := by
  cases n with
  | zero => exact h0
  | succ k =>
    have h1 := (hP k _ (fs_W_get (Nat.lt_succ_self k))).lt
    dsimp only at h1
    omega
theorem fs_hsz {p : Program} {l : Launch} {e : Env} {R : Room} {s : State} {m : MethodId} {args : Array Value} {below : List Frame} {meth : Method} {c : Code} {H : Heap} {locs : List Loc} {cells slots : Nat} {Q : State → Prop} {f : JFrame}
    (h : H.size ≤ s.heap.size + cells → W p l e R s m args below meth c H locs cells slots Q f) : W p l e R s m args below meth c H locs cells slots Q f := fun T hT X => h (by rw [← hT]; exact X.heapSize) T hT X
theorem fs_R2.end {g : fs_G} {z : fs_Z} {y : Nat × Nat × Nat} {s : State} {M : fs_M} {H : Heap} {locs : List Loc} (hR : fs_R2 g z y s M H) (hSt : fs_S g s) (hS : va_S (fs_A g) s.heap H locs) (hz : H.size ≤ s.heap.size + y.2.1) (hy : y.1 = z.2.2.1) : fs_R g z.1 z.2.2.1 M H := by
  obtain ⟨h1, h2⟩ := hR
  have h3 := fs_W_low h1 (Nat.le_trans hSt.2.2.2.1 hS.1)
  rw [hy] at h1 h2 h3
  exact ⟨h1, fun hp => by have := h2 hp; omega⟩
section JUDGE
variable {g : fs_G} {md : fs_D} {d : Nat} {z : fs_Z} {y : Nat × Nat × Nat} {pc : Nat} {ls : List (Nat × fs_V)} {st : List fs_V} {M : fs_M} {K : fs_K}
/-- into a method -/
theorem fs_enter {args : List fs_V} (hpl : plainFor md.1 = true) (hsz : (lg_sl (args.map (fs_e g))).length ≤ md.2.2.1) (hls : lv_args 0 (args.map (fs_e g)) = fs_lv g ls) (hmem : ∀ q ∈ ls, q.2 ∈ args)
    (h : fs_At g md d z (z.2.1, 0, 0) 0 ls [] M K) : fs_Call g md d z args M K := by
  intro hI hok
  refine va_MetF (cc := md.2.1) (maxL := md.2.2.1) (ret := md.2.2.2) hpl rfl ?_
  intro p e s m a below meth c s₁ B hml hv
  obtain ⟨rfl, ⟨hP, hph⟩, hSt⟩ := hv
  have hts : ∀ w ∈ fs_ws md, w.before (args.map (fs_e g)).toArray s = true := atoms_spec B.pre
  have hown : s.vm.findClass md.1.cls = some m.cls := findClass_of_methodNamed B.named
  rw [lg_entry_eq]
  have hl := lv_entry (args.map (fs_e g)) hsz
  rw [hls] at hl
  exact h p e _ s m _ below meth c ⟨B.exec, B.bytes, hml, B.returns, B.notSynchronized, hown, fun w hw => hts w (List.mem_cons_of_mem _ hw), hSt, ⟨Nat.le_refl _, Nat.le_refl _, Nat.le_refl _, Nat.le_refl _⟩, (name_of_methodNamed B.named B.method).1⟩ s.heap [] _ hl ⟨hP, hph⟩ va_S.rf hI (fun q hq => hok _ (hmem q hq)) (fun v hv => by cases hv)
end JUDGE
