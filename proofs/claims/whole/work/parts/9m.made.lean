-- ===== by hand: what is made in the first phase: objects, arrays, arrays of arrays, arrays of references =====
theorem fs_cell_o {g : fs_G} {o ci : Nat} {r : Int → Int} (h : fs_kinds[o]? = some (.inl ci)) : fs_cell g o r = .inr (ci, fs_row g ci r) := by
  simp [fs_cell, h]
theorem fs_cell_a {g : fs_G} {o ty n : Nat} {r : Int → Int} (h : fs_kinds[o]? = some (.inr (ty, n))) : fs_cell g o r = .inl (g_tc g ty, n, fs_pay g ty r) := by
  simp [fs_cell, h]
theorem fs_e_nat {g : fs_G} {o : Nat} {k : Nat ⊕ (Nat × Nat)} (h : fs_kinds[o]? = some k) : fs_e g (fs_r (o : Int)) = .ref (g_sz g + o) := fs_e_in (o := (o : Int)) (by omega) h
theorem fs_klt {o : Nat} {k : Nat ⊕ (Nat × Nat)} (h : fs_kinds[o]? = some k) : o < 271 := by
  have h1 := (List.getElem?_eq_some_iff.mp h).1
  rw [fs_klen] at h1
  exact h1
/-- N new things behind the others -/
theorem fs_grow {g : fs_G} {z : fs_Z} {y : Nat × Nat × Nat} {s : State} {M : fs_M} {H H1 : Heap} {locs : List Loc} (hR : fs_R2 g z y s M H) (hS : va_S (fs_A g) s.heap H locs) (N sl : Nat) (z1 : H1.size = H.size + N) (o1 : ∀ q : Nat, q < H.size → H1[q]? = H[q]?)
    (hn : ∀ j, j < N → va_at (g_D g) fs_cl (g_sz g + (y.1 + j), fs_cell g (y.1 + j) (M ((y.1 + j : Nat) : Int))) H1) : fs_R2 g z (y.1 + N, y.2.1 + N, sl) s M H1 ∧ va_S (fs_A g) s.heap H1 locs := by
  have hP : va_P (g_D g) fs_cl (fs_W g y.1 M) H1 := hR.1.kept (fun k q hk => o1 q.1 (hR.1 k q hk).lt)
  refine ⟨⟨fun k q hk => ?_, fun q => ?_⟩, Nat.le_trans hS.1 (by omega), fun x h1 h2 => (o1 x (Nat.lt_of_lt_of_le h1 hS.1)).trans (hS.2.1 x h1 h2), hS.2.2⟩
  · have hlt : k < y.1 + N := by
      have h1 := (List.getElem?_eq_some_iff.mp hk).1
      simpa [fs_W] using h1
    obtain rfl : q = (g_sz g + k, fs_cell g k (M (k : Int))) := Option.some.inj (hk.symm.trans (fs_W_get hlt))
    by_cases a : k < y.1
    · exact hP k _ (fs_W_get a)
    · have h2 := hn (k - y.1) (by omega)
      rw [show y.1 + (k - y.1) = k by omega] at h2
      exact h2
  · have h2 := hR.2 q
    show s.heap.size + (y.2.1 + N) = g_sz g + (y.1 + N)
    omega
theorem fs_vpV {g : fs_G} {ci j : Nat} {r : Int → Int} (h : j < fs_nf ci) : vp_V (fs_row g ci r) j = fs_f g (fs_ft ci j) (r j) := by
  show (fs_row g ci r).getD j .null = _
  rw [List.getD_eq_getElem?_getD, fs_rowk h]
  rfl
theorem fs_arrV_ext {cI : ClassId} {N : Nat} {f f' : Nat → Value} (h : ∀ j, j < N → f j = f' j) : arrV cI N f = arrV cI N f' := by
  have e : Array.ofFn (n := N) (fun j => f j) = Array.ofFn (n := N) (fun j => f' j) := congrArg Array.ofFn (funext fun j => h j j.2)
  unfold arrV
  rw [e]
/-- an array of arrays: the outer cell with i of its N rows -/
def fs_oc (c : ClassId) (N h0 i : Nat) : Cell := arrV c N (fun j => if j < i then .ref (h0 + 1 + j) else .null)
def fs_mf (s : State) (c comp : ClassId) (N L : Nat) (dv : Value) : Nat → State
  | 0 => s.pushCell (fs_oc c N s.heap.size 0)
  | i + 1 => ((fs_mf s c comp N L dv i).pushCell (arrV comp L (fun _ => dv))).setCell s.heap.size (fs_oc c N s.heap.size (i + 1))
theorem fs_oc_set (c : ClassId) (N h0 i : Nat) : (fs_oc c N h0 i).setSlot i (.ref (h0 + 1 + i)) = fs_oc c N h0 (i + 1) := by
  unfold fs_oc
  rw [arrV_store]
  congr 1
  funext j
  unfold updV
  by_cases a : j = i
  · subst a
    simp
  · rw [if_neg a]
    show (if j < i then Value.ref (h0 + 1 + j) else Value.null) = if j < i + 1 then Value.ref (h0 + 1 + j) else Value.null
    by_cases b : j < i
    · rw [if_pos b, if_pos (by omega)]
    · rw [if_neg b, if_neg (by omega)]
theorem fs_mf_facts (s : State) (c comp : ClassId) (N L : Nat) (dv : Value) : ∀ i, (fs_mf s c comp N L dv i).heap.size = s.heap.size + 1 + i ∧ (fs_mf s c comp N L dv i).heap[s.heap.size]? = some (fs_oc c N s.heap.size i) ∧ (fs_mf s c comp N L dv i).vm = s.vm ∧ (fs_mf s c comp N L dv i).slotsUsed = s.slotsUsed + N + i * L ∧
    (∀ a : Nat, a < s.heap.size → (fs_mf s c comp N L dv i).heap[a]? = s.heap[a]?) ∧ ∀ j, j < i → (fs_mf s c comp N L dv i).heap[s.heap.size + 1 + j]? = some (arrV comp L (fun _ => dv))
  | 0 => ⟨by simp [fs_mf], by simp [fs_mf], rfl, by simp [fs_mf, fs_oc, arrV_size], fun a ha => State.heap_pushCell_of_lt _ _ ha, fun j h => absurd h (Nat.not_lt_zero _)⟩
  | i + 1 => by
    obtain ⟨a, b, d, u, f1, f2⟩ := fs_mf_facts s c comp N L dv i
    have hlt : s.heap.size < (fs_mf s c comp N L dv i).heap.size := by omega
    have hb' : ((fs_mf s c comp N L dv i).pushCell (arrV comp L (fun _ => dv))).heap[s.heap.size]? = some (fs_oc c N s.heap.size i) := by rw [State.heap_pushCell_of_lt (h := hlt)]; exact b
    refine ⟨?_, State.heap_setCell_self hb', by simp [fs_mf, d], ?_, fun x hx => ?_, fun j hj => ?_⟩
    · simp [fs_mf, State.setCell, a]; omega
    · simp [fs_mf, u, arrV_size, Nat.succ_mul]; omega
    · show (((fs_mf s c comp N L dv i).pushCell (arrV comp L (fun _ => dv))).setCell s.heap.size _).heap[x]? = _
      rw [State.heap_setCell_other (Nat.ne_of_gt hx), State.heap_pushCell_of_lt (h := (by omega : x < (fs_mf s c comp N L dv i).heap.size))]
      exact f1 x hx
    · show (((fs_mf s c comp N L dv i).pushCell (arrV comp L (fun _ => dv))).setCell s.heap.size _).heap[s.heap.size + 1 + j]? = _
      rw [State.heap_setCell_other (show s.heap.size ≠ s.heap.size + 1 + j by omega)]
      by_cases e : j = i
      · subst e
        rw [← a]
        exact State.heap_pushCell_size _ _
      · rw [State.heap_pushCell_of_lt (h := (by omega : s.heap.size + 1 + j < (fs_mf s c comp N L dv i).heap.size))]
        exact f2 j (by omega)
theorem fs_mf_top (s : State) (f : JFrame) (c comp : ClassId) (N L : Nat) (dv : Value) : ∀ i, fs_mf (s.setTop f) c comp N L dv i = (fs_mf s c comp N L dv i).setTop f
  | 0 => rfl
  | i + 1 => by simp only [fs_mf, fs_mf_top s f c comp N L dv i, State.heap_setTop, State.pushCell_setTop, State.setCell_setTop]
theorem fs_mf_stand {p : Program} {l : Launch} {e : Env} {R : Room} {s : State} {m : MethodId} {args : Array Value} {below : List Frame} {meth : Method} {c : Code} {T : State} {locs : List Loc} {cells slots : Nat}
    (X : Stand p l e R s m args below meth c T locs cells slots) (cA comp : ClassId) (N L : Nat) (dv : Value) : ∀ i, Stand p l e R s m args below meth c (fs_mf T cA comp N L dv i) (locs ++ (List.range i).map fun j => ⟨T.heap.size, j⟩) (cells + 1 + i) (slots + N + i * L)
  | 0 => by
    have h := X.pushed (fs_oc cA N T.heap.size 0)
    rw [show (fs_oc cA N T.heap.size 0).slots.size = N from arrV_size _ _ _] at h
    simpa [fs_mf] using h
  | i + 1 => by
    have Xi := fs_mf_stand X cA comp N L dv i
    obtain ⟨a, b, -⟩ := fs_mf_facts T cA comp N L dv i
    have hlt : T.heap.size < (fs_mf T cA comp N L dv i).heap.size := by omega
    have hcell : ((fs_mf T cA comp N L dv i).pushCell (arrV comp L (fun _ => dv))).heap[T.heap.size]? = some (fs_oc cA N T.heap.size i) := by rw [State.heap_pushCell_of_lt (h := hlt)]; exact b
    have h := (Xi.pushed (arrV comp L (fun _ => dv))).stored hcell i (.ref (T.heap.size + 1 + i))
    rw [arrV_size, fs_oc_set] at h
    have e2 : (locs ++ (List.range (i + 1)).map fun j => (⟨T.heap.size, j⟩ : Loc)) = (locs ++ (List.range i).map fun j => (⟨T.heap.size, j⟩ : Loc)) ++ [⟨T.heap.size, i⟩] := by simp [List.range_succ, List.append_assoc]
    have e3 : slots + N + (i + 1) * L = slots + N + i * L + L := by rw [Nat.succ_mul]; omega
    rw [e2, e3]
    exact h
section WPM
variable {E : CtlPost} {e : Env} {d : Bool} {acts : List Action} {s : State}
theorem fs_wp_na {c comp : ClassId} {k : Class} {type : FieldType} {len : Nat} {init : Value} (hk : s.vm.classes[c]? = some k) (hkind : k.kind = .array comp type) (hlimit : ¬ len > e.platform.arrayLengthLimit) (hheap : ¬ len * componentBytes type > e.platform.maxHeapBytes) (hfit : fits type init = true) (hdef : init.isDefault = true) {Q : Addr → Pre}
    (h1 : s.heap.size < e.platform.maxCells) (h2 : s.slotsUsed + len ≤ e.platform.maxSlots) (hq : Q s.heap.size d acts (s.pushCell (arrV c len (fun _ => init)))) : wp (Jvm.newArray c len init) Q E e d acts s := by
  have hfits : ∀ i v, (Array.replicate len init)[i]? = some v → s.fitsSlot c .none i v = true := by
    intro i v hv
    simp only [Array.getElem?_replicate] at hv
    split at hv
    · cases hv
      simp [State.fitsSlot, State.slotType?, hk, hkind, hfit]
    · cases hv
  have hda : allocActs (Array.replicate len init) s.heap.size acts = acts := by
    have hall : ((Array.replicate len init).all (·.isDefault)) = true := by
      rw [Array.all_replicate]
      split <;> simp [hdef]
    unfold allocActs
    rw [if_pos hall]
  rw [← arrV_new] at hq
  simp only [Jvm.newArray, Jvm.arrayFits, wp_bind', W.ask, W.ite, hlimit, if_false, wp_pure', W.theClass, hk, hkind, hheap, W.alloc, W.stop, Option.some.injEq, exists_eq_left', Array.size_replicate, hda]
  rw [if_neg (by omega)]
  exact ⟨h1, h2, hfits, hq⟩
theorem fs_wp_m1 {comp cc : ClassId} {kc : Class} {type : FieldType} {m : Int32} (hkc : s.vm.classes[comp]? = some kc) (hkindc : kc.kind = .array cc type) (hm : ¬ m < 0) (hl2 : ¬ m.toNatClampNeg > e.platform.arrayLengthLimit) (hh2 : ¬ m.toNatClampNeg * componentBytes type > e.platform.maxHeapBytes)
    (hdf : fits type (defaultValue type) = true) (hdd : (defaultValue type).isDefault = true) (h1 : s.heap.size < e.platform.maxCells) (h2 : s.slotsUsed + m.toNatClampNeg ≤ e.platform.maxSlots) {Q : Addr → Pre} (hq : Q s.heap.size d acts (s.pushCell (arrV comp m.toNatClampNeg (fun _ => defaultValue type)))) : wp (multianewarray.make comp [m]) Q E e d acts s := by
  rw [multianewarray.make]
  simp only [wp_bind', W.ite, hm, if_false, wp_pure', W.theClass, hkc, hkindc, Option.some.injEq, exists_eq_left']
  exact fs_wp_na hkc hkindc hl2 hh2 hdf hdd h1 h2 hq
theorem fs_wp_m2 {c comp cc : ClassId} {k kc : Class} {type : FieldType} {n m : Int32} (hk : s.vm.classes[c]? = some k) (hkind : k.kind = .array comp (.array type)) (hkc : s.vm.classes[comp]? = some kc) (hkindc : kc.kind = .array cc type) (hn : ¬ n < 0) (hm : ¬ m < 0)
    (hl1 : ¬ n.toNatClampNeg > e.platform.arrayLengthLimit) (hh1 : ¬ n.toNatClampNeg * componentBytes (.array type) > e.platform.maxHeapBytes) (hl2 : ¬ m.toNatClampNeg > e.platform.arrayLengthLimit) (hh2 : ¬ m.toNatClampNeg * componentBytes type > e.platform.maxHeapBytes)
    (hdf : fits type (defaultValue type) = true) (hdd : (defaultValue type).isDefault = true) (hc : s.heap.size + 1 + n.toNatClampNeg ≤ e.platform.maxCells) (hs : s.slotsUsed + n.toNatClampNeg + n.toNatClampNeg * m.toNatClampNeg ≤ e.platform.maxSlots)
    {Q : Addr → Pre} (hq : ∀ d' acts', Q s.heap.size d' acts' (fs_mf s c comp n.toNatClampNeg m.toNatClampNeg (defaultValue type) n.toNatClampNeg)) : wp (multianewarray.make c [n, m]) Q E e d acts s := by
  have hfind : ([m].find? (· < 0)) = none := by simp [hm]
  have hmul0 := Nat.zero_le (n.toNatClampNeg * m.toNatClampNeg)
  rw [multianewarray.make]
  simp only [wp_bind', W.ite, hn, if_false, wp_pure', W.theClass, hk, hkind, Option.some.injEq, exists_eq_left']
  refine fs_wp_na hk hkind hl1 hh1 rfl rfl (by omega) (by omega) ?_
  simp only [hfind]
  rw [ite_self, wp_bind', Std.Legacy.Range.forIn_eq_forIn_range']
  have hsz : ([:n.toNatClampNeg] : Std.Legacy.Range).size = n.toNatClampNeg := by simp [Std.Legacy.Range.size]
  rw [hsz]
  show wp (forIn (List.range' 0 n.toNatClampNeg 1) PUnit.unit _) _ E e d acts _
  have h0 : s.pushCell (arrV c n.toNatClampNeg (fun _ => .null)) = fs_mf s c comp n.toNatClampNeg m.toNatClampNeg (defaultValue type) 0 := by
    unfold fs_mf fs_oc
    simp
  rw [h0]
  refine wp_forIn_inv (fun rest s' => ∃ i, i ≤ n.toNatClampNeg ∧ rest = List.range' i (n.toNatClampNeg - i) ∧ s' = fs_mf s c comp n.toNatClampNeg m.toNatClampNeg (defaultValue type) i) _ _ ⟨0, Nat.zero_le _, rfl, rfl⟩ ?_ ?_
  · rintro x rest s' d' acts' Q' ⟨i, hi, hl, rfl⟩ hnext
    have hlt : i < n.toNatClampNeg := by
      refine Nat.lt_of_not_le fun h => ?_
      rw [show n.toNatClampNeg - i = 0 from by omega] at hl
      simp at hl
    obtain ⟨rfl, hrest⟩ : x = i ∧ rest = List.range' (i + 1) (n.toNatClampNeg - (i + 1)) := by
      rw [show n.toNatClampNeg - i = (n.toNatClampNeg - (i + 1)) + 1 from by omega, List.range'_succ] at hl
      exact ⟨(List.cons.inj hl).1, (List.cons.inj hl).2⟩
    obtain ⟨f1, f2, f3, f4, -⟩ := fs_mf_facts s c comp n.toNatClampNeg m.toNatClampNeg (defaultValue type) x
    have hmul : x * m.toNatClampNeg + m.toNatClampNeg ≤ n.toNatClampNeg * m.toNatClampNeg := by
      have h9 := Nat.mul_le_mul_right m.toNatClampNeg (show x + 1 ≤ n.toNatClampNeg from hlt)
      rw [Nat.succ_mul] at h9
      exact h9
    simp only [wp_bind']
    refine fs_wp_m1 (by rw [f3]; exact hkc) hkindc hm hl2 hh2 hdf hdd (by rw [f1]; omega) (by rw [f4]; omega) ?_
    have hlt0 : s.heap.size < (fs_mf s c comp n.toNatClampNeg m.toNatClampNeg (defaultValue type) x).heap.size := by rw [f1]; omega
    simp only [wp_bind', W.writeLoc, wp_pure']
    refine ⟨fs_oc c n.toNatClampNeg s.heap.size x, by rw [State.heap_pushCell_of_lt (h := hlt0)]; exact f2, by simp [fs_oc, arrV], by rw [show (fs_oc c n.toNatClampNeg s.heap.size x).slots.size = n.toNatClampNeg from arrV_size _ _ _]; exact hlt, ?_, hnext _ _ _ ⟨x + 1, hlt, hrest, ?_⟩⟩
    · show State.fitsSlot _ c .none x _ = true
      simp [State.fitsSlot, State.slotType?, f3, hk, hkind, fits]
    · rw [f1, fs_oc_set]
      rfl
  · rintro s' d' acts' ⟨i, hi, hl, rfl⟩
    have hiN : i = n.toNatClampNeg := by
      refine Nat.le_antisymm hi (Nat.le_of_not_lt fun h => ?_)
      rw [show n.toNatClampNeg - i = (n.toNatClampNeg - (i + 1)) + 1 from by omega, List.range'_succ] at hl
      cases hl
    subst hiN
    simp only [wp_pure']
    exact hq _ _
end WPM
/-- the row: an array of n arrays of k places -/
theorem fs_Wmulti {p : Program} {l : Launch} {e : Env} {R : Room} {s : State} {m : MethodId} {args : Array Value} {below : List Frame} {meth : Method} {c : Code} {H : Heap} {locs : List Loc} {cells slots : Nat} {Q : State → Prop} {cc : ByteArray} {pc : Nat} {lc : Array Slot} {rest : List Value} (hexec : p.tables.exec = Jvm.exec) (hb : c.code = cc) {own : String} {index : Nat} {ty : FieldType} {cA comp : ClassId} {kA : Class}
    (hown : s.vm.findClass own = some m.cls) (hclink : (Cond.classLink own index ("[" ++ (FieldType.array ty).toString)).before args s = true) (hcomp : s.vm.findClass (FieldType.array ty).toString = some comp) (hkA : s.vm.classes[cA]? = some kA) (hkindA : kA.kind = .array comp (.array ty)) (hnameA : s.vm.findClass ("[" ++ (FieldType.array ty).toString) = some cA)
    (harr : (Cond.arrayClass ty).before args s = true) (hdg : decode cc pc = .ok (.multianewarray index 2, 4)) {n k : Int32} (hn : ¬ n < 0) (hk : ¬ k < 0) (hb1 : n.toNatClampNeg * 4 ≤ 536870912) (hb2 : k.toNatClampNeg * componentBytes ty ≤ 536870912) (hb3 : k.toNatClampNeg ≤ 536870912)
    (hdf : fits ty (defaultValue ty) = true) (hdd : (defaultValue ty).isDefault = true) (hcells : cells + (1 + n.toNatClampNeg) ≤ R.cells) (hslots : slots + (n.toNatClampNeg + n.toNatClampNeg * k.toNatClampNeg) ≤ R.slots)
    (kk : ∀ H1 : Heap, H1.size = H.size + (1 + n.toNatClampNeg) → H1[H.size]? = some (fs_oc cA n.toNatClampNeg H.size n.toNatClampNeg) → (∀ q : Nat, q < H.size → H1[q]? = H[q]?) → (∀ j, j < n.toNatClampNeg → H1[H.size + 1 + j]? = some (arrV comp k.toNatClampNeg (fun _ => defaultValue ty))) →
      W p l e R s m args below meth c H1 (locs ++ (List.range n.toNatClampNeg).map fun j => ⟨H.size, j⟩) (cells + (1 + n.toNatClampNeg)) (slots + (n.toNatClampNeg + n.toNatClampNeg * k.toNatClampNeg)) Q (F0 m (pc + 4) lc (.ref H.size :: rest))) : W p l e R s m args below meth c H locs cells slots Q (F0 m pc lc (.int k :: .int n :: rest)) := by
  intro T hT X
  have hpl : e.platform.magicAccessors = ({} : Platform).magicAccessors := by rw [X.admits.platform]
  obtain ⟨comp', kC, cc', hcomp', hkC, hkindC⟩ := Cond.arrayClass_spec harr
  have ecomp : comp' = comp := Option.some.inj (hcomp'.symm.trans hcomp)
  subst ecomp
  obtain ⟨c0, hfc0, hcl⟩ := Cond.classLink_spec hown hclink e.platform hpl
  cases hnameA.symm.trans hfc0
  obtain ⟨hg₁, hwarm₁, hready₁⟩ := State.classEntry (e := e) X.warmed hcl
  generalize T.vm.noted m.cls index (.cls cA) = vm₁ at hg₁ hwarm₁ hready₁
  have hal : s.vm.Alike vm₁ := hwarm₁.alike
  obtain ⟨kA₁, hkA₁, heA⟩ := hal.2.2 _ _ hkA
  obtain ⟨kC₁, hkC₁, heC⟩ := hal.2.2 _ _ hkC
  have hkindA₁ : kA₁.kind = .array comp' (.array ty) := by rw [heA]; exact hkindA
  have hkindC₁ : kC₁.kind = .array cc' ty := by rw [heC]; exact hkindC
  have X₁ := X.noted hwarm₁
  obtain ⟨hr1, hr2⟩ := X.roomAbove hcells hslots
  have hl1 : ¬ n.toNatClampNeg > e.platform.arrayLengthLimit := by rw [Launch.admits_arrayLengthLimit X.admits]; omega
  have hh1 : ¬ n.toNatClampNeg * componentBytes (.array ty) > e.platform.maxHeapBytes := by
    rw [Launch.admits_maxHeapBytes X.admits]
    show ¬ n.toNatClampNeg * 4 > 536870912
    omega
  have hl2 : ¬ k.toNatClampNeg > e.platform.arrayLengthLimit := by rw [Launch.admits_arrayLengthLimit X.admits]; omega
  have hh2 : ¬ k.toNatClampNeg * componentBytes ty > e.platform.maxHeapBytes := by rw [Launch.admits_maxHeapBytes X.admits]; omega
  have XF := fs_mf_stand X₁ cA comp' n.toNatClampNeg k.toNatClampNeg (defaultValue ty) n.toNatClampNeg
  obtain ⟨f1, f2, f3, f4, f5, f6⟩ := fs_mf_facts (T.setVm vm₁) cA comp' n.toNatClampNeg k.toNatClampNeg (defaultValue ty) n.toNatClampNeg
  have eT : (T.setVm vm₁).heap = H := hT
  rw [eT] at f1 f2 f5 f6 XF
  have a1 : cells + 1 + n.toNatClampNeg = cells + (1 + n.toNatClampNeg) := by omega
  have a2 : slots + n.toNatClampNeg + n.toNatClampNeg * k.toNatClampNeg = slots + (n.toNatClampNeg + n.toNatClampNeg * k.toNatClampNeg) := by omega
  have XF2 := XF
  rw [a1, a2] at XF2
  obtain ⟨t, hst, hQ⟩ := kk _ (by rw [f1]; omega) f2 f5 f6 (fs_mf (T.setVm vm₁) cA comp' n.toNatClampNeg k.toNatClampNeg (defaultValue ty) n.toNatClampNeg) rfl XF2
  refine ⟨t, ?_, hQ⟩
  subst hb
  jvm_step X.here [hexec, hdg]
  simp only [multianewarray.sem, wp_bind', W.resolveClassAt_links (State.method?_setTop (F0 m pc lc (.int k :: .int n :: rest)) X.here.top) hg₁]
  rw [W.popN, if_neg (by decide)]
  refine ⟨F0 m pc lc (.int k :: .int n :: rest), State.topJava?_setTop' (s := T.setVm vm₁) (F0 m pc lc (.int k :: .int n :: rest)) X.here.top, [.int n, .int k], rest, rfl, rfl, ?_⟩
  simp only [List.mapM_cons, List.mapM_nil, wp_bind', wp_pure']
  refine fs_wp_m2 (k := kA₁) (kc := kC₁) (comp := comp') (cc := cc') (type := ty) hkA₁ hkindA₁ hkC₁ hkindC₁ hn hk hl1 hh1 hl2 hh2 hdf hdd (by show T.heap.size + 1 + _ ≤ _; omega) (by show T.slotsUsed + _ + _ ≤ _; omega) (fun d' acts' => ?_)
  have eS : ((T.setTop (F0 m pc lc (.int k :: .int n :: rest))).setVm vm₁).setTop { (F0 m pc lc (.int k :: .int n :: rest)) with stack := rest } = (T.setVm vm₁).setTop { (F0 m pc lc (.int k :: .int n :: rest)) with stack := rest } := by
    show ((T.setVm vm₁).setTop (F0 m pc lc (.int k :: .int n :: rest))).setTop _ = _
    rw [State.setTop_setTop]
  rw [eS, fs_mf_top]
  simp only [wp_bind', W.mark, W.pushRef, State.topJava?_setTop' _ XF.here.top, Option.some.injEq, exists_eq_left', State.setTop_setTop, State.heap_setTop]
  intro acts
  simp [jvm, XF.here.top]
  rw [← hT] at hst
  exact hst
