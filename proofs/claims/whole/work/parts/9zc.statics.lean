-- ===== by hand: what stands in static places at the law's entry =====
section STAT0
variable {s : State} {args : Array Value}
theorem fs_flat {L : List Cond} (h : ∀ w ∈ flatC (Jvm.Cond.and given_1 narrow_1), w.before args s = true) (hL : L.all (fun w => decide (w ∈ flatC (Jvm.Cond.and given_1 narrow_1))) = true) : ∀ w ∈ L, w.before args s = true := fun w hw => h w (of_decide_eq_true (List.all_eq_true.mp hL w hw))
def fs_tkS (i : Nat) : Term := .static "FirstSill$Token" (fs_tokN.getD i "") "LFirstSill$Token;"
theorem fs_fl1 : ((List.range 37).map (fun i => Cond.exactly (fs_tkS i) "FirstSill$Token")).all (fun w => decide (w ∈ flatC (Jvm.Cond.and given_1 narrow_1))) = true := by decide +kernel
theorem fs_fl2 : (fs_tokF.flatMap (fun q => (List.range 37).map (fun i => Cond.eq (.field (fs_tkS i) q.1 q.2.1 q.2.2.1) (.int (q.2.2.2.getD i 0))))).all (fun w => decide (w ∈ flatC (Jvm.Cond.and given_1 narrow_1))) = true := by decide +kernel
theorem fs_fl3 : ((List.range 37).map (fun i => Cond.eq (.elem (.static "FirstSill" "TOKENS" "[LFirstSill$Token;") (.int (Int32.ofNat i))) (fs_tkS i))).all (fun w => decide (w ∈ flatC (Jvm.Cond.and given_1 narrow_1))) = true := by decide +kernel
theorem fs_fl4 : ((List.range 37).map (fun i => Cond.eq (.elem (.static "FirstSill$1" "$SwitchMap$FirstSill$Token" "[I") (.int (Int32.ofNat i))) (.int (fs_smap.getD i 0)))).all (fun w => decide (w ∈ flatC (Jvm.Cond.and given_1 narrow_1))) = true := by decide +kernel
theorem fs_fl5 : ((flatC (Jvm.Cond.and given_1 narrow_1)).drop 354).take 92 = (List.range 92).map (fun j => Cond.eq (.elem (.field (.string "FirstSillModel" 203) "java/lang/String" "value" "[B") (.int (Int32.ofNat j))) (.int (fs_wby.getD j 0))) := by decide +kernel
theorem fs_neq {t u : Term} {a b : Nat} (ht : t.eval args s none [] s = some (.ref a)) (hu : u.eval args s none [] s = some (.ref b)) (hne : a ≠ b) : (Cond.not (.eq t u)).before args s = true := by
  simp [Cond.before, Cond.holds, Cond.value, ht, hu, hne]
theorem fs_tb1 : ((List.range 37).map (fun i => Cond.laysStatic "FirstSill$Token" (fs_tokN.getD i "") "LFirstSill$Token;")).all (fun w => decide (w ∈ lw_tbl)) = true := by decide +kernel
theorem fs_mapR {f : Nat → Cond} {n i : Nat} (h : i < n) : f i ∈ (List.range n).map f := List.mem_map.mpr ⟨i, List.mem_range.mpr h, rfl⟩
theorem fs_En_of (hts : ∀ w ∈ lw_tbl, w.before args s = true) (hfl : ∀ w ∈ flatC (Jvm.Cond.and given_1 narrow_1), w.before args s = true) {A : Nat → Prop} (hA : ∀ a : Nat, a < s.heap.size → ¬ A a) :
    ∃ ad : Nat → Nat, va_En "FirstSill$Token" "LFirstSill$Token;" fs_tokN fs_tokF ad A s s.heap ∧ ∀ i, i < 37 → (fs_tkS i).eval args s none [] s = some (.ref (ad i)) := by
  have hex : ∀ i, i < fs_tokN.length → (Cond.exactly (.static "FirstSill$Token" (fs_tokN.getD i "") "LFirstSill$Token;") "FirstSill$Token").before args s = true := fun i hi => fs_flat hfl fs_fl1 _ (fs_mapR (f := fun i => Cond.exactly (fs_tkS i) "FirstSill$Token") hi)
  have hf : ∀ q ∈ fs_tokF, ∀ i, i < fs_tokN.length → (Cond.eq (.field (.static "FirstSill$Token" (fs_tokN.getD i "") "LFirstSill$Token;") q.1 q.2.1 q.2.2.1) (.int (q.2.2.2.getD i 0))).before args s = true := fun q hq i hi =>
    fs_flat hfl fs_fl2 _ (List.mem_flatMap.mpr ⟨q, hq, fs_mapR (f := fun i => Cond.eq (.field (fs_tkS i) q.1 q.2.1 q.2.2.1) (.int (q.2.2.2.getD i 0))) hi⟩)
  refine va_Enof2 (fun i hi => ?_) (hts _ (List.mem_of_getElem? (i := 153) (by decide +kernel))) hex hf (fun i j hi hj hij => Or.inl ?_) hA
  · exact hts _ (of_decide_eq_true (List.all_eq_true.mp fs_tb1 _ (fs_mapR (f := fun i => Cond.laysStatic "FirstSill$Token" (fs_tokN.getD i "") "LFirstSill$Token;") hi)))
  · obtain ⟨a, c1, cell1, k1, q1, -⟩ := Cond.exactly_spec (hex i hi)
    obtain ⟨b, c2, cell2, k2, q2, -⟩ := Cond.exactly_spec (hex j hj)
    have o1 := va_eqt (hf ("java/lang/Enum", "ordinal", "I", fs_tokO) (by simp [fs_tokF]) i hi)
    have o2 := va_eqt (hf ("java/lang/Enum", "ordinal", "I", fs_tokO) (by simp [fs_tokF]) j hj)
    rw [va_fe q1] at o1
    rw [va_fe q2] at o2
    have hne : a ≠ b := by
      intro e
      subst e
      have e2 := o1.symm.trans o2
      have e3 : fs_tokO.getD i 0 = fs_tokO.getD j 0 := by
        injection e2 with e2
        injection e2
      have hd : ∀ i, i < 37 → ∀ j, j < 37 → fs_tokO.getD i 0 = fs_tokO.getD j 0 → i = j := by decide +kernel
      exact hij (hd i hi j hj e3)
    exact fs_neq q1 q2 hne
end STAT0
