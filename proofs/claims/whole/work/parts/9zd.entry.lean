-- ===== by hand: the parameters of the run; all that stands at the entry; the claim's walk =====
section ENTRY
theorem fs_T_ext {ty : FieldType} {t N : Nat} {f f' : Nat → Value} {A : Nat → Prop} {U : State} {H : Heap} (h : va_T ty t N f A U H) (e : ∀ j, j < N → f j = f' j) : va_T ty t N f' A U H := by
  obtain ⟨cell, h1, h2, h3, h4, h5, h6, h7⟩ := h
  exact ⟨cell, h1, h2, h3, h4, h5, fun j hj => by rw [← e j hj]; exact h6 j hj, h7⟩
def fs_so (b tT tS sk sv s3 s4 s5 s6 : Nat) (ad : Nat → Nat) (x : Int) : Nat := if x = 2000 then tT else if x = 2001 then tS else if x = 3000 then b else if x = 3001 then sk else if x = 3002 then sv else if x = 3003 then s3 else if x = 3004 then s4 else if x = 3005 then s5 else if x = 3006 then s6 else ad (x.toNat - 1000)
theorem fs_so_tok (b tT tS sk sv s3 s4 s5 s6 : Nat) (ad : Nat → Nat) {i : Nat} (h : i < 37) : fs_so b tT tS sk sv s3 s4 s5 s6 ad (1000 + (i : Int)) = ad i := by
  unfold fs_so
  rw [if_neg (by omega), if_neg (by omega), if_neg (by omega), if_neg (by omega), if_neg (by omega), if_neg (by omega), if_neg (by omega), if_neg (by omega), if_neg (by omega)]
  rw [show (1000 + (i : Int)).toNat - 1000 = i by omega]
set_option maxHeartbeats 4000000 in
theorem fs_S_of {p : Program} {s : State} {m : MethodId} {meth : Method} {c : Code} (l : Launch) (hflags : l.flags = flags0) {b L : Nat} {xs : Nat → Int32} (C0 : lw_At p s m meth c b L xs) : ∃ g : fs_G, g_l g = l ∧ g_sz g = s.heap.size ∧ g_L g = L ∧ g_so g 3000 = b ∧ fs_S g s := by
  obtain ⟨-, -, -, -, -, hts, hX, hbl, -, hgv⟩ := C0
  have hfl := flat_of_before _ hgv
  have hA : ∀ a : Nat, a < s.heap.size → ¬ (fun q => s.heap.size ≤ q) a := fun a h => Nat.not_le.mpr h
  obtain ⟨dC, dI, hD⟩ := fs_Kn_all (fs_B_of hts)
  have hao := fs_aos_of hts
  obtain ⟨tc, hT⟩ := fs_ty_all (fs_B_of hts) hao
  obtain ⟨ad, hEn, hev⟩ := fs_En_of hts hfl hA
  obtain ⟨tT, eT, hTT⟩ := va_Tof (A := fun q => s.heap.size ≤ q) (tm := .static "FirstSill" "TOKENS" "[LFirstSill$Token;") (ty := .object "FirstSill$Token") (N := 37) (f := fun j => .ref (ad j)) (by decide) (hfl _ (by decide +kernel)) (va_eqt (hfl (Cond.eq (.length (.static "FirstSill" "TOKENS" "[LFirstSill$Token;")) (.int 37)) (by decide +kernel)))
    (fun j hj => va_eqv (fs_flat hfl fs_fl3 _ (fs_mapR (f := fun i => Cond.eq (.elem (.static "FirstSill" "TOKENS" "[LFirstSill$Token;") (.int (Int32.ofNat i))) (fs_tkS i)) hj)) (hev j hj)) hA
  obtain ⟨tS, eS, hTS⟩ := va_Tof (A := fun q => s.heap.size ≤ q) (tm := .static "FirstSill$1" "$SwitchMap$FirstSill$Token" "[I") (ty := .int) (N := 37) (f := fun j => .int (fs_smap.getD j 0)) (by decide) (hfl _ (by decide +kernel)) (va_eqt (hfl (Cond.eq (.length (.static "FirstSill$1" "$SwitchMap$FirstSill$Token" "[I")) (.int 37)) (by decide +kernel)))
    (fun j hj => va_eqt (fs_flat hfl fs_fl4 _ (fs_mapR (f := fun i => Cond.eq (.elem (.static "FirstSill$1" "$SwitchMap$FirstSill$Token" "[I") (.int (Int32.ofNat i))) (.int (fs_smap.getD i 0))) hj))) hA
  have hel : ∀ j, j < 92 → (Cond.eq (.elem (.field (.string "FirstSillModel" 203) "java/lang/String" "value" "[B") (.int (Int32.ofNat j))) (.int (fs_wby.getD j 0))).before #[Value.ref b] s = true := by
    intro j hj
    have h1 := fs_mapR (f := fun j => Cond.eq (.elem (.field (.string "FirstSillModel" 203) "java/lang/String" "value" "[B") (.int (Int32.ofNat j))) (.int (fs_wby.getD j 0))) hj
    rw [← fs_fl5] at h1
    exact hfl _ (List.mem_of_mem_drop (List.mem_of_mem_take h1))
  have hwl : fs_wby.length = 92 := by decide +kernel
  obtain ⟨adK, adV, hSt, hSe⟩ := vk_Sof (args := #[Value.ref b]) (s := s) (N := 1) (tm := fun _ => .string "FirstSillModel" 203) (len := [fs_wby.length]) (byt := [fs_wby]) (A := fun q => s.heap.size ≤ q)
    (fun i hi => by obtain rfl : i = 0 := by omega
                    decide +kernel)
    (fun i hi => hfl _ (by decide +kernel)) (fun i hi => hfl _ (by decide +kernel)) (fun i hi => hfl _ (by decide +kernel))
    (fun i hi => by obtain rfl : i = 0 := by omega
                    exact hfl _ (by decide +kernel))
    (fun i hi j hj => by obtain rfl : i = 0 := by omega
                         exact hel j (by rw [← hwl]; exact hj))
    (fun i j hi hj hij => absurd hij (by omega)) hA
  obtain ⟨s3, _, _, _, e3, -⟩ := Cond.exactly_spec (hfl (Cond.exactly (.string "FirstSill" 156) "java/lang/String") (by decide +kernel))
  obtain ⟨s4, _, _, _, e4, -⟩ := Cond.exactly_spec (hfl (Cond.exactly (.string "FirstSill" 185) "java/lang/String") (by decide +kernel))
  obtain ⟨v5, e5, r5⟩ := Cond.isRef_spec (hfl (Cond.isRef (.static "jdk/internal/util/Preconditions" "SIOOBE_FORMATTER" "Ljava/util/function/BiFunction;")) (by decide +kernel))
  obtain ⟨s5, s6, h56⟩ : ∃ s5 s6 : Nat, (s6 = 0 ∧ v5 = .null) ∨ (s6 ≠ 0 ∧ v5 = .ref s5) := by
    cases v5 with
    | null => exact ⟨0, 0, Or.inl ⟨rfl, rfl⟩⟩
    | ref a => exact ⟨a, 1, Or.inr ⟨by decide, rfl⟩⟩
    | _ => cases r5
  obtain ⟨g, gl, gD, gtc, gsz, gso, gb, gL, gxs⟩ : ∃ g : fs_G, g_l g = l ∧ g_D g = (dC, dI) ∧ g_tc g = tc ∧ g_sz g = s.heap.size ∧ (∀ x, g_so g x = fs_so b tT tS (adK 0) (adV 0) s3 s4 s5 s6 ad x) ∧ g_b g = b ∧ g_L g = L ∧ g_xs g = xs :=
    ⟨((l, (dC, dI), tc), s.heap.size, fs_so b tT tS (adK 0) (adV 0) s3 s4 s5 s6 ad, (b, L, xs)), rfl, rfl, rfl, rfl, fun _ => rfl, rfl, rfl, rfl⟩
  have gA : fs_A g = fun q => s.heap.size ≤ q := by unfold fs_A; rw [gsz]
  have g0 : g_so g 2000 = tT := (gso 2000).trans rfl
  have g1 : g_so g 2001 = tS := (gso 2001).trans rfl
  have g2 : g_so g 3000 = b := (gso 3000).trans rfl
  have g3 : g_so g 3001 = adK 0 := (gso 3001).trans rfl
  have g4 : g_so g 3002 = adV 0 := (gso 3002).trans rfl
  have g5 : g_so g 3003 = s3 := (gso 3003).trans rfl
  have g6 : g_so g 3004 = s4 := (gso 3004).trans rfl
  have g7 : g_so g 3005 = s5 := (gso 3005).trans rfl
  have g8 : g_so g 3006 = s6 := (gso 3006).trans rfl
  have gt : ∀ i : Nat, i < 37 → g_so g (1000 + (i : Int)) = ad i := fun i hi => (gso _).trans (fs_so_tok _ _ _ _ _ _ _ _ _ _ hi)
  refine ⟨g, gl, gsz, gL, g2, fs_K_of (by rw [gD]; exact hD) (by rw [gtc]; exact hT), fs_NW_of hts, ?_, by rw [gsz]; exact Nat.le_refl _, va_Nc.of (hfl _ (by decide +kernel)), ?_, hao, fs_EW_of hts⟩
  · unfold fs_ST
    rw [gA, g0, g1, g2, g3, g4, g5, g6, gb, gL, gxs]
    refine ⟨⟨fun i hi => ?_, fun i j hi hj he => ?_⟩, va_Zref (hts _ (List.mem_of_getElem? (i := 714) (by decide +kernel))) (hts _ (List.mem_of_getElem? (i := 148) (by decide +kernel))) eT hA, fs_T_ext hTT (fun j hj => by rw [gt j hj]),
      va_Zref (hts _ (List.mem_of_getElem? (i := 801) (by decide +kernel))) (hts _ (List.mem_of_getElem? (i := 163) (by decide +kernel))) eS hA, hTS, ⟨fun i hi => ?_, fun i j hi hj _ => by omega⟩, vk_R.of (hts _ (List.mem_of_getElem? (i := 1673) (by decide +kernel))) (hSe 0 (by decide)),
      va_Zof (hts _ (List.mem_of_getElem? (i := 1683) (by decide +kernel))) (hts _ (List.mem_of_getElem? (i := 165) (by decide +kernel))) (va_eqi (hfl _ (by decide +kernel))) hA, vk_R.of (hts _ (List.mem_of_getElem? (i := 1357) (by decide +kernel))) e3, vk_R.of (hts _ (List.mem_of_getElem? (i := 1393) (by decide +kernel))) e4,
      vx_Zqof (hts _ (List.mem_of_getElem? (i := 1344) (by decide +kernel))) (hts _ (List.mem_of_getElem? (i := 169) (by decide +kernel))) (hfl _ (by decide +kernel)) hA, vx_Zqof (hts _ (List.mem_of_getElem? (i := 1346) (by decide +kernel))) (hts _ (List.mem_of_getElem? (i := 169) (by decide +kernel))) (hfl _ (by decide +kernel)) hA,
      hX, Nat.not_le.mpr hbl, rfl, ?_⟩
    · have h9 := hEn.1 i hi
      rw [← gt i hi] at h9
      exact h9
    · have he2 : g_so g (1000 + (i : Int)) = g_so g (1000 + (j : Int)) := he
      rw [gt i hi, gt j hj] at he2
      exact hEn.2 i j hi hj he2
    · obtain rfl : i = 0 := by omega
      exact hSt.1 0 hi
    · have hv : fs_e g (fs_r (fs_fm g)) = v5 := by
        rcases h56 with ⟨z, rfl⟩ | ⟨z, rfl⟩
        · have e : fs_fm g = -1 := by unfold fs_fm; rw [g8, if_pos z]
          rw [e]
          rfl
        · have e : fs_fm g = 3005 := by unfold fs_fm; rw [g8, if_neg z]
          rw [e, ← g7]
          rfl
      rw [hv]
      exact va_Zof (hts _ (List.mem_of_getElem? (i := 1699) (by decide +kernel))) (hts _ (List.mem_of_getElem? (i := 167) (by decide +kernel))) e5 hA
  · rw [gl]
    unfold Launch.stackTraces
    rw [hflags]
    decide +kernel
/-- from the entry, for every script of at most 3072 ints, the law comes to its end with true -/
theorem whole_start {p : Program} {e : Env} {s : State} {m : MethodId} {below : List Frame} {meth : Method} {c : Code} (l : Launch) (hflags : l.flags = flags0) {b L : Nat} {xs : Nat → Int32} (hL : L ≤ 3072) (C0 : lw_At p s m meth c b L xs) : W p l e room_1 s m #[Value.ref b] below meth c s.heap [] 0 0 (lw_Z below #[Value.ref b] s) (entryFrame m ([Value.ref b] : List Value).toArray 7) := by
  obtain ⟨g, gl, gsz, gL, gb, hS⟩ := fs_S_of l hflags C0
  obtain ⟨hx, hb, hr, hml, hown, hts, hX, hbl, hlk, hgv⟩ := C0
  subst gl
  refine fs_end gsz ?_
  have hE : fs_e g (fs_r 3000) = .ref b := by
    rw [← gb]
    rfl
  rw [lg_entry_eq]
  have hl := lv_entry (n := 7) [Value.ref b] (Nat.le_of_ble_eq_true rfl)
  have hls : lv_args 0 [Value.ref b] = fs_lv g [(0, fs_r 3000)] := by
    unfold fs_lv
    rw [List.map_cons, hE]
    rfl
  rw [hls] at hl
  have hR2 : fs_R2 g fs_ZA (0, 0, 0) s (fs_Tt 0) s.heap := ⟨fun k q hk => by simp [fs_W] at hk, fun _ => by rw [gsz]⟩
  have hC : fs_C g (m_LawN meth.name) 170 fs_ZA p room_1 s m #[Value.ref b] meth c := ⟨hx, hb, hml, hr, hlk, hown, fs_B_of hts, hS, ⟨by decide, by decide, by decide, by decide⟩, rfl⟩
  have hXI : fs_XI 1 (fs_Tt 0) := ⟨fs_rng_df, fun q => by cases q⟩
  have hlo : fs_okl [(0, fs_r 3000)] := fun q hq => by
    rw [List.mem_singleton] at hq
    subst hq
    show fs_in32 3000
    unfold fs_in32
    omega
  exact law_start (g := g) (nm := meth.name) (by rw [gL]; exact hL) p e room_1 s m #[Value.ref b] below meth c hC trivial s.heap [] _ hl hR2 va_S.rf hXI hlo (fun v hv => by cases hv)
end ENTRY
