-- ===== by hand: the law's end =====
section TOPE
variable {s : State}
/-- the law's end, out of the loop's -/
theorem fs_end {g : fs_G} {p : Program} {e : Env} {m : MethodId} {below : List Frame} {meth : Method} {c : Code} {b : Nat} {H : Heap} {locs : List Loc} {cells slots : Nat} {f : JFrame} (hsz : g_sz g = s.heap.size)
    (h : W p (g_l g) e room_1 s m #[Value.ref b] below meth c H locs cells slots (MQ below (fs_Q g 2 271 (fun v _ => v = some (fs_i 1))) #[Value.ref b] s 601024 7293034 (fs_A g)) f) : W p (g_l g) e room_1 s m #[Value.ref b] below meth c H locs cells slots (lw_Z below #[Value.ref b] s) f := by
  intro T hT X
  obtain ⟨t, st, o, r1, r2, ⟨⟨v, M', ho, hv, -⟩, -⟩, L, hF, hfree⟩ := h T hT X
  subst hv
  subst ho
  refine ⟨t, st, _, r1, r2, rfl, ?_⟩
  obtain ⟨h1, h2, h3⟩ := hF
  exact ⟨⟨_, rfl⟩, h2, h3.weaken (fun y hy hlt => absurd hlt (Nat.not_lt.mpr (by rw [← hsz]; exact hfree y hy))) (Nat.le_refl _) (Nat.le_refl _)⟩
end TOPE
