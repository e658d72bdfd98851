-- ===== the relation kept by the calls that change the plan, the past or the night =====
theorem fs_rp.cong2 {M M' : fs_M} {p b : Int} (h : fs_rp M p b) (h3 : M 1 9 ≤ 3) (he : ∀ o k, o = 1 ∨ (p ≤ o ∧ o ≤ p + 5) ∨ fs_mlc b o k → M' o k = M o k) : fs_rp M' p b := by
  obtain ⟨a, c, d⟩ := h
  have s1 : ∀ k, M' 1 k = M 1 k := fun k => he 1 k (Or.inl rfl)
  have s2 : ∀ o k, p ≤ o → o ≤ p + 5 → M' o k = M o k := fun o k q r => he o k (Or.inr (Or.inl ⟨q, r⟩))
  have s3 : ∀ o k, fs_mlc b o k → M' o k = M o k := fun o k q => he o k (Or.inr (Or.inr q))
  refine ⟨by rw [s2 p 2 (by omega) (by omega), s3 243 b (by unfold fs_mlc; omega)]; exact a, by rw [s2 p 3 (by omega) (by omega), s3 244 b (by unfold fs_mlc; omega)]; exact c, fun x x0 x1 => ?_⟩
  rw [s1 9] at x1
  obtain ⟨e1, e2, e3, e4⟩ := d x x0 x1
  rw [s2 (p + 5) x (by omega) (by omega), s3 242 (3 * b + x) (by unfold fs_mlc; omega), s1 5]
  refine ⟨e1, e2, e3, fun k k0 k1 => ?_⟩
  rw [s2 (p + 2 + x) k (by omega) (by omega), s3 241 (27 * b + 9 * x + k) (by unfold fs_mlc; omega)]
  exact e4 k k0 k1
theorem fs_rz.cong2 {M M' : fs_M} {p b : Int} (h : fs_rz M p b) (he : ∀ o k, o = 1 ∨ (p ≤ o ∧ o ≤ p + 5) ∨ fs_mlc b o k → M' o k = M o k) : fs_rz M' p b := fun d d0 d1 d2 => by
  rw [he 1 9 (Or.inl rfl)] at d1
  rw [he (p + 5) d (Or.inr (Or.inl (by omega))), he 242 (3 * b + d) (Or.inr (Or.inr (by unfold fs_mlc; omega)))]
  exact h d d0 d1 d2
theorem fs_ngx.cong2 {M M' : fs_M} {nt b : Int} (h : fs_ngx M nt b) (h6 : M 1 5 ≤ 6) (he : ∀ o k, o = 1 ∨ (nt ≤ o ∧ o ≤ nt + 2) ∨ (245 ≤ o ∧ o ≤ 246 ∧ k = b) ∨ (247 ≤ o ∧ o ≤ 248 ∧ 6 * b ≤ k ∧ k < 6 * b + 6) → M' o k = M o k) : fs_ngx M' nt b := by
  obtain ⟨a, c, d⟩ := h
  refine ⟨by rw [he nt 3 (by omega), he 245 b (by omega)]; exact a, by rw [he nt 2 (by omega), he 246 b (by omega)]; exact c, fun q x x0 x1 => ?_⟩
  rw [he nt 2 (by omega)] at q
  rw [he 1 5 (by omega)] at x1
  rw [he (nt + 1) x (by omega), he (nt + 2) x (by omega), he 247 (6 * b + x) (by omega), he 248 (6 * b + x) (by omega)]
  exact d q x x0 x1
/-- what none of send, drop, glass, out, undo, climb, night, back touches -/
def fs_supG (o k : Int) : Prop := (o = 0 ∧ k = 13) ∨ fs_eC o ∨ (o = 9 ∧ k = 2) ∨ (o = 29 ∧ 1 ≤ k ∧ k ≤ 3) ∨ o = 30 ∨ (90 ≤ o ∧ o ≤ 94) ∨ (217 ≤ o ∧ o ≤ 225) ∨ (o = 226 ∧ (k = 2 ∨ k = 25 ∨ k = 26 ∨ k = 37 ∨ k = 68 ∨ k = 69)) ∨ o = 227 ∨ fs_mlc 1 o k ∨ (245 ≤ o ∧ o ≤ 246 ∧ k = 1) ∨ (247 ≤ o ∧ o ≤ 248 ∧ 6 ≤ k ∧ k < 12) ∨ (265 ≤ o ∧ o ≤ 267)
theorem fs_Rl.gen {M M' : fs_M} (h : fs_Rl M) (he : ∀ o k, fs_supG o k → M' o k = M o k) (hp : fs_pr M') (hz : fs_prz M') (hn : fs_ngx M' 54 0) (hs : fs_bkS M' M') : fs_Rl M' := by
  obtain ⟨a, b, c, d, e, f, i, n, t, r, _⟩ := h
  have h3 := a.2.2.2.1
  have h6 := a.2.1
  have env : fs_env M M' := fun o k q => he o k (Or.inr (Or.inl q))
  have h9 : M' 9 2 = M 9 2 := he 9 2 (Or.inr (Or.inr (Or.inl ⟨rfl, rfl⟩)))
  have s : ∀ o k, (o = 0 ∧ k = 13) ∨ o = 1 ∨ (o = 29 ∧ 1 ≤ k ∧ k ≤ 3) ∨ o = 30 ∨ (90 ≤ o ∧ o ≤ 94) ∨ (217 ≤ o ∧ o ≤ 225) ∨ (o = 226 ∧ (k = 2 ∨ k = 25 ∨ k = 26 ∨ k = 37 ∨ k = 68 ∨ k = 69)) ∨ o = 227 ∨ (245 ≤ o ∧ o ≤ 246 ∧ k = 1) ∨ (247 ≤ o ∧ o ≤ 248 ∧ 6 ≤ k ∧ k < 12) ∨ (265 ≤ o ∧ o ≤ 267) → M' o k = M o k := fun o k q => by
    apply he o k
    rcases q with q | q | q | q | q | q | q | q | q | q | q
    · exact Or.inl q
    · exact Or.inr (Or.inl (by unfold fs_eC; omega))
    · exact Or.inr (Or.inr (Or.inr (Or.inl q)))
    · exact Or.inr (Or.inr (Or.inr (Or.inr (Or.inl q))))
    · exact Or.inr (Or.inr (Or.inr (Or.inr (Or.inr (Or.inl q)))))
    · exact Or.inr (Or.inr (Or.inr (Or.inr (Or.inr (Or.inr (Or.inl q))))))
    · exact Or.inr (Or.inr (Or.inr (Or.inr (Or.inr (Or.inr (Or.inr (Or.inl q)))))))
    · exact Or.inr (Or.inr (Or.inr (Or.inr (Or.inr (Or.inr (Or.inr (Or.inr (Or.inl q))))))))
    · exact Or.inr (Or.inr (Or.inr (Or.inr (Or.inr (Or.inr (Or.inr (Or.inr (Or.inr (Or.inr (Or.inl q))))))))))
    · exact Or.inr (Or.inr (Or.inr (Or.inr (Or.inr (Or.inr (Or.inr (Or.inr (Or.inr (Or.inr (Or.inr (Or.inl q)))))))))))
    · exact Or.inr (Or.inr (Or.inr (Or.inr (Or.inr (Or.inr (Or.inr (Or.inr (Or.inr (Or.inr (Or.inr (Or.inr (q))))))))))))
  have s2 : ∀ o k, fs_mlc 1 o k → M' o k = M o k := fun o k q => he o k (Or.inr (Or.inr (Or.inr (Or.inr (Or.inr (Or.inr (Or.inr (Or.inr (Or.inr (Or.inl q))))))))))
  refine ⟨env.bE a, env.rt b, c.cong env, d.cong env h9, hp, hz, ?_, hn, t.cong (fun o k q => s o k (by omega)), r.cong (fun o k q => s o k (by omega)), hs⟩
  obtain ⟨i1, i2⟩ := i
  refine ⟨by rw [s 0 13 (by omega), s 226 37 (by omega)]; exact i1, fun q => ?_⟩
  rw [s 0 13 (by omega)] at q
  obtain ⟨j1, j2, j3⟩ := i2 q
  have cg : ∀ o k, o = 1 ∨ (217 ≤ o ∧ o ≤ 217 + 5) ∨ fs_mlc 1 o k → M' o k = M o k := fun o k w => by
    rcases w with w | w | w
    · exact s o k (by omega)
    · exact s o k (by omega)
    · exact s2 o k w
  exact ⟨j1.cong2 h3 cg, j2.cong2 cg, j3.cong2 h6 (fun o k w => s o k (by omega))⟩
theorem fs_ngx.at {M M' : fs_M} (h : fs_Rl M) (he : ∀ o k, o = 1 ∨ (54 ≤ o ∧ o ≤ 56) ∨ (245 ≤ o ∧ o ≤ 248) → M' o k = M o k) : fs_ngx M' 54 0 := h.2.2.2.2.2.2.2.1.cong he
theorem fs_bkS.none {E M : fs_M} (h : M 60 5 = 0) : fs_bkS E M := fun q => absurd h q
theorem fs_rz.upd {M M2 : fs_M} (h : fs_rz M 31 0) (e : M2 1 9 = M 1 9) (e1 : ∀ d, M 1 9 ≤ d → d < 3 → M2 36 d = M 36 d ∧ M2 242 d = M 242 d) : fs_rz M2 31 0 := fun d d0 d1 d2 => by
  rw [e] at d1
  obtain ⟨a, b⟩ := e1 d d1 d2
  have z := h d d0 d1 d2
  rw [show (31 : Int) + 5 = 36 from rfl, show (3 : Int) * 0 + d = d from by omega] at z ⊢
  rw [a, b]
  exact z
theorem fs_pcM.un {M M2 : fs_M} (h : fs_pcM (fs_st M 226 0 0) M2) : fs_pcM M M2 := by
  obtain ⟨a, b, c, d⟩ := h
  have e : fs_st M 226 0 0 226 38 = M 226 38 := fs_st_k (by omega)
  rw [e] at b c d
  exact ⟨(fs_out.rf.st (F := fs_FcM) (Or.inr ⟨rfl, Or.inr rfl⟩)).tr a, b, c.tr (fs_mcp_st rfl), fun j j0 j1 => (d j j0 j1).tr (fs_mcp_st rfl)⟩
section OPSB
variable {g : fs_G} {M : fs_M}
theorem op_send {a b : Int} (h : fs_Rl M) : fs_C2 g m_Fs_send 3 [fs_r 0, fs_i a, fs_i b] M (fs_KK g m_Mo_send 3 [fs_r 226, fs_i a, fs_i b]) := by
  have hB := h.1
  have hT := h.2.1
  have hp := h.2.2.2.2.1
  have hz := h.2.2.2.2.2.1
  have h3 := hB.2.2.2.1
  refine oc_send hB hp (fun n => ⟨-1, rfl, ?_⟩) (fun n M1 pc o1 v1 w1 => ⟨_, rfl, ?_⟩)
  · exact om_send hB hT hp (fun _ _ _ => rfl) (fun _ _ _ _ => rfl) rfl (fun _ => ⟨rfl, h.two (fs_out.rf (F := fs_FM)) fs_out0 fs_nM fs_nM⟩) (fun y => absurd n y)
  · have c : ¬ (a < 0 ∨ M 1 9 ≤ a ∨ b < 0 ∨ M 1 5 ≤ b ∨ ¬ M 36 a < 9) := fun c => n (by unfold fs_vSend; rw [if_pos c])
    have a0 : 0 ≤ a := by omega
    have a1 : a < M 1 9 := by omega
    have o1' : ∀ o k, ¬ (fs_FPa o k ∨ (o = 33 + a ∧ k = M 36 a) ∨ (o = 36 ∧ k = a)) → M1 o k = M o k := o1
    refine om_send hB hT hp (fun o k q => o1' o k (by unfold fs_FPa; unfold fs_eC at q; omega)) (fun o k q r => o1' o k (by unfold fs_FPa; omega)) (o1' 226 38 (by unfold fs_FPa; omega)) (fun y => absurd y n) (fun _ M2 pm o2 v2 w2 => ⟨rfl, ?_⟩)
    have o2' : ∀ o k, ¬ (fs_FK o k ∨ (o = 226 ∧ k = 0) ∨ (o = 241 ∧ k = 9 * a + M 36 a) ∨ (o = 242 ∧ k = a)) → M2 o k = M1 o k := o2
    have rp := fs_rp_send hB hp.2.2.2.2.2.1 a0 a1 (by omega) (by omega) (by omega) o1 v1 w1 o2 v2 w2
    have al : ∀ o k, ¬ (fs_FPa o k ∨ (o = 33 + a ∧ k = M 36 a) ∨ (o = 36 ∧ k = a)) → ¬ (fs_FK o k ∨ (o = 226 ∧ k = 0) ∨ (o = 241 ∧ k = 9 * a + M 36 a) ∨ (o = 242 ∧ k = a)) → M2 o k = M o k := fun o k q r => (o2' o k r).trans (o1' o k q)
    have rz : fs_rz M2 31 0 := hz.1.upd (al 1 9 (by unfold fs_FPa; omega) (by unfold fs_FK; omega)) (fun d d1 d2 => ⟨al 36 d (by unfold fs_FPa; omega) (by unfold fs_FK; omega), al 242 d (by unfold fs_FPa; omega) (by unfold fs_FK; omega)⟩)
    refine h.gen (fun o k q => ?_) (fs_pr.next h3 hp pc pm rp) (fs_prz.next hp hz pc pm rz) (fs_ngx.at h (fun o k q => al o k (by unfold fs_FPa; omega) (by unfold fs_FK; omega))) (fs_bkS.next h3 h.2.2.2.2.2.2.2.2.2.2 (fun o k q => ?_))
    · unfold fs_supG fs_mlc fs_eC at q
      exact al o k (by unfold fs_FPa; omega) (by unfold fs_FK; omega)
    · unfold fs_supB fs_eC at q
      exact al o k (by unfold fs_FPa; omega) (by unfold fs_FK; omega)
theorem op_drop {a : Int} (h : fs_Rl M) : fs_C2 g m_Fs_drop 3 [fs_r 0, fs_i a] M (fs_KK g m_Mo_drop 3 [fs_r 226, fs_i a]) := by
  have hB := h.1
  have hT := h.2.1
  have hp := h.2.2.2.2.1
  have hz := h.2.2.2.2.2.1
  have h3 := hB.2.2.2.1
  refine oc_drop hB hp (fun n => ⟨-1, rfl, ?_⟩) (fun n M1 pc o1 w1 => ⟨_, rfl, ?_⟩)
  · exact om_drop hB hT hp (fun _ _ _ => rfl) (fun _ _ _ _ => rfl) rfl (fun _ => ⟨rfl, h.two (fs_out.rf (F := fs_FM)) fs_out0 fs_nM fs_nM⟩) (fun y => absurd n y)
  · have c : ¬ (a < 0 ∨ M 1 9 ≤ a ∨ M 36 a = 0) := n
    have a0 : 0 ≤ a := by omega
    have a1 : a < M 1 9 := by omega
    have o1' : ∀ o k, ¬ (fs_FPa o k ∨ (o = 36 ∧ k = a)) → M1 o k = M o k := o1
    refine om_drop hB hT hp (fun o k q => o1' o k (by unfold fs_FPa; unfold fs_eC at q; omega)) (fun o k q r => o1' o k (by unfold fs_FPa; omega)) (o1' 226 38 (by unfold fs_FPa; omega)) (fun y => absurd y n) (fun _ M2 pm o2 w2 => ⟨rfl, ?_⟩)
    have o2' : ∀ o k, ¬ (fs_FK o k ∨ (o = 226 ∧ k = 0) ∨ (o = 242 ∧ k = a)) → M2 o k = M1 o k := o2
    have rp := fs_rp_drop hB hp.2.2.2.2.2.1 a0 a1 (by omega) o1 w1 o2 w2
    have al : ∀ o k, ¬ (fs_FPa o k ∨ (o = 36 ∧ k = a)) → ¬ (fs_FK o k ∨ (o = 226 ∧ k = 0) ∨ (o = 242 ∧ k = a)) → M2 o k = M o k := fun o k q r => (o2' o k r).trans (o1' o k q)
    have rz : fs_rz M2 31 0 := hz.1.upd (al 1 9 (by unfold fs_FPa; omega) (by unfold fs_FK; omega)) (fun d d1 d2 => ⟨al 36 d (by unfold fs_FPa; omega) (by unfold fs_FK; omega), al 242 d (by unfold fs_FPa; omega) (by unfold fs_FK; omega)⟩)
    refine h.gen (fun o k q => ?_) (fs_pr.next h3 hp pc pm rp) (fs_prz.next hp hz pc pm rz) (fs_ngx.at h (fun o k q => al o k (by unfold fs_FPa; omega) (by unfold fs_FK; omega))) (fs_bkS.next h3 h.2.2.2.2.2.2.2.2.2.2 (fun o k q => ?_))
    · unfold fs_supG fs_mlc fs_eC at q
      exact al o k (by unfold fs_FPa; omega) (by unfold fs_FK; omega)
    · unfold fs_supB fs_eC at q
      exact al o k (by unfold fs_FPa; omega) (by unfold fs_FK; omega)
theorem fs_Rl.turned {f v : Int} {M1 M2 : fs_M} (hf : f = 2 ∨ f = 3) (h : fs_Rl M) (pc : fs_pcC M M1) (o1 : fs_out (fun o k => fs_FPa o k ∨ (o = 31 ∧ k = f) ∨ (o = 60 ∧ k = 5)) M M1) (w1 : M1 31 f = v) (s1 : M1 60 5 = 0)
    (pm : fs_pcM (fs_st M1 226 0 0) M2) (o2 : fs_out (fun o k => fs_FK o k ∨ (o = 241 + f ∧ k = 0)) (fs_st M1 226 0 0) M2) (w2 : M2 (241 + f) 0 = v) : fs_Rl M2 := by
  have hB := h.1
  have hp := h.2.2.2.2.1
  have hz := h.2.2.2.2.2.1
  have h3 := hB.2.2.2.1
  have o1' : ∀ o k, ¬ (fs_FPa o k ∨ (o = 31 ∧ k = f) ∨ (o = 60 ∧ k = 5)) → M1 o k = M o k := o1
  have o3 : fs_out (fun o k => fs_FK o k ∨ (o = 226 ∧ k = 0) ∨ (o = 241 + f ∧ k = 0)) M1 M2 := fs_out.tr (fs_out.rf.st (Or.inr (Or.inl ⟨rfl, rfl⟩))) (o2.wk (fun o k q => by
    rcases q with q | q
    · exact Or.inl q
    · exact Or.inr (Or.inr q)))
  have o3' : ∀ o k, ¬ (fs_FK o k ∨ (o = 226 ∧ k = 0) ∨ (o = 241 + f ∧ k = 0)) → M2 o k = M1 o k := o3
  have al : ∀ o k, ¬ (fs_FPa o k ∨ (o = 31 ∧ k = f) ∨ (o = 60 ∧ k = 5)) → ¬ (fs_FK o k ∨ (o = 226 ∧ k = 0) ∨ (o = 241 + f ∧ k = 0)) → M2 o k = M o k := fun o k q r => (o3' o k r).trans (o1' o k q)
  have rp := fs_rp_turn hf hB hp.2.2.2.2.2.1 o1 w1 o3 w2
  have rz : fs_rz M2 31 0 := hz.1.upd (al 1 9 (by unfold fs_FPa; omega) (by unfold fs_FK; omega)) (fun d d1 d2 => ⟨al 36 d (by unfold fs_FPa; omega) (by unfold fs_FK; omega), al 242 d (by unfold fs_FPa; omega) (by unfold fs_FK; omega)⟩)
  refine h.gen (fun o k q => ?_) (fs_pr.next h3 hp pc pm.un rp) (fs_prz.next hp hz pc pm.un rz) (fs_ngx.at h (fun o k q => al o k (by unfold fs_FPa; omega) (by unfold fs_FK; omega))) (fs_bkS.none (by rw [o3' 60 5 (by unfold fs_FK; omega)]; exact s1))
  unfold fs_supG fs_mlc fs_eC at q
  exact al o k (by unfold fs_FPa; omega) (by unfold fs_FK; omega)
theorem op_glass {a b : Int} (h : fs_Rl M) : fs_C2 g m_Fs_glass 3 [fs_r 0, fs_i a, fs_i b] M (fs_KK g m_Mo_glass 3 [fs_r 226, fs_i a, fs_i b]) := by
  have hT := h.2.1
  have hp := h.2.2.2.2.1
  refine oc_glass hp (fun n => ⟨0, rfl, ?_⟩) (fun n M1 pc o1 w1 s1 => ⟨1, rfl, ?_⟩)
  · exact om_glass hT hp (fun _ _ _ => rfl) (fun _ _ _ _ => rfl) rfl (fun _ => ⟨rfl, h.two (fs_out.rf (F := fs_FM)) fs_out0 fs_nM fs_nM⟩) (fun y => absurd n y)
  · have o1' : ∀ o k, ¬ (fs_FPa o k ∨ (o = 31 ∧ k = 2) ∨ (o = 60 ∧ k = 5)) → M1 o k = M o k := o1
    exact om_glass hT hp (fun o k q => o1' o k (by unfold fs_FPa; unfold fs_eC at q; omega)) (fun o k q r => o1' o k (by unfold fs_FPa; omega)) (o1' 226 38 (by unfold fs_FPa; omega)) (fun y => absurd y n) (fun _ M2 pm o2 w2 => ⟨rfl, h.turned (Or.inl rfl) pc o1 w1 s1 pm o2 w2⟩)
theorem op_out {a b : Int} (h : fs_Rl M) : fs_C2 g m_Fs_out 3 [fs_r 0, fs_i a, fs_i b] M (fs_KK g m_Mo_out 3 [fs_r 226, fs_i a, fs_i b]) := by
  have hT := h.2.1
  have hp := h.2.2.2.2.1
  refine oc_out hp (fun n => ⟨0, rfl, ?_⟩) (fun n M1 pc o1 w1 s1 => ⟨1, rfl, ?_⟩)
  · exact om_out h.1 hT h.2.2.1 hp (fun _ _ _ => rfl) (fun _ _ _ _ => rfl) rfl (fun _ => ⟨rfl, h.two (fs_out.rf (F := fs_FM)) fs_out0 fs_nM fs_nM⟩) (fun y => absurd n y)
  · have o1' : ∀ o k, ¬ (fs_FPa o k ∨ (o = 31 ∧ k = 3) ∨ (o = 60 ∧ k = 5)) → M1 o k = M o k := o1
    exact om_out h.1 hT h.2.2.1 hp (fun o k q => o1' o k (by unfold fs_FPa; unfold fs_eC at q; omega)) (fun o k q r => o1' o k (by unfold fs_FPa; omega)) (o1' 226 38 (by unfold fs_FPa; omega)) (fun y => absurd y n) (fun _ M2 pm o2 w2 => ⟨rfl, h.turned (Or.inr rfl) pc o1 w1 s1 pm o2 w2⟩)
theorem op_undo (h : fs_Rl M) : fs_C2 g m_Fs_undo 3 [fs_r 0] M (fs_KK g m_Mo_undo 2 [fs_r 226]) := by
  have hB := h.1
  have hp := h.2.2.2.2.1
  have hz := h.2.2.2.2.2.1
  have h3 := hB.2.2.2.1
  have e38 : M 226 38 = M 95 2 := hp.2.2.2.2.1
  refine oc_undo hp (fun n => ⟨-1, rfl, ?_⟩) (fun n M1 o1 e1 c1 s1 => ⟨_, rfl, ?_⟩)
  · exact om_undo e38 hp.2.2.1 hp.2.2.2.1 (fun _ => ⟨rfl, h.two (fs_out.rf (F := fs_FM)) fs_out0 fs_nM fs_nM⟩) (fun y => absurd n y)
  · have o1' : ∀ o k, ¬ (fs_plc 31 o k ∨ (o = 95 ∧ k = 2) ∨ (o = 60 ∧ k = 5)) → M1 o k = M o k := o1
    have f38 : M1 226 38 = M 95 2 := (o1' 226 38 (by unfold fs_plc; omega)).trans e38
    refine om_undo f38 hp.2.2.1 hp.2.2.2.1 (fun y => absurd y n) (fun _ M2 o2 e2 c2 => ⟨rfl, ?_⟩)
    have o2' : ∀ o k, ¬ (fs_mlc 0 o k ∨ (o = 226 ∧ (k = 0 ∨ k = 38))) → M2 o k = M1 o k := o2
    have al : ∀ o k, ¬ (fs_plc 31 o k ∨ (o = 95 ∧ k = 2) ∨ (o = 60 ∧ k = 5)) → ¬ (fs_mlc 0 o k ∨ (o = 226 ∧ (k = 0 ∨ k = 38))) → M2 o k = M o k := fun o k q r => (o2' o k r).trans (o1' o k q)
    rw [← f38] at e2 c2
    refine h.gen (fun o k q => ?_) (fs_pr.undo h3 hp n o1 e1 c1 o2 e2 c2) (fs_prz.undo hp hz n o1 e1 c1 o2 c2) (fs_ngx.at h (fun o k q => al o k (by unfold fs_plc; omega) (by unfold fs_mlc; omega))) (fs_bkS.none (by rw [o2' 60 5 (by unfold fs_mlc; omega)]; exact s1))
    unfold fs_supG fs_mlc fs_eC at q
    exact al o k (by unfold fs_plc; omega) (by unfold fs_mlc; omega)
theorem op_was {a b : Int} (h : fs_Rl M) : fs_C2 g m_Fs_was 2 [fs_r 0, fs_i a, fs_i b] M (fs_KK g m_Mo_was 2 [fs_r 226, fs_i a, fs_i b]) := by
  obtain ⟨n1, n2, n3⟩ := h.2.2.2.2.2.2.2.1
  have e : fs_vWas M a b (M 54 2) (M 55) (M 56) = fs_vWas M a b (M 246 0) (M 247) (M 248) := by
    unfold fs_vWas
    by_cases c : a < 0 ∨ M 1 5 ≤ a ∨ b < 0 ∨ 1 < b
    · rw [if_pos c, if_pos c]
    · rw [if_neg c, if_neg c, ← n2]
      by_cases z : M 54 2 = 0
      · rw [if_pos z, if_pos z]
      · rw [if_neg z, if_neg z]
        obtain ⟨x, y⟩ := n3 z a (by omega) (by omega)
        rw [show (6 : Int) * 0 + a = a from by omega] at x y
        rw [show (54 : Int) + 1 = 55 from rfl] at x
        rw [show (54 : Int) + 2 = 56 from rfl] at y
        rw [x, y]
  exact oc_was h.1 ⟨_, rfl, om_was h.1 h.2.1 (fun _ _ _ => rfl) (by rw [← e]; exact ⟨rfl, h.two (fs_out.rf (F := fs_FM)) fs_out0 fs_nM fs_nM⟩)⟩
theorem op_night (h : fs_Rl M) : fs_C2 g m_Fs_night 8 [fs_r 0] M (fs_KK g m_Mo_night 9 [fs_r 226]) := by
  have hB := h.1
  have hT := h.2.1
  have hp := h.2.2.2.2.1
  have hz := h.2.2.2.2.2.1
  have h3 := hB.2.2.2.1
  have h6 := hB.2.1
  obtain ⟨n1, n2, n3⟩ := h.2.2.2.2.2.2.2.1
  refine oc_night hB hp.2.2.2.2.2.1 (fun M1 o1 a1 b1 c1 => ⟨_, rfl, ?_⟩)
  have o1' : ∀ o k, ¬ ((o = 14 ∨ (o = 9 ∧ 6 ≤ k ∧ k ≤ 13)) ∨ (46 ≤ o ∧ o ≤ 53) ∨ (o = 43 ∧ (k = 1 ∨ k = 2 ∨ k = 7)) ∨ (54 ≤ o ∧ o ≤ 56)) → M1 o k = M o k := fun o k q => o1 o k (by unfold fs_FP fs_F5 fs_F2; omega)
  have x1 : M1 245 0 = M 54 3 := by rw [o1' 245 0 (by omega)]; exact n1.symm
  have x2 : M1 246 0 = M 54 2 := by rw [o1' 246 0 (by omega)]; exact n2.symm
  rw [← x1]
  refine om_night hB hT hp.2.2.2.2.2.1 (fun o k q => o1' o k (by unfold fs_eC2 fs_eC at q; omega)) (fun M2 o2 a2 b2 c2 => ⟨rfl, ?_⟩)
  have o2' : ∀ o k, ¬ (fs_FM o k ∨ (245 ≤ o ∧ o ≤ 246 ∧ k = 0) ∨ ((o = 247 ∨ o = 248) ∧ 0 ≤ k ∧ k < 6)) → M2 o k = M1 o k := o2
  rw [x1] at a2 c2
  rw [x2] at b2
  have al : ∀ o k, ¬ ((o = 14 ∨ (o = 9 ∧ 6 ≤ k ∧ k ≤ 13)) ∨ (46 ≤ o ∧ o ≤ 53) ∨ (o = 43 ∧ (k = 1 ∨ k = 2 ∨ k = 7)) ∨ (54 ≤ o ∧ o ≤ 56)) → ¬ (fs_FM o k ∨ (245 ≤ o ∧ o ≤ 246 ∧ k = 0) ∨ ((o = 247 ∨ o = 248) ∧ 0 ≤ k ∧ k < 6)) → M2 o k = M o k := fun o k q r => (o2' o k r).trans (o1' o k q)
  have ne : ∀ o k, fs_FM o k → ¬ (fs_sup o k ∨ fs_supB o k) := fs_nM
  have kp : ∀ o k, fs_sup o k ∨ fs_supB o k → ¬ (54 ≤ o ∧ o ≤ 56) → ¬ ((245 ≤ o ∧ o ≤ 246 ∧ k = 0) ∨ ((o = 247 ∨ o = 248) ∧ 0 ≤ k ∧ k < 6)) → M2 o k = M o k := fun o k q r s => al o k (by
      unfold fs_sup fs_supB fs_eC at q
      omega) (fun z => by
      rcases z with z | z
      · exact ne o k z q
      · exact s z)
  have nd : ∀ o k, 54 ≤ o → o ≤ 56 → M2 o k = M1 o k := fun o k q r => o2' o k (fun z => by
    rcases z with z | z
    · exact ne o k z (Or.inl (by unfold fs_sup; omega))
    · omega)
  refine h.gen (fun o k q => ?_) (hp.cong h3 (fun o k q => ?_)) (hz.cong (fun o k q => ?_)) ⟨by rw [nd 54 3 (by omega) (by omega), a1, a2], by rw [nd 54 2 (by omega) (by omega), b1, b2], fun q x x0 x1 => ?_⟩ (fs_bkS.next h3 h.2.2.2.2.2.2.2.2.2.2 (fun o k q => ?_))
  · unfold fs_supG fs_mlc at q
    exact kp o k (by unfold fs_sup; unfold fs_eC at q ⊢; omega) (by unfold fs_eC at q; omega) (by unfold fs_eC at q; omega)
  · exact kp o k (by unfold fs_sup; unfold fs_eC; omega) (by omega) (by omega)
  · exact kp o k (by unfold fs_sup; unfold fs_eC; omega) (by omega) (by omega)
  · rw [kp 1 5 (by unfold fs_sup fs_eC; omega) (by omega) (by omega)] at x1
    obtain ⟨y1, y2⟩ := c1 x x0 x1
    obtain ⟨z1, z2⟩ := c2 x x0 x1
    rw [nd (54 + 1) x (by omega) (by omega), nd (54 + 2) x (by omega) (by omega), show (6 : Int) * 0 + x = x from by omega, show (54 : Int) + 1 = 55 from rfl, show (54 : Int) + 2 = 56 from rfl, y1, y2, z1, z2]
    exact ⟨rfl, rfl⟩
  · unfold fs_supB at q
    exact kp o k (by unfold fs_sup fs_supB; unfold fs_eC at q ⊢; omega) (by unfold fs_eC at q; omega) (by unfold fs_eC at q; omega)
end OPSB
