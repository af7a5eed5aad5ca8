section
variable {N : Nat} {gl le lp ls lz lh : Int32} {kk : Nat → Nat} {nn v0 q0 : Nat → Int32} {p s h m g : Nat} {v st : Nat → Int32} {a x : Int32}
theorem gx_put_B {post : SX → Prop} (hh : h < 8) (H : post (nI N, gl, le, lp, ls, lz, lh, nI p, nI s, nI (h + 1), nI g, fun j => nI (kk j), nn, v0, q0, v, upd st h x)) : wpX_put__trialPile post (nI N, gl, le, lp, ls, lz, lh, nI p, nI s, nI h, nI g, fun j => nI (kk j), nn, v0, q0, v, st) x :=
  And.intro (vp_in_nI hh (by decide)) (nm_r (gm_u (by omega)) (nm_r (nI_1 h) H))
theorem gx_exch_B {post : SX → Prop} (hh : m + 2 ≤ 8) (H : post (nI N, gl, le, lp, ls, lz, lh, nI p, nI s, nI (m + 2), nI g, fun j => nI (kk j), nn, v0, q0, v, upd (upd st m (st (m + 1))) (m + 1) (st m))) : wpX_exchange__trialPile post (nI N, gl, le, lp, ls, lz, lh, nI p, nI s, nI (m + 2), nI g, fun j => nI (kk j), nn, v0, q0, v, st) (nI (m + 1)) := by
  rw [← gm_swap] at H
  simp (disch := omega) only [wpX_exchange__trialPile, forall_eq, true_and, nI_1, nI_pred, nI_clamp, gm_vin]
  exact H
theorem gx_w0_B {post : SX → Prop} (hh : h < 8) (H : post (nI N, gl, le, lp, ls, lz, lh, nI (p + 1), nI s, nI (h + 1), nI g, fun j => nI (kk j), nn, v0, q0, v, upd st h a)) : wpX_workOff__trialVariables_trialPile post (nI N, gl, le, lp, ls, lz, lh, nI p, nI s, nI h, nI g, fun j => nI (kk j), nn, v0, q0, v, st) (nI 0) a := by
  refine nm_e ?_
  refine nm_r (nI_1 p) ?_
  repeat first
    | refine br_t (by decide) ?_
    | refine br_f (by decide) ?_
  exact gx_put_B hh H
theorem gx_w1_B {post : SX → Prop} (hh : m + 2 ≤ 8) (H : post (nI N, gl, le, lp, ls, lz, lh, nI (p + 1), nI s, nI (m + 1), nI g, fun j => nI (kk j), nn, v0, q0, v, upd st m (st m + st (m + 1)))) : wpX_workOff__trialVariables_trialPile post (nI N, gl, le, lp, ls, lz, lh, nI p, nI s, nI (m + 2), nI g, fun j => nI (kk j), nn, v0, q0, v, st) (nI 1) a := by
  refine nm_e ?_
  refine nm_r (nI_1 p) ?_
  repeat first
    | refine br_t (by decide) ?_
    | refine br_f (by decide) ?_
  simp (disch := omega) only [wX_workOff__trialVariables_trialPile_203, forall_eq, true_and, nI_1, nI_pred, nI_clamp, gm_vin]
  refine gx_comb1 ?_
  exact H
theorem gx_w2_B {post : SX → Prop} (hh : m + 2 ≤ 8) (H : post (nI N, gl, le, lp, ls, lz, lh, nI (p + 1), nI s, nI (m + 1), nI g, fun j => nI (kk j), nn, v0, q0, v, upd st m (st m - st (m + 1)))) : wpX_workOff__trialVariables_trialPile post (nI N, gl, le, lp, ls, lz, lh, nI p, nI s, nI (m + 2), nI g, fun j => nI (kk j), nn, v0, q0, v, st) (nI 2) a := by
  refine nm_e ?_
  refine nm_r (nI_1 p) ?_
  repeat first
    | refine br_t (by decide) ?_
    | refine br_f (by decide) ?_
  simp (disch := omega) only [wX_workOff__trialVariables_trialPile_203, forall_eq, true_and, nI_1, nI_pred, nI_clamp, gm_vin]
  refine gx_comb2 ?_
  exact H
theorem gx_w3_B {post : SX → Prop} (hh : m + 2 ≤ 8) (H : post (nI N, gl, le, lp, ls, lz, lh, nI (p + 1), nI s, nI (m + 1), nI g, fun j => nI (kk j), nn, v0, q0, v, upd st m (st m * st (m + 1)))) : wpX_workOff__trialVariables_trialPile post (nI N, gl, le, lp, ls, lz, lh, nI p, nI s, nI (m + 2), nI g, fun j => nI (kk j), nn, v0, q0, v, st) (nI 3) a := by
  refine nm_e ?_
  refine nm_r (nI_1 p) ?_
  repeat first
    | refine br_t (by decide) ?_
    | refine br_f (by decide) ?_
  simp (disch := omega) only [wX_workOff__trialVariables_trialPile_203, forall_eq, true_and, nI_1, nI_pred, nI_clamp, gm_vin]
  refine gx_comb3 ?_
  exact H
theorem gx_w4_B {post : SX → Prop} (hh : m + 2 ≤ 8) (H : post (nI N, gl, le, lp, ls, lz, lh, nI (p + 1), nI s, nI (m + 1), nI g, fun j => nI (kk j), nn, v0, q0, v, upd st m (if st m < st (m + 1) then 1 else 0))) : wpX_workOff__trialVariables_trialPile post (nI N, gl, le, lp, ls, lz, lh, nI p, nI s, nI (m + 2), nI g, fun j => nI (kk j), nn, v0, q0, v, st) (nI 4) a := by
  refine nm_e ?_
  refine nm_r (nI_1 p) ?_
  repeat first
    | refine br_t (by decide) ?_
    | refine br_f (by decide) ?_
  simp (disch := omega) only [wX_workOff__trialVariables_trialPile_203, forall_eq, true_and, nI_1, nI_pred, nI_clamp, gm_vin]
  refine gx_comb4 ?_
  exact H
theorem gx_w5_B {post : SX → Prop} (hh : m + 2 ≤ 8) (H : post (nI N, gl, le, lp, ls, lz, lh, nI (p + 1), nI s, nI (m + 2), nI g, fun j => nI (kk j), nn, v0, q0, v, upd st (m + 1) (st m))) : wpX_workOff__trialVariables_trialPile post (nI N, gl, le, lp, ls, lz, lh, nI p, nI s, nI (m + 1), nI g, fun j => nI (kk j), nn, v0, q0, v, st) (nI 5) a := by
  refine nm_e ?_
  refine nm_r (nI_1 p) ?_
  repeat first
    | refine br_t (by decide) ?_
    | refine br_f (by decide) ?_
  simp (disch := omega) only [forall_eq, true_and, nI_1, nI_pred, nI_clamp, gm_vin]
  exact gx_put_B (by omega) H
theorem gx_w6_B {post : SX → Prop} (hh : m + 2 ≤ 8) (H : post (nI N, gl, le, lp, ls, lz, lh, nI (p + 1), nI s, nI (m + 2), nI g, fun j => nI (kk j), nn, v0, q0, v, upd (upd st m (st (m + 1))) (m + 1) (st m))) : wpX_workOff__trialVariables_trialPile post (nI N, gl, le, lp, ls, lz, lh, nI p, nI s, nI (m + 2), nI g, fun j => nI (kk j), nn, v0, q0, v, st) (nI 6) a := by
  refine nm_e ?_
  refine nm_r (nI_1 p) ?_
  repeat first
    | refine br_t (by decide) ?_
    | refine br_f (by decide) ?_
  simp (disch := omega) only [forall_eq, true_and, nI_1, nI_pred, nI_clamp, gm_vin]
  exact gx_exch_B hh H
theorem gx_w7_B {post : SX → Prop} (H : post (nI N, gl, le, lp, ls, lz, lh, nI (p + 1), nI s, nI m, nI g, fun j => nI (kk j), nn, v0, q0, v, st)) : wpX_workOff__trialVariables_trialPile post (nI N, gl, le, lp, ls, lz, lh, nI p, nI s, nI (m + 1), nI g, fun j => nI (kk j), nn, v0, q0, v, st) (nI 7) a := by
  refine nm_e ?_
  refine nm_r (nI_1 p) ?_
  repeat first
    | refine br_t (by decide) ?_
    | refine br_f (by decide) ?_
  simp (disch := omega) only [forall_eq, true_and, nI_1, nI_pred, nI_clamp, gm_vin]
  exact H
theorem gx_w12_B {post : SX → Prop} (H : post (nI N, gl, le, lp, ls, lz, lh, nI (p + 1), nI s, nI m, nI g, fun j => nI (kk j), nn, v0, q0, v, st)) : wpX_workOff__trialVariables_trialPile post (nI N, gl, le, lp, ls, lz, lh, nI p, nI s, nI (m + 1), nI g, fun j => nI (kk j), nn, v0, q0, v, st) (nI 12) a := by
  refine nm_e ?_
  refine nm_r (nI_1 p) ?_
  repeat first
    | refine br_t (by decide) ?_
    | refine br_f (by decide) ?_
  simp (disch := omega) only [forall_eq, true_and, nI_1, nI_pred, nI_clamp, gm_vin]
  exact H
theorem gx_w8_B {post : SX → Prop} {j : Nat} (hh : h < 8) (hj : j < 4) (ea : a = nI j) (H : post (nI N, gl, le, lp, ls, lz, lh, nI (p + 1), nI s, nI (h + 1), nI g, fun j => nI (kk j), nn, v0, q0, v, upd st h (v j))) : wpX_workOff__trialVariables_trialPile post (nI N, gl, le, lp, ls, lz, lh, nI p, nI s, nI h, nI g, fun j => nI (kk j), nn, v0, q0, v, st) (nI 8) a := by
  refine nm_e ?_
  refine nm_r (nI_1 p) ?_
  subst ea
  repeat first
    | refine br_t (by decide) ?_
    | refine br_f (by decide) ?_
  simp (disch := omega) only [forall_eq, true_and, nI_1, nI_pred, nI_clamp, gm_vin]
  exact gx_put_B hh H
theorem gx_w9_B {post : SX → Prop} {j : Nat} (hh : m + 1 ≤ 8) (hj : j < 4) (ea : a = nI j) (H : post (nI N, gl, le, lp, ls, lz, lh, nI (p + 1), nI s, nI m, nI g, fun j => nI (kk j), nn, v0, q0, upd v j (st m), st)) : wpX_workOff__trialVariables_trialPile post (nI N, gl, le, lp, ls, lz, lh, nI p, nI s, nI (m + 1), nI g, fun j => nI (kk j), nn, v0, q0, v, st) (nI 9) a := by
  refine nm_e ?_
  refine nm_r (nI_1 p) ?_
  subst ea
  repeat first
    | refine br_t (by decide) ?_
    | refine br_f (by decide) ?_
  simp (disch := omega) only [forall_eq, true_and, nI_1, nI_pred, nI_clamp, gm_vin]
  exact H
theorem gx_w10_B {post : SX → Prop} (H : post (nI N, gl, le, lp, ls, lz, lh, a, nI s, nI h, nI g, fun j => nI (kk j), nn, v0, q0, v, st)) : wpX_workOff__trialVariables_trialPile post (nI N, gl, le, lp, ls, lz, lh, nI p, nI s, nI h, nI g, fun j => nI (kk j), nn, v0, q0, v, st) (nI 10) a := by
  refine nm_e ?_
  refine nm_r (nI_1 p) ?_
  repeat first
    | refine br_t (by decide) ?_
    | refine br_f (by decide) ?_
  exact H
theorem gx_w11_B {post : SX → Prop} (hh : m + 1 ≤ 8) (H : post (nI N, gl, le, lp, ls, lz, lh, if st m = 0 then nI (p + 1) else a, nI s, nI m, nI g, fun j => nI (kk j), nn, v0, q0, v, st)) : wpX_workOff__trialVariables_trialPile post (nI N, gl, le, lp, ls, lz, lh, nI p, nI s, nI (m + 1), nI g, fun j => nI (kk j), nn, v0, q0, v, st) (nI 11) a := by
  refine nm_e ?_
  refine nm_r (nI_1 p) ?_
  repeat first
    | refine br_t (by decide) ?_
    | refine br_f (by decide) ?_
  simp (disch := omega) only [forall_eq, true_and, nI_1, nI_pred, nI_clamp, gm_vin]
  by_cases c : st m = 0
  · rw [if_pos c] at H
    exact br_t c H
  · rw [if_neg c] at H
    exact br_f c H
theorem gx_w13_B {post : SX → Prop} (hh : h < 8) (H : post (nI N, gl, le, lp, ls, lz, lh, nI (p + 1), nI s, nI (h + 1), nI g, fun j => nI (kk j), nn, v0, q0, v, upd st h (nI g))) : wpX_workOff__trialVariables_trialPile post (nI N, gl, le, lp, ls, lz, lh, nI p, nI s, nI h, nI g, fun j => nI (kk j), nn, v0, q0, v, st) (nI 13) a := by
  refine nm_e ?_
  refine nm_r (nI_1 p) ?_
  repeat first
    | refine br_t (by decide) ?_
    | refine br_f (by decide) ?_
  exact gx_put_B hh H
theorem gx_work_B {k : Nat} {post : SX → Prop} (hf : gm_fit k a) (h14 : k ≠ 14) (h1 : gm_need k ≤ h) (h2 : h + gm_grow k ≤ 8) (H : post (nI N, gl, le, lp, ls, lz, lh, nI (gm_work a p s h g v st k).1, nI (gm_work a p s h g v st k).2.1, nI (gm_work a p s h g v st k).2.2.1, nI (gm_work a p s h g v st k).2.2.2.1, fun j => nI (kk j), nn, v0, q0, (gm_work a p s h g v st k).2.2.2.2.1, (gm_work a p s h g v st k).2.2.2.2.2)) : wpX_workOff__trialVariables_trialPile post (nI N, gl, le, lp, ls, lz, lh, nI p, nI s, nI h, nI g, fun j => nI (kk j), nn, v0, q0, v, st) (nI k) a := by
  obtain ⟨hk, h8, h10⟩ := hf
  rcases gm_cases hk with rfl | rfl | rfl | rfl | rfl | rfl | rfl | rfl | rfl | rfl | rfl | rfl | rfl | rfl | rfl
  · have q : gm_grow 0 = 1 := rfl
    rw [q] at h2
    exact gx_w0_B (by omega) H
  · have q : gm_grow 1 = 0 := rfl
    rw [q] at h2
    obtain ⟨m, rfl⟩ : ∃ m, h = m + 2 := ⟨h - 2, by have : 2 ≤ h := h1; omega⟩
    exact gx_w1_B (by omega) H
  · have q : gm_grow 2 = 0 := rfl
    rw [q] at h2
    obtain ⟨m, rfl⟩ : ∃ m, h = m + 2 := ⟨h - 2, by have : 2 ≤ h := h1; omega⟩
    exact gx_w2_B (by omega) H
  · have q : gm_grow 3 = 0 := rfl
    rw [q] at h2
    obtain ⟨m, rfl⟩ : ∃ m, h = m + 2 := ⟨h - 2, by have : 2 ≤ h := h1; omega⟩
    exact gx_w3_B (by omega) H
  · have q : gm_grow 4 = 0 := rfl
    rw [q] at h2
    obtain ⟨m, rfl⟩ : ∃ m, h = m + 2 := ⟨h - 2, by have : 2 ≤ h := h1; omega⟩
    exact gx_w4_B (by omega) H
  · obtain ⟨m, rfl⟩ : ∃ m, h = m + 1 := ⟨h - 1, by have : 1 ≤ h := h1; omega⟩
    have q : gm_grow 5 = 1 := rfl
    rw [q] at h2
    exact gx_w5_B (by omega) H
  · obtain ⟨m, rfl⟩ : ∃ m, h = m + 2 := ⟨h - 2, by have : 2 ≤ h := h1; omega⟩
    have q : gm_grow 6 = 0 := rfl
    rw [q] at h2
    exact gx_w6_B (by omega) H
  · obtain ⟨m, rfl⟩ : ∃ m, h = m + 1 := ⟨h - 1, by have : 1 ≤ h := h1; omega⟩
    exact gx_w7_B H
  · obtain ⟨j, hj, rfl⟩ := h8 (Or.inl rfl)
    have e : (nI j).toNatClampNeg = j := nI_clamp (by omega)
    have q : gm_grow 8 = 1 := rfl
    rw [q] at h2
    refine gx_w8_B (by omega) hj rfl ?_
    have H' : post (nI N, gl, le, lp, ls, lz, lh, nI (p + 1), nI s, nI (h + 1), nI g, fun j => nI (kk j), nn, v0, q0, v, upd st h (v (nI j).toNatClampNeg)) := H
    rw [e] at H'
    exact H'
  · obtain ⟨m, rfl⟩ : ∃ m, h = m + 1 := ⟨h - 1, by have : 1 ≤ h := h1; omega⟩
    obtain ⟨j, hj, rfl⟩ := h8 (Or.inr rfl)
    have e : (nI j).toNatClampNeg = j := nI_clamp (by omega)
    have q : gm_grow 9 = 0 := rfl
    rw [q] at h2
    refine gx_w9_B (by omega) hj rfl ?_
    have H' : post (nI N, gl, le, lp, ls, lz, lh, nI (p + 1), nI s, nI m, nI g, fun j => nI (kk j), nn, v0, q0, upd v (nI j).toNatClampNeg (st m), st) := H
    rw [e] at H'
    exact H'
  · obtain ⟨j, hj, rfl⟩ := h10 (Or.inl rfl)
    have e : (nI j).toNatClampNeg = j := nI_clamp (by omega)
    refine gx_w10_B ?_
    have H' : post (nI N, gl, le, lp, ls, lz, lh, nI (nI j).toNatClampNeg, nI s, nI h, nI g, fun j => nI (kk j), nn, v0, q0, v, st) := H
    rw [e] at H'
    exact H'
  · obtain ⟨m, rfl⟩ : ∃ m, h = m + 1 := ⟨h - 1, by have : 1 ≤ h := h1; omega⟩
    obtain ⟨j, hj, rfl⟩ := h10 (Or.inr rfl)
    have e : (nI j).toNatClampNeg = j := nI_clamp (by omega)
    have q : gm_grow 11 = 0 := rfl
    rw [q] at h2
    refine gx_w11_B (by omega) ?_
    have H' : post (nI N, gl, le, lp, ls, lz, lh, nI (if st m = 0 then p + 1 else (nI j).toNatClampNeg), nI s, nI m, nI g, fun j => nI (kk j), nn, v0, q0, v, st) := H
    rw [e] at H'
    by_cases c : st m = 0
    · rw [if_pos c] at H' ⊢
      exact H'
    · rw [if_neg c] at H' ⊢
      exact H'
  · obtain ⟨m, rfl⟩ : ∃ m, h = m + 1 := ⟨h - 1, by have : 1 ≤ h := h1; omega⟩
    exact gx_w12_B H
  · have q : gm_grow 13 = 1 := rfl
    rw [q] at h2
    exact gx_w13_B (by omega) H
  · exact absurd rfl h14
end
