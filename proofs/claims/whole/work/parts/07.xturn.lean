section
variable {N : Nat} {gl le lp ls lz lh : Int32} {kk : Nat → Nat} {nn v0 q0 : Nat → Int32} {p s h m g : Nat} {v st : Nat → Int32} {a x : Int32}
theorem gx_join_A {c k : Nat} {post : Int32 → SX → Prop} (hf : ∀ j, gm_fit (kk j) (nn j)) (o1 : p < 20) (o3 : s < 300) (o4 : g ≤ 1000000) (ek : kk p = k) (h1 : gm_need k ≤ h) (h2 : h + gm_grow k ≤ 8) (hc : c ≤ 16) (H4 : g < c → post 4 (nI N, gl, le, lp, ls, lz, lh, nI p, nI s, nI h, nI g, fun j => nI (kk j), nn, v, st, v0, q0)) (H14 : c ≤ g → k = 14 → post 1 (nI N, gl, le, lp, ls, lz, lh, nI p, nI (s + 1), nI h, nI (g - c), fun j => nI (kk j), nn, v, st, v0, q0)) (Hw : c ≤ g → k ≠ 14 → post 0 (nI N, gl, le, lp, ls, lz, lh, nI (gm_work (nn p) p (s + 1) h (g - c) v st k).1, nI (gm_work (nn p) p (s + 1) h (g - c) v st k).2.1, nI (gm_work (nn p) p (s + 1) h (g - c) v st k).2.2.1, nI (gm_work (nn p) p (s + 1) h (g - c) v st k).2.2.2.1, fun j => nI (kk j), nn, (gm_work (nn p) p (s + 1) h (g - c) v st k).2.2.2.2.1, (gm_work (nn p) p (s + 1) h (g - c) v st k).2.2.2.2.2, v0, q0)) : wX_takeTurn__variables_lastPile_90 post (nI k) (nI c) (nI N) gl le lp ls lz lh (nI p) (nI s) (nI h) (nI g) (fun j => nI (kk j)) nn v st v0 q0 := by
  have hk : gm_fit k (nn p) := by rw [← ek]; exact hf p
  have e' : nn (nI p).toNatClampNeg = nn p := congrArg nn (nI_clamp (by omega))
  refine pk_le c g (fun c5 => ?_) (fun c5 => H4 c5)
  refine nm_r (pk_sub c5) ?_
  refine nm_r (nI_1 s) ?_
  refine pk_eq k 14 (fun c6 => H14 c5 c6) (fun c6 => ?_) (ha := by have := hk.1; omega)
  refine And.intro (vp_in_nI o1 (by decide)) ?_
  rw [e']
  exact gx_work_A hk c6 h1 h2 (Hw c5 c6)
theorem gx_turn_A {post : Int32 → SX → Prop} (hf : ∀ j, gm_fit (kk j) (nn j)) (hN : N ≤ 20) (o1 : p ≤ 20) (o2 : s ≤ 300) (o3 : h ≤ 8) (o4 : g ≤ 1000000) (H : post (nI (gm_turn kk nn N p s h g v st).1) (nI N, gl, le, lp, ls, lz, lh, nI (gm_turn kk nn N p s h g v st).2.1, nI (gm_turn kk nn N p s h g v st).2.2.1, nI (gm_turn kk nn N p s h g v st).2.2.2.1, nI (gm_turn kk nn N p s h g v st).2.2.2.2.1, fun j => nI (kk j), nn, (gm_turn kk nn N p s h g v st).2.2.2.2.2.1, (gm_turn kk nn N p s h g v st).2.2.2.2.2.2, v0, q0)) : wpX_takeTurn__variables_lastPile post (nI N, gl, le, lp, ls, lz, lh, nI p, nI s, nI h, nI g, fun j => nI (kk j), nn, v, st, v0, q0) := by
  have e : (fun j => nI (kk j)) (nI p).toNatClampNeg = nI (kk p) := congrArg (fun i => nI (kk i)) (nI_clamp (by omega))
  have hk := (hf p).1
  refine pk_lt p N (fun c1 => ?_) (fun c1 => ?_)
  rotate_left
  · rw [gm_ts (gm_e1 c1) (by decide)] at H
    exact H
  refine pk_lt s 300 (fun c2 => ?_) (fun c2 => ?_)
  rotate_left
  · rw [gm_ts (gm_e2 c1 (by omega)) (by decide)] at H
    exact H
  refine And.intro (vp_in_nI (by omega) (by decide)) (nm_r e ?_)
  have n2 : gm_need (kk p) ≤ 2 := gm_need_le _
  have n1 : gm_grow (kk p) ≤ 1 := gm_grow_le _
  refine gx_needed hk ?_
  refine pk_lt h (gm_need (kk p)) (fun c3 => ?_) (fun c3 => ?_)
  · rw [gm_ts (gm_e3 c1 (by omega) (Or.inl c3)) (by decide)] at H
    exact H
  refine gx_growth hk ?_
  refine pk_le (h + gm_grow (kk p)) 8 (fun c4 => ?_) (fun c4 => ?_) (hx := nI_add _ _)
  rotate_left
  · rw [gm_ts (gm_e3 c1 (by omega) (Or.inr c4)) (by decide)] at H
    exact H
  have hpr := gm_price_le (st (h - 1)) hk
  have JJ : wX_takeTurn__variables_lastPile_90 post (nI (kk p)) (nI (gm_price (kk p) (st (h - 1)))) (nI N) gl le lp ls lz lh (nI p) (nI s) (nI h) (nI g) (fun j => nI (kk j)) nn v st v0 q0 := by
    refine gx_join_A hf (by omega) c2 o4 rfl c3 c4 hpr (fun c5 => ?_) (fun c5 c6 => ?_) (fun c5 c6 => ?_)
    · rw [gm_ts (gm_e4 c1 (by omega) c3 c4 c5) (by decide)] at H
      exact H
    · rw [gm_t14 (gm_e0 c1 (by omega) c3 c4 c5) c6] at H
      exact H
    · rw [gm_tw (gm_e0 c1 (by omega) c3 c4 c5) c6] at H
      exact H
  refine gx_fixedPrice hk ?_
  refine pk_eq (kk p) 12 (fun c5 => ?_) (fun c5 => ?_) (ha := by omega)
  · rw [c5] at c3 JJ hk
    have c3' : 1 ≤ h := c3
    obtain ⟨m, rfl⟩ : ∃ m, h = m + 1 := ⟨h - 1, by omega⟩
    have em : (nI m).toNatClampNeg = m := nI_clamp (by omega)
    rw [nI_pred m, c5]
    refine And.intro (vp_in_nI (by omega) (by decide)) (nm_r (e' := nI (1 + gm_low (st m))) ?_ JJ)
    rw [em, gm_and, ← nI_add]
    rfl
  · unfold gm_price at JJ
    rw [if_neg c5] at JJ
    exact JJ
theorem gx_exit_A {F : Nat} {t e : Nat} {post : Int32 → SX → Prop} (he : e < 5) (e0 : e ≠ 0) (ht : t ≤ 301) (H : post (nI e) (nI N, gl, le, lp, ls, lz, lh, nI p, nI s, nI h, nI g, fun j => nI (kk j), nn, v, st, v0, q0)) : wX_execute__variables_lastPile_26 post (F + 1) (nI e) (nI t) (nI N) gl le lp ls lz lh (nI p) (nI s) (nI h) (nI g) (fun j => nI (kk j)) nn v st v0 q0 := by
  refine pk_lt 300 t (fun _ => H) (fun _ => ?_)
  exact br_f (nI_ne0 (by omega) (by omega)) H
theorem gx_loop_A {post : Int32 → SX → Prop} (hf : ∀ j, gm_fit (kk j) (nn j)) (hN : N ≤ 20) : ∀ (n F p s h g : Nat) (v st : Nat → Int32), s + n = 300 → p ≤ 20 → h ≤ 8 → g ≤ 1000000 → n + 2 ≤ F → post (nI (gm_run kk nn N n (p, s, h, g, v, st)).1) (nI N, gl, le, lp, ls, lz, lh, nI (gm_run kk nn N n (p, s, h, g, v, st)).2.1, nI (gm_run kk nn N n (p, s, h, g, v, st)).2.2.1, nI (gm_run kk nn N n (p, s, h, g, v, st)).2.2.2.1, nI (gm_run kk nn N n (p, s, h, g, v, st)).2.2.2.2.1, fun j => nI (kk j), nn, (gm_run kk nn N n (p, s, h, g, v, st)).2.2.2.2.2.1, (gm_run kk nn N n (p, s, h, g, v, st)).2.2.2.2.2.2, v0, q0) → wX_execute__variables_lastPile_26 post F 0 (nI s) (nI N) gl le lp ls lz lh (nI p) (nI s) (nI h) (nI g) (fun j => nI (kk j)) nn v st v0 q0 := by
  intro n
  induction n with
  | zero =>
    intro F p s h g v st hs o1 o3 o4 hF H
    obtain ⟨F, rfl⟩ : ∃ E, F = E + 2 := ⟨F - 2, by omega⟩
    refine pk_lt 300 s (fun z => absurd z (by omega)) (fun _ => ?_)
    refine br_t rfl ?_
    refine gx_turn_A hf hN o1 (by omega) o3 o4 ?_
    refine nm_r (nI_1 s) ?_
    obtain ⟨k1, k2, k3⟩ := gm_go_ok hf hN (d := (p, s, h, g, v, st)) ⟨o1, (by omega : s ≤ 300), o3, o4⟩
    have e0 : (gm_go kk nn N (p, s, h, g, v, st)).1 ≠ 0 := fun z => by have q : s < 300 := (k3 z).2; omega
    exact gx_exit_A (gm_go_lt kk nn N (p, s, h, g, v, st)) e0 (by omega) H
  | succ n ih =>
    intro F p s h g v st hs o1 o3 o4 hF H
    obtain ⟨F, rfl⟩ : ∃ E, F = E + 2 := ⟨F - 2, by omega⟩
    refine pk_lt 300 s (fun z => absurd z (by omega)) (fun _ => ?_)
    refine br_t rfl ?_
    refine gx_turn_A hf hN o1 (by omega) o3 o4 ?_
    refine nm_r (nI_1 s) ?_
    obtain ⟨k1, k2, k3⟩ := gm_go_ok hf hN (d := (p, s, h, g, v, st)) ⟨o1, (by omega : s ≤ 300), o3, o4⟩
    rw [gm_run] at H
    by_cases z : (gm_go kk nn N (p, s, h, g, v, st)).1 = 0
    · rw [if_pos z] at H
      have es : (gm_go kk nn N (p, s, h, g, v, st)).2.2.1 = s + 1 := (k3 z).1
      have L := ih (F + 1) (gm_go kk nn N (p, s, h, g, v, st)).2.1 (gm_go kk nn N (p, s, h, g, v, st)).2.2.1 (gm_go kk nn N (p, s, h, g, v, st)).2.2.2.1 (gm_go kk nn N (p, s, h, g, v, st)).2.2.2.2.1 (gm_go kk nn N (p, s, h, g, v, st)).2.2.2.2.2.1 (gm_go kk nn N (p, s, h, g, v, st)).2.2.2.2.2.2 (by rw [es]; omega) k1.1 k1.2.2.1 k1.2.2.2 (by omega) H
      have z' : (gm_turn kk nn N p s h g v st).1 = 0 := z
      rw [z']
      have es' : (gm_go kk nn N (p, s, h, g, v, st)).2.2.1 = s + 1 := es
      rw [es'] at L
      have es2 : (gm_turn kk nn N p s h g v st).2.2.1 = s + 1 := es
      rw [es2]
      exact L
    · rw [if_neg z] at H
      exact gx_exit_A (gm_go_lt kk nn N (p, s, h, g, v, st)) z (by omega) H
theorem gx_exec_A {n1 n2 n3 n4 : Int32} {post : Int32 → SX → Prop} (hf : ∀ j, gm_fit (kk j) (nn j)) (hN : N ≤ 20) (o4 : g ≤ 1000000) (H : post (nI (gm_run kk nn N 300 (0, 0, 0, g, v, st)).1) (nI N, gl, le, lp, ls, lz, lh, nI (gm_run kk nn N 300 (0, 0, 0, g, v, st)).2.1, nI (gm_run kk nn N 300 (0, 0, 0, g, v, st)).2.2.1, nI (gm_run kk nn N 300 (0, 0, 0, g, v, st)).2.2.2.1, nI (gm_run kk nn N 300 (0, 0, 0, g, v, st)).2.2.2.2.1, fun j => nI (kk j), nn, (gm_run kk nn N 300 (0, 0, 0, g, v, st)).2.2.2.2.2.1, (gm_run kk nn N 300 (0, 0, 0, g, v, st)).2.2.2.2.2.2, v0, q0)) : wpX_execute__variables_lastPile post (nI N, gl, le, lp, ls, lz, lh, n1, n2, n3, n4, fun j => nI (kk j), nn, v, st, v0, q0) (nI g) :=
  ⟨302, gx_loop_A hf hN 300 302 0 0 0 g v st rfl (by omega) (by omega) o4 (by omega) H⟩
end
section
variable {N : Nat} {gl le lp ls lz lh : Int32} {kk : Nat → Nat} {nn v0 q0 : Nat → Int32} {p s h m g : Nat} {v st : Nat → Int32} {a x : Int32}
theorem gx_join_B {c k : Nat} {post : Int32 → SX → Prop} (hf : ∀ j, gm_fit (kk j) (nn j)) (o1 : p < 20) (o3 : s < 300) (o4 : g ≤ 1000000) (ek : kk p = k) (h1 : gm_need k ≤ h) (h2 : h + gm_grow k ≤ 8) (hc : c ≤ 16) (H4 : g < c → post 4 (nI N, gl, le, lp, ls, lz, lh, nI p, nI s, nI h, nI g, fun j => nI (kk j), nn, v0, q0, v, st)) (H14 : c ≤ g → k = 14 → post 1 (nI N, gl, le, lp, ls, lz, lh, nI p, nI (s + 1), nI h, nI (g - c), fun j => nI (kk j), nn, v0, q0, v, st)) (Hw : c ≤ g → k ≠ 14 → post 0 (nI N, gl, le, lp, ls, lz, lh, nI (gm_work (nn p) p (s + 1) h (g - c) v st k).1, nI (gm_work (nn p) p (s + 1) h (g - c) v st k).2.1, nI (gm_work (nn p) p (s + 1) h (g - c) v st k).2.2.1, nI (gm_work (nn p) p (s + 1) h (g - c) v st k).2.2.2.1, fun j => nI (kk j), nn, v0, q0, (gm_work (nn p) p (s + 1) h (g - c) v st k).2.2.2.2.1, (gm_work (nn p) p (s + 1) h (g - c) v st k).2.2.2.2.2)) : wX_takeTurn__trialVariables_trialPile_90 post (nI k) (nI c) (nI N) gl le lp ls lz lh (nI p) (nI s) (nI h) (nI g) (fun j => nI (kk j)) nn v0 q0 v st := by
  have hk : gm_fit k (nn p) := by rw [← ek]; exact hf p
  have e' : nn (nI p).toNatClampNeg = nn p := congrArg nn (nI_clamp (by omega))
  refine pk_le c g (fun c5 => ?_) (fun c5 => H4 c5)
  refine nm_r (pk_sub c5) ?_
  refine nm_r (nI_1 s) ?_
  refine pk_eq k 14 (fun c6 => H14 c5 c6) (fun c6 => ?_) (ha := by have := hk.1; omega)
  refine And.intro (vp_in_nI o1 (by decide)) ?_
  rw [e']
  exact gx_work_B hk c6 h1 h2 (Hw c5 c6)
theorem gx_turn_B {post : Int32 → SX → Prop} (hf : ∀ j, gm_fit (kk j) (nn j)) (hN : N ≤ 20) (o1 : p ≤ 20) (o2 : s ≤ 300) (o3 : h ≤ 8) (o4 : g ≤ 1000000) (H : post (nI (gm_turn kk nn N p s h g v st).1) (nI N, gl, le, lp, ls, lz, lh, nI (gm_turn kk nn N p s h g v st).2.1, nI (gm_turn kk nn N p s h g v st).2.2.1, nI (gm_turn kk nn N p s h g v st).2.2.2.1, nI (gm_turn kk nn N p s h g v st).2.2.2.2.1, fun j => nI (kk j), nn, v0, q0, (gm_turn kk nn N p s h g v st).2.2.2.2.2.1, (gm_turn kk nn N p s h g v st).2.2.2.2.2.2)) : wpX_takeTurn__trialVariables_trialPile post (nI N, gl, le, lp, ls, lz, lh, nI p, nI s, nI h, nI g, fun j => nI (kk j), nn, v0, q0, v, st) := by
  have e : (fun j => nI (kk j)) (nI p).toNatClampNeg = nI (kk p) := congrArg (fun i => nI (kk i)) (nI_clamp (by omega))
  have hk := (hf p).1
  refine pk_lt p N (fun c1 => ?_) (fun c1 => ?_)
  rotate_left
  · rw [gm_ts (gm_e1 c1) (by decide)] at H
    exact H
  refine pk_lt s 300 (fun c2 => ?_) (fun c2 => ?_)
  rotate_left
  · rw [gm_ts (gm_e2 c1 (by omega)) (by decide)] at H
    exact H
  refine And.intro (vp_in_nI (by omega) (by decide)) (nm_r e ?_)
  have n2 : gm_need (kk p) ≤ 2 := gm_need_le _
  have n1 : gm_grow (kk p) ≤ 1 := gm_grow_le _
  refine gx_needed hk ?_
  refine pk_lt h (gm_need (kk p)) (fun c3 => ?_) (fun c3 => ?_)
  · rw [gm_ts (gm_e3 c1 (by omega) (Or.inl c3)) (by decide)] at H
    exact H
  refine gx_growth hk ?_
  refine pk_le (h + gm_grow (kk p)) 8 (fun c4 => ?_) (fun c4 => ?_) (hx := nI_add _ _)
  rotate_left
  · rw [gm_ts (gm_e3 c1 (by omega) (Or.inr c4)) (by decide)] at H
    exact H
  have hpr := gm_price_le (st (h - 1)) hk
  have JJ : wX_takeTurn__trialVariables_trialPile_90 post (nI (kk p)) (nI (gm_price (kk p) (st (h - 1)))) (nI N) gl le lp ls lz lh (nI p) (nI s) (nI h) (nI g) (fun j => nI (kk j)) nn v0 q0 v st := by
    refine gx_join_B hf (by omega) c2 o4 rfl c3 c4 hpr (fun c5 => ?_) (fun c5 c6 => ?_) (fun c5 c6 => ?_)
    · rw [gm_ts (gm_e4 c1 (by omega) c3 c4 c5) (by decide)] at H
      exact H
    · rw [gm_t14 (gm_e0 c1 (by omega) c3 c4 c5) c6] at H
      exact H
    · rw [gm_tw (gm_e0 c1 (by omega) c3 c4 c5) c6] at H
      exact H
  refine gx_fixedPrice hk ?_
  refine pk_eq (kk p) 12 (fun c5 => ?_) (fun c5 => ?_) (ha := by omega)
  · rw [c5] at c3 JJ hk
    have c3' : 1 ≤ h := c3
    obtain ⟨m, rfl⟩ : ∃ m, h = m + 1 := ⟨h - 1, by omega⟩
    have em : (nI m).toNatClampNeg = m := nI_clamp (by omega)
    rw [nI_pred m, c5]
    refine And.intro (vp_in_nI (by omega) (by decide)) (nm_r (e' := nI (1 + gm_low (st m))) ?_ JJ)
    rw [em, gm_and, ← nI_add]
    rfl
  · unfold gm_price at JJ
    rw [if_neg c5] at JJ
    exact JJ
theorem gx_exit_B {F : Nat} {t e : Nat} {post : Int32 → SX → Prop} (he : e < 5) (e0 : e ≠ 0) (ht : t ≤ 301) (H : post (nI e) (nI N, gl, le, lp, ls, lz, lh, nI p, nI s, nI h, nI g, fun j => nI (kk j), nn, v0, q0, v, st)) : wX_execute__trialVariables_trialPile_26 post (F + 1) (nI e) (nI t) (nI N) gl le lp ls lz lh (nI p) (nI s) (nI h) (nI g) (fun j => nI (kk j)) nn v0 q0 v st := by
  refine pk_lt 300 t (fun _ => H) (fun _ => ?_)
  exact br_f (nI_ne0 (by omega) (by omega)) H
theorem gx_loop_B {post : Int32 → SX → Prop} (hf : ∀ j, gm_fit (kk j) (nn j)) (hN : N ≤ 20) : ∀ (n F p s h g : Nat) (v st : Nat → Int32), s + n = 300 → p ≤ 20 → h ≤ 8 → g ≤ 1000000 → n + 2 ≤ F → post (nI (gm_run kk nn N n (p, s, h, g, v, st)).1) (nI N, gl, le, lp, ls, lz, lh, nI (gm_run kk nn N n (p, s, h, g, v, st)).2.1, nI (gm_run kk nn N n (p, s, h, g, v, st)).2.2.1, nI (gm_run kk nn N n (p, s, h, g, v, st)).2.2.2.1, nI (gm_run kk nn N n (p, s, h, g, v, st)).2.2.2.2.1, fun j => nI (kk j), nn, v0, q0, (gm_run kk nn N n (p, s, h, g, v, st)).2.2.2.2.2.1, (gm_run kk nn N n (p, s, h, g, v, st)).2.2.2.2.2.2) → wX_execute__trialVariables_trialPile_26 post F 0 (nI s) (nI N) gl le lp ls lz lh (nI p) (nI s) (nI h) (nI g) (fun j => nI (kk j)) nn v0 q0 v st := by
  intro n
  induction n with
  | zero =>
    intro F p s h g v st hs o1 o3 o4 hF H
    obtain ⟨F, rfl⟩ : ∃ E, F = E + 2 := ⟨F - 2, by omega⟩
    refine pk_lt 300 s (fun z => absurd z (by omega)) (fun _ => ?_)
    refine br_t rfl ?_
    refine gx_turn_B hf hN o1 (by omega) o3 o4 ?_
    refine nm_r (nI_1 s) ?_
    obtain ⟨k1, k2, k3⟩ := gm_go_ok hf hN (d := (p, s, h, g, v, st)) ⟨o1, (by omega : s ≤ 300), o3, o4⟩
    have e0 : (gm_go kk nn N (p, s, h, g, v, st)).1 ≠ 0 := fun z => by have q : s < 300 := (k3 z).2; omega
    exact gx_exit_B (gm_go_lt kk nn N (p, s, h, g, v, st)) e0 (by omega) H
  | succ n ih =>
    intro F p s h g v st hs o1 o3 o4 hF H
    obtain ⟨F, rfl⟩ : ∃ E, F = E + 2 := ⟨F - 2, by omega⟩
    refine pk_lt 300 s (fun z => absurd z (by omega)) (fun _ => ?_)
    refine br_t rfl ?_
    refine gx_turn_B hf hN o1 (by omega) o3 o4 ?_
    refine nm_r (nI_1 s) ?_
    obtain ⟨k1, k2, k3⟩ := gm_go_ok hf hN (d := (p, s, h, g, v, st)) ⟨o1, (by omega : s ≤ 300), o3, o4⟩
    rw [gm_run] at H
    by_cases z : (gm_go kk nn N (p, s, h, g, v, st)).1 = 0
    · rw [if_pos z] at H
      have es : (gm_go kk nn N (p, s, h, g, v, st)).2.2.1 = s + 1 := (k3 z).1
      have L := ih (F + 1) (gm_go kk nn N (p, s, h, g, v, st)).2.1 (gm_go kk nn N (p, s, h, g, v, st)).2.2.1 (gm_go kk nn N (p, s, h, g, v, st)).2.2.2.1 (gm_go kk nn N (p, s, h, g, v, st)).2.2.2.2.1 (gm_go kk nn N (p, s, h, g, v, st)).2.2.2.2.2.1 (gm_go kk nn N (p, s, h, g, v, st)).2.2.2.2.2.2 (by rw [es]; omega) k1.1 k1.2.2.1 k1.2.2.2 (by omega) H
      have z' : (gm_turn kk nn N p s h g v st).1 = 0 := z
      rw [z']
      have es' : (gm_go kk nn N (p, s, h, g, v, st)).2.2.1 = s + 1 := es
      rw [es'] at L
      have es2 : (gm_turn kk nn N p s h g v st).2.2.1 = s + 1 := es
      rw [es2]
      exact L
    · rw [if_neg z] at H
      exact gx_exit_B (gm_go_lt kk nn N (p, s, h, g, v, st)) z (by omega) H
theorem gx_exec_B {n1 n2 n3 n4 : Int32} {post : Int32 → SX → Prop} (hf : ∀ j, gm_fit (kk j) (nn j)) (hN : N ≤ 20) (o4 : g ≤ 1000000) (H : post (nI (gm_run kk nn N 300 (0, 0, 0, g, v, st)).1) (nI N, gl, le, lp, ls, lz, lh, nI (gm_run kk nn N 300 (0, 0, 0, g, v, st)).2.1, nI (gm_run kk nn N 300 (0, 0, 0, g, v, st)).2.2.1, nI (gm_run kk nn N 300 (0, 0, 0, g, v, st)).2.2.2.1, nI (gm_run kk nn N 300 (0, 0, 0, g, v, st)).2.2.2.2.1, fun j => nI (kk j), nn, v0, q0, (gm_run kk nn N 300 (0, 0, 0, g, v, st)).2.2.2.2.2.1, (gm_run kk nn N 300 (0, 0, 0, g, v, st)).2.2.2.2.2.2)) : wpX_execute__trialVariables_trialPile post (nI N, gl, le, lp, ls, lz, lh, n1, n2, n3, n4, fun j => nI (kk j), nn, v0, q0, v, st) (nI g) :=
  ⟨302, gx_loop_B hf hN 300 302 0 0 0 g v st rfl (by omega) (by omega) o4 (by omega) H⟩
end
