section
/-- the same program, gas, last run; the variables agree, and the piles as far as they are high -/
def gm_inv (N g h : Nat) (kk : Nat → Nat) (nn xv yv xq yq : Nat → Int32) : Prop := N ≤ 20 ∧ g ≤ 100000 ∧ h ≤ 8 ∧ (∀ j, gm_fit (kk j) (nn j)) ∧ (∀ j, j < 4 → xv j = yv j) ∧ (∀ j, j < h → xq j = yq j)
def i_Rel (k : Nat) (u : SX) (v : SY) : Prop := ∃ (N g h : Nat) (e pl ss sp n1 n2 n3 n4 : Int32) (kk : Nat → Nat) (nn xv xq tv tp yv yq kv kp : Nat → Int32), u = (nI N, nI g, e, pl, ss, sp, nI h, n1, n2, n3, n4, fun j => nI (kk j), nn, xv, xq, tv, tp) ∧ v = (nI N, nI h, nI g, e, pl, ss, sp, fun j => nI (kk j), nn, yv, yq, kv, kp) ∧ gm_inv N g h kk nn xv yv xq yq
theorem gm_rel {k N g h : Nat} {e pl ss sp n1 n2 n3 n4 : Int32} {kk : Nat → Nat} {nn xv xq tv tp yv yq kv kp : Nat → Int32} (H : gm_inv N g h kk nn xv yv xq yq) : i_Rel k (nI N, nI g, e, pl, ss, sp, nI h, n1, n2, n3, n4, fun j => nI (kk j), nn, xv, xq, tv, tp) (nI N, nI h, nI g, e, pl, ss, sp, fun j => nI (kk j), nn, yv, yq, kv, kp) :=
  ⟨N, g, h, e, pl, ss, sp, n1, n2, n3, n4, kk, nn, xv, xq, tv, tp, yv, yq, kv, kp, rfl, rfl, H⟩
theorem i_up {k : Nat} {u : SX} {v : SY} (h : i_Rel k u v) : i_Rel (k + 4) u v := h
theorem i_vc0 : wpX_init (fun u => wpY_init (fun v => i_Rel 0 u v)) :=
  gm_rel (k := 0) (N := 0) (g := 0) (h := 0) (kk := fun _ => 0) ⟨by decide, by decide, by decide, fun j => ⟨(by decide : 0 < 15), fun h => absurd (show (0 : Nat) = 8 ∨ (0 : Nat) = 9 from h) (by decide), fun h => absurd (show (0 : Nat) = 10 ∨ (0 : Nat) = 11 from h) (by decide)⟩, fun _ _ => rfl, fun _ _ => rfl⟩
theorem i_vc_size {k : Nat} {u : SX} {v : SY} (I : i_Rel k u v) (hk : k + 4 ≤ 2048) : wpX_size (fun r => wpY_size (fun r' => r' = r ∧ i_Rel (k + 4) u v) v) u := by
  obtain ⟨N, g, h, e, pl, ss, sp, n1, n2, n3, n4, kk, nn, xv, xq, tv, tp, yv, yq, kv, kp, rfl, rfl, J⟩ := I
  exact ⟨rfl, gm_rel J⟩
theorem i_vc_gas {k : Nat} {u : SX} {v : SY} (I : i_Rel k u v) (hk : k + 4 ≤ 2048) : wpX_gas (fun r => wpY_gas (fun r' => r' = r ∧ i_Rel (k + 4) u v) v) u := by
  obtain ⟨N, g, h, e, pl, ss, sp, n1, n2, n3, n4, kk, nn, xv, xq, tv, tp, yv, yq, kv, kp, rfl, rfl, J⟩ := I
  exact ⟨rfl, gm_rel J⟩
theorem i_vc_ending {k : Nat} {u : SX} {v : SY} (I : i_Rel k u v) (hk : k + 4 ≤ 2048) : wpX_ending (fun r => wpY_ending (fun r' => r' = r ∧ i_Rel (k + 4) u v) v) u := by
  obtain ⟨N, g, h, e, pl, ss, sp, n1, n2, n3, n4, kk, nn, xv, xq, tv, tp, yv, yq, kv, kp, rfl, rfl, J⟩ := I
  exact ⟨rfl, gm_rel J⟩
theorem i_vc_place {k : Nat} {u : SX} {v : SY} (I : i_Rel k u v) (hk : k + 4 ≤ 2048) : wpX_place (fun r => wpY_place (fun r' => r' = r ∧ i_Rel (k + 4) u v) v) u := by
  obtain ⟨N, g, h, e, pl, ss, sp, n1, n2, n3, n4, kk, nn, xv, xq, tv, tp, yv, yq, kv, kp, rfl, rfl, J⟩ := I
  exact ⟨rfl, gm_rel J⟩
theorem i_vc_steps {k : Nat} {u : SX} {v : SY} (I : i_Rel k u v) (hk : k + 4 ≤ 2048) : wpX_steps (fun r => wpY_steps (fun r' => r' = r ∧ i_Rel (k + 4) u v) v) u := by
  obtain ⟨N, g, h, e, pl, ss, sp, n1, n2, n3, n4, kk, nn, xv, xq, tv, tp, yv, yq, kv, kp, rfl, rfl, J⟩ := I
  exact ⟨rfl, gm_rel J⟩
theorem i_vc_spent {k : Nat} {u : SX} {v : SY} (I : i_Rel k u v) (hk : k + 4 ≤ 2048) : wpX_spent (fun r => wpY_spent (fun r' => r' = r ∧ i_Rel (k + 4) u v) v) u := by
  obtain ⟨N, g, h, e, pl, ss, sp, n1, n2, n3, n4, kk, nn, xv, xq, tv, tp, yv, yq, kv, kp, rfl, rfl, J⟩ := I
  exact ⟨rfl, gm_rel J⟩
theorem i_vc_height {k : Nat} {u : SX} {v : SY} (I : i_Rel k u v) (hk : k + 4 ≤ 2048) : wpX_height (fun r => wpY_height (fun r' => r' = r ∧ i_Rel (k + 4) u v) v) u := by
  obtain ⟨N, g, h, e, pl, ss, sp, n1, n2, n3, n4, kk, nn, xv, xq, tv, tp, yv, yq, kv, kp, rfl, rfl, J⟩ := I
  exact ⟨rfl, gm_rel J⟩
theorem i_vc_set {k : Nat} {u : SX} {v : SY} (I : i_Rel k u v) (hk : k + 4 ≤ 2048) (v1 : Int32) (v2 : Int32) : wpX_set (fun r u' => wpY_set (fun r' v' => r' = r ∧ i_Rel (k + 4) u' v') v v1 v2) u v1 v2 := by
  obtain ⟨N, g, h, e, pl, ss, sp, n1, n2, n3, n4, kk, nn, xv, xq, tv, tp, yv, yq, kv, kp, rfl, rfl, J⟩ := I
  obtain ⟨hN, hg, hh, hf, hv, hq⟩ := id J
  unfold wpX_set wpY_set
  dsimp only
  rcases pk_ix v1 (n := 4) (by decide) with c | c | ⟨j, hj, rfl⟩
  · refine gx_isVar_f (Or.inl c) ?_
    refine br_t rfl ?_
    exact br_t c ⟨rfl, gm_rel J⟩
  · refine gx_isVar_f (Or.inr c) ?_
    refine br_t rfl ?_
    have c' : (4 : Int32) ≤ v1 := c
    have d1 : ¬ v1 < 0 := fun z => Int32.lt_irrefl (Int32.lt_trans z (Int32.lt_of_lt_of_le (by decide) c'))
    have d2 : (3 : Int32) < v1 := Int32.lt_of_lt_of_le (by decide) c'
    have d3 : ¬ v1 ≤ 3 := Int32.not_le.mpr d2
    first | exact br_f d1 (br_f d3 ⟨rfl, gm_rel J⟩) | exact br_f d1 (br_t d2 ⟨rfl, gm_rel J⟩)
  · refine gx_isVar_t hj ?_
    refine br_f (by decide) ?_
    have d1 : ¬ nI j < 0 := nI_pos (by omega)
    have d2 : ¬ 3 < nI j := nI_nlt (a := 3) (b := j) (by omega) (by decide)
    have d3 : nI j ≤ 3 := nI_le (b := 3) (by omega) (by decide)
    have ej : (nI j).toNatClampNeg = j := nI_clamp (by omega)
    have vj : vp_in (nI j) 4 := vp_in_nI hj (by decide)
    refine And.intro vj (nm_e ?_)
    have G : i_Rel (k + 4) (nI N, nI g, e, pl, ss, sp, nI h, n1, n2, n3, n4, fun j => nI (kk j), nn, upd xv (nI j).toNatClampNeg v2, xq, tv, tp) (nI N, nI h, nI g, e, pl, ss, sp, fun j => nI (kk j), nn, upd yv (nI j).toNatClampNeg v2, yq, kv, kp) := gm_rel ⟨hN, hg, hh, hf, gm_ag hv rfl (fun j hj => Or.inr hj), hq⟩
    first | exact br_f d1 (br_t d3 (And.intro vj (nm_e ⟨rfl, G⟩))) | exact br_f d1 (br_f d2 (And.intro vj (nm_e ⟨rfl, G⟩)))
theorem i_vc_get {k : Nat} {u : SX} {v : SY} (I : i_Rel k u v) (hk : k + 4 ≤ 2048) (v1 : Int32) : wpX_get (fun r => wpY_get (fun r' => r' = r ∧ i_Rel (k + 4) u v) v v1) u v1 := by
  obtain ⟨N, g, h, e, pl, ss, sp, n1, n2, n3, n4, kk, nn, xv, xq, tv, tp, yv, yq, kv, kp, rfl, rfl, J⟩ := I
  obtain ⟨hN, hg, hh, hf, hv, hq⟩ := id J
  unfold wpX_get wpY_get
  dsimp only
  rcases pk_ix v1 (n := 4) (by decide) with c | c | ⟨j, hj, rfl⟩
  · refine gx_isVar_f (Or.inl c) ?_
    refine br_t rfl ?_
    exact br_t c ⟨rfl, gm_rel J⟩
  · refine gx_isVar_f (Or.inr c) ?_
    refine br_t rfl ?_
    have c' : (4 : Int32) ≤ v1 := c
    have d1 : ¬ v1 < 0 := fun z => Int32.lt_irrefl (Int32.lt_trans z (Int32.lt_of_lt_of_le (by decide) c'))
    have d2 : (3 : Int32) < v1 := Int32.lt_of_lt_of_le (by decide) c'
    have d3 : ¬ v1 ≤ 3 := Int32.not_le.mpr d2
    first | exact br_f d1 (br_f d3 ⟨rfl, gm_rel J⟩) | exact br_f d1 (br_t d2 ⟨rfl, gm_rel J⟩)
  · refine gx_isVar_t hj ?_
    refine br_f (by decide) ?_
    have d1 : ¬ nI j < 0 := nI_pos (by omega)
    have d2 : ¬ 3 < nI j := nI_nlt (a := 3) (b := j) (by omega) (by decide)
    have d3 : nI j ≤ 3 := nI_le (b := 3) (by omega) (by decide)
    have ej : (nI j).toNatClampNeg = j := nI_clamp (by omega)
    have vj : vp_in (nI j) 4 := vp_in_nI hj (by decide)
    have ev : yv (nI j).toNatClampNeg = xv (nI j).toNatClampNeg := by rw [ej]; exact (hv j hj).symm
    refine And.intro vj ?_
    first | exact br_f d1 (br_t d3 (And.intro vj ⟨ev, gm_rel J⟩)) | exact br_f d1 (br_f d2 (And.intro vj ⟨ev, gm_rel J⟩))
theorem i_vc_fund {k : Nat} {u : SX} {v : SY} (I : i_Rel k u v) (hk : k + 4 ≤ 2048) (v1 : Int32) : wpX_fund (fun r u' => wpY_fund (fun r' v' => r' = r ∧ i_Rel (k + 4) u' v') v v1) u v1 := by
  obtain ⟨N, g, h, e, pl, ss, sp, n1, n2, n3, n4, kk, nn, xv, xq, tv, tp, yv, yq, kv, kp, rfl, rfl, J⟩ := I
  obtain ⟨hN, hg, hh, hf, hv, hq⟩ := id J
  by_cases c1 : v1 < 0
  · exact br_t c1 (br_t c1 ⟨rfl, gm_rel J⟩)
  by_cases c2 : 2000 < v1
  · exact br_f c1 (br_t c2 (br_f c1 (br_t c2 ⟨rfl, gm_rel J⟩)))
  obtain ⟨j, hj, rfl⟩ := nI_of2 (x := v1) (M := 2000) (n := 2000) (by decide) c1 (Int32.not_lt.mp c2)
  have ea : nI g + nI j = nI (g + j) := nI_add g j
  refine br_f c1 (br_f c2 ?_)
  refine pk_le (g + j) 100000 (fun c3 => ?_) (fun c3 => ?_) (hx := ea)
  · refine nm_r ea ?_
    refine br_f c1 (br_f c2 ?_)
    refine pk_le (g + j) 100000 (fun _ => ?_) (fun z => absurd z (by omega)) (hx := ea)
    exact nm_r ea ⟨rfl, gm_rel ⟨hN, c3, hh, hf, hv, hq⟩⟩
  · refine br_f c1 (br_f c2 ?_)
    refine pk_le (g + j) 100000 (fun z => absurd z (by omega)) (fun _ => ?_) (hx := ea)
    exact ⟨rfl, gm_rel J⟩
theorem i_vc_pile {k : Nat} {u : SX} {v : SY} (I : i_Rel k u v) (hk : k + 4 ≤ 2048) (v1 : Int32) : wpX_pile (fun r => wpY_pile (fun r' => r' = r ∧ i_Rel (k + 4) u v) v v1) u v1 := by
  obtain ⟨N, g, h, e, pl, ss, sp, n1, n2, n3, n4, kk, nn, xv, xq, tv, tp, yv, yq, kv, kp, rfl, rfl, J⟩ := I
  obtain ⟨hN, hg, hh, hf, hv, hq⟩ := id J
  rcases pk_ix v1 (n := h) (by omega) with c | c | ⟨j, hj, rfl⟩
  · exact br_t c (br_t c ⟨rfl, gm_rel J⟩)
  · by_cases d : v1 < 0
    · exact br_t d (br_t d ⟨rfl, gm_rel J⟩)
    · exact br_f d (br_t c (br_f d (br_t c ⟨rfl, gm_rel J⟩)))
  · have d : ¬ nI j < 0 := nI_pos (by omega)
    have d2 : ¬ nI h ≤ nI j := nI_ge hj (by omega)
    have vj : vp_in (nI j) 8 := vp_in_nI (by omega) (by decide)
    have ev : yq (nI j).toNatClampNeg = xq (nI j).toNatClampNeg := by rw [nI_clamp (by omega)]; exact (hq j hj).symm
    exact br_f d (br_f d2 (And.intro vj (br_f d (br_f d2 (And.intro vj ⟨ev, gm_rel J⟩)))))
theorem i_vc_append {k : Nat} {u : SX} {v : SY} (I : i_Rel k u v) (hk : k + 4 ≤ 2048) (v1 : Int32) (v2 : Int32) : wpX_append (fun r u' => wpY_append (fun r' v' => r' = r ∧ i_Rel (k + 4) u' v') v v1 v2) u v1 v2 := by
  obtain ⟨N, g, h, e, pl, ss, sp, n1, n2, n3, n4, kk, nn, xv, xq, tv, tp, yv, yq, kv, kp, rfl, rfl, J⟩ := I
  obtain ⟨hN, hg, hh, hf, hv, hq⟩ := id J
  unfold wpX_append wpY_append
  dsimp only
  rcases pk_ix v1 (n := 15) (by decide) with c | c | ⟨i, hi, rfl⟩
  · refine gx_ins_o (Or.inl c) (br_t rfl ?_)
    refine gy_ins_o (Or.inl c) ?_
    exact br_t rfl ⟨rfl, gm_rel J⟩
  · refine gx_ins_o (Or.inr c) (br_t rfl ?_)
    refine gy_ins_o (Or.inr c) ?_
    exact br_t rfl ⟨rfl, gm_rel J⟩
  refine gx_ins hi (fun G => ?_) (fun G => ?_)
  rotate_left
  · refine br_t rfl ?_
    refine gy_ins hi (fun z => absurd z G) (fun _ => ?_)
    exact br_t rfl ⟨rfl, gm_rel J⟩
  refine br_f (by decide) ?_
  refine pk_lt N 20 (fun c => ?_) (fun c => ?_)
  rotate_left
  · refine gy_ins hi (fun _ => ?_) (fun z => absurd G z)
    refine br_f (by decide) ?_
    have E : N = 20 := by omega
    subst E
    exact br_t rfl ⟨rfl, gm_rel J⟩
  have vN : vp_in (nI N) 20 := vp_in_nI c (by decide)
  have eu : upd (fun j => nI (kk j)) (nI N).toNatClampNeg (nI i) = fun j => nI (gm_put kk N i j) := by rw [nI_clamp (by omega)]; exact gm_put_upd kk N i
  have en : upd nn (nI N).toNatClampNeg v2 = upd nn N v2 := gm_u (by omega)
  refine And.intro vN (nm_r eu (And.intro vN (nm_r en (nm_r (nI_1 N) ?_))))
  refine gy_ins hi (fun _ => ?_) (fun z => absurd G z)
  refine br_f (by decide) ?_
  refine pk_eq N 20 (fun z => absurd z (by omega)) (fun _ => ?_)
  refine And.intro vN (nm_r eu (And.intro vN (nm_r en (nm_r (nI_1 N) ?_))))
  exact ⟨nI_pred N, gm_rel ⟨c, hg, hh, gm_put_fit hf (gm_good_fit hi G), hv, hq⟩⟩
theorem i_vc_change {k : Nat} {u : SX} {v : SY} (I : i_Rel k u v) (hk : k + 4 ≤ 2048) (v1 : Int32) (v2 : Int32) (v3 : Int32) : wpX_change (fun r u' => wpY_change (fun r' v' => r' = r ∧ i_Rel (k + 4) u' v') v v1 v2 v3) u v1 v2 v3 := by
  obtain ⟨N, g, h, e, pl, ss, sp, n1, n2, n3, n4, kk, nn, xv, xq, tv, tp, yv, yq, kv, kp, rfl, rfl, J⟩ := I
  obtain ⟨hN, hg, hh, hf, hv, hq⟩ := id J
  unfold wpX_change wpY_change
  dsimp only
  rcases pk_ix v1 (n := N) (by omega) with c | c | ⟨i, hi, rfl⟩
  · exact br_t c (br_t c ⟨rfl, gm_rel J⟩)
  · by_cases d : v1 < 0
    · exact br_t d (br_t d ⟨rfl, gm_rel J⟩)
    · exact br_f d (br_t c (br_f d (br_t c ⟨rfl, gm_rel J⟩)))
  have d1 : ¬ nI i < 0 := nI_pos (by omega)
  have d2 : ¬ nI N ≤ nI i := nI_ge hi (by omega)
  refine br_f d1 (br_f d2 ?_)
  rcases pk_ix v2 (n := 15) (by decide) with c | c | ⟨o, ho, rfl⟩
  · refine gx_ins_o (Or.inl c) (br_t rfl (br_f d1 (br_f d2 ?_)))
    refine gy_ins_o (Or.inl c) ?_
    exact br_t rfl ⟨rfl, gm_rel J⟩
  · refine gx_ins_o (Or.inr c) (br_t rfl (br_f d1 (br_f d2 ?_)))
    refine gy_ins_o (Or.inr c) ?_
    exact br_t rfl ⟨rfl, gm_rel J⟩
  refine gx_ins ho (fun G => ?_) (fun G => ?_)
  rotate_left
  · refine br_t rfl (br_f d1 (br_f d2 ?_))
    refine gy_ins ho (fun z => absurd z G) (fun _ => ?_)
    exact br_t rfl ⟨rfl, gm_rel J⟩
  refine br_f (by decide) ?_
  have vi : vp_in (nI i) 20 := vp_in_nI (by omega) (by decide)
  have eu : upd (fun j => nI (kk j)) (nI i).toNatClampNeg (nI o) = fun j => nI (gm_put kk i o j) := by rw [nI_clamp (by omega)]; exact gm_put_upd kk i o
  have en : upd nn (nI i).toNatClampNeg v3 = upd nn i v3 := gm_u (by omega)
  refine And.intro vi (nm_e (And.intro vi (nm_r eu (And.intro vi (nm_r en (br_f d1 (br_f d2 ?_)))))))
  refine gy_ins ho (fun _ => ?_) (fun z => absurd G z)
  refine br_f (by decide) ?_
  refine And.intro vi (nm_e (And.intro vi (nm_r eu (And.intro vi (nm_r en ?_)))))
  exact ⟨rfl, gm_rel ⟨hN, hg, hh, gm_put_fit hf (gm_good_fit ho G), hv, hq⟩⟩
theorem i_vc_run {k : Nat} {u : SX} {v : SY} (I : i_Rel k u v) (hk : k + 4 ≤ 2048) : wpX_run (fun r u' => wpY_run (fun r' v' => r' = r ∧ i_Rel (k + 4) u' v') v) u := by
  obtain ⟨N, g, h, e, pl, ss, sp, n1, n2, n3, n4, kk, nn, xv, xq, tv, tp, yv, yq, kv, kp, rfl, rfl, J⟩ := I
  obtain ⟨hN, hg, hh, hf, hv, hq⟩ := id J
  obtain ⟨b1, b2⟩ := gm_sim_run (c := 0) (nn := nn) hf hN 300 (0, 0, 0, g, xv, xq) (0, 0, 0, g, yv, yq) (gm_ok0 (by omega)) (Or.inl rfl) (gm_sim_mk hv (fun j hj => absurd hj (by omega)))
  obtain ⟨o1, o2⟩ := gm_run_ok hf hN 300 (0, 0, 0, g, xv, xq) (gm_ok0 (by omega))
  unfold wpX_run
  dsimp only
  refine gx_exec_A (n1 := n1) hf hN (by omega) ?_
  generalize (gm_run kk nn N 300 (0, 0, 0, g, xv, xq)) = RX at b1 b2 o1 o2 ⊢
  have o2' : RX.2.2.2.2.1 ≤ g := o2
  refine nm_r (pk_sub o2') ?_
  refine gy_run hf hN (by omega) ?_
  generalize (gm_run kk nn N 300 (0, 0, 0, g, yv, yq)) = RY at b1 b2 ⊢
  obtain ⟨ex, px, sx, hx, gx, vx, qx⟩ := RX
  obtain ⟨ey, py, sy, hy, gy, vy, qy⟩ := RY
  obtain ⟨c1, c2, c3, c4, c5, c6⟩ := b2
  dsimp only at b1 c1 c2 c3 c4 c5 c6
  subst b1 c1 c2 c3 c4
  exact ⟨rfl, gm_rel ⟨hN, Nat.le_trans o2' hg, o1.2.2.1, hf, c5, c6⟩⟩
theorem i_vc_clear {k : Nat} {u : SX} {v : SY} (I : i_Rel k u v) (hk : k + 4 ≤ 2048) : wpX_clear (fun u' => wpY_clear (fun v' => i_Rel (k + 4) u' v') v) u := by
  obtain ⟨N, g, h, e, pl, ss, sp, n1, n2, n3, n4, kk, nn, xv, xq, tv, tp, yv, yq, kv, kp, rfl, rfl, J⟩ := I
  obtain ⟨hN, hg, hh, hf, hv, hq⟩ := id J
  exact gm_rel (k := k + 4) (N := 0) ⟨Nat.zero_le _, hg, hh, hf, hv, hq⟩
theorem i_vc_bill {k : Nat} {u : SX} {v : SY} (I : i_Rel k u v) (hk : k + 4 ≤ 2048) : wpX_bill (fun r u' => wpY_bill (fun r' v' => r' = r ∧ i_Rel (k + 4) u' v') v) u := by
  obtain ⟨N, g, h, e, pl, ss, sp, n1, n2, n3, n4, kk, nn, xv, xq, tv, tp, yv, yq, kv, kp, rfl, rfl, J⟩ := I
  obtain ⟨hN, hg, hh, hf, hv, hq⟩ := id J
  obtain ⟨r, hX, hY, hr⟩ := gx_scan (g := g) (h := h) (e := e) (pl := pl) (ss := ss) (sp := sp) (n1 := n1) (n2 := n2) (n3 := n3) (n4 := n4) (kk := kk) (nn := nn) (xv := xv) (xq := xq) (tv := tv) (tp := tp) (yv := yv) (yq := yq) (kv := kv) (kp := kp) hN N 0 (by omega)
  unfold wpX_bill wpY_bill
  dsimp only
  rcases hr with rfl | ⟨rfl, hr⟩
  · exact ⟨_, hX _ (br_f (by decide) ⟨_, hY _ (br_f (by decide) ⟨rfl, gm_rel J⟩)⟩)⟩
  refine ⟨_, hX _ (br_t rfl ?_)⟩
  refine ⟨5, gx_copy (fun tv' htv => ?_) 4 0 tv (by decide) (fun j hj => absurd hj (by omega))⟩
  obtain ⟨b1, b2⟩ := gm_sim_run (c := 900000) (nn := nn) hf hN 300 (0, 0, 0, 100000, tv', tp) (0, 0, 0, 1000000, yv, yq) (gm_ok0 (by decide)) (Or.inr ⟨fun j hj => hr j (by omega) hj, (show 16 * (300 - 0) ≤ 100000 by decide)⟩) (gm_sim_mk (fun j hj => (htv j hj).trans (hv j hj)) (fun j hj => absurd hj (by omega)))
  obtain ⟨o1, o2⟩ := gm_run_ok hf hN 300 (0, 0, 0, 100000, tv', tp) (gm_ok0 (by decide))
  obtain ⟨o3, o4⟩ := gm_run_ok hf hN 300 (0, 0, 0, 1000000, yv, yq) (gm_ok0 (by decide))
  refine br_t (by decide) ?_
  refine gx_exec_B (g := 100000) hf hN (by decide) ?_
  generalize (gm_run kk nn N 300 (0, 0, 0, 100000, tv', tp)) = RX at b1 b2 o1 o2 ⊢
  refine ⟨_, hY _ (br_t rfl ?_)⟩
  refine gy_keep (fun kv' kp' hkv hkp => ?_)
  refine gy_run (g := 1000000) hf hN (by decide) ?_
  generalize (gm_run kk nn N 300 (0, 0, 0, 1000000, yv, yq)) = RY at b1 b2 o3 o4 ⊢
  refine gy_giveBack (fun yv' yq' hyv hyq => ?_)
  obtain ⟨ex, px, sx, hx, gx, vx, qx⟩ := RX
  obtain ⟨ey, py, sy, hy, gy, vy, qy⟩ := RY
  obtain ⟨c1, c2, c3, c4, c5, c6⟩ := b2
  dsimp only at b1 c1 c2 c3 c4 c5 c6 o2 o4
  refine ⟨?_, gm_rel ⟨hN, hg, hh, hf, fun j hj => ?_, fun j hj => ?_⟩⟩
  · show nI (1000000 - gy) = nI 100000 - nI gx
    rw [pk_sub o2]
    exact congrArg nI (by omega)
  · exact (hv j hj).trans ((hkv j hj).symm.trans (hyv j hj).symm)
  · exact (hq j hj).trans ((hkp j (by omega)).symm.trans (hyq j (by omega)).symm)
end
