section
/-- two machines that walk alike, the second with c more gas -/
def gm_sim (c : Nat) (d e : gm_D) : Prop := e.1 = d.1 ∧ e.2.1 = d.2.1 ∧ e.2.2.1 = d.2.2.1 ∧ e.2.2.2.1 = d.2.2.2.1 + c ∧ (∀ j, j < 4 → d.2.2.2.2.1 j = e.2.2.2.2.1 j) ∧ (∀ j, j < d.2.2.1 → d.2.2.2.2.2 j = e.2.2.2.2.2 j)
theorem gm_sim_mk {c p s h g : Nat} {v v' st st' : Nat → Int32} (hv : ∀ j, j < 4 → v j = v' j) (hs : ∀ j, j < h → st j = st' j) : gm_sim c (p, s, h, g, v, st) (p, s, h, g + c, v', st') := ⟨rfl, rfl, rfl, rfl, hv, hs⟩
theorem gm_ag {n m i : Nat} {f f' : Nat → Int32} {x y : Int32} (hs : ∀ j, j < n → f j = f' j) (e : x = y) (hm : ∀ j, j < m → j = i ∨ j < n) : ∀ j, j < m → upd f i x j = upd f' i y j := by
  intro j hj
  by_cases c : j = i
  · rw [c, pk_us, pk_us]; exact e
  · rw [pk_un c, pk_un c]
    rcases hm j hj with q | q
    · exact absurd q c
    · exact hs j q
theorem gm_sim_work {c p s h g k : Nat} {a : Int32} {v v' st st' : Nat → Int32} (hf : gm_fit k a) (hv : ∀ j, j < 4 → v j = v' j) (hs : ∀ j, j < h → st j = st' j) (h1 : gm_need k ≤ h) (hc : c = 0 ∨ k ≠ 13) : gm_sim c (gm_work a p s h g v st k) (gm_work a p s h (g + c) v' st' k) := by
  obtain ⟨hk, h8, h10⟩ := hf
  have hd : ∀ j, j < h - 1 → st j = st' j := fun j hj => hs j (by omega)
  rcases gm_cases hk with rfl | rfl | rfl | rfl | rfl | rfl | rfl | rfl | rfl | rfl | rfl | rfl | rfl | rfl | rfl
  · exact gm_sim_mk hv (gm_ag hs rfl (fun j hj => by omega))
  · have h2 : 2 ≤ h := h1
    exact gm_sim_mk hv (gm_ag hs (by rw [hs (h - 2) (by omega), hs (h - 1) (by omega)]) (fun j hj => by omega))
  · have h2 : 2 ≤ h := h1
    exact gm_sim_mk hv (gm_ag hs (by rw [hs (h - 2) (by omega), hs (h - 1) (by omega)]) (fun j hj => by omega))
  · have h2 : 2 ≤ h := h1
    exact gm_sim_mk hv (gm_ag hs (by rw [hs (h - 2) (by omega), hs (h - 1) (by omega)]) (fun j hj => by omega))
  · have h2 : 2 ≤ h := h1
    exact gm_sim_mk hv (gm_ag hs (by rw [hs (h - 2) (by omega), hs (h - 1) (by omega)]) (fun j hj => by omega))
  · have h2 : 1 ≤ h := h1
    exact gm_sim_mk hv (gm_ag hs (hs (h - 1) (by omega)) (fun j hj => by omega))
  · have h2 : 2 ≤ h := h1
    exact gm_sim_mk hv (gm_ag (gm_ag hs (hs (h - 1) (by omega)) (fun j hj => Or.inr hj)) (hs (h - 2) (by omega)) (fun j hj => Or.inr hj))
  · exact gm_sim_mk hv hd
  · obtain ⟨m, hm, rfl⟩ := h8 (Or.inl rfl)
    have e : (nI m).toNatClampNeg = m := nI_clamp (by omega)
    exact gm_sim_mk hv (gm_ag hs (by rw [e]; exact hv m hm) (fun j hj => by omega))
  · have h2 : 1 ≤ h := h1
    exact gm_sim_mk (gm_ag hv (hs (h - 1) (by omega)) (fun j hj => Or.inr hj)) hd
  · exact gm_sim_mk hv hs
  · have h2 : 1 ≤ h := h1
    have e : st' (h - 1) = st (h - 1) := (hs (h - 1) (by omega)).symm
    show gm_sim c (if st (h - 1) = 0 then p + 1 else a.toNatClampNeg, s, h - 1, g, v, st) (if st' (h - 1) = 0 then p + 1 else a.toNatClampNeg, s, h - 1, g + c, v', st')
    rw [e]
    exact gm_sim_mk hv hd
  · exact gm_sim_mk hv hd
  · rcases hc with rfl | hc
    · exact gm_sim_mk hv (gm_ag hs rfl (fun j hj => by omega))
    · exact absurd rfl hc
  · exact gm_sim_mk hv hs
theorem gm_price_eq {k h : Nat} {st st' : Nat → Int32} (hs : ∀ j, j < h → st j = st' j) (h1 : gm_need k ≤ h) : gm_price k (st' (h - 1)) = gm_price k (st (h - 1)) := by
  unfold gm_price
  by_cases c : k = 12
  · rw [if_pos c, if_pos c]
    subst c
    have h2 : 1 ≤ h := h1
    rw [hs (h - 1) (by omega)]
  · rw [if_neg c, if_neg c]
def gm_rich (kk : Nat → Nat) (N c : Nat) (d : gm_D) : Prop := c = 0 ∨ ((∀ j, j < N → kk j ≠ 13) ∧ 16 * (300 - d.2.1) ≤ d.2.2.2.1)
theorem gm_sim_end {kk : Nat → Nat} {N c p s h g : Nat} {v st st' : Nat → Int32} (hk : ∀ j, kk j < 15) (hs : ∀ j, j < h → st j = st' j) (ok : s ≤ 300) (hr : gm_rich kk N c (p, s, h, g, v, st)) : gm_end kk N p s h (g + c) st' = gm_end kk N p s h g st := by
  unfold gm_end
  by_cases c1 : N ≤ p
  · rw [if_pos c1, if_pos c1]
  rw [if_neg c1, if_neg c1]
  by_cases c2 : s = 300
  · rw [if_pos c2, if_pos c2]
  rw [if_neg c2, if_neg c2]
  by_cases c3 : h < gm_need (kk p) ∨ 8 < h + gm_grow (kk p)
  · rw [if_pos c3, if_pos c3]
  rw [if_neg c3, if_neg c3, gm_price_eq hs (by omega)]
  rcases hr with rfl | ⟨_, hr⟩
  · rfl
  · have hp := gm_price_le (st (h - 1)) (hk p)
    have hr' : 16 * (300 - s) ≤ g := hr
    have q1 : ¬ g + c < gm_price (kk p) (st (h - 1)) := by omega
    have q2 : ¬ g < gm_price (kk p) (st (h - 1)) := by omega
    rw [if_neg q1, if_neg q2]
theorem gm_sim_go {kk : Nat → Nat} {nn : Nat → Int32} {N c : Nat} (hf : ∀ j, gm_fit (kk j) (nn j)) {d e : gm_D} (ok : d.2.1 ≤ 300) (hr : gm_rich kk N c d) (hd : gm_sim c d e) : (gm_go kk nn N e).1 = (gm_go kk nn N d).1 ∧ gm_sim c (gm_go kk nn N d).2 (gm_go kk nn N e).2 ∧ ((gm_go kk nn N d).1 = 0 → gm_rich kk N c (gm_go kk nn N d).2) := by
  obtain ⟨p, s, h, g, v, st⟩ := d
  obtain ⟨p', s', h', g', v', st'⟩ := e
  obtain ⟨e1, e2, e3, e4, hv, hs⟩ := hd
  dsimp only at e1 e2 e3 e4 hv hs ok
  subst e1 e2 e3 e4
  unfold gm_go gm_turn
  dsimp only
  rw [gm_sim_end (fun j => (hf j).1) hs ok hr]
  by_cases z : gm_end kk N p' s' h' g st = 0
  · obtain ⟨a1, a2, a3, a4, a5⟩ := gm_end_0 z
    rw [if_pos z, if_pos z, gm_price_eq hs a3, Nat.sub_add_comm a5]
    by_cases q : kk p' = 14
    · rw [if_pos q, if_pos q]
      exact ⟨rfl, gm_sim_mk hv hs, fun y => absurd (show (1 : Nat) = 0 from y) (by decide)⟩
    · rw [if_neg q, if_neg q]
      refine ⟨rfl, gm_sim_work (hf p') hv hs a3 ?_, fun _ => ?_⟩
      · rcases hr with hr | ⟨hr, _⟩
        · exact Or.inl hr
        · exact Or.inr (hr p' a1)
      · rcases hr with hr | ⟨hr, hg⟩
        · exact Or.inl hr
        · have hp := gm_price_le (st (h' - 1)) (hf p').1
          have hg' : 16 * (300 - s') ≤ g := hg
          refine Or.inr ⟨hr, ?_⟩
          have w := gm_work_sg (nn p') p' (s' + 1) h' (g - gm_price (kk p') (st (h' - 1))) v st (hf p').1
          show 16 * (300 - (gm_work _ _ _ _ _ _ _ _).2.1) ≤ (gm_work _ _ _ _ _ _ _ _).2.2.2.1
          rw [w.1, w.2]
          omega
  · rw [if_neg z, if_neg z]
    exact ⟨rfl, gm_sim_mk hv hs, fun y => absurd y z⟩
theorem gm_sim_run {kk : Nat → Nat} {nn : Nat → Int32} {N c : Nat} (hf : ∀ j, gm_fit (kk j) (nn j)) (hN : N ≤ 20) : ∀ (n : Nat) (d e : gm_D), gm_ok d → gm_rich kk N c d → gm_sim c d e → (gm_run kk nn N n e).1 = (gm_run kk nn N n d).1 ∧ gm_sim c (gm_run kk nn N n d).2 (gm_run kk nn N n e).2 := by
  intro n
  induction n with
  | zero => exact fun d e ok hr hd => ⟨(gm_sim_go hf ok.2.1 hr hd).1, (gm_sim_go hf ok.2.1 hr hd).2.1⟩
  | succ n ih =>
    intro d e ok hr hd
    obtain ⟨b1, b2, b3⟩ := gm_sim_go hf ok.2.1 hr hd
    rw [gm_run, gm_run, b1]
    by_cases z : (gm_go kk nn N d).1 = 0
    · rw [if_pos z, if_pos z]
      exact ih _ _ (gm_go_ok hf hN ok).1 (b3 z) b2
    · rw [if_neg z, if_neg z]
      exact ⟨b1, b2⟩
end
