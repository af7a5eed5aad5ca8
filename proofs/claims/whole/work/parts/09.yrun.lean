section
variable {N : Nat} {en pl sp : Int32} {kk : Nat → Nat} {nn kv kp : Nat → Int32} {p s h m g : Nat} {v st : Nat → Int32} {a x : Int32}
theorem gy_exit {F e : Nat} {pl : Int32} {post : Int32 → SY → Prop} (e0 : e ≠ 0) (he : e < 5) (H : post (nI e) (nI N, nI h, nI g, nI e, pl, nI s, sp, fun j => nI (kk j), nn, v, st, kv, kp)) : wY_run_29 post (F + 1) (nI N) (nI h) (nI g) (nI e) pl (nI s) sp (fun j => nI (kk j)) nn v st kv kp :=
  br_f (nI_ne0 (by omega) (by omega)) H
theorem gy_loop {g0 : Nat} {post : Int32 → SY → Prop} (hf : ∀ j, gm_fit (kk j) (nn j)) (hN : N ≤ 20) (hg0 : g0 ≤ 1000000) : ∀ (n F p s h g : Nat) (v st : Nat → Int32), s + n = 300 → p ≤ 20 → h ≤ 8 → g ≤ g0 → n + 2 ≤ F → post (nI (gm_run kk nn N n (p, s, h, g, v, st)).1) (nI N, nI (gm_run kk nn N n (p, s, h, g, v, st)).2.2.2.1, nI (gm_run kk nn N n (p, s, h, g, v, st)).2.2.2.2.1, nI (gm_run kk nn N n (p, s, h, g, v, st)).1, nI (gm_run kk nn N n (p, s, h, g, v, st)).2.1, nI (gm_run kk nn N n (p, s, h, g, v, st)).2.2.1, nI (g0 - (gm_run kk nn N n (p, s, h, g, v, st)).2.2.2.2.1), fun j => nI (kk j), nn, (gm_run kk nn N n (p, s, h, g, v, st)).2.2.2.2.2.1, (gm_run kk nn N n (p, s, h, g, v, st)).2.2.2.2.2.2, kv, kp) → wY_run_29 post F (nI N) (nI h) (nI g) (nI (gm_end kk N p s h g st)) (nI p) (nI s) (nI (g0 - g)) (fun j => nI (kk j)) nn v st kv kp := by
  intro n
  induction n with
  | zero =>
    intro F p s h g v st hs o1 o3 o4 hF H
    obtain ⟨F, rfl⟩ : ∃ E, F = E + 1 := ⟨F - 1, by omega⟩
    have z : gm_end kk N p s h g st ≠ 0 := fun z => (gm_end_0 z).2.1 (by omega)
    have E : gm_run kk nn N 0 (p, s, h, g, v, st) = (gm_end kk N p s h g st, (p, s, h, g, v, st)) := gm_ts rfl z
    rw [E] at H
    exact gy_exit z (gm_end_lt _ _ _ _ _ _ _) H
  | succ n ih =>
    intro F p s h g v st hs o1 o3 o4 hF H
    obtain ⟨F, rfl⟩ : ∃ E, F = E + 2 := ⟨F - 2, by omega⟩
    by_cases z : gm_end kk N p s h g st = 0
    · obtain ⟨a1, a2, a3, a4, a5⟩ := gm_end_0 z
      have hk := hf p
      have hpr := gm_price_le (st (h - 1)) hk.1
      have e : (nI p).toNatClampNeg = p := nI_clamp (by omega)
      rw [z]
      refine br_t rfl ?_
      refine And.intro (vp_in_nI (by omega) (by decide)) ?_
      rw [e]
      refine gy_price hk.1 o3 a3 ?_
      refine nm_r (pk_sub a5) ?_
      refine nm_r ((nI_add _ _).trans (congrArg nI (by omega : g0 - g + gm_price (kk p) (st (h - 1)) = g0 - (g - gm_price (kk p) (st (h - 1)))))) ?_
      refine nm_r (nI_1 s) ?_
      refine And.intro (vp_in_nI (by omega) (by decide)) ?_
      try rw [e]
      rw [gm_run] at H
      refine pk_eq (kk p) 14 (fun c => ?_) (fun c => ?_) (ha := by have := hk.1; omega)
      · have G : gm_go kk nn N (p, s, h, g, v, st) = _ := gm_t14 z c
        rw [G] at H
        exact gy_exit (e := 1) (by decide) (by decide) H
      · have G : gm_go kk nn N (p, s, h, g, v, st) = _ := gm_tw z c
        rw [G] at H
        rw [if_pos rfl] at H
        obtain ⟨k1, k2, k3⟩ := gm_work_ok (v := v) (st := st) (s := s + 1) (g := g - gm_price (kk p) (st (h - 1))) hk (by omega : p < 20) (by omega) a3 a4 (by omega)
        refine gy_work rfl rfl hk c (by omega) a3 a4 ?_
        refine gy_endAt hf hN k1.2.1 k1.2.2.1 k1.2.2.2 k1.1 ?_
        have L := ih (F + 1) (gm_work (nn p) p (s + 1) h (g - gm_price (kk p) (st (h - 1))) v st (kk p)).1 (gm_work (nn p) p (s + 1) h (g - gm_price (kk p) (st (h - 1))) v st (kk p)).2.1 (gm_work (nn p) p (s + 1) h (g - gm_price (kk p) (st (h - 1))) v st (kk p)).2.2.1 (gm_work (nn p) p (s + 1) h (g - gm_price (kk p) (st (h - 1))) v st (kk p)).2.2.2.1 (gm_work (nn p) p (s + 1) h (g - gm_price (kk p) (st (h - 1))) v st (kk p)).2.2.2.2.1 (gm_work (nn p) p (s + 1) h (g - gm_price (kk p) (st (h - 1))) v st (kk p)).2.2.2.2.2 (by rw [k2]; omega) k1.1 k1.2.2.1 (by rw [k3]; omega) (by omega) H
        rw [k3] at L ⊢
        exact L
    · have E : gm_run kk nn N (n + 1) (p, s, h, g, v, st) = (gm_end kk N p s h g st, (p, s, h, g, v, st)) := by
        have G : gm_go kk nn N (p, s, h, g, v, st) = (gm_end kk N p s h g st, (p, s, h, g, v, st)) := gm_ts rfl z
        rw [gm_run, G, if_neg z]
      rw [E] at H
      exact gy_exit z (gm_end_lt _ _ _ _ _ _ _) H
theorem gy_run {h0 s0 : Int32} {post : Int32 → SY → Prop} (hf : ∀ j, gm_fit (kk j) (nn j)) (hN : N ≤ 20) (hg : g ≤ 1000000) (H : post (nI (gm_run kk nn N 300 (0, 0, 0, g, v, st)).1) (nI N, nI (gm_run kk nn N 300 (0, 0, 0, g, v, st)).2.2.2.1, nI (gm_run kk nn N 300 (0, 0, 0, g, v, st)).2.2.2.2.1, nI (gm_run kk nn N 300 (0, 0, 0, g, v, st)).1, nI (gm_run kk nn N 300 (0, 0, 0, g, v, st)).2.1, nI (gm_run kk nn N 300 (0, 0, 0, g, v, st)).2.2.1, nI (g - (gm_run kk nn N 300 (0, 0, 0, g, v, st)).2.2.2.2.1), fun j => nI (kk j), nn, (gm_run kk nn N 300 (0, 0, 0, g, v, st)).2.2.2.2.2.1, (gm_run kk nn N 300 (0, 0, 0, g, v, st)).2.2.2.2.2.2, kv, kp)) : wpY_run post (nI N, h0, nI g, en, pl, s0, sp, fun j => nI (kk j), nn, v, st, kv, kp) := by
  unfold wpY_run
  dsimp only
  refine gy_endAt (p := 0) (s := 0) (h := 0) hf hN (by omega) (by omega) hg (by omega) ?_
  have L := gy_loop (g0 := g) (post := post) (kv := kv) (kp := kp) hf hN hg 300 302 0 0 0 g v st rfl (by omega) (by omega) (by omega) (by omega) H
  rw [Nat.sub_self] at L
  exact ⟨302, L⟩
theorem gy_keep_l {post : SY → Prop} {hx s1 : Int32} (H : ∀ kv kp : Nat → Int32, (∀ j, j < 4 → kv j = v j) → (∀ j, j < 8 → kp j = st j) → post (nI N, hx, nI g, en, pl, s1, sp, fun j => nI (kk j), nn, v, st, kv, kp)) : ∀ (d i : Nat) (kv kp : Nat → Int32), i + d = 8 → (∀ j, j < 4 → j < i → kv j = v j) → (∀ j, j < i → kp j = st j) → wY_keep_2 post (nI N) hx (nI g) en pl s1 sp (d + 1) (nI i) (fun j => nI (kk j)) nn v st kv kp := by
  intro d
  induction d with
  | zero =>
    intro i kv kp hi h1 h2
    refine pk_le 8 i (fun _ => ?_) (fun z => absurd z (by omega))
    exact H _ _ (fun j hj => h1 j hj (by omega)) (fun j hj => h2 j (by omega))
  | succ d ih =>
    intro i kv kp hi h1 h2
    refine pk_le 8 i (fun z => absurd z (by omega)) (fun _ => ?_)
    have e : (nI i).toNatClampNeg = i := nI_clamp (by omega)
    have e4 : nI i &&& 3 = nI (i % 4) := pk_andN (by omega) 2 (by decide)
    have hm : i % 4 < 4 := Nat.mod_lt _ (by decide)
    have e5 : (nI (i % 4)).toNatClampNeg = i % 4 := nI_clamp (by omega)
    have v8 : vp_in (nI i) 8 := vp_in_nI (by omega) (by decide)
    have v4 : vp_in (nI (i % 4)) 4 := vp_in_nI hm (by decide)
    rw [e4, e, e5]
    refine And.intro v8 (And.intro v8 (nm_e (And.intro v4 (And.intro v4 (nm_e (nm_r (nI_1 i) ?_))))))
    refine ih (i + 1) _ _ (by omega) (fun j hj hi' => ?_) (fun j hj => ?_)
    · by_cases c : j = i % 4
      · rw [c, pk_us]
      · rw [pk_un c]
        exact h1 j hj (by omega)
    · by_cases c : j = i
      · rw [c, pk_us]
      · rw [pk_un c]
        exact h2 j (by omega)
theorem gy_giveBack_l {post : SY → Prop} {hx s1 : Int32} (H : ∀ v st : Nat → Int32, (∀ j, j < 4 → v j = kv j) → (∀ j, j < 8 → st j = kp j) → post (nI N, hx, nI g, en, pl, s1, sp, fun j => nI (kk j), nn, v, st, kv, kp)) : ∀ (d i : Nat) (v st : Nat → Int32), i + d = 8 → (∀ j, j < 4 → j < i → v j = kv j) → (∀ j, j < i → st j = kp j) → wY_giveBack_2 post (nI N) hx (nI g) en pl s1 sp (d + 1) (nI i) (fun j => nI (kk j)) nn v st kv kp := by
  intro d
  induction d with
  | zero =>
    intro i v st hi h1 h2
    refine pk_le 8 i (fun _ => ?_) (fun z => absurd z (by omega))
    exact H _ _ (fun j hj => h1 j hj (by omega)) (fun j hj => h2 j (by omega))
  | succ d ih =>
    intro i v st hi h1 h2
    refine pk_le 8 i (fun z => absurd z (by omega)) (fun _ => ?_)
    have e : (nI i).toNatClampNeg = i := nI_clamp (by omega)
    have e4 : nI i &&& 3 = nI (i % 4) := pk_andN (by omega) 2 (by decide)
    have hm : i % 4 < 4 := Nat.mod_lt _ (by decide)
    have e5 : (nI (i % 4)).toNatClampNeg = i % 4 := nI_clamp (by omega)
    have v8 : vp_in (nI i) 8 := vp_in_nI (by omega) (by decide)
    have v4 : vp_in (nI (i % 4)) 4 := vp_in_nI hm (by decide)
    rw [e4, e, e5]
    refine And.intro v8 (And.intro v8 (nm_e (And.intro v4 (And.intro v4 (nm_e (nm_r (nI_1 i) ?_))))))
    refine ih (i + 1) _ _ (by omega) (fun j hj hi' => ?_) (fun j hj => ?_)
    · by_cases c : j = i % 4
      · rw [c, pk_us]
      · rw [pk_un c]
        exact h1 j hj (by omega)
    · by_cases c : j = i
      · rw [c, pk_us]
      · rw [pk_un c]
        exact h2 j (by omega)
theorem gy_keep {post : SY → Prop} {hx s1 : Int32} (H : ∀ kv kp : Nat → Int32, (∀ j, j < 4 → kv j = v j) → (∀ j, j < 8 → kp j = st j) → post (nI N, hx, nI g, en, pl, s1, sp, fun j => nI (kk j), nn, v, st, kv, kp)) : wpY_keep post (nI N, hx, nI g, en, pl, s1, sp, fun j => nI (kk j), nn, v, st, kv, kp) :=
  ⟨9, gy_keep_l H 8 0 kv kp rfl (fun j _ hj => absurd hj (Nat.not_lt_zero j)) (fun j hj => absurd hj (Nat.not_lt_zero j))⟩
theorem gy_giveBack {post : SY → Prop} {hx s1 : Int32} (H : ∀ v st : Nat → Int32, (∀ j, j < 4 → v j = kv j) → (∀ j, j < 8 → st j = kp j) → post (nI N, hx, nI g, en, pl, s1, sp, fun j => nI (kk j), nn, v, st, kv, kp)) : wpY_giveBack post (nI N, hx, nI g, en, pl, s1, sp, fun j => nI (kk j), nn, v, st, kv, kp) :=
  ⟨9, gy_giveBack_l H 8 0 v st rfl (fun j _ hj => absurd hj (Nat.not_lt_zero j)) (fun j hj => absurd hj (Nat.not_lt_zero j))⟩
end
