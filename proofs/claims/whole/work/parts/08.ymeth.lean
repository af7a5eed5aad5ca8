section
variable {N : Nat} {en pl sp : Int32} {kk : Nat → Nat} {nn kv kp : Nat → Int32} {p s h m g : Nat} {v st : Nat → Int32} {a x : Int32}
theorem gy_push {post : SY → Prop} (hh : h < 8) (H : post (nI N, nI (h + 1), nI g, en, pl, nI s, sp, fun j => nI (kk j), nn, v, upd st h x, kv, kp)) : wpY_push post (nI N, nI h, nI g, en, pl, nI s, sp, fun j => nI (kk j), nn, v, st, kv, kp) x :=
  And.intro (vp_in_nI hh (by decide)) (nm_r (gm_u (by omega)) (nm_r (nI_1 h) H))
theorem gy_pop {post : Int32 → SY → Prop} (hh : m < 8) (H : post (st m) (nI N, nI m, nI g, en, pl, nI s, sp, fun j => nI (kk j), nn, v, st, kv, kp)) : wpY_pop post (nI N, nI (m + 1), nI g, en, pl, nI s, sp, fun j => nI (kk j), nn, v, st, kv, kp) := by
  have e : (nI m).toNatClampNeg = m := nI_clamp (by omega)
  refine nm_r (nI_pred m) (And.intro (vp_in_nI hh (by decide)) ?_)
  rw [e]
  exact H
theorem gy_op1 {post : SY → Prop} (hh : m + 2 ≤ 8) (H : post (nI N, nI (m + 1), nI g, en, pl, nI s, sp, fun j => nI (kk j), nn, v, upd st m (st m + st (m + 1)), kv, kp)) : wpY_operate post (nI N, nI (m + 2), nI g, en, pl, nI s, sp, fun j => nI (kk j), nn, v, st, kv, kp) (nI 1) := by
  unfold wpY_operate
  dsimp only
  refine gy_pop (by omega) ?_
  dsimp only
  refine gy_pop (by omega) ?_
  dsimp only
  repeat first
    | refine br_t (by first | assumption | decide) ?_
    | refine br_f (by first | assumption | decide) ?_
  unfold wY_operate_73
  exact gy_push (by omega) H
theorem gy_op2 {post : SY → Prop} (hh : m + 2 ≤ 8) (H : post (nI N, nI (m + 1), nI g, en, pl, nI s, sp, fun j => nI (kk j), nn, v, upd st m (st m - st (m + 1)), kv, kp)) : wpY_operate post (nI N, nI (m + 2), nI g, en, pl, nI s, sp, fun j => nI (kk j), nn, v, st, kv, kp) (nI 2) := by
  unfold wpY_operate
  dsimp only
  refine gy_pop (by omega) ?_
  dsimp only
  refine gy_pop (by omega) ?_
  dsimp only
  repeat first
    | refine br_t (by first | assumption | decide) ?_
    | refine br_f (by first | assumption | decide) ?_
  unfold wY_operate_73
  exact gy_push (by omega) H
theorem gy_op3 {post : SY → Prop} (hh : m + 2 ≤ 8) (H : post (nI N, nI (m + 1), nI g, en, pl, nI s, sp, fun j => nI (kk j), nn, v, upd st m (st m * st (m + 1)), kv, kp)) : wpY_operate post (nI N, nI (m + 2), nI g, en, pl, nI s, sp, fun j => nI (kk j), nn, v, st, kv, kp) (nI 3) := by
  unfold wpY_operate
  dsimp only
  refine gy_pop (by omega) ?_
  dsimp only
  refine gy_pop (by omega) ?_
  dsimp only
  repeat first
    | refine br_t (by first | assumption | decide) ?_
    | refine br_f (by first | assumption | decide) ?_
  unfold wY_operate_73
  exact gy_push (by omega) H
theorem gy_op4 {post : SY → Prop} (hh : m + 2 ≤ 8) (H : post (nI N, nI (m + 1), nI g, en, pl, nI s, sp, fun j => nI (kk j), nn, v, upd st m (if st m < st (m + 1) then 1 else 0), kv, kp)) : wpY_operate post (nI N, nI (m + 2), nI g, en, pl, nI s, sp, fun j => nI (kk j), nn, v, st, kv, kp) (nI 4) := by
  unfold wpY_operate
  dsimp only
  refine gy_pop (by omega) ?_
  dsimp only
  refine gy_pop (by omega) ?_
  dsimp only
  by_cases c : st m < st (m + 1)
  · have c' : ¬ st (m + 1) ≤ st m := Int32.not_le.mpr c
    rw [if_pos c] at H
    repeat first
      | refine br_t (by first | assumption | decide) ?_
      | refine br_f (by first | assumption | decide) ?_
    unfold wY_operate_73
    exact gy_push (by omega) H
  · have c' : st (m + 1) ≤ st m := Int32.not_lt.mp c
    rw [if_neg c] at H
    repeat first
      | refine br_t (by first | assumption | decide) ?_
      | refine br_f (by first | assumption | decide) ?_
    unfold wY_operate_73
    exact gy_push (by omega) H
theorem gy_op6 {post : SY → Prop} (hh : m + 2 ≤ 8) (H : post (nI N, nI (m + 2), nI g, en, pl, nI s, sp, fun j => nI (kk j), nn, v, upd (upd st m (st (m + 1))) (m + 1) (st m), kv, kp)) : wpY_operate post (nI N, nI (m + 2), nI g, en, pl, nI s, sp, fun j => nI (kk j), nn, v, st, kv, kp) (nI 6) := by
  unfold wpY_operate
  dsimp only
  refine gy_pop (by omega) ?_
  dsimp only
  refine gy_pop (by omega) ?_
  dsimp only
  refine br_t (by decide) ?_
  refine gy_push (by omega) ?_
  dsimp only
  exact gy_push (by omega) H
theorem gy_traps_t {k : Nat} (hk : k < 15) (hh : h ≤ 8) (c : h < gm_need k ∨ 8 < h + gm_grow k) {post : Int32 → Prop} (H : post 1) : wpY_traps post (nI N, nI h, nI g, en, pl, nI s, sp, fun j => nI (kk j), nn, v, st, kv, kp) (nI k) := by
  rcases gm_cases hk with rfl | rfl | rfl | rfl | rfl | rfl | rfl | rfl | rfl | rfl | rfl | rfl | rfl | rfl | rfl
  · have c' : h < 0 ∨ 8 < h + 1 := c
    have q : h = 8 := by omega
    subst q
    repeat first
      | exact H
      | refine br_t (by first | assumption | decide) ?_
      | refine br_f (by first | assumption | decide) ?_
      | refine And.intro rfl ?_
      | refine nm_e ?_
  · have c' : h < 2 ∨ 8 < h + 0 := c
    have q : nI h < 2 := nI_lt (b := 2) (by omega) (by decide)
    have q' : ¬ 2 ≤ nI h := nI_ge (b := 2) (by omega) (by decide)
    repeat first
      | exact H
      | refine br_t (by first | assumption | decide) ?_
      | refine br_f (by first | assumption | decide) ?_
      | refine And.intro rfl ?_
      | refine nm_e ?_
  · have c' : h < 2 ∨ 8 < h + 0 := c
    have q : nI h < 2 := nI_lt (b := 2) (by omega) (by decide)
    have q' : ¬ 2 ≤ nI h := nI_ge (b := 2) (by omega) (by decide)
    repeat first
      | exact H
      | refine br_t (by first | assumption | decide) ?_
      | refine br_f (by first | assumption | decide) ?_
      | refine And.intro rfl ?_
      | refine nm_e ?_
  · have c' : h < 2 ∨ 8 < h + 0 := c
    have q : nI h < 2 := nI_lt (b := 2) (by omega) (by decide)
    have q' : ¬ 2 ≤ nI h := nI_ge (b := 2) (by omega) (by decide)
    repeat first
      | exact H
      | refine br_t (by first | assumption | decide) ?_
      | refine br_f (by first | assumption | decide) ?_
      | refine And.intro rfl ?_
      | refine nm_e ?_
  · have c' : h < 2 ∨ 8 < h + 0 := c
    have q : nI h < 2 := nI_lt (b := 2) (by omega) (by decide)
    have q' : ¬ 2 ≤ nI h := nI_ge (b := 2) (by omega) (by decide)
    repeat first
      | exact H
      | refine br_t (by first | assumption | decide) ?_
      | refine br_f (by first | assumption | decide) ?_
      | refine And.intro rfl ?_
      | refine nm_e ?_
  · have c' : h < 1 ∨ 8 < h + 1 := c
    by_cases z : h = 0
    · subst z
      repeat first
        | exact H
        | refine br_t (by first | assumption | decide) ?_
        | refine br_f (by first | assumption | decide) ?_
        | refine And.intro rfl ?_
        | refine nm_e ?_
    · have q : h = 8 := by omega
      subst q
      repeat first
        | exact H
        | refine br_t (by first | assumption | decide) ?_
        | refine br_f (by first | assumption | decide) ?_
        | refine And.intro rfl ?_
        | refine nm_e ?_
  · have c' : h < 2 ∨ 8 < h + 0 := c
    have q : nI h < 2 := nI_lt (b := 2) (by omega) (by decide)
    have q' : ¬ 2 ≤ nI h := nI_ge (b := 2) (by omega) (by decide)
    repeat first
      | exact H
      | refine br_t (by first | assumption | decide) ?_
      | refine br_f (by first | assumption | decide) ?_
      | refine And.intro rfl ?_
      | refine nm_e ?_
  · have c' : h < 1 ∨ 8 < h + 0 := c
    have q : nI h < 1 := nI_lt (b := 1) (by omega) (by decide)
    have q' : ¬ 1 ≤ nI h := nI_ge (b := 1) (by omega) (by decide)
    repeat first
      | exact H
      | refine br_t (by first | assumption | decide) ?_
      | refine br_f (by first | assumption | decide) ?_
      | refine And.intro rfl ?_
      | refine nm_e ?_
  · have c' : h < 0 ∨ 8 < h + 1 := c
    have q : h = 8 := by omega
    subst q
    repeat first
      | exact H
      | refine br_t (by first | assumption | decide) ?_
      | refine br_f (by first | assumption | decide) ?_
      | refine And.intro rfl ?_
      | refine nm_e ?_
  · have c' : h < 1 ∨ 8 < h + 0 := c
    have q : nI h < 1 := nI_lt (b := 1) (by omega) (by decide)
    have q' : ¬ 1 ≤ nI h := nI_ge (b := 1) (by omega) (by decide)
    repeat first
      | exact H
      | refine br_t (by first | assumption | decide) ?_
      | refine br_f (by first | assumption | decide) ?_
      | refine And.intro rfl ?_
      | refine nm_e ?_
  · have c' : h < 0 ∨ 8 < h + 0 := c
    omega
  · have c' : h < 1 ∨ 8 < h + 0 := c
    have q : nI h < 1 := nI_lt (b := 1) (by omega) (by decide)
    have q' : ¬ 1 ≤ nI h := nI_ge (b := 1) (by omega) (by decide)
    repeat first
      | exact H
      | refine br_t (by first | assumption | decide) ?_
      | refine br_f (by first | assumption | decide) ?_
      | refine And.intro rfl ?_
      | refine nm_e ?_
  · have c' : h < 1 ∨ 8 < h + 0 := c
    have q : nI h < 1 := nI_lt (b := 1) (by omega) (by decide)
    have q' : ¬ 1 ≤ nI h := nI_ge (b := 1) (by omega) (by decide)
    repeat first
      | exact H
      | refine br_t (by first | assumption | decide) ?_
      | refine br_f (by first | assumption | decide) ?_
      | refine And.intro rfl ?_
      | refine nm_e ?_
  · have c' : h < 0 ∨ 8 < h + 1 := c
    have q : h = 8 := by omega
    subst q
    repeat first
      | exact H
      | refine br_t (by first | assumption | decide) ?_
      | refine br_f (by first | assumption | decide) ?_
      | refine And.intro rfl ?_
      | refine nm_e ?_
  · have c' : h < 0 ∨ 8 < h + 0 := c
    omega
theorem gy_traps_f {k : Nat} (hk : k < 15) (c1 : gm_need k ≤ h) (c2 : h + gm_grow k ≤ 8) {post : Int32 → Prop} (H : post 0) : wpY_traps post (nI N, nI h, nI g, en, pl, nI s, sp, fun j => nI (kk j), nn, v, st, kv, kp) (nI k) := by
  rcases gm_cases hk with rfl | rfl | rfl | rfl | rfl | rfl | rfl | rfl | rfl | rfl | rfl | rfl | rfl | rfl | rfl
  · have d1 : 0 ≤ h := c1
    have d2 : h + 1 ≤ 8 := c2
    have q : ¬ nI h < 0 := nI_nlt (b := 0) (by omega) (by omega)
    have q' : 0 ≤ nI h := nI_le (a := 0) (by omega) (by omega)
    have r : ¬ nI h = 8 := fun z => by
      have z' := (nI_eq (a := h) (b := 8) (by omega) (by decide)).mp z
      omega
    repeat first
      | exact H
      | refine br_t (by first | assumption | decide) ?_
      | refine br_f (by first | assumption | decide) ?_
      | refine And.intro rfl ?_
      | refine nm_e ?_
  · have d1 : 2 ≤ h := c1
    have d2 : h + 0 ≤ 8 := c2
    have q : ¬ nI h < 2 := nI_nlt (b := 2) (by omega) (by omega)
    have q' : 2 ≤ nI h := nI_le (a := 2) (by omega) (by omega)
    repeat first
      | exact H
      | refine br_t (by first | assumption | decide) ?_
      | refine br_f (by first | assumption | decide) ?_
      | refine And.intro rfl ?_
      | refine nm_e ?_
  · have d1 : 2 ≤ h := c1
    have d2 : h + 0 ≤ 8 := c2
    have q : ¬ nI h < 2 := nI_nlt (b := 2) (by omega) (by omega)
    have q' : 2 ≤ nI h := nI_le (a := 2) (by omega) (by omega)
    repeat first
      | exact H
      | refine br_t (by first | assumption | decide) ?_
      | refine br_f (by first | assumption | decide) ?_
      | refine And.intro rfl ?_
      | refine nm_e ?_
  · have d1 : 2 ≤ h := c1
    have d2 : h + 0 ≤ 8 := c2
    have q : ¬ nI h < 2 := nI_nlt (b := 2) (by omega) (by omega)
    have q' : 2 ≤ nI h := nI_le (a := 2) (by omega) (by omega)
    repeat first
      | exact H
      | refine br_t (by first | assumption | decide) ?_
      | refine br_f (by first | assumption | decide) ?_
      | refine And.intro rfl ?_
      | refine nm_e ?_
  · have d1 : 2 ≤ h := c1
    have d2 : h + 0 ≤ 8 := c2
    have q : ¬ nI h < 2 := nI_nlt (b := 2) (by omega) (by omega)
    have q' : 2 ≤ nI h := nI_le (a := 2) (by omega) (by omega)
    repeat first
      | exact H
      | refine br_t (by first | assumption | decide) ?_
      | refine br_f (by first | assumption | decide) ?_
      | refine And.intro rfl ?_
      | refine nm_e ?_
  · have d1 : 1 ≤ h := c1
    have d2 : h + 1 ≤ 8 := c2
    have q : ¬ nI h < 1 := nI_nlt (b := 1) (by omega) (by omega)
    have q' : 1 ≤ nI h := nI_le (a := 1) (by omega) (by omega)
    have r : ¬ nI h = 8 := fun z => by
      have z' := (nI_eq (a := h) (b := 8) (by omega) (by decide)).mp z
      omega
    repeat first
      | exact H
      | refine br_t (by first | assumption | decide) ?_
      | refine br_f (by first | assumption | decide) ?_
      | refine And.intro rfl ?_
      | refine nm_e ?_
  · have d1 : 2 ≤ h := c1
    have d2 : h + 0 ≤ 8 := c2
    have q : ¬ nI h < 2 := nI_nlt (b := 2) (by omega) (by omega)
    have q' : 2 ≤ nI h := nI_le (a := 2) (by omega) (by omega)
    repeat first
      | exact H
      | refine br_t (by first | assumption | decide) ?_
      | refine br_f (by first | assumption | decide) ?_
      | refine And.intro rfl ?_
      | refine nm_e ?_
  · have d1 : 1 ≤ h := c1
    have d2 : h + 0 ≤ 8 := c2
    have q : ¬ nI h < 1 := nI_nlt (b := 1) (by omega) (by omega)
    have q' : 1 ≤ nI h := nI_le (a := 1) (by omega) (by omega)
    repeat first
      | exact H
      | refine br_t (by first | assumption | decide) ?_
      | refine br_f (by first | assumption | decide) ?_
      | refine And.intro rfl ?_
      | refine nm_e ?_
  · have d1 : 0 ≤ h := c1
    have d2 : h + 1 ≤ 8 := c2
    have q : ¬ nI h < 0 := nI_nlt (b := 0) (by omega) (by omega)
    have q' : 0 ≤ nI h := nI_le (a := 0) (by omega) (by omega)
    have r : ¬ nI h = 8 := fun z => by
      have z' := (nI_eq (a := h) (b := 8) (by omega) (by decide)).mp z
      omega
    repeat first
      | exact H
      | refine br_t (by first | assumption | decide) ?_
      | refine br_f (by first | assumption | decide) ?_
      | refine And.intro rfl ?_
      | refine nm_e ?_
  · have d1 : 1 ≤ h := c1
    have d2 : h + 0 ≤ 8 := c2
    have q : ¬ nI h < 1 := nI_nlt (b := 1) (by omega) (by omega)
    have q' : 1 ≤ nI h := nI_le (a := 1) (by omega) (by omega)
    repeat first
      | exact H
      | refine br_t (by first | assumption | decide) ?_
      | refine br_f (by first | assumption | decide) ?_
      | refine And.intro rfl ?_
      | refine nm_e ?_
  · have d1 : 0 ≤ h := c1
    have d2 : h + 0 ≤ 8 := c2
    have q : ¬ nI h < 0 := nI_nlt (b := 0) (by omega) (by omega)
    have q' : 0 ≤ nI h := nI_le (a := 0) (by omega) (by omega)
    repeat first
      | exact H
      | refine br_t (by first | assumption | decide) ?_
      | refine br_f (by first | assumption | decide) ?_
      | refine And.intro rfl ?_
      | refine nm_e ?_
  · have d1 : 1 ≤ h := c1
    have d2 : h + 0 ≤ 8 := c2
    have q : ¬ nI h < 1 := nI_nlt (b := 1) (by omega) (by omega)
    have q' : 1 ≤ nI h := nI_le (a := 1) (by omega) (by omega)
    repeat first
      | exact H
      | refine br_t (by first | assumption | decide) ?_
      | refine br_f (by first | assumption | decide) ?_
      | refine And.intro rfl ?_
      | refine nm_e ?_
  · have d1 : 1 ≤ h := c1
    have d2 : h + 0 ≤ 8 := c2
    have q : ¬ nI h < 1 := nI_nlt (b := 1) (by omega) (by omega)
    have q' : 1 ≤ nI h := nI_le (a := 1) (by omega) (by omega)
    repeat first
      | exact H
      | refine br_t (by first | assumption | decide) ?_
      | refine br_f (by first | assumption | decide) ?_
      | refine And.intro rfl ?_
      | refine nm_e ?_
  · have d1 : 0 ≤ h := c1
    have d2 : h + 1 ≤ 8 := c2
    have q : ¬ nI h < 0 := nI_nlt (b := 0) (by omega) (by omega)
    have q' : 0 ≤ nI h := nI_le (a := 0) (by omega) (by omega)
    have r : ¬ nI h = 8 := fun z => by
      have z' := (nI_eq (a := h) (b := 8) (by omega) (by decide)).mp z
      omega
    repeat first
      | exact H
      | refine br_t (by first | assumption | decide) ?_
      | refine br_f (by first | assumption | decide) ?_
      | refine And.intro rfl ?_
      | refine nm_e ?_
  · have d1 : 0 ≤ h := c1
    have d2 : h + 0 ≤ 8 := c2
    have q : ¬ nI h < 0 := nI_nlt (b := 0) (by omega) (by omega)
    have q' : 0 ≤ nI h := nI_le (a := 0) (by omega) (by omega)
    repeat first
      | exact H
      | refine br_t (by first | assumption | decide) ?_
      | refine br_f (by first | assumption | decide) ?_
      | refine And.intro rfl ?_
      | refine nm_e ?_
theorem gy_price {k : Nat} (hk : k < 15) (hh : h ≤ 8) (h1 : gm_need k ≤ h) {post : Int32 → Prop} (H : post (nI (gm_price k (st (h - 1))))) : wpY_price post (nI N, nI h, nI g, en, pl, nI s, sp, fun j => nI (kk j), nn, v, st, kv, kp) (nI k) := by
  rcases gm_cases hk with rfl | rfl | rfl | rfl | rfl | rfl | rfl | rfl | rfl | rfl | rfl | rfl | rfl | rfl | rfl
  ·
    repeat first
      | exact H
      | refine br_t (by first | assumption | decide) ?_
      | refine br_f (by first | assumption | decide) ?_
      | refine And.intro rfl ?_
      | refine nm_e ?_
  ·
    repeat first
      | exact H
      | refine br_t (by first | assumption | decide) ?_
      | refine br_f (by first | assumption | decide) ?_
      | refine And.intro rfl ?_
      | refine nm_e ?_
  ·
    repeat first
      | exact H
      | refine br_t (by first | assumption | decide) ?_
      | refine br_f (by first | assumption | decide) ?_
      | refine And.intro rfl ?_
      | refine nm_e ?_
  ·
    repeat first
      | exact H
      | refine br_t (by first | assumption | decide) ?_
      | refine br_f (by first | assumption | decide) ?_
      | refine And.intro rfl ?_
      | refine nm_e ?_
  ·
    repeat first
      | exact H
      | refine br_t (by first | assumption | decide) ?_
      | refine br_f (by first | assumption | decide) ?_
      | refine And.intro rfl ?_
      | refine nm_e ?_
  ·
    repeat first
      | exact H
      | refine br_t (by first | assumption | decide) ?_
      | refine br_f (by first | assumption | decide) ?_
      | refine And.intro rfl ?_
      | refine nm_e ?_
  ·
    repeat first
      | exact H
      | refine br_t (by first | assumption | decide) ?_
      | refine br_f (by first | assumption | decide) ?_
      | refine And.intro rfl ?_
      | refine nm_e ?_
  ·
    repeat first
      | exact H
      | refine br_t (by first | assumption | decide) ?_
      | refine br_f (by first | assumption | decide) ?_
      | refine And.intro rfl ?_
      | refine nm_e ?_
  ·
    repeat first
      | exact H
      | refine br_t (by first | assumption | decide) ?_
      | refine br_f (by first | assumption | decide) ?_
      | refine And.intro rfl ?_
      | refine nm_e ?_
  ·
    repeat first
      | exact H
      | refine br_t (by first | assumption | decide) ?_
      | refine br_f (by first | assumption | decide) ?_
      | refine And.intro rfl ?_
      | refine nm_e ?_
  ·
    repeat first
      | exact H
      | refine br_t (by first | assumption | decide) ?_
      | refine br_f (by first | assumption | decide) ?_
      | refine And.intro rfl ?_
      | refine nm_e ?_
  ·
    repeat first
      | exact H
      | refine br_t (by first | assumption | decide) ?_
      | refine br_f (by first | assumption | decide) ?_
      | refine And.intro rfl ?_
      | refine nm_e ?_
  · obtain ⟨m, rfl⟩ : ∃ m, h = m + 1 := ⟨h - 1, by have : 1 ≤ h := h1; omega⟩
    have e : (nI m).toNatClampNeg = m := nI_clamp (by omega)
    have H' : post (nI (1 + gm_low (st m))) := H
    rw [← nI_add, ← gm_and] at H'
    unfold wpY_price
    dsimp only
    rw [nI_pred m]
    refine br_t (by decide) (And.intro (vp_in_nI (by omega) (by decide)) ?_)
    rw [e]
    exact H'
  ·
    repeat first
      | exact H
      | refine br_t (by first | assumption | decide) ?_
      | refine br_f (by first | assumption | decide) ?_
      | refine And.intro rfl ?_
      | refine nm_e ?_
  ·
    repeat first
      | exact H
      | refine br_t (by first | assumption | decide) ?_
      | refine br_f (by first | assumption | decide) ?_
      | refine And.intro rfl ?_
      | refine nm_e ?_
theorem gy_endAt (hf : ∀ j, gm_fit (kk j) (nn j)) (hN : N ≤ 20) (o2 : s ≤ 300) (o3 : h ≤ 8) (o4 : g ≤ 1000000) (o1 : p ≤ 20) {post : Int32 → Prop} (H : post (nI (gm_end kk N p s h g st))) : wpY_endAt post (nI N, nI h, nI g, en, pl, nI s, sp, fun j => nI (kk j), nn, v, st, kv, kp) (nI p) := by
  have e : (nI p).toNatClampNeg = p := nI_clamp (by omega)
  refine pk_lt p N (fun c1 => ?_) (fun c1 => ?_)
  rotate_left
  · rw [gm_e1 c1] at H
    exact H
  refine pk_eq s 300 (fun c2 => ?_) (fun c2 => ?_)
  · rw [gm_e2 c1 c2] at H
    exact H
  refine And.intro (vp_in_nI (by omega) (by decide)) ?_
  rw [e]
  by_cases c3 : h < gm_need (kk p) ∨ 8 < h + gm_grow (kk p)
  · rw [gm_e3 c1 c2 c3] at H
    refine gy_traps_t (hf p).1 o3 c3 ?_
    repeat first
      | exact H
      | refine br_t (by first | assumption | decide) ?_
      | refine br_f (by first | assumption | decide) ?_
      | refine And.intro rfl ?_
      | refine nm_e ?_
  refine gy_traps_f (hf p).1 (by omega) (by omega) ?_
  refine br_t rfl ?_
  refine And.intro (vp_in_nI (by omega) (by decide)) ?_
  try rw [e]
  refine gy_price (hf p).1 o3 (by omega) ?_
  have hp := gm_price_le (st (h - 1)) (hf p).1
  refine pk_le (gm_price (kk p) (st (h - 1))) g (fun c5 => ?_) (fun c5 => ?_)
  · rw [gm_e0 c1 c2 (by omega) (by omega) c5] at H
    repeat first
      | exact H
      | refine br_t (by first | assumption | decide) ?_
      | refine br_f (by first | assumption | decide) ?_
      | refine And.intro rfl ?_
      | refine nm_e ?_
  · rw [gm_e4 c1 c2 (by omega) (by omega) c5] at H
    repeat first
      | exact H
      | refine br_t (by first | assumption | decide) ?_
      | refine br_f (by first | assumption | decide) ?_
      | refine And.intro rfl ?_
      | refine nm_e ?_
theorem gy_work {k : Nat} (ek : kk p = k) (ea : nn p = a) (hf : gm_fit k a) (h14 : k ≠ 14) (hp : p < 20) (h1 : gm_need k ≤ h) (h2 : h + gm_grow k ≤ 8) {post : Int32 → SY → Prop} (H : post (nI (gm_work a p s h g v st k).1) (nI N, nI (gm_work a p s h g v st k).2.2.1, nI (gm_work a p s h g v st k).2.2.2.1, en, pl, nI (gm_work a p s h g v st k).2.1, sp, fun j => nI (kk j), nn, (gm_work a p s h g v st k).2.2.2.2.1, (gm_work a p s h g v st k).2.2.2.2.2, kv, kp)) : wpY_work post (nI N, nI h, nI g, en, pl, nI s, sp, fun j => nI (kk j), nn, v, st, kv, kp) (nI p) := by
  have e : (fun j => nI (kk j)) (nI p).toNatClampNeg = nI k := by rw [nI_clamp (by omega)]; exact congrArg nI ek
  have e' : nn (nI p).toNatClampNeg = a := by rw [nI_clamp (by omega)]; exact ea
  refine And.intro (vp_in_nI hp (by decide)) (nm_r e (And.intro (vp_in_nI hp (by decide)) (nm_r e' ?_)))
  clear e e' ek ea
  obtain ⟨hk, h8, h10⟩ := hf
  rcases gm_cases hk with rfl | rfl | rfl | rfl | rfl | rfl | rfl | rfl | rfl | rfl | rfl | rfl | rfl | rfl | rfl
  · have d1 : 0 ≤ h := h1
    have d2 : h + 1 ≤ 8 := h2
    have H' : post (nI p + 1) (nI N, nI (h + 1), nI g, en, pl, nI s, sp, fun j => nI (kk j), nn, v, upd st h a, kv, kp) := by rw [nI_1]; exact H
    repeat first
      | exact H'
      | refine gy_pop (by omega) ?_
      | refine gy_push (by omega) ?_
      | refine br_t (by first | assumption | decide) ?_
      | refine br_f (by first | assumption | decide) ?_
      | refine And.intro rfl ?_
      | refine nm_e ?_
  · have d1 : 2 ≤ h := h1
    have d2 : h + 0 ≤ 8 := h2
    obtain ⟨m, rfl⟩ : ∃ m, h = m + 2 := ⟨h - 2, by omega⟩
    have H' : post (nI p + 1) (nI N, nI (m + 1), nI g, en, pl, nI s, sp, fun j => nI (kk j), nn, v, upd st m (st m + st (m + 1)), kv, kp) := by rw [nI_1]; exact H
    repeat first
      | exact H'
      | refine gy_op1 (by omega) ?_
      | refine gy_pop (by omega) ?_
      | refine gy_push (by omega) ?_
      | refine br_t (by first | assumption | decide) ?_
      | refine br_f (by first | assumption | decide) ?_
      | refine And.intro rfl ?_
      | refine nm_e ?_
  · have d1 : 2 ≤ h := h1
    have d2 : h + 0 ≤ 8 := h2
    obtain ⟨m, rfl⟩ : ∃ m, h = m + 2 := ⟨h - 2, by omega⟩
    have H' : post (nI p + 1) (nI N, nI (m + 1), nI g, en, pl, nI s, sp, fun j => nI (kk j), nn, v, upd st m (st m - st (m + 1)), kv, kp) := by rw [nI_1]; exact H
    repeat first
      | exact H'
      | refine gy_op2 (by omega) ?_
      | refine gy_pop (by omega) ?_
      | refine gy_push (by omega) ?_
      | refine br_t (by first | assumption | decide) ?_
      | refine br_f (by first | assumption | decide) ?_
      | refine And.intro rfl ?_
      | refine nm_e ?_
  · have d1 : 2 ≤ h := h1
    have d2 : h + 0 ≤ 8 := h2
    obtain ⟨m, rfl⟩ : ∃ m, h = m + 2 := ⟨h - 2, by omega⟩
    have H' : post (nI p + 1) (nI N, nI (m + 1), nI g, en, pl, nI s, sp, fun j => nI (kk j), nn, v, upd st m (st m * st (m + 1)), kv, kp) := by rw [nI_1]; exact H
    repeat first
      | exact H'
      | refine gy_op3 (by omega) ?_
      | refine gy_pop (by omega) ?_
      | refine gy_push (by omega) ?_
      | refine br_t (by first | assumption | decide) ?_
      | refine br_f (by first | assumption | decide) ?_
      | refine And.intro rfl ?_
      | refine nm_e ?_
  · have d1 : 2 ≤ h := h1
    have d2 : h + 0 ≤ 8 := h2
    obtain ⟨m, rfl⟩ : ∃ m, h = m + 2 := ⟨h - 2, by omega⟩
    have H' : post (nI p + 1) (nI N, nI (m + 1), nI g, en, pl, nI s, sp, fun j => nI (kk j), nn, v, upd st m (if st m < st (m + 1) then 1 else 0), kv, kp) := by rw [nI_1]; exact H
    repeat first
      | exact H'
      | refine gy_op4 (by omega) ?_
      | refine gy_pop (by omega) ?_
      | refine gy_push (by omega) ?_
      | refine br_t (by first | assumption | decide) ?_
      | refine br_f (by first | assumption | decide) ?_
      | refine And.intro rfl ?_
      | refine nm_e ?_
  · have d1 : 1 ≤ h := h1
    have d2 : h + 1 ≤ 8 := h2
    obtain ⟨m, rfl⟩ : ∃ m, h = m + 1 := ⟨h - 1, by omega⟩
    have H' : post (nI p + 1) (nI N, nI (m + 2), nI g, en, pl, nI s, sp, fun j => nI (kk j), nn, v, upd st (m + 1) (st m), kv, kp) := by rw [nI_1]; exact H
    have em : (nI m).toNatClampNeg = m := nI_clamp (by omega)
    have vm : vp_in (nI m) 8 := vp_in_nI (by omega) (by decide)
    repeat first
      | refine br_t (by decide) ?_
      | refine br_f (by decide) ?_
    rw [nI_pred m]
    refine And.intro vm ?_
    rw [em]
    repeat first
      | exact H'
      | refine gy_pop (by omega) ?_
      | refine gy_push (by omega) ?_
      | refine br_t (by first | assumption | decide) ?_
      | refine br_f (by first | assumption | decide) ?_
      | refine And.intro rfl ?_
      | refine nm_e ?_
  · have d1 : 2 ≤ h := h1
    have d2 : h + 0 ≤ 8 := h2
    obtain ⟨m, rfl⟩ : ∃ m, h = m + 2 := ⟨h - 2, by omega⟩
    have H' : post (nI p + 1) (nI N, nI (m + 2), nI g, en, pl, nI s, sp, fun j => nI (kk j), nn, v, upd (upd st m (st (m + 1))) (m + 1) (st m), kv, kp) := by rw [nI_1]; exact H
    repeat first
      | exact H'
      | refine gy_op6 (by omega) ?_
      | refine gy_pop (by omega) ?_
      | refine gy_push (by omega) ?_
      | refine br_t (by first | assumption | decide) ?_
      | refine br_f (by first | assumption | decide) ?_
      | refine And.intro rfl ?_
      | refine nm_e ?_
  · have d1 : 1 ≤ h := h1
    have d2 : h + 0 ≤ 8 := h2
    obtain ⟨m, rfl⟩ : ∃ m, h = m + 1 := ⟨h - 1, by omega⟩
    have H' : post (nI p + 1) (nI N, nI m, nI g, en, pl, nI s, sp, fun j => nI (kk j), nn, v, st, kv, kp) := by rw [nI_1]; exact H
    repeat first
      | exact H'
      | refine gy_pop (by omega) ?_
      | refine gy_push (by omega) ?_
      | refine br_t (by first | assumption | decide) ?_
      | refine br_f (by first | assumption | decide) ?_
      | refine And.intro rfl ?_
      | refine nm_e ?_
  · have d1 : 0 ≤ h := h1
    have d2 : h + 1 ≤ 8 := h2
    obtain ⟨j, hj, rfl⟩ := h8 (by decide)
    have vj : vp_in (nI j) 4 := vp_in_nI hj (by decide)
    have H' : post (nI p + 1) (nI N, nI (h + 1), nI g, en, pl, nI s, sp, fun j => nI (kk j), nn, v, upd st h (v (nI j).toNatClampNeg), kv, kp) := by rw [nI_1]; exact H
    repeat first
      | exact H'
      | refine gy_pop (by omega) ?_
      | refine gy_push (by omega) ?_
      | refine And.intro vj ?_
      | refine br_t (by first | assumption | decide) ?_
      | refine br_f (by first | assumption | decide) ?_
      | refine And.intro rfl ?_
      | refine nm_e ?_
  · have d1 : 1 ≤ h := h1
    have d2 : h + 0 ≤ 8 := h2
    obtain ⟨m, rfl⟩ : ∃ m, h = m + 1 := ⟨h - 1, by omega⟩
    obtain ⟨j, hj, rfl⟩ := h8 (by decide)
    have vj : vp_in (nI j) 4 := vp_in_nI hj (by decide)
    have H' : post (nI p + 1) (nI N, nI m, nI g, en, pl, nI s, sp, fun j => nI (kk j), nn, upd v (nI j).toNatClampNeg (st m), st, kv, kp) := by rw [nI_1]; exact H
    repeat first
      | exact H'
      | refine gy_pop (by omega) ?_
      | refine gy_push (by omega) ?_
      | refine And.intro vj ?_
      | refine br_t (by first | assumption | decide) ?_
      | refine br_f (by first | assumption | decide) ?_
      | refine And.intro rfl ?_
      | refine nm_e ?_
  · have d1 : 0 ≤ h := h1
    have d2 : h + 0 ≤ 8 := h2
    obtain ⟨j, hj, rfl⟩ := h10 (by decide)
    have ej : (nI j).toNatClampNeg = j := nI_clamp (by omega)
    have H' : post (nI (nI j).toNatClampNeg) (nI N, nI h, nI g, en, pl, nI s, sp, fun j => nI (kk j), nn, v, st, kv, kp) := H
    rw [ej] at H'
    repeat first
      | exact H'
      | refine br_t (by first | assumption | decide) ?_
      | refine br_f (by first | assumption | decide) ?_
      | refine And.intro rfl ?_
      | refine nm_e ?_
  · have d1 : 1 ≤ h := h1
    have d2 : h + 0 ≤ 8 := h2
    obtain ⟨m, rfl⟩ : ∃ m, h = m + 1 := ⟨h - 1, by omega⟩
    obtain ⟨j, hj, rfl⟩ := h10 (by decide)
    have ej : (nI j).toNatClampNeg = j := nI_clamp (by omega)
    have H' : post (nI (if st m = 0 then p + 1 else (nI j).toNatClampNeg)) (nI N, nI m, nI g, en, pl, nI s, sp, fun j => nI (kk j), nn, v, st, kv, kp) := H
    rw [ej] at H'
    by_cases c : st m = 0
    · rw [if_pos c, ← nI_1] at H'
      repeat first
        | exact H'
        | refine gy_pop (by omega) ?_
        | refine gy_push (by omega) ?_
        | refine br_t (by first | assumption | decide) ?_
        | refine br_f (by first | assumption | decide) ?_
        | refine And.intro rfl ?_
        | refine nm_e ?_
    · rw [if_neg c] at H'
      repeat first
        | exact H'
        | refine gy_pop (by omega) ?_
        | refine gy_push (by omega) ?_
        | refine br_t (by first | assumption | decide) ?_
        | refine br_f (by first | assumption | decide) ?_
        | refine And.intro rfl ?_
        | refine nm_e ?_
  · have d1 : 1 ≤ h := h1
    have d2 : h + 0 ≤ 8 := h2
    obtain ⟨m, rfl⟩ : ∃ m, h = m + 1 := ⟨h - 1, by omega⟩
    have H' : post (nI p + 1) (nI N, nI m, nI g, en, pl, nI s, sp, fun j => nI (kk j), nn, v, st, kv, kp) := by rw [nI_1]; exact H
    repeat first
      | exact H'
      | refine gy_pop (by omega) ?_
      | refine gy_push (by omega) ?_
      | refine br_t (by first | assumption | decide) ?_
      | refine br_f (by first | assumption | decide) ?_
      | refine And.intro rfl ?_
      | refine nm_e ?_
  · have d1 : 0 ≤ h := h1
    have d2 : h + 1 ≤ 8 := h2
    have H' : post (nI p + 1) (nI N, nI (h + 1), nI g, en, pl, nI s, sp, fun j => nI (kk j), nn, v, upd st h (nI g), kv, kp) := by rw [nI_1]; exact H
    repeat first
      | exact H'
      | refine gy_pop (by omega) ?_
      | refine gy_push (by omega) ?_
      | refine br_t (by first | assumption | decide) ?_
      | refine br_f (by first | assumption | decide) ?_
      | refine And.intro rfl ?_
      | refine nm_e ?_
  · have d1 : 0 ≤ h := h1
    have d2 : h + 0 ≤ 8 := h2
    exact absurd rfl h14
theorem gy_ins {z1 z2 z3 z4 z5 z6 z7 : Int32} {w1 w2 w3 w4 w5 w6 : Nat → Int32} {k : Nat} {a : Int32} (hk : k < 15) {post : Int32 → Prop} (Ht : gm_good k a → post 1) (Hf : ¬ gm_good k a → post 0) : wpY_isFit post (z1, z2, z3, z4, z5, z6, z7, w1, w2, w3, w4, w5, w6) (nI k) a := by
  rcases gm_cases hk with rfl | rfl | rfl | rfl | rfl | rfl | rfl | rfl | rfl | rfl | rfl | rfl | rfl | rfl | rfl
  · by_cases c1 : a < -100
    · have H := Hf (fun g => (g.1 rfl).1 c1)
      have d1 : ¬ -100 ≤ a := Int32.not_le.mpr c1
      repeat first
        | exact H
        | refine br_t (by first | assumption | decide) ?_
        | refine br_f (by first | assumption | decide) ?_
        | refine And.intro rfl ?_
        | refine nm_e ?_
    · have d1 : -100 ≤ a := Int32.not_lt.mp c1
      by_cases c2 : 100 < a
      · have H := Hf (fun g => (g.1 rfl).2 c2)
        have d2 : ¬ a ≤ 100 := Int32.not_le.mpr c2
        repeat first
          | exact H
          | refine br_t (by first | assumption | decide) ?_
          | refine br_f (by first | assumption | decide) ?_
          | refine And.intro rfl ?_
          | refine nm_e ?_
      · have H := Ht ⟨fun _ => ⟨c1, c2⟩, fun h => absurd h (by decide), fun h => absurd h (by decide)⟩
        have d2 : a ≤ 100 := Int32.not_lt.mp c2
        repeat first
          | exact H
          | refine br_t (by first | assumption | decide) ?_
          | refine br_f (by first | assumption | decide) ?_
          | refine And.intro rfl ?_
          | refine nm_e ?_
  · have H := Ht ⟨fun h => absurd h (by decide), fun h => absurd h (by decide), fun h => absurd h (by decide)⟩
    repeat first
      | exact H
      | refine br_t (by first | assumption | decide) ?_
      | refine br_f (by first | assumption | decide) ?_
      | refine And.intro rfl ?_
      | refine nm_e ?_
  · have H := Ht ⟨fun h => absurd h (by decide), fun h => absurd h (by decide), fun h => absurd h (by decide)⟩
    repeat first
      | exact H
      | refine br_t (by first | assumption | decide) ?_
      | refine br_f (by first | assumption | decide) ?_
      | refine And.intro rfl ?_
      | refine nm_e ?_
  · have H := Ht ⟨fun h => absurd h (by decide), fun h => absurd h (by decide), fun h => absurd h (by decide)⟩
    repeat first
      | exact H
      | refine br_t (by first | assumption | decide) ?_
      | refine br_f (by first | assumption | decide) ?_
      | refine And.intro rfl ?_
      | refine nm_e ?_
  · have H := Ht ⟨fun h => absurd h (by decide), fun h => absurd h (by decide), fun h => absurd h (by decide)⟩
    repeat first
      | exact H
      | refine br_t (by first | assumption | decide) ?_
      | refine br_f (by first | assumption | decide) ?_
      | refine And.intro rfl ?_
      | refine nm_e ?_
  · have H := Ht ⟨fun h => absurd h (by decide), fun h => absurd h (by decide), fun h => absurd h (by decide)⟩
    repeat first
      | exact H
      | refine br_t (by first | assumption | decide) ?_
      | refine br_f (by first | assumption | decide) ?_
      | refine And.intro rfl ?_
      | refine nm_e ?_
  · have H := Ht ⟨fun h => absurd h (by decide), fun h => absurd h (by decide), fun h => absurd h (by decide)⟩
    repeat first
      | exact H
      | refine br_t (by first | assumption | decide) ?_
      | refine br_f (by first | assumption | decide) ?_
      | refine And.intro rfl ?_
      | refine nm_e ?_
  · have H := Ht ⟨fun h => absurd h (by decide), fun h => absurd h (by decide), fun h => absurd h (by decide)⟩
    repeat first
      | exact H
      | refine br_t (by first | assumption | decide) ?_
      | refine br_f (by first | assumption | decide) ?_
      | refine And.intro rfl ?_
      | refine nm_e ?_
  ·
    rcases pk_ix a (n := 4) (by decide) with c | c | ⟨m, hm, rfl⟩
    · have H := Hf (fun g => gm_nvar (n := 4) (by decide) (Or.inl c) (g.2.1 (by decide)))
      have d1 : ¬ 0 ≤ a := Int32.not_le.mpr c
      repeat first
        | exact H
        | refine br_t (by first | assumption | decide) ?_
        | refine br_f (by first | assumption | decide) ?_
        | refine And.intro rfl ?_
        | refine nm_e ?_
    · have H := Hf (fun g => gm_nvar (n := 4) (by decide) (Or.inr c) (g.2.1 (by decide)))
      have d1 : 4 ≤ a := c
      have d0 : ¬ a < 4 := Int32.not_lt.mpr c
      have d2 : 3 < a := Int32.lt_of_lt_of_le (by decide) d1
      have d3 : ¬ a ≤ 3 := Int32.not_le.mpr d2
      have d4 : ¬ a < 0 := fun z => Int32.lt_irrefl (Int32.lt_trans z (Int32.lt_of_lt_of_le (by decide) d1))
      have d5 : 0 ≤ a := Int32.not_lt.mp d4
      repeat first
        | exact H
        | refine br_t (by first | assumption | decide) ?_
        | refine br_f (by first | assumption | decide) ?_
        | refine And.intro rfl ?_
        | refine nm_e ?_
    · have H := Ht (by refine ⟨?_, ?_, ?_⟩ <;> first | exact fun h => absurd h (by decide) | exact fun _ => ⟨m, hm, rfl⟩)
      have d1 : ¬ nI m < 0 := nI_pos (by omega)
      have d5 : 0 ≤ nI m := nI_pos' (by omega)
      have d2 : ¬ 4 ≤ nI m := nI_ge (b := 4) hm (by decide)
      have d3 : ¬ 3 < nI m := nI_nlt (a := 3) (b := m) (by omega) (by decide)
      have d4 : nI m ≤ 3 := nI_le (b := 3) (by omega) (by decide)
      repeat first
        | exact H
        | refine br_t (by first | assumption | decide) ?_
        | refine br_f (by first | assumption | decide) ?_
        | refine And.intro rfl ?_
        | refine nm_e ?_
  ·
    rcases pk_ix a (n := 4) (by decide) with c | c | ⟨m, hm, rfl⟩
    · have H := Hf (fun g => gm_nvar (n := 4) (by decide) (Or.inl c) (g.2.1 (by decide)))
      have d1 : ¬ 0 ≤ a := Int32.not_le.mpr c
      repeat first
        | exact H
        | refine br_t (by first | assumption | decide) ?_
        | refine br_f (by first | assumption | decide) ?_
        | refine And.intro rfl ?_
        | refine nm_e ?_
    · have H := Hf (fun g => gm_nvar (n := 4) (by decide) (Or.inr c) (g.2.1 (by decide)))
      have d1 : 4 ≤ a := c
      have d0 : ¬ a < 4 := Int32.not_lt.mpr c
      have d2 : 3 < a := Int32.lt_of_lt_of_le (by decide) d1
      have d3 : ¬ a ≤ 3 := Int32.not_le.mpr d2
      have d4 : ¬ a < 0 := fun z => Int32.lt_irrefl (Int32.lt_trans z (Int32.lt_of_lt_of_le (by decide) d1))
      have d5 : 0 ≤ a := Int32.not_lt.mp d4
      repeat first
        | exact H
        | refine br_t (by first | assumption | decide) ?_
        | refine br_f (by first | assumption | decide) ?_
        | refine And.intro rfl ?_
        | refine nm_e ?_
    · have H := Ht (by refine ⟨?_, ?_, ?_⟩ <;> first | exact fun h => absurd h (by decide) | exact fun _ => ⟨m, hm, rfl⟩)
      have d1 : ¬ nI m < 0 := nI_pos (by omega)
      have d5 : 0 ≤ nI m := nI_pos' (by omega)
      have d2 : ¬ 4 ≤ nI m := nI_ge (b := 4) hm (by decide)
      have d3 : ¬ 3 < nI m := nI_nlt (a := 3) (b := m) (by omega) (by decide)
      have d4 : nI m ≤ 3 := nI_le (b := 3) (by omega) (by decide)
      repeat first
        | exact H
        | refine br_t (by first | assumption | decide) ?_
        | refine br_f (by first | assumption | decide) ?_
        | refine And.intro rfl ?_
        | refine nm_e ?_
  ·
    rcases pk_ix a (n := 21) (by decide) with c | c | ⟨m, hm, rfl⟩
    · have H := Hf (fun g => gm_nvar (n := 21) (by decide) (Or.inl c) (g.2.2 (by decide)))
      have d1 : ¬ 0 ≤ a := Int32.not_le.mpr c
      repeat first
        | exact H
        | refine br_t (by first | assumption | decide) ?_
        | refine br_f (by first | assumption | decide) ?_
        | refine And.intro rfl ?_
        | refine nm_e ?_
    · have H := Hf (fun g => gm_nvar (n := 21) (by decide) (Or.inr c) (g.2.2 (by decide)))
      have d1 : 21 ≤ a := c
      have d0 : ¬ a < 21 := Int32.not_lt.mpr c
      have d2 : 20 < a := Int32.lt_of_lt_of_le (by decide) d1
      have d3 : ¬ a ≤ 20 := Int32.not_le.mpr d2
      have d4 : ¬ a < 0 := fun z => Int32.lt_irrefl (Int32.lt_trans z (Int32.lt_of_lt_of_le (by decide) d1))
      have d5 : 0 ≤ a := Int32.not_lt.mp d4
      repeat first
        | exact H
        | refine br_t (by first | assumption | decide) ?_
        | refine br_f (by first | assumption | decide) ?_
        | refine And.intro rfl ?_
        | refine nm_e ?_
    · have H := Ht (by refine ⟨?_, ?_, ?_⟩ <;> first | exact fun h => absurd h (by decide) | exact fun _ => ⟨m, hm, rfl⟩)
      have d1 : ¬ nI m < 0 := nI_pos (by omega)
      have d5 : 0 ≤ nI m := nI_pos' (by omega)
      have d2 : ¬ 21 ≤ nI m := nI_ge (b := 21) hm (by decide)
      have d3 : ¬ 20 < nI m := nI_nlt (a := 20) (b := m) (by omega) (by decide)
      have d4 : nI m ≤ 20 := nI_le (b := 20) (by omega) (by decide)
      repeat first
        | exact H
        | refine br_t (by first | assumption | decide) ?_
        | refine br_f (by first | assumption | decide) ?_
        | refine And.intro rfl ?_
        | refine nm_e ?_
  ·
    rcases pk_ix a (n := 21) (by decide) with c | c | ⟨m, hm, rfl⟩
    · have H := Hf (fun g => gm_nvar (n := 21) (by decide) (Or.inl c) (g.2.2 (by decide)))
      have d1 : ¬ 0 ≤ a := Int32.not_le.mpr c
      repeat first
        | exact H
        | refine br_t (by first | assumption | decide) ?_
        | refine br_f (by first | assumption | decide) ?_
        | refine And.intro rfl ?_
        | refine nm_e ?_
    · have H := Hf (fun g => gm_nvar (n := 21) (by decide) (Or.inr c) (g.2.2 (by decide)))
      have d1 : 21 ≤ a := c
      have d0 : ¬ a < 21 := Int32.not_lt.mpr c
      have d2 : 20 < a := Int32.lt_of_lt_of_le (by decide) d1
      have d3 : ¬ a ≤ 20 := Int32.not_le.mpr d2
      have d4 : ¬ a < 0 := fun z => Int32.lt_irrefl (Int32.lt_trans z (Int32.lt_of_lt_of_le (by decide) d1))
      have d5 : 0 ≤ a := Int32.not_lt.mp d4
      repeat first
        | exact H
        | refine br_t (by first | assumption | decide) ?_
        | refine br_f (by first | assumption | decide) ?_
        | refine And.intro rfl ?_
        | refine nm_e ?_
    · have H := Ht (by refine ⟨?_, ?_, ?_⟩ <;> first | exact fun h => absurd h (by decide) | exact fun _ => ⟨m, hm, rfl⟩)
      have d1 : ¬ nI m < 0 := nI_pos (by omega)
      have d5 : 0 ≤ nI m := nI_pos' (by omega)
      have d2 : ¬ 21 ≤ nI m := nI_ge (b := 21) hm (by decide)
      have d3 : ¬ 20 < nI m := nI_nlt (a := 20) (b := m) (by omega) (by decide)
      have d4 : nI m ≤ 20 := nI_le (b := 20) (by omega) (by decide)
      repeat first
        | exact H
        | refine br_t (by first | assumption | decide) ?_
        | refine br_f (by first | assumption | decide) ?_
        | refine And.intro rfl ?_
        | refine nm_e ?_
  · have H := Ht ⟨fun h => absurd h (by decide), fun h => absurd h (by decide), fun h => absurd h (by decide)⟩
    repeat first
      | exact H
      | refine br_t (by first | assumption | decide) ?_
      | refine br_f (by first | assumption | decide) ?_
      | refine And.intro rfl ?_
      | refine nm_e ?_
  · have H := Ht ⟨fun h => absurd h (by decide), fun h => absurd h (by decide), fun h => absurd h (by decide)⟩
    repeat first
      | exact H
      | refine br_t (by first | assumption | decide) ?_
      | refine br_f (by first | assumption | decide) ?_
      | refine And.intro rfl ?_
      | refine nm_e ?_
  · have H := Ht ⟨fun h => absurd h (by decide), fun h => absurd h (by decide), fun h => absurd h (by decide)⟩
    repeat first
      | exact H
      | refine br_t (by first | assumption | decide) ?_
      | refine br_f (by first | assumption | decide) ?_
      | refine And.intro rfl ?_
      | refine nm_e ?_
theorem gy_ins_o {z1 z2 z3 z4 z5 z6 z7 : Int32} {w1 w2 w3 w4 w5 w6 : Nat → Int32} {op a : Int32} (ho : op < 0 ∨ nI 15 ≤ op) {post : Int32 → Prop} (H : post 0) : wpY_isFit post (z1, z2, z3, z4, z5, z6, z7, w1, w2, w3, w4, w5, w6) op a := by
  by_cases c : op < 0
  · have d1 : ¬ 0 ≤ op := Int32.not_le.mpr c
    repeat first
      | exact H
      | refine br_t (by first | assumption | decide) ?_
      | refine br_f (by first | assumption | decide) ?_
      | refine And.intro rfl ?_
      | refine nm_e ?_
  · have d1 : (15 : Int32) ≤ op := ho.resolve_left c
    have d2 : (14 : Int32) < op := Int32.lt_of_lt_of_le (by decide) d1
    have d3 : (11 : Int32) < op := Int32.lt_of_lt_of_le (by decide) d1
    have d4 : 0 ≤ op := Int32.not_lt.mp c
    have d5 : ¬ op ≤ 14 := Int32.not_le.mpr d2
    repeat first
      | exact H
      | refine br_t (by first | assumption | decide) ?_
      | refine br_f (by first | assumption | decide) ?_
      | refine And.intro rfl ?_
      | refine nm_e ?_
end
