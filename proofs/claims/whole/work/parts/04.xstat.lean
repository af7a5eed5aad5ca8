section
theorem gx_needed {k : Nat} (hk : k < 15) {post : Int32 → Prop} (H : post (nI (gm_need k))) : wpX_needed post (nI k) := by
  rcases gm_cases hk with rfl | rfl | rfl | rfl | rfl | rfl | rfl | rfl | rfl | rfl | rfl | rfl | rfl | rfl | rfl
  ·
    repeat first
      | exact H
      | refine br_t (by first | assumption | decide) ?_
      | refine br_f (by first | assumption | decide) ?_
      | refine And.intro rfl ?_
      | refine nm_e ?_
  ·
    repeat first
      | exact H
      | refine br_t (by first | assumption | decide) ?_
      | refine br_f (by first | assumption | decide) ?_
      | refine And.intro rfl ?_
      | refine nm_e ?_
  ·
    repeat first
      | exact H
      | refine br_t (by first | assumption | decide) ?_
      | refine br_f (by first | assumption | decide) ?_
      | refine And.intro rfl ?_
      | refine nm_e ?_
  ·
    repeat first
      | exact H
      | refine br_t (by first | assumption | decide) ?_
      | refine br_f (by first | assumption | decide) ?_
      | refine And.intro rfl ?_
      | refine nm_e ?_
  ·
    repeat first
      | exact H
      | refine br_t (by first | assumption | decide) ?_
      | refine br_f (by first | assumption | decide) ?_
      | refine And.intro rfl ?_
      | refine nm_e ?_
  ·
    repeat first
      | exact H
      | refine br_t (by first | assumption | decide) ?_
      | refine br_f (by first | assumption | decide) ?_
      | refine And.intro rfl ?_
      | refine nm_e ?_
  ·
    repeat first
      | exact H
      | refine br_t (by first | assumption | decide) ?_
      | refine br_f (by first | assumption | decide) ?_
      | refine And.intro rfl ?_
      | refine nm_e ?_
  ·
    repeat first
      | exact H
      | refine br_t (by first | assumption | decide) ?_
      | refine br_f (by first | assumption | decide) ?_
      | refine And.intro rfl ?_
      | refine nm_e ?_
  ·
    repeat first
      | exact H
      | refine br_t (by first | assumption | decide) ?_
      | refine br_f (by first | assumption | decide) ?_
      | refine And.intro rfl ?_
      | refine nm_e ?_
  ·
    repeat first
      | exact H
      | refine br_t (by first | assumption | decide) ?_
      | refine br_f (by first | assumption | decide) ?_
      | refine And.intro rfl ?_
      | refine nm_e ?_
  ·
    repeat first
      | exact H
      | refine br_t (by first | assumption | decide) ?_
      | refine br_f (by first | assumption | decide) ?_
      | refine And.intro rfl ?_
      | refine nm_e ?_
  ·
    repeat first
      | exact H
      | refine br_t (by first | assumption | decide) ?_
      | refine br_f (by first | assumption | decide) ?_
      | refine And.intro rfl ?_
      | refine nm_e ?_
  ·
    repeat first
      | exact H
      | refine br_t (by first | assumption | decide) ?_
      | refine br_f (by first | assumption | decide) ?_
      | refine And.intro rfl ?_
      | refine nm_e ?_
  ·
    repeat first
      | exact H
      | refine br_t (by first | assumption | decide) ?_
      | refine br_f (by first | assumption | decide) ?_
      | refine And.intro rfl ?_
      | refine nm_e ?_
  ·
    repeat first
      | exact H
      | refine br_t (by first | assumption | decide) ?_
      | refine br_f (by first | assumption | decide) ?_
      | refine And.intro rfl ?_
      | refine nm_e ?_
theorem gx_growth {k : Nat} (hk : k < 15) {post : Int32 → Prop} (H : post (nI (gm_grow k))) : wpX_growth post (nI k) := by
  rcases gm_cases hk with rfl | rfl | rfl | rfl | rfl | rfl | rfl | rfl | rfl | rfl | rfl | rfl | rfl | rfl | rfl
  ·
    repeat first
      | exact H
      | refine br_t (by first | assumption | decide) ?_
      | refine br_f (by first | assumption | decide) ?_
      | refine And.intro rfl ?_
      | refine nm_e ?_
  ·
    repeat first
      | exact H
      | refine br_t (by first | assumption | decide) ?_
      | refine br_f (by first | assumption | decide) ?_
      | refine And.intro rfl ?_
      | refine nm_e ?_
  ·
    repeat first
      | exact H
      | refine br_t (by first | assumption | decide) ?_
      | refine br_f (by first | assumption | decide) ?_
      | refine And.intro rfl ?_
      | refine nm_e ?_
  ·
    repeat first
      | exact H
      | refine br_t (by first | assumption | decide) ?_
      | refine br_f (by first | assumption | decide) ?_
      | refine And.intro rfl ?_
      | refine nm_e ?_
  ·
    repeat first
      | exact H
      | refine br_t (by first | assumption | decide) ?_
      | refine br_f (by first | assumption | decide) ?_
      | refine And.intro rfl ?_
      | refine nm_e ?_
  ·
    repeat first
      | exact H
      | refine br_t (by first | assumption | decide) ?_
      | refine br_f (by first | assumption | decide) ?_
      | refine And.intro rfl ?_
      | refine nm_e ?_
  ·
    repeat first
      | exact H
      | refine br_t (by first | assumption | decide) ?_
      | refine br_f (by first | assumption | decide) ?_
      | refine And.intro rfl ?_
      | refine nm_e ?_
  ·
    repeat first
      | exact H
      | refine br_t (by first | assumption | decide) ?_
      | refine br_f (by first | assumption | decide) ?_
      | refine And.intro rfl ?_
      | refine nm_e ?_
  ·
    repeat first
      | exact H
      | refine br_t (by first | assumption | decide) ?_
      | refine br_f (by first | assumption | decide) ?_
      | refine And.intro rfl ?_
      | refine nm_e ?_
  ·
    repeat first
      | exact H
      | refine br_t (by first | assumption | decide) ?_
      | refine br_f (by first | assumption | decide) ?_
      | refine And.intro rfl ?_
      | refine nm_e ?_
  ·
    repeat first
      | exact H
      | refine br_t (by first | assumption | decide) ?_
      | refine br_f (by first | assumption | decide) ?_
      | refine And.intro rfl ?_
      | refine nm_e ?_
  ·
    repeat first
      | exact H
      | refine br_t (by first | assumption | decide) ?_
      | refine br_f (by first | assumption | decide) ?_
      | refine And.intro rfl ?_
      | refine nm_e ?_
  ·
    repeat first
      | exact H
      | refine br_t (by first | assumption | decide) ?_
      | refine br_f (by first | assumption | decide) ?_
      | refine And.intro rfl ?_
      | refine nm_e ?_
  ·
    repeat first
      | exact H
      | refine br_t (by first | assumption | decide) ?_
      | refine br_f (by first | assumption | decide) ?_
      | refine And.intro rfl ?_
      | refine nm_e ?_
  ·
    repeat first
      | exact H
      | refine br_t (by first | assumption | decide) ?_
      | refine br_f (by first | assumption | decide) ?_
      | refine And.intro rfl ?_
      | refine nm_e ?_
theorem gx_fixedPrice {k : Nat} (hk : k < 15) {post : Int32 → Prop} (H : post (nI (gm_fix k))) : wpX_fixedPrice post (nI k) := by
  rcases gm_cases hk with rfl | rfl | rfl | rfl | rfl | rfl | rfl | rfl | rfl | rfl | rfl | rfl | rfl | rfl | rfl
  ·
    repeat first
      | exact H
      | refine br_t (by first | assumption | decide) ?_
      | refine br_f (by first | assumption | decide) ?_
      | refine And.intro rfl ?_
      | refine nm_e ?_
  ·
    repeat first
      | exact H
      | refine br_t (by first | assumption | decide) ?_
      | refine br_f (by first | assumption | decide) ?_
      | refine And.intro rfl ?_
      | refine nm_e ?_
  ·
    repeat first
      | exact H
      | refine br_t (by first | assumption | decide) ?_
      | refine br_f (by first | assumption | decide) ?_
      | refine And.intro rfl ?_
      | refine nm_e ?_
  ·
    repeat first
      | exact H
      | refine br_t (by first | assumption | decide) ?_
      | refine br_f (by first | assumption | decide) ?_
      | refine And.intro rfl ?_
      | refine nm_e ?_
  ·
    repeat first
      | exact H
      | refine br_t (by first | assumption | decide) ?_
      | refine br_f (by first | assumption | decide) ?_
      | refine And.intro rfl ?_
      | refine nm_e ?_
  ·
    repeat first
      | exact H
      | refine br_t (by first | assumption | decide) ?_
      | refine br_f (by first | assumption | decide) ?_
      | refine And.intro rfl ?_
      | refine nm_e ?_
  ·
    repeat first
      | exact H
      | refine br_t (by first | assumption | decide) ?_
      | refine br_f (by first | assumption | decide) ?_
      | refine And.intro rfl ?_
      | refine nm_e ?_
  ·
    repeat first
      | exact H
      | refine br_t (by first | assumption | decide) ?_
      | refine br_f (by first | assumption | decide) ?_
      | refine And.intro rfl ?_
      | refine nm_e ?_
  ·
    repeat first
      | exact H
      | refine br_t (by first | assumption | decide) ?_
      | refine br_f (by first | assumption | decide) ?_
      | refine And.intro rfl ?_
      | refine nm_e ?_
  ·
    repeat first
      | exact H
      | refine br_t (by first | assumption | decide) ?_
      | refine br_f (by first | assumption | decide) ?_
      | refine And.intro rfl ?_
      | refine nm_e ?_
  ·
    repeat first
      | exact H
      | refine br_t (by first | assumption | decide) ?_
      | refine br_f (by first | assumption | decide) ?_
      | refine And.intro rfl ?_
      | refine nm_e ?_
  ·
    repeat first
      | exact H
      | refine br_t (by first | assumption | decide) ?_
      | refine br_f (by first | assumption | decide) ?_
      | refine And.intro rfl ?_
      | refine nm_e ?_
  ·
    repeat first
      | exact H
      | refine br_t (by first | assumption | decide) ?_
      | refine br_f (by first | assumption | decide) ?_
      | refine And.intro rfl ?_
      | refine nm_e ?_
  ·
    repeat first
      | exact H
      | refine br_t (by first | assumption | decide) ?_
      | refine br_f (by first | assumption | decide) ?_
      | refine And.intro rfl ?_
      | refine nm_e ?_
  ·
    repeat first
      | exact H
      | refine br_t (by first | assumption | decide) ?_
      | refine br_f (by first | assumption | decide) ?_
      | refine And.intro rfl ?_
      | refine nm_e ?_
theorem gx_comb1 {x y : Int32} {post : Int32 → Prop} (H : post (x + y)) : wpX_combined post (nI 1) x y := by
  repeat first
    | exact H
    | refine br_t (by first | assumption | decide) ?_
    | refine br_f (by first | assumption | decide) ?_
    | refine And.intro rfl ?_
    | refine nm_e ?_
theorem gx_comb2 {x y : Int32} {post : Int32 → Prop} (H : post (x - y)) : wpX_combined post (nI 2) x y := by
  repeat first
    | exact H
    | refine br_t (by first | assumption | decide) ?_
    | refine br_f (by first | assumption | decide) ?_
    | refine And.intro rfl ?_
    | refine nm_e ?_
theorem gx_comb3 {x y : Int32} {post : Int32 → Prop} (H : post (x * y)) : wpX_combined post (nI 3) x y := by
  repeat first
    | exact H
    | refine br_t (by first | assumption | decide) ?_
    | refine br_f (by first | assumption | decide) ?_
    | refine And.intro rfl ?_
    | refine nm_e ?_
theorem gx_comb4 {x y : Int32} {post : Int32 → Prop} (H : post (if x < y then 1 else 0)) : wpX_combined post (nI 4) x y := by
  by_cases c : x < y
  · have c' : ¬ y ≤ x := Int32.not_le.mpr c
    rw [if_pos c] at H
    repeat first
      | exact H
      | refine br_t (by first | assumption | decide) ?_
      | refine br_f (by first | assumption | decide) ?_
      | refine And.intro rfl ?_
      | refine nm_e ?_
  · have c' : y ≤ x := Int32.not_lt.mp c
    rw [if_neg c] at H
    repeat first
      | exact H
      | refine br_t (by first | assumption | decide) ?_
      | refine br_f (by first | assumption | decide) ?_
      | refine And.intro rfl ?_
      | refine nm_e ?_
theorem gx_isVar_t {j : Nat} (hj : j < 4) {post : Int32 → Prop} (H : post 1) : wpX_isVariable post (nI j) := by
  have c1 : ¬ nI j < 0 := nI_pos (by omega)
  have c2 : ¬ 4 ≤ nI j := nI_ge (b := 4) hj (by decide)
  have c3 : nI j < 4 := nI_lt (b := 4) hj (by decide)
  have c4 : 0 ≤ nI j := nI_pos' (by omega)
  repeat first
    | exact H
    | refine br_t (by first | assumption | decide) ?_
    | refine br_f (by first | assumption | decide) ?_
    | refine And.intro rfl ?_
    | refine nm_e ?_
theorem gx_isVar_f {v : Int32} (hv : v < 0 ∨ nI 4 ≤ v) {post : Int32 → Prop} (H : post 0) : wpX_isVariable post v := by
  by_cases c : v < 0
  · have c4 : ¬ 0 ≤ v := Int32.not_le.mpr c
    repeat first
      | exact H
      | refine br_t (by first | assumption | decide) ?_
      | refine br_f (by first | assumption | decide) ?_
      | refine And.intro rfl ?_
      | refine nm_e ?_
  · have c2 : 4 ≤ v := hv.resolve_left c
    have c3 : ¬ v < 4 := Int32.not_lt.mpr c2
    have c4 : 0 ≤ v := Int32.not_lt.mp c
    repeat first
      | exact H
      | refine br_t (by first | assumption | decide) ?_
      | refine br_f (by first | assumption | decide) ?_
      | refine And.intro rfl ?_
      | refine nm_e ?_
/-- what append and change ask of an instruction with code k -/
def gm_good (k : Nat) (a : Int32) : Prop := (k = 0 → ¬ a < -100 ∧ ¬ 100 < a) ∧ (k = 8 ∨ k = 9 → ∃ m : Nat, m < 4 ∧ a = nI m) ∧ (k = 10 ∨ k = 11 → ∃ m : Nat, m < 21 ∧ a = nI m)
theorem gm_good_fit {k : Nat} {a : Int32} (hk : k < 15) (h : gm_good k a) : gm_fit k a := ⟨hk, h.2.1, fun c => (h.2.2 c).elim fun m hm => ⟨m, Nat.le_of_lt_succ hm.1, hm.2⟩⟩
theorem gm_nvar {a : Int32} {n : Nat} (hn : n < 2 ^ 31) (h : a < 0 ∨ nI n ≤ a) : ¬ ∃ m : Nat, m < n ∧ a = nI m := by
  rintro ⟨m, hm, rfl⟩
  rcases h with h | h
  · exact nI_pos (by omega) h
  · exact nI_ge hm hn h
theorem gx_ins {k : Nat} {a : Int32} (hk : k < 15) {post : Int32 → Prop} (Ht : gm_good k a → post 1) (Hf : ¬ gm_good k a → post 0) : wpX_isInstruction post (nI k) a := by
  rcases gm_cases hk with rfl | rfl | rfl | rfl | rfl | rfl | rfl | rfl | rfl | rfl | rfl | rfl | rfl | rfl | rfl
  · by_cases c1 : a < -100
    · have H := Hf (fun g => (g.1 rfl).1 c1)
      have d1 : ¬ -100 ≤ a := Int32.not_le.mpr c1
      repeat first
        | exact H
        | refine br_t (by first | assumption | decide) ?_
        | refine br_f (by first | assumption | decide) ?_
        | refine And.intro rfl ?_
        | refine nm_e ?_
    · have d1 : -100 ≤ a := Int32.not_lt.mp c1
      by_cases c2 : 100 < a
      · have H := Hf (fun g => (g.1 rfl).2 c2)
        have d2 : ¬ a ≤ 100 := Int32.not_le.mpr c2
        repeat first
          | exact H
          | refine br_t (by first | assumption | decide) ?_
          | refine br_f (by first | assumption | decide) ?_
          | refine And.intro rfl ?_
          | refine nm_e ?_
      · have H := Ht ⟨fun _ => ⟨c1, c2⟩, fun h => absurd h (by decide), fun h => absurd h (by decide)⟩
        have d2 : a ≤ 100 := Int32.not_lt.mp c2
        repeat first
          | exact H
          | refine br_t (by first | assumption | decide) ?_
          | refine br_f (by first | assumption | decide) ?_
          | refine And.intro rfl ?_
          | refine nm_e ?_
  · have H := Ht ⟨fun h => absurd h (by decide), fun h => absurd h (by decide), fun h => absurd h (by decide)⟩
    repeat first
      | exact H
      | refine br_t (by first | assumption | decide) ?_
      | refine br_f (by first | assumption | decide) ?_
      | refine And.intro rfl ?_
      | refine nm_e ?_
  · have H := Ht ⟨fun h => absurd h (by decide), fun h => absurd h (by decide), fun h => absurd h (by decide)⟩
    repeat first
      | exact H
      | refine br_t (by first | assumption | decide) ?_
      | refine br_f (by first | assumption | decide) ?_
      | refine And.intro rfl ?_
      | refine nm_e ?_
  · have H := Ht ⟨fun h => absurd h (by decide), fun h => absurd h (by decide), fun h => absurd h (by decide)⟩
    repeat first
      | exact H
      | refine br_t (by first | assumption | decide) ?_
      | refine br_f (by first | assumption | decide) ?_
      | refine And.intro rfl ?_
      | refine nm_e ?_
  · have H := Ht ⟨fun h => absurd h (by decide), fun h => absurd h (by decide), fun h => absurd h (by decide)⟩
    repeat first
      | exact H
      | refine br_t (by first | assumption | decide) ?_
      | refine br_f (by first | assumption | decide) ?_
      | refine And.intro rfl ?_
      | refine nm_e ?_
  · have H := Ht ⟨fun h => absurd h (by decide), fun h => absurd h (by decide), fun h => absurd h (by decide)⟩
    repeat first
      | exact H
      | refine br_t (by first | assumption | decide) ?_
      | refine br_f (by first | assumption | decide) ?_
      | refine And.intro rfl ?_
      | refine nm_e ?_
  · have H := Ht ⟨fun h => absurd h (by decide), fun h => absurd h (by decide), fun h => absurd h (by decide)⟩
    repeat first
      | exact H
      | refine br_t (by first | assumption | decide) ?_
      | refine br_f (by first | assumption | decide) ?_
      | refine And.intro rfl ?_
      | refine nm_e ?_
  · have H := Ht ⟨fun h => absurd h (by decide), fun h => absurd h (by decide), fun h => absurd h (by decide)⟩
    repeat first
      | exact H
      | refine br_t (by first | assumption | decide) ?_
      | refine br_f (by first | assumption | decide) ?_
      | refine And.intro rfl ?_
      | refine nm_e ?_
  ·
    rcases pk_ix a (n := 4) (by decide) with c | c | ⟨m, hm, rfl⟩
    · have H := Hf (fun g => gm_nvar (n := 4) (by decide) (Or.inl c) (g.2.1 (by decide)))
      have d1 : ¬ 0 ≤ a := Int32.not_le.mpr c
      repeat first
        | exact H
        | refine br_t (by first | assumption | decide) ?_
        | refine br_f (by first | assumption | decide) ?_
        | refine And.intro rfl ?_
        | refine nm_e ?_
    · have H := Hf (fun g => gm_nvar (n := 4) (by decide) (Or.inr c) (g.2.1 (by decide)))
      have d1 : 4 ≤ a := c
      have d0 : ¬ a < 4 := Int32.not_lt.mpr c
      have d2 : 3 < a := Int32.lt_of_lt_of_le (by decide) d1
      have d3 : ¬ a ≤ 3 := Int32.not_le.mpr d2
      have d4 : ¬ a < 0 := fun z => Int32.lt_irrefl (Int32.lt_trans z (Int32.lt_of_lt_of_le (by decide) d1))
      have d5 : 0 ≤ a := Int32.not_lt.mp d4
      repeat first
        | exact H
        | refine br_t (by first | assumption | decide) ?_
        | refine br_f (by first | assumption | decide) ?_
        | refine And.intro rfl ?_
        | refine nm_e ?_
    · have H := Ht (by refine ⟨?_, ?_, ?_⟩ <;> first | exact fun h => absurd h (by decide) | exact fun _ => ⟨m, hm, rfl⟩)
      have d1 : ¬ nI m < 0 := nI_pos (by omega)
      have d5 : 0 ≤ nI m := nI_pos' (by omega)
      have d2 : ¬ 4 ≤ nI m := nI_ge (b := 4) hm (by decide)
      have d3 : ¬ 3 < nI m := nI_nlt (a := 3) (b := m) (by omega) (by decide)
      have d4 : nI m ≤ 3 := nI_le (b := 3) (by omega) (by decide)
      repeat first
        | exact H
        | refine br_t (by first | assumption | decide) ?_
        | refine br_f (by first | assumption | decide) ?_
        | refine And.intro rfl ?_
        | refine nm_e ?_
  ·
    rcases pk_ix a (n := 4) (by decide) with c | c | ⟨m, hm, rfl⟩
    · have H := Hf (fun g => gm_nvar (n := 4) (by decide) (Or.inl c) (g.2.1 (by decide)))
      have d1 : ¬ 0 ≤ a := Int32.not_le.mpr c
      repeat first
        | exact H
        | refine br_t (by first | assumption | decide) ?_
        | refine br_f (by first | assumption | decide) ?_
        | refine And.intro rfl ?_
        | refine nm_e ?_
    · have H := Hf (fun g => gm_nvar (n := 4) (by decide) (Or.inr c) (g.2.1 (by decide)))
      have d1 : 4 ≤ a := c
      have d0 : ¬ a < 4 := Int32.not_lt.mpr c
      have d2 : 3 < a := Int32.lt_of_lt_of_le (by decide) d1
      have d3 : ¬ a ≤ 3 := Int32.not_le.mpr d2
      have d4 : ¬ a < 0 := fun z => Int32.lt_irrefl (Int32.lt_trans z (Int32.lt_of_lt_of_le (by decide) d1))
      have d5 : 0 ≤ a := Int32.not_lt.mp d4
      repeat first
        | exact H
        | refine br_t (by first | assumption | decide) ?_
        | refine br_f (by first | assumption | decide) ?_
        | refine And.intro rfl ?_
        | refine nm_e ?_
    · have H := Ht (by refine ⟨?_, ?_, ?_⟩ <;> first | exact fun h => absurd h (by decide) | exact fun _ => ⟨m, hm, rfl⟩)
      have d1 : ¬ nI m < 0 := nI_pos (by omega)
      have d5 : 0 ≤ nI m := nI_pos' (by omega)
      have d2 : ¬ 4 ≤ nI m := nI_ge (b := 4) hm (by decide)
      have d3 : ¬ 3 < nI m := nI_nlt (a := 3) (b := m) (by omega) (by decide)
      have d4 : nI m ≤ 3 := nI_le (b := 3) (by omega) (by decide)
      repeat first
        | exact H
        | refine br_t (by first | assumption | decide) ?_
        | refine br_f (by first | assumption | decide) ?_
        | refine And.intro rfl ?_
        | refine nm_e ?_
  ·
    rcases pk_ix a (n := 21) (by decide) with c | c | ⟨m, hm, rfl⟩
    · have H := Hf (fun g => gm_nvar (n := 21) (by decide) (Or.inl c) (g.2.2 (by decide)))
      have d1 : ¬ 0 ≤ a := Int32.not_le.mpr c
      repeat first
        | exact H
        | refine br_t (by first | assumption | decide) ?_
        | refine br_f (by first | assumption | decide) ?_
        | refine And.intro rfl ?_
        | refine nm_e ?_
    · have H := Hf (fun g => gm_nvar (n := 21) (by decide) (Or.inr c) (g.2.2 (by decide)))
      have d1 : 21 ≤ a := c
      have d0 : ¬ a < 21 := Int32.not_lt.mpr c
      have d2 : 20 < a := Int32.lt_of_lt_of_le (by decide) d1
      have d3 : ¬ a ≤ 20 := Int32.not_le.mpr d2
      have d4 : ¬ a < 0 := fun z => Int32.lt_irrefl (Int32.lt_trans z (Int32.lt_of_lt_of_le (by decide) d1))
      have d5 : 0 ≤ a := Int32.not_lt.mp d4
      repeat first
        | exact H
        | refine br_t (by first | assumption | decide) ?_
        | refine br_f (by first | assumption | decide) ?_
        | refine And.intro rfl ?_
        | refine nm_e ?_
    · have H := Ht (by refine ⟨?_, ?_, ?_⟩ <;> first | exact fun h => absurd h (by decide) | exact fun _ => ⟨m, hm, rfl⟩)
      have d1 : ¬ nI m < 0 := nI_pos (by omega)
      have d5 : 0 ≤ nI m := nI_pos' (by omega)
      have d2 : ¬ 21 ≤ nI m := nI_ge (b := 21) hm (by decide)
      have d3 : ¬ 20 < nI m := nI_nlt (a := 20) (b := m) (by omega) (by decide)
      have d4 : nI m ≤ 20 := nI_le (b := 20) (by omega) (by decide)
      repeat first
        | exact H
        | refine br_t (by first | assumption | decide) ?_
        | refine br_f (by first | assumption | decide) ?_
        | refine And.intro rfl ?_
        | refine nm_e ?_
  ·
    rcases pk_ix a (n := 21) (by decide) with c | c | ⟨m, hm, rfl⟩
    · have H := Hf (fun g => gm_nvar (n := 21) (by decide) (Or.inl c) (g.2.2 (by decide)))
      have d1 : ¬ 0 ≤ a := Int32.not_le.mpr c
      repeat first
        | exact H
        | refine br_t (by first | assumption | decide) ?_
        | refine br_f (by first | assumption | decide) ?_
        | refine And.intro rfl ?_
        | refine nm_e ?_
    · have H := Hf (fun g => gm_nvar (n := 21) (by decide) (Or.inr c) (g.2.2 (by decide)))
      have d1 : 21 ≤ a := c
      have d0 : ¬ a < 21 := Int32.not_lt.mpr c
      have d2 : 20 < a := Int32.lt_of_lt_of_le (by decide) d1
      have d3 : ¬ a ≤ 20 := Int32.not_le.mpr d2
      have d4 : ¬ a < 0 := fun z => Int32.lt_irrefl (Int32.lt_trans z (Int32.lt_of_lt_of_le (by decide) d1))
      have d5 : 0 ≤ a := Int32.not_lt.mp d4
      repeat first
        | exact H
        | refine br_t (by first | assumption | decide) ?_
        | refine br_f (by first | assumption | decide) ?_
        | refine And.intro rfl ?_
        | refine nm_e ?_
    · have H := Ht (by refine ⟨?_, ?_, ?_⟩ <;> first | exact fun h => absurd h (by decide) | exact fun _ => ⟨m, hm, rfl⟩)
      have d1 : ¬ nI m < 0 := nI_pos (by omega)
      have d5 : 0 ≤ nI m := nI_pos' (by omega)
      have d2 : ¬ 21 ≤ nI m := nI_ge (b := 21) hm (by decide)
      have d3 : ¬ 20 < nI m := nI_nlt (a := 20) (b := m) (by omega) (by decide)
      have d4 : nI m ≤ 20 := nI_le (b := 20) (by omega) (by decide)
      repeat first
        | exact H
        | refine br_t (by first | assumption | decide) ?_
        | refine br_f (by first | assumption | decide) ?_
        | refine And.intro rfl ?_
        | refine nm_e ?_
  · have H := Ht ⟨fun h => absurd h (by decide), fun h => absurd h (by decide), fun h => absurd h (by decide)⟩
    repeat first
      | exact H
      | refine br_t (by first | assumption | decide) ?_
      | refine br_f (by first | assumption | decide) ?_
      | refine And.intro rfl ?_
      | refine nm_e ?_
  · have H := Ht ⟨fun h => absurd h (by decide), fun h => absurd h (by decide), fun h => absurd h (by decide)⟩
    repeat first
      | exact H
      | refine br_t (by first | assumption | decide) ?_
      | refine br_f (by first | assumption | decide) ?_
      | refine And.intro rfl ?_
      | refine nm_e ?_
  · have H := Ht ⟨fun h => absurd h (by decide), fun h => absurd h (by decide), fun h => absurd h (by decide)⟩
    repeat first
      | exact H
      | refine br_t (by first | assumption | decide) ?_
      | refine br_f (by first | assumption | decide) ?_
      | refine And.intro rfl ?_
      | refine nm_e ?_
theorem gx_ins_o {op a : Int32} (ho : op < 0 ∨ nI 15 ≤ op) {post : Int32 → Prop} (H : post 0) : wpX_isInstruction post op a := by
  by_cases c : op < 0
  · have d1 : ¬ 0 ≤ op := Int32.not_le.mpr c
    repeat first
      | exact H
      | refine br_t (by first | assumption | decide) ?_
      | refine br_f (by first | assumption | decide) ?_
      | refine And.intro rfl ?_
      | refine nm_e ?_
  · have d1 : (15 : Int32) ≤ op := ho.resolve_left c
    have d2 : (14 : Int32) < op := Int32.lt_of_lt_of_le (by decide) d1
    have d3 : (11 : Int32) < op := Int32.lt_of_lt_of_le (by decide) d1
    have d4 : 0 ≤ op := Int32.not_lt.mp c
    have d5 : ¬ op ≤ 14 := Int32.not_le.mpr d2
    repeat first
      | exact H
      | refine br_t (by first | assumption | decide) ?_
      | refine br_f (by first | assumption | decide) ?_
      | refine And.intro rfl ?_
      | refine nm_e ?_
end
