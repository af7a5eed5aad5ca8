section
/-- the pile machine's state: place, steps, height, gas, variables, pile -/
abbrev gm_D : Type := Nat × Nat × Nat × Nat × (Nat → Int32) × (Nat → Int32)
def gm_need : Nat → Nat
  | 1 => 2
  | 2 => 2
  | 3 => 2
  | 4 => 2
  | 6 => 2
  | 5 => 1
  | 7 => 1
  | 9 => 1
  | 11 => 1
  | 12 => 1
  | _ => 0
def gm_grow : Nat → Nat
  | 0 => 1
  | 5 => 1
  | 8 => 1
  | 13 => 1
  | _ => 0
def gm_fix : Nat → Nat
  | 14 => 0
  | 7 => 1
  | 12 => 1
  | 0 => 2
  | 5 => 2
  | 6 => 2
  | 13 => 2
  | 1 => 3
  | 2 => 3
  | 4 => 3
  | 8 => 3
  | 9 => 4
  | 10 => 4
  | _ => 5
def gm_low (x : Int32) : Nat := x.toBitVec.toNat % 16
theorem gm_low_lt (x : Int32) : gm_low x < 16 := Nat.mod_lt _ (by decide)
theorem gm_and (x : Int32) : x &&& 15 = nI (gm_low x) := pk_and x 4 (by decide)
def gm_price (k : Nat) (t : Int32) : Nat := if k = 12 then 1 + gm_low t else gm_fix k
def gm_work (a : Int32) (p s h g : Nat) (v st : Nat → Int32) : Nat → gm_D
  | 0 => (p + 1, s, h + 1, g, v, upd st h a)
  | 1 => (p + 1, s, h - 1, g, v, upd st (h - 2) (st (h - 2) + st (h - 1)))
  | 2 => (p + 1, s, h - 1, g, v, upd st (h - 2) (st (h - 2) - st (h - 1)))
  | 3 => (p + 1, s, h - 1, g, v, upd st (h - 2) (st (h - 2) * st (h - 1)))
  | 4 => (p + 1, s, h - 1, g, v, upd st (h - 2) (if st (h - 2) < st (h - 1) then 1 else 0))
  | 5 => (p + 1, s, h + 1, g, v, upd st h (st (h - 1)))
  | 6 => (p + 1, s, h, g, v, upd (upd st (h - 2) (st (h - 1))) (h - 1) (st (h - 2)))
  | 7 => (p + 1, s, h - 1, g, v, st)
  | 8 => (p + 1, s, h + 1, g, v, upd st h (v a.toNatClampNeg))
  | 9 => (p + 1, s, h - 1, g, upd v a.toNatClampNeg (st (h - 1)), st)
  | 10 => (a.toNatClampNeg, s, h, g, v, st)
  | 11 => (if st (h - 1) = 0 then p + 1 else a.toNatClampNeg, s, h - 1, g, v, st)
  | 12 => (p + 1, s, h - 1, g, v, st)
  | 13 => (p + 1, s, h + 1, g, v, upd st h (nI g))
  | _ => (p, s, h, g, v, st)
/-- how the machine ends before it works an instruction off; 0: it goes on -/
def gm_end (kk : Nat → Nat) (N p s h g : Nat) (st : Nat → Int32) : Nat :=
  if N ≤ p then 1 else if s = 300 then 2 else if h < gm_need (kk p) ∨ 8 < h + gm_grow (kk p) then 3 else if g < gm_price (kk p) (st (h - 1)) then 4 else 0
def gm_turn (kk : Nat → Nat) (nn : Nat → Int32) (N p s h g : Nat) (v st : Nat → Int32) : Nat × gm_D :=
  if gm_end kk N p s h g st = 0 then
    (if kk p = 14 then (1, (p, s + 1, h, g - gm_price (kk p) (st (h - 1)), v, st))
     else (0, gm_work (nn p) p (s + 1) h (g - gm_price (kk p) (st (h - 1))) v st (kk p)))
  else (gm_end kk N p s h g st, (p, s, h, g, v, st))
def gm_go (kk : Nat → Nat) (nn : Nat → Int32) (N : Nat) (d : gm_D) : Nat × gm_D := gm_turn kk nn N d.1 d.2.1 d.2.2.1 d.2.2.2.1 d.2.2.2.2.1 d.2.2.2.2.2
def gm_run (kk : Nat → Nat) (nn : Nat → Int32) (N : Nat) : Nat → gm_D → Nat × gm_D
  | 0, d => gm_go kk nn N d
  | n + 1, d => if (gm_go kk nn N d).1 = 0 then gm_run kk nn N n (gm_go kk nn N d).2 else gm_go kk nn N d
/-- an instruction that the program may hold -/
def gm_fit (k : Nat) (a : Int32) : Prop := k < 15 ∧ (k = 8 ∨ k = 9 → ∃ m : Nat, m < 4 ∧ a = nI m) ∧ (k = 10 ∨ k = 11 → ∃ m : Nat, m ≤ 20 ∧ a = nI m)
def gm_ok (d : gm_D) : Prop := d.1 ≤ 20 ∧ d.2.1 ≤ 300 ∧ d.2.2.1 ≤ 8 ∧ d.2.2.2.1 ≤ 1000000
theorem gm_cases {k : Nat} (h : k < 15) : k = 0 ∨ k = 1 ∨ k = 2 ∨ k = 3 ∨ k = 4 ∨ k = 5 ∨ k = 6 ∨ k = 7 ∨ k = 8 ∨ k = 9 ∨ k = 10 ∨ k = 11 ∨ k = 12 ∨ k = 13 ∨ k = 14 := by omega
theorem gm_price_le {k : Nat} (t : Int32) (h : k < 15) : gm_price k t ≤ 16 := by
  have hl := gm_low_lt t
  rcases gm_cases h with rfl | rfl | rfl | rfl | rfl | rfl | rfl | rfl | rfl | rfl | rfl | rfl | rfl | rfl | rfl <;> simp [gm_price, gm_fix] <;> omega
theorem gm_end_0 {kk : Nat → Nat} {N p s h g : Nat} {st : Nat → Int32} (e : gm_end kk N p s h g st = 0) : p < N ∧ s ≠ 300 ∧ gm_need (kk p) ≤ h ∧ h + gm_grow (kk p) ≤ 8 ∧ gm_price (kk p) (st (h - 1)) ≤ g := by
  unfold gm_end at e
  by_cases c1 : N ≤ p
  · rw [if_pos c1] at e; exact absurd e (by decide)
  rw [if_neg c1] at e
  by_cases c2 : s = 300
  · rw [if_pos c2] at e; exact absurd e (by decide)
  rw [if_neg c2] at e
  by_cases c3 : h < gm_need (kk p) ∨ 8 < h + gm_grow (kk p)
  · rw [if_pos c3] at e; exact absurd e (by decide)
  rw [if_neg c3] at e
  by_cases c4 : g < gm_price (kk p) (st (h - 1))
  · rw [if_pos c4] at e; exact absurd e (by decide)
  exact ⟨by omega, c2, by omega, by omega, by omega⟩
theorem gm_end_lt (kk : Nat → Nat) (N p s h g : Nat) (st : Nat → Int32) : gm_end kk N p s h g st < 5 := by
  unfold gm_end
  split
  · decide
  split
  · decide
  split
  · decide
  split <;> decide
theorem gm_work_sg (a : Int32) (p s h g : Nat) (v st : Nat → Int32) {k : Nat} (hk : k < 15) : (gm_work a p s h g v st k).2.1 = s ∧ (gm_work a p s h g v st k).2.2.2.1 = g := by
  rcases gm_cases hk with rfl | rfl | rfl | rfl | rfl | rfl | rfl | rfl | rfl | rfl | rfl | rfl | rfl | rfl | rfl <;> exact ⟨rfl, rfl⟩
theorem gm_work_ok {a : Int32} {p s h g k : Nat} {v st : Nat → Int32} (hf : gm_fit k a) (hp : p < 20) (hs : s ≤ 300) (h1 : gm_need k ≤ h) (h2 : h + gm_grow k ≤ 8) (hg : g ≤ 1000000) : gm_ok (gm_work a p s h g v st k) ∧ (gm_work a p s h g v st k).2.1 = s ∧ (gm_work a p s h g v st k).2.2.2.1 = g := by
  obtain ⟨hk, h8, h10⟩ := hf
  have hh : h ≤ 8 := by omega
  rcases gm_cases hk with rfl | rfl | rfl | rfl | rfl | rfl | rfl | rfl | rfl | rfl | rfl | rfl | rfl | rfl | rfl
  · exact ⟨⟨hp, hs, h2, hg⟩, rfl, rfl⟩
  · exact ⟨⟨hp, hs, Nat.le_trans (Nat.sub_le _ _) hh, hg⟩, rfl, rfl⟩
  · exact ⟨⟨hp, hs, Nat.le_trans (Nat.sub_le _ _) hh, hg⟩, rfl, rfl⟩
  · exact ⟨⟨hp, hs, Nat.le_trans (Nat.sub_le _ _) hh, hg⟩, rfl, rfl⟩
  · exact ⟨⟨hp, hs, Nat.le_trans (Nat.sub_le _ _) hh, hg⟩, rfl, rfl⟩
  · exact ⟨⟨hp, hs, h2, hg⟩, rfl, rfl⟩
  · exact ⟨⟨hp, hs, hh, hg⟩, rfl, rfl⟩
  · exact ⟨⟨hp, hs, Nat.le_trans (Nat.sub_le _ _) hh, hg⟩, rfl, rfl⟩
  · exact ⟨⟨hp, hs, h2, hg⟩, rfl, rfl⟩
  · exact ⟨⟨hp, hs, Nat.le_trans (Nat.sub_le _ _) hh, hg⟩, rfl, rfl⟩
  · obtain ⟨m, hm, rfl⟩ := h10 (Or.inl rfl)
    have e : (nI m).toNatClampNeg = m := nI_clamp (by omega)
    exact ⟨⟨by show (nI m).toNatClampNeg ≤ 20; rw [e]; exact hm, hs, hh, hg⟩, rfl, rfl⟩
  · obtain ⟨m, hm, rfl⟩ := h10 (Or.inr rfl)
    have e : (nI m).toNatClampNeg = m := nI_clamp (by omega)
    refine ⟨⟨?_, hs, Nat.le_trans (Nat.sub_le _ _) hh, hg⟩, rfl, rfl⟩
    show (if st (h - 1) = 0 then p + 1 else (nI m).toNatClampNeg) ≤ 20
    rw [e]
    split
    · exact hp
    · exact hm
  · exact ⟨⟨hp, hs, Nat.le_trans (Nat.sub_le _ _) hh, hg⟩, rfl, rfl⟩
  · exact ⟨⟨hp, hs, h2, hg⟩, rfl, rfl⟩
  · exact ⟨⟨Nat.le_of_lt hp, hs, hh, hg⟩, rfl, rfl⟩
theorem gm_go_ok {kk : Nat → Nat} {nn : Nat → Int32} {N : Nat} (hf : ∀ j, gm_fit (kk j) (nn j)) (hN : N ≤ 20) {d : gm_D} (ok : gm_ok d) : gm_ok (gm_go kk nn N d).2 ∧ (gm_go kk nn N d).2.2.2.2.1 ≤ d.2.2.2.1 ∧ ((gm_go kk nn N d).1 = 0 → (gm_go kk nn N d).2.2.1 = d.2.1 + 1 ∧ d.2.1 < 300) := by
  obtain ⟨p, s, h, g, v, st⟩ := d
  obtain ⟨o1, o2, o3, o4⟩ := ok
  dsimp only at o1 o2 o3 o4
  unfold gm_go gm_turn
  dsimp only
  by_cases e : gm_end kk N p s h g st = 0
  · obtain ⟨a1, a2, a3, a4, a5⟩ := gm_end_0 e
    rw [if_pos e]
    by_cases c : kk p = 14
    · rw [if_pos c]
      exact ⟨⟨o1, by show s + 1 ≤ 300; omega, o3, by show g - gm_price (kk p) (st (h - 1)) ≤ 1000000; omega⟩, Nat.sub_le _ _, fun z => absurd (show (1 : Nat) = 0 from z) (by decide)⟩
    · rw [if_neg c]
      obtain ⟨b1, b2, b3⟩ := gm_work_ok (v := v) (st := st) (s := s + 1) (g := g - gm_price (kk p) (st (h - 1))) (hf p) (by omega : p < 20) (by omega) a3 a4 (by omega)
      exact ⟨b1, by show (gm_work _ _ _ _ _ _ _ _).2.2.2.1 ≤ g; rw [b3]; exact Nat.sub_le _ _, fun _ => ⟨b2, by show s < 300; omega⟩⟩
  · rw [if_neg e]
    exact ⟨⟨o1, o2, o3, o4⟩, Nat.le_refl _, fun z => absurd z e⟩
theorem gm_run_ok {kk : Nat → Nat} {nn : Nat → Int32} {N : Nat} (hf : ∀ j, gm_fit (kk j) (nn j)) (hN : N ≤ 20) : ∀ (n : Nat) (d : gm_D), gm_ok d → gm_ok (gm_run kk nn N n d).2 ∧ (gm_run kk nn N n d).2.2.2.2.1 ≤ d.2.2.2.1 := by
  intro n
  induction n with
  | zero => exact fun d ok => ⟨(gm_go_ok hf hN ok).1, (gm_go_ok hf hN ok).2.1⟩
  | succ n ih =>
    intro d ok
    obtain ⟨b1, b2, b3⟩ := gm_go_ok hf hN ok
    rw [gm_run]
    by_cases c : (gm_go kk nn N d).1 = 0
    · rw [if_pos c]
      exact ⟨(ih _ b1).1, Nat.le_trans (ih _ b1).2 b2⟩
    · rw [if_neg c]
      exact ⟨b1, b2⟩
theorem gm_e1 {kk : Nat → Nat} {N p s h g : Nat} {st : Nat → Int32} (c1 : N ≤ p) : gm_end kk N p s h g st = 1 := by
  unfold gm_end; rw [if_pos c1]
theorem gm_e2 {kk : Nat → Nat} {N p s h g : Nat} {st : Nat → Int32} (c1 : p < N) (c2 : s = 300) : gm_end kk N p s h g st = 2 := by
  unfold gm_end; rw [if_neg (Nat.not_le.mpr c1), if_pos c2]
theorem gm_e3 {kk : Nat → Nat} {N p s h g : Nat} {st : Nat → Int32} (c1 : p < N) (c2 : s ≠ 300) (c3 : h < gm_need (kk p) ∨ 8 < h + gm_grow (kk p)) : gm_end kk N p s h g st = 3 := by
  unfold gm_end; rw [if_neg (Nat.not_le.mpr c1), if_neg c2, if_pos c3]
theorem gm_e4 {kk : Nat → Nat} {N p s h g : Nat} {st : Nat → Int32} (c1 : p < N) (c2 : s ≠ 300) (c3 : gm_need (kk p) ≤ h) (c4 : h + gm_grow (kk p) ≤ 8) (c5 : g < gm_price (kk p) (st (h - 1))) : gm_end kk N p s h g st = 4 := by
  unfold gm_end; rw [if_neg (Nat.not_le.mpr c1), if_neg c2, if_neg (show ¬ (h < gm_need (kk p) ∨ 8 < h + gm_grow (kk p)) by omega), if_pos c5]
theorem gm_e0 {kk : Nat → Nat} {N p s h g : Nat} {st : Nat → Int32} (c1 : p < N) (c2 : s ≠ 300) (c3 : gm_need (kk p) ≤ h) (c4 : h + gm_grow (kk p) ≤ 8) (c5 : gm_price (kk p) (st (h - 1)) ≤ g) : gm_end kk N p s h g st = 0 := by
  unfold gm_end; rw [if_neg (Nat.not_le.mpr c1), if_neg c2, if_neg (show ¬ (h < gm_need (kk p) ∨ 8 < h + gm_grow (kk p)) by omega), if_neg (Nat.not_lt.mpr c5)]
theorem gm_ts {kk : Nat → Nat} {nn : Nat → Int32} {N p s h g e : Nat} {v st : Nat → Int32} (c : gm_end kk N p s h g st = e) (hz : e ≠ 0) : gm_turn kk nn N p s h g v st = (e, (p, s, h, g, v, st)) := by
  unfold gm_turn; rw [c, if_neg hz]
theorem gm_t14 {kk : Nat → Nat} {nn : Nat → Int32} {N p s h g : Nat} {v st : Nat → Int32} (c : gm_end kk N p s h g st = 0) (k : kk p = 14) : gm_turn kk nn N p s h g v st = (1, (p, s + 1, h, g - gm_price (kk p) (st (h - 1)), v, st)) := by
  unfold gm_turn; rw [if_pos c, if_pos k]
theorem gm_tw {kk : Nat → Nat} {nn : Nat → Int32} {N p s h g : Nat} {v st : Nat → Int32} (c : gm_end kk N p s h g st = 0) (k : kk p ≠ 14) : gm_turn kk nn N p s h g v st = (0, gm_work (nn p) p (s + 1) h (g - gm_price (kk p) (st (h - 1))) v st (kk p)) := by
  unfold gm_turn; rw [if_pos c, if_neg k]
theorem gm_u {f : Nat → Int32} {n : Nat} {x : Int32} (h : n < 2 ^ 31) : upd f (nI n).toNatClampNeg x = upd f n x := by rw [nI_clamp h]
theorem gm_vin {n M : Nat} (h : n < M) (hM : M < 2 ^ 31) : vp_in (nI n) M ↔ True := ⟨fun _ => trivial, fun _ => vp_in_nI h hM⟩
theorem gm_swap (f : Nat → Int32) (m : Nat) (x y : Int32) : upd (upd f (m + 1) x) m y = upd (upd f m y) (m + 1) x := by
  funext j
  by_cases c : j = m
  · subst c
    rw [pk_us, pk_un (by omega), pk_us]
  · rw [pk_un c]
    by_cases c2 : j = m + 1
    · subst c2
      rw [pk_us, pk_us]
    · rw [pk_un c2, pk_un c2, pk_un c]
def gm_put (kk : Nat → Nat) (i k : Nat) : Nat → Nat := fun j => if j = i then k else kk j
theorem gm_put_upd (kk : Nat → Nat) (i k : Nat) : upd (fun j => nI (kk j)) i (nI k) = fun j => nI (gm_put kk i k j) := by
  funext j
  unfold upd gm_put
  by_cases c : j = i
  · rw [if_pos c, if_pos c]
  · rw [if_neg c, if_neg c]
theorem gm_put_fit {kk : Nat → Nat} {nn : Nat → Int32} {i k : Nat} {a : Int32} (hf : ∀ j, gm_fit (kk j) (nn j)) (h : gm_fit k a) : ∀ j, gm_fit (gm_put kk i k j) (upd nn i a j) := by
  intro j
  unfold upd gm_put
  by_cases c : j = i
  · rw [if_pos c, if_pos c]; exact h
  · rw [if_neg c, if_neg c]; exact hf j
theorem gm_need_le (k : Nat) : gm_need k ≤ 2 := by
  unfold gm_need
  split <;> decide
theorem gm_grow_le (k : Nat) : gm_grow k ≤ 1 := by
  unfold gm_grow
  split <;> decide
theorem gm_go_lt (kk : Nat → Nat) (nn : Nat → Int32) (N : Nat) (d : gm_D) : (gm_go kk nn N d).1 < 5 := by
  unfold gm_go gm_turn
  split
  · split
    · exact (show (1 : Nat) < 5 by decide)
    · exact (show (0 : Nat) < 5 by decide)
  · exact gm_end_lt _ _ _ _ _ _ _
theorem gm_ok0 {g : Nat} {v st : Nat → Int32} (hg : g ≤ 1000000) : gm_ok (0, 0, 0, g, v, st) := ⟨Nat.zero_le _, Nat.zero_le _, Nat.zero_le _, hg⟩
end
