section
section
theorem pk_us {f : Nat → Int32} {k : Nat} {x : Int32} : upd f k x k = x := if_pos rfl
theorem pk_un {f : Nat → Int32} {k j : Nat} {x : Int32} (h : j ≠ k) : upd f k x j = f j := if_neg h
theorem pk_sub {a b : Nat} (h : b ≤ a) : nI a - nI b = nI (a - b) := by
  obtain ⟨c, rfl⟩ : ∃ c, a = c + b := ⟨a - b, by omega⟩
  rw [← nI_add, Int32.add_sub_cancel, Nat.add_sub_cancel]
theorem pk_m1 (n : Nat) : nI (n + 1) + (-1) = nI n := by
  rw [← nI_1, Int32.add_assoc, show (1 : Int32) + (-1) = 0 from rfl, Int32.add_zero]
theorem pk_ix (x : Int32) {n : Nat} (hn : n < 2 ^ 31) : x < 0 ∨ nI n ≤ x ∨ ∃ j : Nat, j < n ∧ x = nI j := by
  by_cases h : x < 0
  · exact Or.inl h
  · obtain ⟨j, hj, rfl⟩ := nI_of h
    by_cases h2 : j < n
    · exact Or.inr (Or.inr ⟨j, h2, rfl⟩)
    · exact Or.inr (Or.inl (nI_le (by omega) hj))
theorem pk_le {x y : Int32} {A B : Prop} (a b : Nat) (f : a ≤ b → A) (g : b < a → B) (hx : x = nI a := by rfl) (hy : y = nI b := by rfl) (ha : a < 2 ^ 31 := by omega) (hb : b < 2 ^ 31 := by omega) : (x ≤ y → A) ∧ (¬ x ≤ y → B) := by
  subst hx hy
  rw [nI_leI ha hb]
  exact ⟨f, fun z => g (by omega)⟩
theorem pk_lt {x y : Int32} {A B : Prop} (a b : Nat) (f : a < b → A) (g : b ≤ a → B) (hx : x = nI a := by rfl) (hy : y = nI b := by rfl) (ha : a < 2 ^ 31 := by omega) (hb : b < 2 ^ 31 := by omega) : (x < y → A) ∧ (¬ x < y → B) := by
  subst hx hy
  rw [nI_ltI ha hb]
  exact ⟨f, fun z => g (by omega)⟩
theorem pk_eq {x y : Int32} {A B : Prop} (a b : Nat) (f : a = b → A) (g : a ≠ b → B) (hx : x = nI a := by rfl) (hy : y = nI b := by rfl) (ha : a < 2 ^ 31 := by omega) (hb : b < 2 ^ 31 := by omega) : (x = y → A) ∧ (¬ x = y → B) := by
  subst hx hy
  rw [nI_eq ha hb]
  exact ⟨f, g⟩
theorem pk_in {x : Int32} (n N : Nat) (h : n < N) (hx : x = nI n := by rfl) (hN : N < 2 ^ 31 := by omega) : vp_in x N := by
  subst hx
  exact vp_in_nI h hN
theorem pk_cl {x : Int32} (n : Nat) (hx : x = nI n := by rfl) (h : n < 2 ^ 31 := by omega) : x.toNatClampNeg = n := by
  subst hx
  exact nI_clamp h
theorem pk_tn {n : Nat} (h : n < 2 ^ 32) : (nI n).toBitVec.toNat = n := Nat.mod_eq_of_lt h
theorem pk_and (x : Int32) {m : Int32} (k : Nat) (hm : m.toBitVec.toNat = 2 ^ k - 1) : x &&& m = nI (x.toBitVec.toNat % 2 ^ k) := by
  apply Int32.toBitVec_inj.mp
  apply BitVec.eq_of_toNat_eq
  rw [Int32.toBitVec_and, BitVec.toNat_and, hm, Nat.and_two_pow_sub_one_eq_mod]
  show _ = (BitVec.ofNat 32 _).toNat
  rw [BitVec.toNat_ofNat]
  exact (Nat.mod_eq_of_lt (Nat.lt_of_le_of_lt (Nat.mod_le _ _) x.toBitVec.isLt)).symm
theorem pk_andN {n : Nat} (h : n < 2 ^ 32) {m : Int32} (k : Nat) (hm : m.toBitVec.toNat = 2 ^ k - 1) : nI n &&& m = nI (n % 2 ^ k) := by
  rw [pk_and _ k hm, pk_tn h]
end
end
section
section
/-- the pile machine's state: place, steps, height, gas, variables, pile -/
abbrev gm_D : Type := Nat × Nat × Nat × Nat × (Nat → Int32) × (Nat → Int32)
def gm_need : Nat → Nat
  | 1 => 2
  | 2 => 2
  | 3 => 2
  | 4 => 2
  | 6 => 2
  | 5 => 1
  | 7 => 1
  | 9 => 1
  | 11 => 1
  | 12 => 1
  | _ => 0
def gm_grow : Nat → Nat
  | 0 => 1
  | 5 => 1
  | 8 => 1
  | 13 => 1
  | _ => 0
def gm_fix : Nat → Nat
  | 14 => 0
  | 7 => 1
  | 12 => 1
  | 0 => 2
  | 5 => 2
  | 6 => 2
  | 13 => 2
  | 1 => 3
  | 2 => 3
  | 4 => 3
  | 8 => 3
  | 9 => 4
  | 10 => 4
  | _ => 5
def gm_low (x : Int32) : Nat := x.toBitVec.toNat % 16
theorem gm_low_lt (x : Int32) : gm_low x < 16 := Nat.mod_lt _ (by decide)
theorem gm_and (x : Int32) : x &&& 15 = nI (gm_low x) := pk_and x 4 (by decide)
def gm_price (k : Nat) (t : Int32) : Nat := if k = 12 then 1 + gm_low t else gm_fix k
def gm_work (a : Int32) (p s h g : Nat) (v st : Nat → Int32) : Nat → gm_D
  | 0 => (p + 1, s, h + 1, g, v, upd st h a)
  | 1 => (p + 1, s, h - 1, g, v, upd st (h - 2) (st (h - 2) + st (h - 1)))
  | 2 => (p + 1, s, h - 1, g, v, upd st (h - 2) (st (h - 2) - st (h - 1)))
  | 3 => (p + 1, s, h - 1, g, v, upd st (h - 2) (st (h - 2) * st (h - 1)))
  | 4 => (p + 1, s, h - 1, g, v, upd st (h - 2) (if st (h - 2) < st (h - 1) then 1 else 0))
  | 5 => (p + 1, s, h + 1, g, v, upd st h (st (h - 1)))
  | 6 => (p + 1, s, h, g, v, upd (upd st (h - 2) (st (h - 1))) (h - 1) (st (h - 2)))
  | 7 => (p + 1, s, h - 1, g, v, st)
  | 8 => (p + 1, s, h + 1, g, v, upd st h (v a.toNatClampNeg))
  | 9 => (p + 1, s, h - 1, g, upd v a.toNatClampNeg (st (h - 1)), st)
  | 10 => (a.toNatClampNeg, s, h, g, v, st)
  | 11 => (if st (h - 1) = 0 then p + 1 else a.toNatClampNeg, s, h - 1, g, v, st)
  | 12 => (p + 1, s, h - 1, g, v, st)
  | 13 => (p + 1, s, h + 1, g, v, upd st h (nI g))
  | _ => (p, s, h, g, v, st)
/-- how the machine ends before it works an instruction off; 0: it goes on -/
def gm_end (kk : Nat → Nat) (N p s h g : Nat) (st : Nat → Int32) : Nat :=
  if N ≤ p then 1 else if s = 300 then 2 else if h < gm_need (kk p) ∨ 8 < h + gm_grow (kk p) then 3 else if g < gm_price (kk p) (st (h - 1)) then 4 else 0
def gm_turn (kk : Nat → Nat) (nn : Nat → Int32) (N p s h g : Nat) (v st : Nat → Int32) : Nat × gm_D :=
  if gm_end kk N p s h g st = 0 then
    (if kk p = 14 then (1, (p, s + 1, h, g - gm_price (kk p) (st (h - 1)), v, st))
     else (0, gm_work (nn p) p (s + 1) h (g - gm_price (kk p) (st (h - 1))) v st (kk p)))
  else (gm_end kk N p s h g st, (p, s, h, g, v, st))
def gm_go (kk : Nat → Nat) (nn : Nat → Int32) (N : Nat) (d : gm_D) : Nat × gm_D := gm_turn kk nn N d.1 d.2.1 d.2.2.1 d.2.2.2.1 d.2.2.2.2.1 d.2.2.2.2.2
def gm_run (kk : Nat → Nat) (nn : Nat → Int32) (N : Nat) : Nat → gm_D → Nat × gm_D
  | 0, d => gm_go kk nn N d
  | n + 1, d => if (gm_go kk nn N d).1 = 0 then gm_run kk nn N n (gm_go kk nn N d).2 else gm_go kk nn N d
/-- an instruction that the program may hold -/
def gm_fit (k : Nat) (a : Int32) : Prop := k < 15 ∧ (k = 8 ∨ k = 9 → ∃ m : Nat, m < 4 ∧ a = nI m) ∧ (k = 10 ∨ k = 11 → ∃ m : Nat, m ≤ 20 ∧ a = nI m)
def gm_ok (d : gm_D) : Prop := d.1 ≤ 20 ∧ d.2.1 ≤ 300 ∧ d.2.2.1 ≤ 8 ∧ d.2.2.2.1 ≤ 1000000
theorem gm_cases {k : Nat} (h : k < 15) : k = 0 ∨ k = 1 ∨ k = 2 ∨ k = 3 ∨ k = 4 ∨ k = 5 ∨ k = 6 ∨ k = 7 ∨ k = 8 ∨ k = 9 ∨ k = 10 ∨ k = 11 ∨ k = 12 ∨ k = 13 ∨ k = 14 := by omega
theorem gm_price_le {k : Nat} (t : Int32) (h : k < 15) : gm_price k t ≤ 16 := by
  have hl := gm_low_lt t
  rcases gm_cases h with rfl | rfl | rfl | rfl | rfl | rfl | rfl | rfl | rfl | rfl | rfl | rfl | rfl | rfl | rfl <;> simp [gm_price, gm_fix] <;> omega
theorem gm_end_0 {kk : Nat → Nat} {N p s h g : Nat} {st : Nat → Int32} (e : gm_end kk N p s h g st = 0) : p < N ∧ s ≠ 300 ∧ gm_need (kk p) ≤ h ∧ h + gm_grow (kk p) ≤ 8 ∧ gm_price (kk p) (st (h - 1)) ≤ g := by
  unfold gm_end at e
  by_cases c1 : N ≤ p
  · rw [if_pos c1] at e; exact absurd e (by decide)
  rw [if_neg c1] at e
  by_cases c2 : s = 300
  · rw [if_pos c2] at e; exact absurd e (by decide)
  rw [if_neg c2] at e
  by_cases c3 : h < gm_need (kk p) ∨ 8 < h + gm_grow (kk p)
  · rw [if_pos c3] at e; exact absurd e (by decide)
  rw [if_neg c3] at e
  by_cases c4 : g < gm_price (kk p) (st (h - 1))
  · rw [if_pos c4] at e; exact absurd e (by decide)
  exact ⟨by omega, c2, by omega, by omega, by omega⟩
theorem gm_end_lt (kk : Nat → Nat) (N p s h g : Nat) (st : Nat → Int32) : gm_end kk N p s h g st < 5 := by
  unfold gm_end
  split
  · decide
  split
  · decide
  split
  · decide
  split <;> decide
theorem gm_work_sg (a : Int32) (p s h g : Nat) (v st : Nat → Int32) {k : Nat} (hk : k < 15) : (gm_work a p s h g v st k).2.1 = s ∧ (gm_work a p s h g v st k).2.2.2.1 = g := by
  rcases gm_cases hk with rfl | rfl | rfl | rfl | rfl | rfl | rfl | rfl | rfl | rfl | rfl | rfl | rfl | rfl | rfl <;> exact ⟨rfl, rfl⟩
theorem gm_work_ok {a : Int32} {p s h g k : Nat} {v st : Nat → Int32} (hf : gm_fit k a) (hp : p < 20) (hs : s ≤ 300) (h1 : gm_need k ≤ h) (h2 : h + gm_grow k ≤ 8) (hg : g ≤ 1000000) : gm_ok (gm_work a p s h g v st k) ∧ (gm_work a p s h g v st k).2.1 = s ∧ (gm_work a p s h g v st k).2.2.2.1 = g := by
  obtain ⟨hk, h8, h10⟩ := hf
  have hh : h ≤ 8 := by omega
  rcases gm_cases hk with rfl | rfl | rfl | rfl | rfl | rfl | rfl | rfl | rfl | rfl | rfl | rfl | rfl | rfl | rfl
  · exact ⟨⟨hp, hs, h2, hg⟩, rfl, rfl⟩
  · exact ⟨⟨hp, hs, Nat.le_trans (Nat.sub_le _ _) hh, hg⟩, rfl, rfl⟩
  · exact ⟨⟨hp, hs, Nat.le_trans (Nat.sub_le _ _) hh, hg⟩, rfl, rfl⟩
  · exact ⟨⟨hp, hs, Nat.le_trans (Nat.sub_le _ _) hh, hg⟩, rfl, rfl⟩
  · exact ⟨⟨hp, hs, Nat.le_trans (Nat.sub_le _ _) hh, hg⟩, rfl, rfl⟩
  · exact ⟨⟨hp, hs, h2, hg⟩, rfl, rfl⟩
  · exact ⟨⟨hp, hs, hh, hg⟩, rfl, rfl⟩
  · exact ⟨⟨hp, hs, Nat.le_trans (Nat.sub_le _ _) hh, hg⟩, rfl, rfl⟩
  · exact ⟨⟨hp, hs, h2, hg⟩, rfl, rfl⟩
  · exact ⟨⟨hp, hs, Nat.le_trans (Nat.sub_le _ _) hh, hg⟩, rfl, rfl⟩
  · obtain ⟨m, hm, rfl⟩ := h10 (Or.inl rfl)
    have e : (nI m).toNatClampNeg = m := nI_clamp (by omega)
    exact ⟨⟨by show (nI m).toNatClampNeg ≤ 20; rw [e]; exact hm, hs, hh, hg⟩, rfl, rfl⟩
  · obtain ⟨m, hm, rfl⟩ := h10 (Or.inr rfl)
    have e : (nI m).toNatClampNeg = m := nI_clamp (by omega)
    refine ⟨⟨?_, hs, Nat.le_trans (Nat.sub_le _ _) hh, hg⟩, rfl, rfl⟩
    show (if st (h - 1) = 0 then p + 1 else (nI m).toNatClampNeg) ≤ 20
    rw [e]
    split
    · exact hp
    · exact hm
  · exact ⟨⟨hp, hs, Nat.le_trans (Nat.sub_le _ _) hh, hg⟩, rfl, rfl⟩
  · exact ⟨⟨hp, hs, h2, hg⟩, rfl, rfl⟩
  · exact ⟨⟨Nat.le_of_lt hp, hs, hh, hg⟩, rfl, rfl⟩
theorem gm_go_ok {kk : Nat → Nat} {nn : Nat → Int32} {N : Nat} (hf : ∀ j, gm_fit (kk j) (nn j)) (hN : N ≤ 20) {d : gm_D} (ok : gm_ok d) : gm_ok (gm_go kk nn N d).2 ∧ (gm_go kk nn N d).2.2.2.2.1 ≤ d.2.2.2.1 ∧ ((gm_go kk nn N d).1 = 0 → (gm_go kk nn N d).2.2.1 = d.2.1 + 1 ∧ d.2.1 < 300) := by
  obtain ⟨p, s, h, g, v, st⟩ := d
  obtain ⟨o1, o2, o3, o4⟩ := ok
  dsimp only at o1 o2 o3 o4
  unfold gm_go gm_turn
  dsimp only
  by_cases e : gm_end kk N p s h g st = 0
  · obtain ⟨a1, a2, a3, a4, a5⟩ := gm_end_0 e
    rw [if_pos e]
    by_cases c : kk p = 14
    · rw [if_pos c]
      exact ⟨⟨o1, by show s + 1 ≤ 300; omega, o3, by show g - gm_price (kk p) (st (h - 1)) ≤ 1000000; omega⟩, Nat.sub_le _ _, fun z => absurd (show (1 : Nat) = 0 from z) (by decide)⟩
    · rw [if_neg c]
      obtain ⟨b1, b2, b3⟩ := gm_work_ok (v := v) (st := st) (s := s + 1) (g := g - gm_price (kk p) (st (h - 1))) (hf p) (by omega : p < 20) (by omega) a3 a4 (by omega)
      exact ⟨b1, by show (gm_work _ _ _ _ _ _ _ _).2.2.2.1 ≤ g; rw [b3]; exact Nat.sub_le _ _, fun _ => ⟨b2, by show s < 300; omega⟩⟩
  · rw [if_neg e]
    exact ⟨⟨o1, o2, o3, o4⟩, Nat.le_refl _, fun z => absurd z e⟩
theorem gm_run_ok {kk : Nat → Nat} {nn : Nat → Int32} {N : Nat} (hf : ∀ j, gm_fit (kk j) (nn j)) (hN : N ≤ 20) : ∀ (n : Nat) (d : gm_D), gm_ok d → gm_ok (gm_run kk nn N n d).2 ∧ (gm_run kk nn N n d).2.2.2.2.1 ≤ d.2.2.2.1 := by
  intro n
  induction n with
  | zero => exact fun d ok => ⟨(gm_go_ok hf hN ok).1, (gm_go_ok hf hN ok).2.1⟩
  | succ n ih =>
    intro d ok
    obtain ⟨b1, b2, b3⟩ := gm_go_ok hf hN ok
    rw [gm_run]
    by_cases c : (gm_go kk nn N d).1 = 0
    · rw [if_pos c]
      exact ⟨(ih _ b1).1, Nat.le_trans (ih _ b1).2 b2⟩
    · rw [if_neg c]
      exact ⟨b1, b2⟩
theorem gm_e1 {kk : Nat → Nat} {N p s h g : Nat} {st : Nat → Int32} (c1 : N ≤ p) : gm_end kk N p s h g st = 1 := by
  unfold gm_end; rw [if_pos c1]
theorem gm_e2 {kk : Nat → Nat} {N p s h g : Nat} {st : Nat → Int32} (c1 : p < N) (c2 : s = 300) : gm_end kk N p s h g st = 2 := by
  unfold gm_end; rw [if_neg (Nat.not_le.mpr c1), if_pos c2]
theorem gm_e3 {kk : Nat → Nat} {N p s h g : Nat} {st : Nat → Int32} (c1 : p < N) (c2 : s ≠ 300) (c3 : h < gm_need (kk p) ∨ 8 < h + gm_grow (kk p)) : gm_end kk N p s h g st = 3 := by
  unfold gm_end; rw [if_neg (Nat.not_le.mpr c1), if_neg c2, if_pos c3]
theorem gm_e4 {kk : Nat → Nat} {N p s h g : Nat} {st : Nat → Int32} (c1 : p < N) (c2 : s ≠ 300) (c3 : gm_need (kk p) ≤ h) (c4 : h + gm_grow (kk p) ≤ 8) (c5 : g < gm_price (kk p) (st (h - 1))) : gm_end kk N p s h g st = 4 := by
  unfold gm_end; rw [if_neg (Nat.not_le.mpr c1), if_neg c2, if_neg (show ¬ (h < gm_need (kk p) ∨ 8 < h + gm_grow (kk p)) by omega), if_pos c5]
theorem gm_e0 {kk : Nat → Nat} {N p s h g : Nat} {st : Nat → Int32} (c1 : p < N) (c2 : s ≠ 300) (c3 : gm_need (kk p) ≤ h) (c4 : h + gm_grow (kk p) ≤ 8) (c5 : gm_price (kk p) (st (h - 1)) ≤ g) : gm_end kk N p s h g st = 0 := by
  unfold gm_end; rw [if_neg (Nat.not_le.mpr c1), if_neg c2, if_neg (show ¬ (h < gm_need (kk p) ∨ 8 < h + gm_grow (kk p)) by omega), if_neg (Nat.not_lt.mpr c5)]
theorem gm_ts {kk : Nat → Nat} {nn : Nat → Int32} {N p s h g e : Nat} {v st : Nat → Int32} (c : gm_end kk N p s h g st = e) (hz : e ≠ 0) : gm_turn kk nn N p s h g v st = (e, (p, s, h, g, v, st)) := by
  unfold gm_turn; rw [c, if_neg hz]
theorem gm_t14 {kk : Nat → Nat} {nn : Nat → Int32} {N p s h g : Nat} {v st : Nat → Int32} (c : gm_end kk N p s h g st = 0) (k : kk p = 14) : gm_turn kk nn N p s h g v st = (1, (p, s + 1, h, g - gm_price (kk p) (st (h - 1)), v, st)) := by
  unfold gm_turn; rw [if_pos c, if_pos k]
theorem gm_tw {kk : Nat → Nat} {nn : Nat → Int32} {N p s h g : Nat} {v st : Nat → Int32} (c : gm_end kk N p s h g st = 0) (k : kk p ≠ 14) : gm_turn kk nn N p s h g v st = (0, gm_work (nn p) p (s + 1) h (g - gm_price (kk p) (st (h - 1))) v st (kk p)) := by
  unfold gm_turn; rw [if_pos c, if_neg k]
theorem gm_u {f : Nat → Int32} {n : Nat} {x : Int32} (h : n < 2 ^ 31) : upd f (nI n).toNatClampNeg x = upd f n x := by rw [nI_clamp h]
theorem gm_vin {n M : Nat} (h : n < M) (hM : M < 2 ^ 31) : vp_in (nI n) M ↔ True := ⟨fun _ => trivial, fun _ => vp_in_nI h hM⟩
theorem gm_swap (f : Nat → Int32) (m : Nat) (x y : Int32) : upd (upd f (m + 1) x) m y = upd (upd f m y) (m + 1) x := by
  funext j
  by_cases c : j = m
  · subst c
    rw [pk_us, pk_un (by omega), pk_us]
  · rw [pk_un c]
    by_cases c2 : j = m + 1
    · subst c2
      rw [pk_us, pk_us]
    · rw [pk_un c2, pk_un c2, pk_un c]
def gm_put (kk : Nat → Nat) (i k : Nat) : Nat → Nat := fun j => if j = i then k else kk j
theorem gm_put_upd (kk : Nat → Nat) (i k : Nat) : upd (fun j => nI (kk j)) i (nI k) = fun j => nI (gm_put kk i k j) := by
  funext j
  unfold upd gm_put
  by_cases c : j = i
  · rw [if_pos c, if_pos c]
  · rw [if_neg c, if_neg c]
theorem gm_put_fit {kk : Nat → Nat} {nn : Nat → Int32} {i k : Nat} {a : Int32} (hf : ∀ j, gm_fit (kk j) (nn j)) (h : gm_fit k a) : ∀ j, gm_fit (gm_put kk i k j) (upd nn i a j) := by
  intro j
  unfold upd gm_put
  by_cases c : j = i
  · rw [if_pos c, if_pos c]; exact h
  · rw [if_neg c, if_neg c]; exact hf j
theorem gm_need_le (k : Nat) : gm_need k ≤ 2 := by
  unfold gm_need
  split <;> decide
theorem gm_grow_le (k : Nat) : gm_grow k ≤ 1 := by
  unfold gm_grow
  split <;> decide
theorem gm_go_lt (kk : Nat → Nat) (nn : Nat → Int32) (N : Nat) (d : gm_D) : (gm_go kk nn N d).1 < 5 := by
  unfold gm_go gm_turn
  split
  · split
    · exact (show (1 : Nat) < 5 by decide)
    · exact (show (0 : Nat) < 5 by decide)
  · exact gm_end_lt _ _ _ _ _ _ _
theorem gm_ok0 {g : Nat} {v st : Nat → Int32} (hg : g ≤ 1000000) : gm_ok (0, 0, 0, g, v, st) := ⟨Nat.zero_le _, Nat.zero_le _, Nat.zero_le _, hg⟩
end
end
section
section
/-- two machines that walk alike, the second with c more gas -/
def gm_sim (c : Nat) (d e : gm_D) : Prop := e.1 = d.1 ∧ e.2.1 = d.2.1 ∧ e.2.2.1 = d.2.2.1 ∧ e.2.2.2.1 = d.2.2.2.1 + c ∧ (∀ j, j < 4 → d.2.2.2.2.1 j = e.2.2.2.2.1 j) ∧ (∀ j, j < d.2.2.1 → d.2.2.2.2.2 j = e.2.2.2.2.2 j)
theorem gm_sim_mk {c p s h g : Nat} {v v' st st' : Nat → Int32} (hv : ∀ j, j < 4 → v j = v' j) (hs : ∀ j, j < h → st j = st' j) : gm_sim c (p, s, h, g, v, st) (p, s, h, g + c, v', st') := ⟨rfl, rfl, rfl, rfl, hv, hs⟩
theorem gm_ag {n m i : Nat} {f f' : Nat → Int32} {x y : Int32} (hs : ∀ j, j < n → f j = f' j) (e : x = y) (hm : ∀ j, j < m → j = i ∨ j < n) : ∀ j, j < m → upd f i x j = upd f' i y j := by
  intro j hj
  by_cases c : j = i
  · rw [c, pk_us, pk_us]; exact e
  · rw [pk_un c, pk_un c]
    rcases hm j hj with q | q
    · exact absurd q c
    · exact hs j q
theorem gm_sim_work {c p s h g k : Nat} {a : Int32} {v v' st st' : Nat → Int32} (hf : gm_fit k a) (hv : ∀ j, j < 4 → v j = v' j) (hs : ∀ j, j < h → st j = st' j) (h1 : gm_need k ≤ h) (hc : c = 0 ∨ k ≠ 13) : gm_sim c (gm_work a p s h g v st k) (gm_work a p s h (g + c) v' st' k) := by
  obtain ⟨hk, h8, h10⟩ := hf
  have hd : ∀ j, j < h - 1 → st j = st' j := fun j hj => hs j (by omega)
  rcases gm_cases hk with rfl | rfl | rfl | rfl | rfl | rfl | rfl | rfl | rfl | rfl | rfl | rfl | rfl | rfl | rfl
  · exact gm_sim_mk hv (gm_ag hs rfl (fun j hj => by omega))
  · have h2 : 2 ≤ h := h1
    exact gm_sim_mk hv (gm_ag hs (by rw [hs (h - 2) (by omega), hs (h - 1) (by omega)]) (fun j hj => by omega))
  · have h2 : 2 ≤ h := h1
    exact gm_sim_mk hv (gm_ag hs (by rw [hs (h - 2) (by omega), hs (h - 1) (by omega)]) (fun j hj => by omega))
  · have h2 : 2 ≤ h := h1
    exact gm_sim_mk hv (gm_ag hs (by rw [hs (h - 2) (by omega), hs (h - 1) (by omega)]) (fun j hj => by omega))
  · have h2 : 2 ≤ h := h1
    exact gm_sim_mk hv (gm_ag hs (by rw [hs (h - 2) (by omega), hs (h - 1) (by omega)]) (fun j hj => by omega))
  · have h2 : 1 ≤ h := h1
    exact gm_sim_mk hv (gm_ag hs (hs (h - 1) (by omega)) (fun j hj => by omega))
  · have h2 : 2 ≤ h := h1
    exact gm_sim_mk hv (gm_ag (gm_ag hs (hs (h - 1) (by omega)) (fun j hj => Or.inr hj)) (hs (h - 2) (by omega)) (fun j hj => Or.inr hj))
  · exact gm_sim_mk hv hd
  · obtain ⟨m, hm, rfl⟩ := h8 (Or.inl rfl)
    have e : (nI m).toNatClampNeg = m := nI_clamp (by omega)
    exact gm_sim_mk hv (gm_ag hs (by rw [e]; exact hv m hm) (fun j hj => by omega))
  · have h2 : 1 ≤ h := h1
    exact gm_sim_mk (gm_ag hv (hs (h - 1) (by omega)) (fun j hj => Or.inr hj)) hd
  · exact gm_sim_mk hv hs
  · have h2 : 1 ≤ h := h1
    have e : st' (h - 1) = st (h - 1) := (hs (h - 1) (by omega)).symm
    show gm_sim c (if st (h - 1) = 0 then p + 1 else a.toNatClampNeg, s, h - 1, g, v, st) (if st' (h - 1) = 0 then p + 1 else a.toNatClampNeg, s, h - 1, g + c, v', st')
    rw [e]
    exact gm_sim_mk hv hd
  · exact gm_sim_mk hv hd
  · rcases hc with rfl | hc
    · exact gm_sim_mk hv (gm_ag hs rfl (fun j hj => by omega))
    · exact absurd rfl hc
  · exact gm_sim_mk hv hs
theorem gm_price_eq {k h : Nat} {st st' : Nat → Int32} (hs : ∀ j, j < h → st j = st' j) (h1 : gm_need k ≤ h) : gm_price k (st' (h - 1)) = gm_price k (st (h - 1)) := by
  unfold gm_price
  by_cases c : k = 12
  · rw [if_pos c, if_pos c]
    subst c
    have h2 : 1 ≤ h := h1
    rw [hs (h - 1) (by omega)]
  · rw [if_neg c, if_neg c]
def gm_rich (kk : Nat → Nat) (N c : Nat) (d : gm_D) : Prop := c = 0 ∨ ((∀ j, j < N → kk j ≠ 13) ∧ 16 * (300 - d.2.1) ≤ d.2.2.2.1)
theorem gm_sim_end {kk : Nat → Nat} {N c p s h g : Nat} {v st st' : Nat → Int32} (hk : ∀ j, kk j < 15) (hs : ∀ j, j < h → st j = st' j) (ok : s ≤ 300) (hr : gm_rich kk N c (p, s, h, g, v, st)) : gm_end kk N p s h (g + c) st' = gm_end kk N p s h g st := by
  unfold gm_end
  by_cases c1 : N ≤ p
  · rw [if_pos c1, if_pos c1]
  rw [if_neg c1, if_neg c1]
  by_cases c2 : s = 300
  · rw [if_pos c2, if_pos c2]
  rw [if_neg c2, if_neg c2]
  by_cases c3 : h < gm_need (kk p) ∨ 8 < h + gm_grow (kk p)
  · rw [if_pos c3, if_pos c3]
  rw [if_neg c3, if_neg c3, gm_price_eq hs (by omega)]
  rcases hr with rfl | ⟨_, hr⟩
  · rfl
  · have hp := gm_price_le (st (h - 1)) (hk p)
    have hr' : 16 * (300 - s) ≤ g := hr
    have q1 : ¬ g + c < gm_price (kk p) (st (h - 1)) := by omega
    have q2 : ¬ g < gm_price (kk p) (st (h - 1)) := by omega
    rw [if_neg q1, if_neg q2]
theorem gm_sim_go {kk : Nat → Nat} {nn : Nat → Int32} {N c : Nat} (hf : ∀ j, gm_fit (kk j) (nn j)) {d e : gm_D} (ok : d.2.1 ≤ 300) (hr : gm_rich kk N c d) (hd : gm_sim c d e) : (gm_go kk nn N e).1 = (gm_go kk nn N d).1 ∧ gm_sim c (gm_go kk nn N d).2 (gm_go kk nn N e).2 ∧ ((gm_go kk nn N d).1 = 0 → gm_rich kk N c (gm_go kk nn N d).2) := by
  obtain ⟨p, s, h, g, v, st⟩ := d
  obtain ⟨p', s', h', g', v', st'⟩ := e
  obtain ⟨e1, e2, e3, e4, hv, hs⟩ := hd
  dsimp only at e1 e2 e3 e4 hv hs ok
  subst e1 e2 e3 e4
  unfold gm_go gm_turn
  dsimp only
  rw [gm_sim_end (fun j => (hf j).1) hs ok hr]
  by_cases z : gm_end kk N p' s' h' g st = 0
  · obtain ⟨a1, a2, a3, a4, a5⟩ := gm_end_0 z
    rw [if_pos z, if_pos z, gm_price_eq hs a3, Nat.sub_add_comm a5]
    by_cases q : kk p' = 14
    · rw [if_pos q, if_pos q]
      exact ⟨rfl, gm_sim_mk hv hs, fun y => absurd (show (1 : Nat) = 0 from y) (by decide)⟩
    · rw [if_neg q, if_neg q]
      refine ⟨rfl, gm_sim_work (hf p') hv hs a3 ?_, fun _ => ?_⟩
      · rcases hr with hr | ⟨hr, _⟩
        · exact Or.inl hr
        · exact Or.inr (hr p' a1)
      · rcases hr with hr | ⟨hr, hg⟩
        · exact Or.inl hr
        · have hp := gm_price_le (st (h' - 1)) (hf p').1
          have hg' : 16 * (300 - s') ≤ g := hg
          refine Or.inr ⟨hr, ?_⟩
          have w := gm_work_sg (nn p') p' (s' + 1) h' (g - gm_price (kk p') (st (h' - 1))) v st (hf p').1
          show 16 * (300 - (gm_work _ _ _ _ _ _ _ _).2.1) ≤ (gm_work _ _ _ _ _ _ _ _).2.2.2.1
          rw [w.1, w.2]
          omega
  · rw [if_neg z, if_neg z]
    exact ⟨rfl, gm_sim_mk hv hs, fun y => absurd y z⟩
theorem gm_sim_run {kk : Nat → Nat} {nn : Nat → Int32} {N c : Nat} (hf : ∀ j, gm_fit (kk j) (nn j)) (hN : N ≤ 20) : ∀ (n : Nat) (d e : gm_D), gm_ok d → gm_rich kk N c d → gm_sim c d e → (gm_run kk nn N n e).1 = (gm_run kk nn N n d).1 ∧ gm_sim c (gm_run kk nn N n d).2 (gm_run kk nn N n e).2 := by
  intro n
  induction n with
  | zero => exact fun d e ok hr hd => ⟨(gm_sim_go hf ok.2.1 hr hd).1, (gm_sim_go hf ok.2.1 hr hd).2.1⟩
  | succ n ih =>
    intro d e ok hr hd
    obtain ⟨b1, b2, b3⟩ := gm_sim_go hf ok.2.1 hr hd
    rw [gm_run, gm_run, b1]
    by_cases z : (gm_go kk nn N d).1 = 0
    · rw [if_pos z, if_pos z]
      exact ih _ _ (gm_go_ok hf hN ok).1 (b3 z) b2
    · rw [if_neg z, if_neg z]
      exact ⟨b1, b2⟩
end
end
section
section
theorem gx_needed {k : Nat} (hk : k < 15) {post : Int32 → Prop} (H : post (nI (gm_need k))) : wpX_needed post (nI k) := by
  rcases gm_cases hk with rfl | rfl | rfl | rfl | rfl | rfl | rfl | rfl | rfl | rfl | rfl | rfl | rfl | rfl | rfl
  ·
    repeat first
      | exact H
      | refine br_t (by first | assumption | decide) ?_
      | refine br_f (by first | assumption | decide) ?_
      | refine And.intro rfl ?_
      | refine nm_e ?_
  ·
    repeat first
      | exact H
      | refine br_t (by first | assumption | decide) ?_
      | refine br_f (by first | assumption | decide) ?_
      | refine And.intro rfl ?_
      | refine nm_e ?_
  ·
    repeat first
      | exact H
      | refine br_t (by first | assumption | decide) ?_
      | refine br_f (by first | assumption | decide) ?_
      | refine And.intro rfl ?_
      | refine nm_e ?_
  ·
    repeat first
      | exact H
      | refine br_t (by first | assumption | decide) ?_
      | refine br_f (by first | assumption | decide) ?_
      | refine And.intro rfl ?_
      | refine nm_e ?_
  ·
    repeat first
      | exact H
      | refine br_t (by first | assumption | decide) ?_
      | refine br_f (by first | assumption | decide) ?_
      | refine And.intro rfl ?_
      | refine nm_e ?_
  ·
    repeat first
      | exact H
      | refine br_t (by first | assumption | decide) ?_
      | refine br_f (by first | assumption | decide) ?_
      | refine And.intro rfl ?_
      | refine nm_e ?_
  ·
    repeat first
      | exact H
      | refine br_t (by first | assumption | decide) ?_
      | refine br_f (by first | assumption | decide) ?_
      | refine And.intro rfl ?_
      | refine nm_e ?_
  ·
    repeat first
      | exact H
      | refine br_t (by first | assumption | decide) ?_
      | refine br_f (by first | assumption | decide) ?_
      | refine And.intro rfl ?_
      | refine nm_e ?_
  ·
    repeat first
      | exact H
      | refine br_t (by first | assumption | decide) ?_
      | refine br_f (by first | assumption | decide) ?_
      | refine And.intro rfl ?_
      | refine nm_e ?_
  ·
    repeat first
      | exact H
      | refine br_t (by first | assumption | decide) ?_
      | refine br_f (by first | assumption | decide) ?_
      | refine And.intro rfl ?_
      | refine nm_e ?_
  ·
    repeat first
      | exact H
      | refine br_t (by first | assumption | decide) ?_
      | refine br_f (by first | assumption | decide) ?_
      | refine And.intro rfl ?_
      | refine nm_e ?_
  ·
    repeat first
      | exact H
      | refine br_t (by first | assumption | decide) ?_
      | refine br_f (by first | assumption | decide) ?_
      | refine And.intro rfl ?_
      | refine nm_e ?_
  ·
    repeat first
      | exact H
      | refine br_t (by first | assumption | decide) ?_
      | refine br_f (by first | assumption | decide) ?_
      | refine And.intro rfl ?_
      | refine nm_e ?_
  ·
    repeat first
      | exact H
      | refine br_t (by first | assumption | decide) ?_
      | refine br_f (by first | assumption | decide) ?_
      | refine And.intro rfl ?_
      | refine nm_e ?_
  ·
    repeat first
      | exact H
      | refine br_t (by first | assumption | decide) ?_
      | refine br_f (by first | assumption | decide) ?_
      | refine And.intro rfl ?_
      | refine nm_e ?_
theorem gx_growth {k : Nat} (hk : k < 15) {post : Int32 → Prop} (H : post (nI (gm_grow k))) : wpX_growth post (nI k) := by
  rcases gm_cases hk with rfl | rfl | rfl | rfl | rfl | rfl | rfl | rfl | rfl | rfl | rfl | rfl | rfl | rfl | rfl
  ·
    repeat first
      | exact H
      | refine br_t (by first | assumption | decide) ?_
      | refine br_f (by first | assumption | decide) ?_
      | refine And.intro rfl ?_
      | refine nm_e ?_
  ·
    repeat first
      | exact H
      | refine br_t (by first | assumption | decide) ?_
      | refine br_f (by first | assumption | decide) ?_
      | refine And.intro rfl ?_
      | refine nm_e ?_
  ·
    repeat first
      | exact H
      | refine br_t (by first | assumption | decide) ?_
      | refine br_f (by first | assumption | decide) ?_
      | refine And.intro rfl ?_
      | refine nm_e ?_
  ·
    repeat first
      | exact H
      | refine br_t (by first | assumption | decide) ?_
      | refine br_f (by first | assumption | decide) ?_
      | refine And.intro rfl ?_
      | refine nm_e ?_
  ·
    repeat first
      | exact H
      | refine br_t (by first | assumption | decide) ?_
      | refine br_f (by first | assumption | decide) ?_
      | refine And.intro rfl ?_
      | refine nm_e ?_
  ·
    repeat first
      | exact H
      | refine br_t (by first | assumption | decide) ?_
      | refine br_f (by first | assumption | decide) ?_
      | refine And.intro rfl ?_
      | refine nm_e ?_
  ·
    repeat first
      | exact H
      | refine br_t (by first | assumption | decide) ?_
      | refine br_f (by first | assumption | decide) ?_
      | refine And.intro rfl ?_
      | refine nm_e ?_
  ·
    repeat first
      | exact H
      | refine br_t (by first | assumption | decide) ?_
      | refine br_f (by first | assumption | decide) ?_
      | refine And.intro rfl ?_
      | refine nm_e ?_
  ·
    repeat first
      | exact H
      | refine br_t (by first | assumption | decide) ?_
      | refine br_f (by first | assumption | decide) ?_
      | refine And.intro rfl ?_
      | refine nm_e ?_
  ·
    repeat first
      | exact H
      | refine br_t (by first | assumption | decide) ?_
      | refine br_f (by first | assumption | decide) ?_
      | refine And.intro rfl ?_
      | refine nm_e ?_
  ·
    repeat first
      | exact H
      | refine br_t (by first | assumption | decide) ?_
      | refine br_f (by first | assumption | decide) ?_
      | refine And.intro rfl ?_
      | refine nm_e ?_
  ·
    repeat first
      | exact H
      | refine br_t (by first | assumption | decide) ?_
      | refine br_f (by first | assumption | decide) ?_
      | refine And.intro rfl ?_
      | refine nm_e ?_
  ·
    repeat first
      | exact H
      | refine br_t (by first | assumption | decide) ?_
      | refine br_f (by first | assumption | decide) ?_
      | refine And.intro rfl ?_
      | refine nm_e ?_
  ·
    repeat first
      | exact H
      | refine br_t (by first | assumption | decide) ?_
      | refine br_f (by first | assumption | decide) ?_
      | refine And.intro rfl ?_
      | refine nm_e ?_
  ·
    repeat first
      | exact H
      | refine br_t (by first | assumption | decide) ?_
      | refine br_f (by first | assumption | decide) ?_
      | refine And.intro rfl ?_
      | refine nm_e ?_
theorem gx_fixedPrice {k : Nat} (hk : k < 15) {post : Int32 → Prop} (H : post (nI (gm_fix k))) : wpX_fixedPrice post (nI k) := by
  rcases gm_cases hk with rfl | rfl | rfl | rfl | rfl | rfl | rfl | rfl | rfl | rfl | rfl | rfl | rfl | rfl | rfl
  ·
    repeat first
      | exact H
      | refine br_t (by first | assumption | decide) ?_
      | refine br_f (by first | assumption | decide) ?_
      | refine And.intro rfl ?_
      | refine nm_e ?_
  ·
    repeat first
      | exact H
      | refine br_t (by first | assumption | decide) ?_
      | refine br_f (by first | assumption | decide) ?_
      | refine And.intro rfl ?_
      | refine nm_e ?_
  ·
    repeat first
      | exact H
      | refine br_t (by first | assumption | decide) ?_
      | refine br_f (by first | assumption | decide) ?_
      | refine And.intro rfl ?_
      | refine nm_e ?_
  ·
    repeat first
      | exact H
      | refine br_t (by first | assumption | decide) ?_
      | refine br_f (by first | assumption | decide) ?_
      | refine And.intro rfl ?_
      | refine nm_e ?_
  ·
    repeat first
      | exact H
      | refine br_t (by first | assumption | decide) ?_
      | refine br_f (by first | assumption | decide) ?_
      | refine And.intro rfl ?_
      | refine nm_e ?_
  ·
    repeat first
      | exact H
      | refine br_t (by first | assumption | decide) ?_
      | refine br_f (by first | assumption | decide) ?_
      | refine And.intro rfl ?_
      | refine nm_e ?_
  ·
    repeat first
      | exact H
      | refine br_t (by first | assumption | decide) ?_
      | refine br_f (by first | assumption | decide) ?_
      | refine And.intro rfl ?_
      | refine nm_e ?_
  ·
    repeat first
      | exact H
      | refine br_t (by first | assumption | decide) ?_
      | refine br_f (by first | assumption | decide) ?_
      | refine And.intro rfl ?_
      | refine nm_e ?_
  ·
    repeat first
      | exact H
      | refine br_t (by first | assumption | decide) ?_
      | refine br_f (by first | assumption | decide) ?_
      | refine And.intro rfl ?_
      | refine nm_e ?_
  ·
    repeat first
      | exact H
      | refine br_t (by first | assumption | decide) ?_
      | refine br_f (by first | assumption | decide) ?_
      | refine And.intro rfl ?_
      | refine nm_e ?_
  ·
    repeat first
      | exact H
      | refine br_t (by first | assumption | decide) ?_
      | refine br_f (by first | assumption | decide) ?_
      | refine And.intro rfl ?_
      | refine nm_e ?_
  ·
    repeat first
      | exact H
      | refine br_t (by first | assumption | decide) ?_
      | refine br_f (by first | assumption | decide) ?_
      | refine And.intro rfl ?_
      | refine nm_e ?_
  ·
    repeat first
      | exact H
      | refine br_t (by first | assumption | decide) ?_
      | refine br_f (by first | assumption | decide) ?_
      | refine And.intro rfl ?_
      | refine nm_e ?_
  ·
    repeat first
      | exact H
      | refine br_t (by first | assumption | decide) ?_
      | refine br_f (by first | assumption | decide) ?_
      | refine And.intro rfl ?_
      | refine nm_e ?_
  ·
    repeat first
      | exact H
      | refine br_t (by first | assumption | decide) ?_
      | refine br_f (by first | assumption | decide) ?_
      | refine And.intro rfl ?_
      | refine nm_e ?_
theorem gx_comb1 {x y : Int32} {post : Int32 → Prop} (H : post (x + y)) : wpX_combined post (nI 1) x y := by
  repeat first
    | exact H
    | refine br_t (by first | assumption | decide) ?_
    | refine br_f (by first | assumption | decide) ?_
    | refine And.intro rfl ?_
    | refine nm_e ?_
theorem gx_comb2 {x y : Int32} {post : Int32 → Prop} (H : post (x - y)) : wpX_combined post (nI 2) x y := by
  repeat first
    | exact H
    | refine br_t (by first | assumption | decide) ?_
    | refine br_f (by first | assumption | decide) ?_
    | refine And.intro rfl ?_
    | refine nm_e ?_
theorem gx_comb3 {x y : Int32} {post : Int32 → Prop} (H : post (x * y)) : wpX_combined post (nI 3) x y := by
  repeat first
    | exact H
    | refine br_t (by first | assumption | decide) ?_
    | refine br_f (by first | assumption | decide) ?_
    | refine And.intro rfl ?_
    | refine nm_e ?_
theorem gx_comb4 {x y : Int32} {post : Int32 → Prop} (H : post (if x < y then 1 else 0)) : wpX_combined post (nI 4) x y := by
  by_cases c : x < y
  · have c' : ¬ y ≤ x := Int32.not_le.mpr c
    rw [if_pos c] at H
    repeat first
      | exact H
      | refine br_t (by first | assumption | decide) ?_
      | refine br_f (by first | assumption | decide) ?_
      | refine And.intro rfl ?_
      | refine nm_e ?_
  · have c' : y ≤ x := Int32.not_lt.mp c
    rw [if_neg c] at H
    repeat first
      | exact H
      | refine br_t (by first | assumption | decide) ?_
      | refine br_f (by first | assumption | decide) ?_
      | refine And.intro rfl ?_
      | refine nm_e ?_
theorem gx_isVar_t {j : Nat} (hj : j < 4) {post : Int32 → Prop} (H : post 1) : wpX_isVariable post (nI j) := by
  have c1 : ¬ nI j < 0 := nI_pos (by omega)
  have c2 : ¬ 4 ≤ nI j := nI_ge (b := 4) hj (by decide)
  have c3 : nI j < 4 := nI_lt (b := 4) hj (by decide)
  have c4 : 0 ≤ nI j := nI_pos' (by omega)
  repeat first
    | exact H
    | refine br_t (by first | assumption | decide) ?_
    | refine br_f (by first | assumption | decide) ?_
    | refine And.intro rfl ?_
    | refine nm_e ?_
theorem gx_isVar_f {v : Int32} (hv : v < 0 ∨ nI 4 ≤ v) {post : Int32 → Prop} (H : post 0) : wpX_isVariable post v := by
  by_cases c : v < 0
  · have c4 : ¬ 0 ≤ v := Int32.not_le.mpr c
    repeat first
      | exact H
      | refine br_t (by first | assumption | decide) ?_
      | refine br_f (by first | assumption | decide) ?_
      | refine And.intro rfl ?_
      | refine nm_e ?_
  · have c2 : 4 ≤ v := hv.resolve_left c
    have c3 : ¬ v < 4 := Int32.not_lt.mpr c2
    have c4 : 0 ≤ v := Int32.not_lt.mp c
    repeat first
      | exact H
      | refine br_t (by first | assumption | decide) ?_
      | refine br_f (by first | assumption | decide) ?_
      | refine And.intro rfl ?_
      | refine nm_e ?_
/-- what append and change ask of an instruction with code k -/
def gm_good (k : Nat) (a : Int32) : Prop := (k = 0 → ¬ a < -100 ∧ ¬ 100 < a) ∧ (k = 8 ∨ k = 9 → ∃ m : Nat, m < 4 ∧ a = nI m) ∧ (k = 10 ∨ k = 11 → ∃ m : Nat, m < 21 ∧ a = nI m)
theorem gm_good_fit {k : Nat} {a : Int32} (hk : k < 15) (h : gm_good k a) : gm_fit k a := ⟨hk, h.2.1, fun c => (h.2.2 c).elim fun m hm => ⟨m, Nat.le_of_lt_succ hm.1, hm.2⟩⟩
theorem gm_nvar {a : Int32} {n : Nat} (hn : n < 2 ^ 31) (h : a < 0 ∨ nI n ≤ a) : ¬ ∃ m : Nat, m < n ∧ a = nI m := by
  rintro ⟨m, hm, rfl⟩
  rcases h with h | h
  · exact nI_pos (by omega) h
  · exact nI_ge hm hn h
theorem gx_ins {k : Nat} {a : Int32} (hk : k < 15) {post : Int32 → Prop} (Ht : gm_good k a → post 1) (Hf : ¬ gm_good k a → post 0) : wpX_isInstruction post (nI k) a := by
  rcases gm_cases hk with rfl | rfl | rfl | rfl | rfl | rfl | rfl | rfl | rfl | rfl | rfl | rfl | rfl | rfl | rfl
  · by_cases c1 : a < -100
    · have H := Hf (fun g => (g.1 rfl).1 c1)
      have d1 : ¬ -100 ≤ a := Int32.not_le.mpr c1
      repeat first
        | exact H
        | refine br_t (by first | assumption | decide) ?_
        | refine br_f (by first | assumption | decide) ?_
        | refine And.intro rfl ?_
        | refine nm_e ?_
    · have d1 : -100 ≤ a := Int32.not_lt.mp c1
      by_cases c2 : 100 < a
      · have H := Hf (fun g => (g.1 rfl).2 c2)
        have d2 : ¬ a ≤ 100 := Int32.not_le.mpr c2
        repeat first
          | exact H
          | refine br_t (by first | assumption | decide) ?_
          | refine br_f (by first | assumption | decide) ?_
          | refine And.intro rfl ?_
          | refine nm_e ?_
      · have H := Ht ⟨fun _ => ⟨c1, c2⟩, fun h => absurd h (by decide), fun h => absurd h (by decide)⟩
        have d2 : a ≤ 100 := Int32.not_lt.mp c2
        repeat first
          | exact H
          | refine br_t (by first | assumption | decide) ?_
          | refine br_f (by first | assumption | decide) ?_
          | refine And.intro rfl ?_
          | refine nm_e ?_
  · have H := Ht ⟨fun h => absurd h (by decide), fun h => absurd h (by decide), fun h => absurd h (by decide)⟩
    repeat first
      | exact H
      | refine br_t (by first | assumption | decide) ?_
      | refine br_f (by first | assumption | decide) ?_
      | refine And.intro rfl ?_
      | refine nm_e ?_
  · have H := Ht ⟨fun h => absurd h (by decide), fun h => absurd h (by decide), fun h => absurd h (by decide)⟩
    repeat first
      | exact H
      | refine br_t (by first | assumption | decide) ?_
      | refine br_f (by first | assumption | decide) ?_
      | refine And.intro rfl ?_
      | refine nm_e ?_
  · have H := Ht ⟨fun h => absurd h (by decide), fun h => absurd h (by decide), fun h => absurd h (by decide)⟩
    repeat first
      | exact H
      | refine br_t (by first | assumption | decide) ?_
      | refine br_f (by first | assumption | decide) ?_
      | refine And.intro rfl ?_
      | refine nm_e ?_
  · have H := Ht ⟨fun h => absurd h (by decide), fun h => absurd h (by decide), fun h => absurd h (by decide)⟩
    repeat first
      | exact H
      | refine br_t (by first | assumption | decide) ?_
      | refine br_f (by first | assumption | decide) ?_
      | refine And.intro rfl ?_
      | refine nm_e ?_
  · have H := Ht ⟨fun h => absurd h (by decide), fun h => absurd h (by decide), fun h => absurd h (by decide)⟩
    repeat first
      | exact H
      | refine br_t (by first | assumption | decide) ?_
      | refine br_f (by first | assumption | decide) ?_
      | refine And.intro rfl ?_
      | refine nm_e ?_
  · have H := Ht ⟨fun h => absurd h (by decide), fun h => absurd h (by decide), fun h => absurd h (by decide)⟩
    repeat first
      | exact H
      | refine br_t (by first | assumption | decide) ?_
      | refine br_f (by first | assumption | decide) ?_
      | refine And.intro rfl ?_
      | refine nm_e ?_
  · have H := Ht ⟨fun h => absurd h (by decide), fun h => absurd h (by decide), fun h => absurd h (by decide)⟩
    repeat first
      | exact H
      | refine br_t (by first | assumption | decide) ?_
      | refine br_f (by first | assumption | decide) ?_
      | refine And.intro rfl ?_
      | refine nm_e ?_
  ·
    rcases pk_ix a (n := 4) (by decide) with c | c | ⟨m, hm, rfl⟩
    · have H := Hf (fun g => gm_nvar (n := 4) (by decide) (Or.inl c) (g.2.1 (by decide)))
      have d1 : ¬ 0 ≤ a := Int32.not_le.mpr c
      repeat first
        | exact H
        | refine br_t (by first | assumption | decide) ?_
        | refine br_f (by first | assumption | decide) ?_
        | refine And.intro rfl ?_
        | refine nm_e ?_
    · have H := Hf (fun g => gm_nvar (n := 4) (by decide) (Or.inr c) (g.2.1 (by decide)))
      have d1 : 4 ≤ a := c
      have d0 : ¬ a < 4 := Int32.not_lt.mpr c
      have d2 : 3 < a := Int32.lt_of_lt_of_le (by decide) d1
      have d3 : ¬ a ≤ 3 := Int32.not_le.mpr d2
      have d4 : ¬ a < 0 := fun z => Int32.lt_irrefl (Int32.lt_trans z (Int32.lt_of_lt_of_le (by decide) d1))
      have d5 : 0 ≤ a := Int32.not_lt.mp d4
      repeat first
        | exact H
        | refine br_t (by first | assumption | decide) ?_
        | refine br_f (by first | assumption | decide) ?_
        | refine And.intro rfl ?_
        | refine nm_e ?_
    · have H := Ht (by refine ⟨?_, ?_, ?_⟩ <;> first | exact fun h => absurd h (by decide) | exact fun _ => ⟨m, hm, rfl⟩)
      have d1 : ¬ nI m < 0 := nI_pos (by omega)
      have d5 : 0 ≤ nI m := nI_pos' (by omega)
      have d2 : ¬ 4 ≤ nI m := nI_ge (b := 4) hm (by decide)
      have d3 : ¬ 3 < nI m := nI_nlt (a := 3) (b := m) (by omega) (by decide)
      have d4 : nI m ≤ 3 := nI_le (b := 3) (by omega) (by decide)
      repeat first
        | exact H
        | refine br_t (by first | assumption | decide) ?_
        | refine br_f (by first | assumption | decide) ?_
        | refine And.intro rfl ?_
        | refine nm_e ?_
  ·
    rcases pk_ix a (n := 4) (by decide) with c | c | ⟨m, hm, rfl⟩
    · have H := Hf (fun g => gm_nvar (n := 4) (by decide) (Or.inl c) (g.2.1 (by decide)))
      have d1 : ¬ 0 ≤ a := Int32.not_le.mpr c
      repeat first
        | exact H
        | refine br_t (by first | assumption | decide) ?_
        | refine br_f (by first | assumption | decide) ?_
        | refine And.intro rfl ?_
        | refine nm_e ?_
    · have H := Hf (fun g => gm_nvar (n := 4) (by decide) (Or.inr c) (g.2.1 (by decide)))
      have d1 : 4 ≤ a := c
      have d0 : ¬ a < 4 := Int32.not_lt.mpr c
      have d2 : 3 < a := Int32.lt_of_lt_of_le (by decide) d1
      have d3 : ¬ a ≤ 3 := Int32.not_le.mpr d2
      have d4 : ¬ a < 0 := fun z => Int32.lt_irrefl (Int32.lt_trans z (Int32.lt_of_lt_of_le (by decide) d1))
      have d5 : 0 ≤ a := Int32.not_lt.mp d4
      repeat first
        | exact H
        | refine br_t (by first | assumption | decide) ?_
        | refine br_f (by first | assumption | decide) ?_
        | refine And.intro rfl ?_
        | refine nm_e ?_
    · have H := Ht (by refine ⟨?_, ?_, ?_⟩ <;> first | exact fun h => absurd h (by decide) | exact fun _ => ⟨m, hm, rfl⟩)
      have d1 : ¬ nI m < 0 := nI_pos (by omega)
      have d5 : 0 ≤ nI m := nI_pos' (by omega)
      have d2 : ¬ 4 ≤ nI m := nI_ge (b := 4) hm (by decide)
      have d3 : ¬ 3 < nI m := nI_nlt (a := 3) (b := m) (by omega) (by decide)
      have d4 : nI m ≤ 3 := nI_le (b := 3) (by omega) (by decide)
      repeat first
        | exact H
        | refine br_t (by first | assumption | decide) ?_
        | refine br_f (by first | assumption | decide) ?_
        | refine And.intro rfl ?_
        | refine nm_e ?_
  ·
    rcases pk_ix a (n := 21) (by decide) with c | c | ⟨m, hm, rfl⟩
    · have H := Hf (fun g => gm_nvar (n := 21) (by decide) (Or.inl c) (g.2.2 (by decide)))
      have d1 : ¬ 0 ≤ a := Int32.not_le.mpr c
      repeat first
        | exact H
        | refine br_t (by first | assumption | decide) ?_
        | refine br_f (by first | assumption | decide) ?_
        | refine And.intro rfl ?_
        | refine nm_e ?_
    · have H := Hf (fun g => gm_nvar (n := 21) (by decide) (Or.inr c) (g.2.2 (by decide)))
      have d1 : 21 ≤ a := c
      have d0 : ¬ a < 21 := Int32.not_lt.mpr c
      have d2 : 20 < a := Int32.lt_of_lt_of_le (by decide) d1
      have d3 : ¬ a ≤ 20 := Int32.not_le.mpr d2
      have d4 : ¬ a < 0 := fun z => Int32.lt_irrefl (Int32.lt_trans z (Int32.lt_of_lt_of_le (by decide) d1))
      have d5 : 0 ≤ a := Int32.not_lt.mp d4
      repeat first
        | exact H
        | refine br_t (by first | assumption | decide) ?_
        | refine br_f (by first | assumption | decide) ?_
        | refine And.intro rfl ?_
        | refine nm_e ?_
    · have H := Ht (by refine ⟨?_, ?_, ?_⟩ <;> first | exact fun h => absurd h (by decide) | exact fun _ => ⟨m, hm, rfl⟩)
      have d1 : ¬ nI m < 0 := nI_pos (by omega)
      have d5 : 0 ≤ nI m := nI_pos' (by omega)
      have d2 : ¬ 21 ≤ nI m := nI_ge (b := 21) hm (by decide)
      have d3 : ¬ 20 < nI m := nI_nlt (a := 20) (b := m) (by omega) (by decide)
      have d4 : nI m ≤ 20 := nI_le (b := 20) (by omega) (by decide)
      repeat first
        | exact H
        | refine br_t (by first | assumption | decide) ?_
        | refine br_f (by first | assumption | decide) ?_
        | refine And.intro rfl ?_
        | refine nm_e ?_
  ·
    rcases pk_ix a (n := 21) (by decide) with c | c | ⟨m, hm, rfl⟩
    · have H := Hf (fun g => gm_nvar (n := 21) (by decide) (Or.inl c) (g.2.2 (by decide)))
      have d1 : ¬ 0 ≤ a := Int32.not_le.mpr c
      repeat first
        | exact H
        | refine br_t (by first | assumption | decide) ?_
        | refine br_f (by first | assumption | decide) ?_
        | refine And.intro rfl ?_
        | refine nm_e ?_
    · have H := Hf (fun g => gm_nvar (n := 21) (by decide) (Or.inr c) (g.2.2 (by decide)))
      have d1 : 21 ≤ a := c
      have d0 : ¬ a < 21 := Int32.not_lt.mpr c
      have d2 : 20 < a := Int32.lt_of_lt_of_le (by decide) d1
      have d3 : ¬ a ≤ 20 := Int32.not_le.mpr d2
      have d4 : ¬ a < 0 := fun z => Int32.lt_irrefl (Int32.lt_trans z (Int32.lt_of_lt_of_le (by decide) d1))
      have d5 : 0 ≤ a := Int32.not_lt.mp d4
      repeat first
        | exact H
        | refine br_t (by first | assumption | decide) ?_
        | refine br_f (by first | assumption | decide) ?_
        | refine And.intro rfl ?_
        | refine nm_e ?_
    · have H := Ht (by refine ⟨?_, ?_, ?_⟩ <;> first | exact fun h => absurd h (by decide) | exact fun _ => ⟨m, hm, rfl⟩)
      have d1 : ¬ nI m < 0 := nI_pos (by omega)
      have d5 : 0 ≤ nI m := nI_pos' (by omega)
      have d2 : ¬ 21 ≤ nI m := nI_ge (b := 21) hm (by decide)
      have d3 : ¬ 20 < nI m := nI_nlt (a := 20) (b := m) (by omega) (by decide)
      have d4 : nI m ≤ 20 := nI_le (b := 20) (by omega) (by decide)
      repeat first
        | exact H
        | refine br_t (by first | assumption | decide) ?_
        | refine br_f (by first | assumption | decide) ?_
        | refine And.intro rfl ?_
        | refine nm_e ?_
  · have H := Ht ⟨fun h => absurd h (by decide), fun h => absurd h (by decide), fun h => absurd h (by decide)⟩
    repeat first
      | exact H
      | refine br_t (by first | assumption | decide) ?_
      | refine br_f (by first | assumption | decide) ?_
      | refine And.intro rfl ?_
      | refine nm_e ?_
  · have H := Ht ⟨fun h => absurd h (by decide), fun h => absurd h (by decide), fun h => absurd h (by decide)⟩
    repeat first
      | exact H
      | refine br_t (by first | assumption | decide) ?_
      | refine br_f (by first | assumption | decide) ?_
      | refine And.intro rfl ?_
      | refine nm_e ?_
  · have H := Ht ⟨fun h => absurd h (by decide), fun h => absurd h (by decide), fun h => absurd h (by decide)⟩
    repeat first
      | exact H
      | refine br_t (by first | assumption | decide) ?_
      | refine br_f (by first | assumption | decide) ?_
      | refine And.intro rfl ?_
      | refine nm_e ?_
theorem gx_ins_o {op a : Int32} (ho : op < 0 ∨ nI 15 ≤ op) {post : Int32 → Prop} (H : post 0) : wpX_isInstruction post op a := by
  by_cases c : op < 0
  · have d1 : ¬ 0 ≤ op := Int32.not_le.mpr c
    repeat first
      | exact H
      | refine br_t (by first | assumption | decide) ?_
      | refine br_f (by first | assumption | decide) ?_
      | refine And.intro rfl ?_
      | refine nm_e ?_
  · have d1 : (15 : Int32) ≤ op := ho.resolve_left c
    have d2 : (14 : Int32) < op := Int32.lt_of_lt_of_le (by decide) d1
    have d3 : (11 : Int32) < op := Int32.lt_of_lt_of_le (by decide) d1
    have d4 : 0 ≤ op := Int32.not_lt.mp c
    have d5 : ¬ op ≤ 14 := Int32.not_le.mpr d2
    repeat first
      | exact H
      | refine br_t (by first | assumption | decide) ?_
      | refine br_f (by first | assumption | decide) ?_
      | refine And.intro rfl ?_
      | refine nm_e ?_
end
end
section
section
variable {N : Nat} {gl le lp ls lz lh : Int32} {kk : Nat → Nat} {nn v0 q0 : Nat → Int32} {p s h m g : Nat} {v st : Nat → Int32} {a x : Int32}
theorem gx_put_A {post : SX → Prop} (hh : h < 8) (H : post (nI N, gl, le, lp, ls, lz, lh, nI p, nI s, nI (h + 1), nI g, fun j => nI (kk j), nn, v, upd st h x, v0, q0)) : wpX_put__lastPile post (nI N, gl, le, lp, ls, lz, lh, nI p, nI s, nI h, nI g, fun j => nI (kk j), nn, v, st, v0, q0) x :=
  And.intro (vp_in_nI hh (by decide)) (nm_r (gm_u (by omega)) (nm_r (nI_1 h) H))
theorem gx_exch_A {post : SX → Prop} (hh : m + 2 ≤ 8) (H : post (nI N, gl, le, lp, ls, lz, lh, nI p, nI s, nI (m + 2), nI g, fun j => nI (kk j), nn, v, upd (upd st m (st (m + 1))) (m + 1) (st m), v0, q0)) : wpX_exchange__lastPile post (nI N, gl, le, lp, ls, lz, lh, nI p, nI s, nI (m + 2), nI g, fun j => nI (kk j), nn, v, st, v0, q0) (nI (m + 1)) := by
  rw [← gm_swap] at H
  simp (disch := omega) only [wpX_exchange__lastPile, forall_eq, true_and, nI_1, nI_pred, nI_clamp, gm_vin]
  exact H
theorem gx_w0_A {post : SX → Prop} (hh : h < 8) (H : post (nI N, gl, le, lp, ls, lz, lh, nI (p + 1), nI s, nI (h + 1), nI g, fun j => nI (kk j), nn, v, upd st h a, v0, q0)) : wpX_workOff__variables_lastPile post (nI N, gl, le, lp, ls, lz, lh, nI p, nI s, nI h, nI g, fun j => nI (kk j), nn, v, st, v0, q0) (nI 0) a := by
  refine nm_e ?_
  refine nm_r (nI_1 p) ?_
  repeat first
    | refine br_t (by decide) ?_
    | refine br_f (by decide) ?_
  exact gx_put_A hh H
theorem gx_w1_A {post : SX → Prop} (hh : m + 2 ≤ 8) (H : post (nI N, gl, le, lp, ls, lz, lh, nI (p + 1), nI s, nI (m + 1), nI g, fun j => nI (kk j), nn, v, upd st m (st m + st (m + 1)), v0, q0)) : wpX_workOff__variables_lastPile post (nI N, gl, le, lp, ls, lz, lh, nI p, nI s, nI (m + 2), nI g, fun j => nI (kk j), nn, v, st, v0, q0) (nI 1) a := by
  refine nm_e ?_
  refine nm_r (nI_1 p) ?_
  repeat first
    | refine br_t (by decide) ?_
    | refine br_f (by decide) ?_
  simp (disch := omega) only [wX_workOff__variables_lastPile_203, forall_eq, true_and, nI_1, nI_pred, nI_clamp, gm_vin]
  refine gx_comb1 ?_
  exact H
theorem gx_w2_A {post : SX → Prop} (hh : m + 2 ≤ 8) (H : post (nI N, gl, le, lp, ls, lz, lh, nI (p + 1), nI s, nI (m + 1), nI g, fun j => nI (kk j), nn, v, upd st m (st m - st (m + 1)), v0, q0)) : wpX_workOff__variables_lastPile post (nI N, gl, le, lp, ls, lz, lh, nI p, nI s, nI (m + 2), nI g, fun j => nI (kk j), nn, v, st, v0, q0) (nI 2) a := by
  refine nm_e ?_
  refine nm_r (nI_1 p) ?_
  repeat first
    | refine br_t (by decide) ?_
    | refine br_f (by decide) ?_
  simp (disch := omega) only [wX_workOff__variables_lastPile_203, forall_eq, true_and, nI_1, nI_pred, nI_clamp, gm_vin]
  refine gx_comb2 ?_
  exact H
theorem gx_w3_A {post : SX → Prop} (hh : m + 2 ≤ 8) (H : post (nI N, gl, le, lp, ls, lz, lh, nI (p + 1), nI s, nI (m + 1), nI g, fun j => nI (kk j), nn, v, upd st m (st m * st (m + 1)), v0, q0)) : wpX_workOff__variables_lastPile post (nI N, gl, le, lp, ls, lz, lh, nI p, nI s, nI (m + 2), nI g, fun j => nI (kk j), nn, v, st, v0, q0) (nI 3) a := by
  refine nm_e ?_
  refine nm_r (nI_1 p) ?_
  repeat first
    | refine br_t (by decide) ?_
    | refine br_f (by decide) ?_
  simp (disch := omega) only [wX_workOff__variables_lastPile_203, forall_eq, true_and, nI_1, nI_pred, nI_clamp, gm_vin]
  refine gx_comb3 ?_
  exact H
theorem gx_w4_A {post : SX → Prop} (hh : m + 2 ≤ 8) (H : post (nI N, gl, le, lp, ls, lz, lh, nI (p + 1), nI s, nI (m + 1), nI g, fun j => nI (kk j), nn, v, upd st m (if st m < st (m + 1) then 1 else 0), v0, q0)) : wpX_workOff__variables_lastPile post (nI N, gl, le, lp, ls, lz, lh, nI p, nI s, nI (m + 2), nI g, fun j => nI (kk j), nn, v, st, v0, q0) (nI 4) a := by
  refine nm_e ?_
  refine nm_r (nI_1 p) ?_
  repeat first
    | refine br_t (by decide) ?_
    | refine br_f (by decide) ?_
  simp (disch := omega) only [wX_workOff__variables_lastPile_203, forall_eq, true_and, nI_1, nI_pred, nI_clamp, gm_vin]
  refine gx_comb4 ?_
  exact H
theorem gx_w5_A {post : SX → Prop} (hh : m + 2 ≤ 8) (H : post (nI N, gl, le, lp, ls, lz, lh, nI (p + 1), nI s, nI (m + 2), nI g, fun j => nI (kk j), nn, v, upd st (m + 1) (st m), v0, q0)) : wpX_workOff__variables_lastPile post (nI N, gl, le, lp, ls, lz, lh, nI p, nI s, nI (m + 1), nI g, fun j => nI (kk j), nn, v, st, v0, q0) (nI 5) a := by
  refine nm_e ?_
  refine nm_r (nI_1 p) ?_
  repeat first
    | refine br_t (by decide) ?_
    | refine br_f (by decide) ?_
  simp (disch := omega) only [forall_eq, true_and, nI_1, nI_pred, nI_clamp, gm_vin]
  exact gx_put_A (by omega) H
theorem gx_w6_A {post : SX → Prop} (hh : m + 2 ≤ 8) (H : post (nI N, gl, le, lp, ls, lz, lh, nI (p + 1), nI s, nI (m + 2), nI g, fun j => nI (kk j), nn, v, upd (upd st m (st (m + 1))) (m + 1) (st m), v0, q0)) : wpX_workOff__variables_lastPile post (nI N, gl, le, lp, ls, lz, lh, nI p, nI s, nI (m + 2), nI g, fun j => nI (kk j), nn, v, st, v0, q0) (nI 6) a := by
  refine nm_e ?_
  refine nm_r (nI_1 p) ?_
  repeat first
    | refine br_t (by decide) ?_
    | refine br_f (by decide) ?_
  simp (disch := omega) only [forall_eq, true_and, nI_1, nI_pred, nI_clamp, gm_vin]
  exact gx_exch_A hh H
theorem gx_w7_A {post : SX → Prop} (H : post (nI N, gl, le, lp, ls, lz, lh, nI (p + 1), nI s, nI m, nI g, fun j => nI (kk j), nn, v, st, v0, q0)) : wpX_workOff__variables_lastPile post (nI N, gl, le, lp, ls, lz, lh, nI p, nI s, nI (m + 1), nI g, fun j => nI (kk j), nn, v, st, v0, q0) (nI 7) a := by
  refine nm_e ?_
  refine nm_r (nI_1 p) ?_
  repeat first
    | refine br_t (by decide) ?_
    | refine br_f (by decide) ?_
  simp (disch := omega) only [forall_eq, true_and, nI_1, nI_pred, nI_clamp, gm_vin]
  exact H
theorem gx_w12_A {post : SX → Prop} (H : post (nI N, gl, le, lp, ls, lz, lh, nI (p + 1), nI s, nI m, nI g, fun j => nI (kk j), nn, v, st, v0, q0)) : wpX_workOff__variables_lastPile post (nI N, gl, le, lp, ls, lz, lh, nI p, nI s, nI (m + 1), nI g, fun j => nI (kk j), nn, v, st, v0, q0) (nI 12) a := by
  refine nm_e ?_
  refine nm_r (nI_1 p) ?_
  repeat first
    | refine br_t (by decide) ?_
    | refine br_f (by decide) ?_
  simp (disch := omega) only [forall_eq, true_and, nI_1, nI_pred, nI_clamp, gm_vin]
  exact H
theorem gx_w8_A {post : SX → Prop} {j : Nat} (hh : h < 8) (hj : j < 4) (ea : a = nI j) (H : post (nI N, gl, le, lp, ls, lz, lh, nI (p + 1), nI s, nI (h + 1), nI g, fun j => nI (kk j), nn, v, upd st h (v j), v0, q0)) : wpX_workOff__variables_lastPile post (nI N, gl, le, lp, ls, lz, lh, nI p, nI s, nI h, nI g, fun j => nI (kk j), nn, v, st, v0, q0) (nI 8) a := by
  refine nm_e ?_
  refine nm_r (nI_1 p) ?_
  subst ea
  repeat first
    | refine br_t (by decide) ?_
    | refine br_f (by decide) ?_
  simp (disch := omega) only [forall_eq, true_and, nI_1, nI_pred, nI_clamp, gm_vin]
  exact gx_put_A hh H
theorem gx_w9_A {post : SX → Prop} {j : Nat} (hh : m + 1 ≤ 8) (hj : j < 4) (ea : a = nI j) (H : post (nI N, gl, le, lp, ls, lz, lh, nI (p + 1), nI s, nI m, nI g, fun j => nI (kk j), nn, upd v j (st m), st, v0, q0)) : wpX_workOff__variables_lastPile post (nI N, gl, le, lp, ls, lz, lh, nI p, nI s, nI (m + 1), nI g, fun j => nI (kk j), nn, v, st, v0, q0) (nI 9) a := by
  refine nm_e ?_
  refine nm_r (nI_1 p) ?_
  subst ea
  repeat first
    | refine br_t (by decide) ?_
    | refine br_f (by decide) ?_
  simp (disch := omega) only [forall_eq, true_and, nI_1, nI_pred, nI_clamp, gm_vin]
  exact H
theorem gx_w10_A {post : SX → Prop} (H : post (nI N, gl, le, lp, ls, lz, lh, a, nI s, nI h, nI g, fun j => nI (kk j), nn, v, st, v0, q0)) : wpX_workOff__variables_lastPile post (nI N, gl, le, lp, ls, lz, lh, nI p, nI s, nI h, nI g, fun j => nI (kk j), nn, v, st, v0, q0) (nI 10) a := by
  refine nm_e ?_
  refine nm_r (nI_1 p) ?_
  repeat first
    | refine br_t (by decide) ?_
    | refine br_f (by decide) ?_
  exact H
theorem gx_w11_A {post : SX → Prop} (hh : m + 1 ≤ 8) (H : post (nI N, gl, le, lp, ls, lz, lh, if st m = 0 then nI (p + 1) else a, nI s, nI m, nI g, fun j => nI (kk j), nn, v, st, v0, q0)) : wpX_workOff__variables_lastPile post (nI N, gl, le, lp, ls, lz, lh, nI p, nI s, nI (m + 1), nI g, fun j => nI (kk j), nn, v, st, v0, q0) (nI 11) a := by
  refine nm_e ?_
  refine nm_r (nI_1 p) ?_
  repeat first
    | refine br_t (by decide) ?_
    | refine br_f (by decide) ?_
  simp (disch := omega) only [forall_eq, true_and, nI_1, nI_pred, nI_clamp, gm_vin]
  by_cases c : st m = 0
  · rw [if_pos c] at H
    exact br_t c H
  · rw [if_neg c] at H
    exact br_f c H
theorem gx_w13_A {post : SX → Prop} (hh : h < 8) (H : post (nI N, gl, le, lp, ls, lz, lh, nI (p + 1), nI s, nI (h + 1), nI g, fun j => nI (kk j), nn, v, upd st h (nI g), v0, q0)) : wpX_workOff__variables_lastPile post (nI N, gl, le, lp, ls, lz, lh, nI p, nI s, nI h, nI g, fun j => nI (kk j), nn, v, st, v0, q0) (nI 13) a := by
  refine nm_e ?_
  refine nm_r (nI_1 p) ?_
  repeat first
    | refine br_t (by decide) ?_
    | refine br_f (by decide) ?_
  exact gx_put_A hh H
theorem gx_work_A {k : Nat} {post : SX → Prop} (hf : gm_fit k a) (h14 : k ≠ 14) (h1 : gm_need k ≤ h) (h2 : h + gm_grow k ≤ 8) (H : post (nI N, gl, le, lp, ls, lz, lh, nI (gm_work a p s h g v st k).1, nI (gm_work a p s h g v st k).2.1, nI (gm_work a p s h g v st k).2.2.1, nI (gm_work a p s h g v st k).2.2.2.1, fun j => nI (kk j), nn, (gm_work a p s h g v st k).2.2.2.2.1, (gm_work a p s h g v st k).2.2.2.2.2, v0, q0)) : wpX_workOff__variables_lastPile post (nI N, gl, le, lp, ls, lz, lh, nI p, nI s, nI h, nI g, fun j => nI (kk j), nn, v, st, v0, q0) (nI k) a := by
  obtain ⟨hk, h8, h10⟩ := hf
  rcases gm_cases hk with rfl | rfl | rfl | rfl | rfl | rfl | rfl | rfl | rfl | rfl | rfl | rfl | rfl | rfl | rfl
  · have q : gm_grow 0 = 1 := rfl
    rw [q] at h2
    exact gx_w0_A (by omega) H
  · have q : gm_grow 1 = 0 := rfl
    rw [q] at h2
    obtain ⟨m, rfl⟩ : ∃ m, h = m + 2 := ⟨h - 2, by have : 2 ≤ h := h1; omega⟩
    exact gx_w1_A (by omega) H
  · have q : gm_grow 2 = 0 := rfl
    rw [q] at h2
    obtain ⟨m, rfl⟩ : ∃ m, h = m + 2 := ⟨h - 2, by have : 2 ≤ h := h1; omega⟩
    exact gx_w2_A (by omega) H
  · have q : gm_grow 3 = 0 := rfl
    rw [q] at h2
    obtain ⟨m, rfl⟩ : ∃ m, h = m + 2 := ⟨h - 2, by have : 2 ≤ h := h1; omega⟩
    exact gx_w3_A (by omega) H
  · have q : gm_grow 4 = 0 := rfl
    rw [q] at h2
    obtain ⟨m, rfl⟩ : ∃ m, h = m + 2 := ⟨h - 2, by have : 2 ≤ h := h1; omega⟩
    exact gx_w4_A (by omega) H
  · obtain ⟨m, rfl⟩ : ∃ m, h = m + 1 := ⟨h - 1, by have : 1 ≤ h := h1; omega⟩
    have q : gm_grow 5 = 1 := rfl
    rw [q] at h2
    exact gx_w5_A (by omega) H
  · obtain ⟨m, rfl⟩ : ∃ m, h = m + 2 := ⟨h - 2, by have : 2 ≤ h := h1; omega⟩
    have q : gm_grow 6 = 0 := rfl
    rw [q] at h2
    exact gx_w6_A (by omega) H
  · obtain ⟨m, rfl⟩ : ∃ m, h = m + 1 := ⟨h - 1, by have : 1 ≤ h := h1; omega⟩
    exact gx_w7_A H
  · obtain ⟨j, hj, rfl⟩ := h8 (Or.inl rfl)
    have e : (nI j).toNatClampNeg = j := nI_clamp (by omega)
    have q : gm_grow 8 = 1 := rfl
    rw [q] at h2
    refine gx_w8_A (by omega) hj rfl ?_
    have H' : post (nI N, gl, le, lp, ls, lz, lh, nI (p + 1), nI s, nI (h + 1), nI g, fun j => nI (kk j), nn, v, upd st h (v (nI j).toNatClampNeg), v0, q0) := H
    rw [e] at H'
    exact H'
  · obtain ⟨m, rfl⟩ : ∃ m, h = m + 1 := ⟨h - 1, by have : 1 ≤ h := h1; omega⟩
    obtain ⟨j, hj, rfl⟩ := h8 (Or.inr rfl)
    have e : (nI j).toNatClampNeg = j := nI_clamp (by omega)
    have q : gm_grow 9 = 0 := rfl
    rw [q] at h2
    refine gx_w9_A (by omega) hj rfl ?_
    have H' : post (nI N, gl, le, lp, ls, lz, lh, nI (p + 1), nI s, nI m, nI g, fun j => nI (kk j), nn, upd v (nI j).toNatClampNeg (st m), st, v0, q0) := H
    rw [e] at H'
    exact H'
  · obtain ⟨j, hj, rfl⟩ := h10 (Or.inl rfl)
    have e : (nI j).toNatClampNeg = j := nI_clamp (by omega)
    refine gx_w10_A ?_
    have H' : post (nI N, gl, le, lp, ls, lz, lh, nI (nI j).toNatClampNeg, nI s, nI h, nI g, fun j => nI (kk j), nn, v, st, v0, q0) := H
    rw [e] at H'
    exact H'
  · obtain ⟨m, rfl⟩ : ∃ m, h = m + 1 := ⟨h - 1, by have : 1 ≤ h := h1; omega⟩
    obtain ⟨j, hj, rfl⟩ := h10 (Or.inr rfl)
    have e : (nI j).toNatClampNeg = j := nI_clamp (by omega)
    have q : gm_grow 11 = 0 := rfl
    rw [q] at h2
    refine gx_w11_A (by omega) ?_
    have H' : post (nI N, gl, le, lp, ls, lz, lh, nI (if st m = 0 then p + 1 else (nI j).toNatClampNeg), nI s, nI m, nI g, fun j => nI (kk j), nn, v, st, v0, q0) := H
    rw [e] at H'
    by_cases c : st m = 0
    · rw [if_pos c] at H' ⊢
      exact H'
    · rw [if_neg c] at H' ⊢
      exact H'
  · obtain ⟨m, rfl⟩ : ∃ m, h = m + 1 := ⟨h - 1, by have : 1 ≤ h := h1; omega⟩
    exact gx_w12_A H
  · have q : gm_grow 13 = 1 := rfl
    rw [q] at h2
    exact gx_w13_A (by omega) H
  · exact absurd rfl h14
end
end
section
section
variable {N : Nat} {gl le lp ls lz lh : Int32} {kk : Nat → Nat} {nn v0 q0 : Nat → Int32} {p s h m g : Nat} {v st : Nat → Int32} {a x : Int32}
theorem gx_put_B {post : SX → Prop} (hh : h < 8) (H : post (nI N, gl, le, lp, ls, lz, lh, nI p, nI s, nI (h + 1), nI g, fun j => nI (kk j), nn, v0, q0, v, upd st h x)) : wpX_put__trialPile post (nI N, gl, le, lp, ls, lz, lh, nI p, nI s, nI h, nI g, fun j => nI (kk j), nn, v0, q0, v, st) x :=
  And.intro (vp_in_nI hh (by decide)) (nm_r (gm_u (by omega)) (nm_r (nI_1 h) H))
theorem gx_exch_B {post : SX → Prop} (hh : m + 2 ≤ 8) (H : post (nI N, gl, le, lp, ls, lz, lh, nI p, nI s, nI (m + 2), nI g, fun j => nI (kk j), nn, v0, q0, v, upd (upd st m (st (m + 1))) (m + 1) (st m))) : wpX_exchange__trialPile post (nI N, gl, le, lp, ls, lz, lh, nI p, nI s, nI (m + 2), nI g, fun j => nI (kk j), nn, v0, q0, v, st) (nI (m + 1)) := by
  rw [← gm_swap] at H
  simp (disch := omega) only [wpX_exchange__trialPile, forall_eq, true_and, nI_1, nI_pred, nI_clamp, gm_vin]
  exact H
theorem gx_w0_B {post : SX → Prop} (hh : h < 8) (H : post (nI N, gl, le, lp, ls, lz, lh, nI (p + 1), nI s, nI (h + 1), nI g, fun j => nI (kk j), nn, v0, q0, v, upd st h a)) : wpX_workOff__trialVariables_trialPile post (nI N, gl, le, lp, ls, lz, lh, nI p, nI s, nI h, nI g, fun j => nI (kk j), nn, v0, q0, v, st) (nI 0) a := by
  refine nm_e ?_
  refine nm_r (nI_1 p) ?_
  repeat first
    | refine br_t (by decide) ?_
    | refine br_f (by decide) ?_
  exact gx_put_B hh H
theorem gx_w1_B {post : SX → Prop} (hh : m + 2 ≤ 8) (H : post (nI N, gl, le, lp, ls, lz, lh, nI (p + 1), nI s, nI (m + 1), nI g, fun j => nI (kk j), nn, v0, q0, v, upd st m (st m + st (m + 1)))) : wpX_workOff__trialVariables_trialPile post (nI N, gl, le, lp, ls, lz, lh, nI p, nI s, nI (m + 2), nI g, fun j => nI (kk j), nn, v0, q0, v, st) (nI 1) a := by
  refine nm_e ?_
  refine nm_r (nI_1 p) ?_
  repeat first
    | refine br_t (by decide) ?_
    | refine br_f (by decide) ?_
  simp (disch := omega) only [wX_workOff__trialVariables_trialPile_203, forall_eq, true_and, nI_1, nI_pred, nI_clamp, gm_vin]
  refine gx_comb1 ?_
  exact H
theorem gx_w2_B {post : SX → Prop} (hh : m + 2 ≤ 8) (H : post (nI N, gl, le, lp, ls, lz, lh, nI (p + 1), nI s, nI (m + 1), nI g, fun j => nI (kk j), nn, v0, q0, v, upd st m (st m - st (m + 1)))) : wpX_workOff__trialVariables_trialPile post (nI N, gl, le, lp, ls, lz, lh, nI p, nI s, nI (m + 2), nI g, fun j => nI (kk j), nn, v0, q0, v, st) (nI 2) a := by
  refine nm_e ?_
  refine nm_r (nI_1 p) ?_
  repeat first
    | refine br_t (by decide) ?_
    | refine br_f (by decide) ?_
  simp (disch := omega) only [wX_workOff__trialVariables_trialPile_203, forall_eq, true_and, nI_1, nI_pred, nI_clamp, gm_vin]
  refine gx_comb2 ?_
  exact H
theorem gx_w3_B {post : SX → Prop} (hh : m + 2 ≤ 8) (H : post (nI N, gl, le, lp, ls, lz, lh, nI (p + 1), nI s, nI (m + 1), nI g, fun j => nI (kk j), nn, v0, q0, v, upd st m (st m * st (m + 1)))) : wpX_workOff__trialVariables_trialPile post (nI N, gl, le, lp, ls, lz, lh, nI p, nI s, nI (m + 2), nI g, fun j => nI (kk j), nn, v0, q0, v, st) (nI 3) a := by
  refine nm_e ?_
  refine nm_r (nI_1 p) ?_
  repeat first
    | refine br_t (by decide) ?_
    | refine br_f (by decide) ?_
  simp (disch := omega) only [wX_workOff__trialVariables_trialPile_203, forall_eq, true_and, nI_1, nI_pred, nI_clamp, gm_vin]
  refine gx_comb3 ?_
  exact H
theorem gx_w4_B {post : SX → Prop} (hh : m + 2 ≤ 8) (H : post (nI N, gl, le, lp, ls, lz, lh, nI (p + 1), nI s, nI (m + 1), nI g, fun j => nI (kk j), nn, v0, q0, v, upd st m (if st m < st (m + 1) then 1 else 0))) : wpX_workOff__trialVariables_trialPile post (nI N, gl, le, lp, ls, lz, lh, nI p, nI s, nI (m + 2), nI g, fun j => nI (kk j), nn, v0, q0, v, st) (nI 4) a := by
  refine nm_e ?_
  refine nm_r (nI_1 p) ?_
  repeat first
    | refine br_t (by decide) ?_
    | refine br_f (by decide) ?_
  simp (disch := omega) only [wX_workOff__trialVariables_trialPile_203, forall_eq, true_and, nI_1, nI_pred, nI_clamp, gm_vin]
  refine gx_comb4 ?_
  exact H
theorem gx_w5_B {post : SX → Prop} (hh : m + 2 ≤ 8) (H : post (nI N, gl, le, lp, ls, lz, lh, nI (p + 1), nI s, nI (m + 2), nI g, fun j => nI (kk j), nn, v0, q0, v, upd st (m + 1) (st m))) : wpX_workOff__trialVariables_trialPile post (nI N, gl, le, lp, ls, lz, lh, nI p, nI s, nI (m + 1), nI g, fun j => nI (kk j), nn, v0, q0, v, st) (nI 5) a := by
  refine nm_e ?_
  refine nm_r (nI_1 p) ?_
  repeat first
    | refine br_t (by decide) ?_
    | refine br_f (by decide) ?_
  simp (disch := omega) only [forall_eq, true_and, nI_1, nI_pred, nI_clamp, gm_vin]
  exact gx_put_B (by omega) H
theorem gx_w6_B {post : SX → Prop} (hh : m + 2 ≤ 8) (H : post (nI N, gl, le, lp, ls, lz, lh, nI (p + 1), nI s, nI (m + 2), nI g, fun j => nI (kk j), nn, v0, q0, v, upd (upd st m (st (m + 1))) (m + 1) (st m))) : wpX_workOff__trialVariables_trialPile post (nI N, gl, le, lp, ls, lz, lh, nI p, nI s, nI (m + 2), nI g, fun j => nI (kk j), nn, v0, q0, v, st) (nI 6) a := by
  refine nm_e ?_
  refine nm_r (nI_1 p) ?_
  repeat first
    | refine br_t (by decide) ?_
    | refine br_f (by decide) ?_
  simp (disch := omega) only [forall_eq, true_and, nI_1, nI_pred, nI_clamp, gm_vin]
  exact gx_exch_B hh H
theorem gx_w7_B {post : SX → Prop} (H : post (nI N, gl, le, lp, ls, lz, lh, nI (p + 1), nI s, nI m, nI g, fun j => nI (kk j), nn, v0, q0, v, st)) : wpX_workOff__trialVariables_trialPile post (nI N, gl, le, lp, ls, lz, lh, nI p, nI s, nI (m + 1), nI g, fun j => nI (kk j), nn, v0, q0, v, st) (nI 7) a := by
  refine nm_e ?_
  refine nm_r (nI_1 p) ?_
  repeat first
    | refine br_t (by decide) ?_
    | refine br_f (by decide) ?_
  simp (disch := omega) only [forall_eq, true_and, nI_1, nI_pred, nI_clamp, gm_vin]
  exact H
theorem gx_w12_B {post : SX → Prop} (H : post (nI N, gl, le, lp, ls, lz, lh, nI (p + 1), nI s, nI m, nI g, fun j => nI (kk j), nn, v0, q0, v, st)) : wpX_workOff__trialVariables_trialPile post (nI N, gl, le, lp, ls, lz, lh, nI p, nI s, nI (m + 1), nI g, fun j => nI (kk j), nn, v0, q0, v, st) (nI 12) a := by
  refine nm_e ?_
  refine nm_r (nI_1 p) ?_
  repeat first
    | refine br_t (by decide) ?_
    | refine br_f (by decide) ?_
  simp (disch := omega) only [forall_eq, true_and, nI_1, nI_pred, nI_clamp, gm_vin]
  exact H
theorem gx_w8_B {post : SX → Prop} {j : Nat} (hh : h < 8) (hj : j < 4) (ea : a = nI j) (H : post (nI N, gl, le, lp, ls, lz, lh, nI (p + 1), nI s, nI (h + 1), nI g, fun j => nI (kk j), nn, v0, q0, v, upd st h (v j))) : wpX_workOff__trialVariables_trialPile post (nI N, gl, le, lp, ls, lz, lh, nI p, nI s, nI h, nI g, fun j => nI (kk j), nn, v0, q0, v, st) (nI 8) a := by
  refine nm_e ?_
  refine nm_r (nI_1 p) ?_
  subst ea
  repeat first
    | refine br_t (by decide) ?_
    | refine br_f (by decide) ?_
  simp (disch := omega) only [forall_eq, true_and, nI_1, nI_pred, nI_clamp, gm_vin]
  exact gx_put_B hh H
theorem gx_w9_B {post : SX → Prop} {j : Nat} (hh : m + 1 ≤ 8) (hj : j < 4) (ea : a = nI j) (H : post (nI N, gl, le, lp, ls, lz, lh, nI (p + 1), nI s, nI m, nI g, fun j => nI (kk j), nn, v0, q0, upd v j (st m), st)) : wpX_workOff__trialVariables_trialPile post (nI N, gl, le, lp, ls, lz, lh, nI p, nI s, nI (m + 1), nI g, fun j => nI (kk j), nn, v0, q0, v, st) (nI 9) a := by
  refine nm_e ?_
  refine nm_r (nI_1 p) ?_
  subst ea
  repeat first
    | refine br_t (by decide) ?_
    | refine br_f (by decide) ?_
  simp (disch := omega) only [forall_eq, true_and, nI_1, nI_pred, nI_clamp, gm_vin]
  exact H
theorem gx_w10_B {post : SX → Prop} (H : post (nI N, gl, le, lp, ls, lz, lh, a, nI s, nI h, nI g, fun j => nI (kk j), nn, v0, q0, v, st)) : wpX_workOff__trialVariables_trialPile post (nI N, gl, le, lp, ls, lz, lh, nI p, nI s, nI h, nI g, fun j => nI (kk j), nn, v0, q0, v, st) (nI 10) a := by
  refine nm_e ?_
  refine nm_r (nI_1 p) ?_
  repeat first
    | refine br_t (by decide) ?_
    | refine br_f (by decide) ?_
  exact H
theorem gx_w11_B {post : SX → Prop} (hh : m + 1 ≤ 8) (H : post (nI N, gl, le, lp, ls, lz, lh, if st m = 0 then nI (p + 1) else a, nI s, nI m, nI g, fun j => nI (kk j), nn, v0, q0, v, st)) : wpX_workOff__trialVariables_trialPile post (nI N, gl, le, lp, ls, lz, lh, nI p, nI s, nI (m + 1), nI g, fun j => nI (kk j), nn, v0, q0, v, st) (nI 11) a := by
  refine nm_e ?_
  refine nm_r (nI_1 p) ?_
  repeat first
    | refine br_t (by decide) ?_
    | refine br_f (by decide) ?_
  simp (disch := omega) only [forall_eq, true_and, nI_1, nI_pred, nI_clamp, gm_vin]
  by_cases c : st m = 0
  · rw [if_pos c] at H
    exact br_t c H
  · rw [if_neg c] at H
    exact br_f c H
theorem gx_w13_B {post : SX → Prop} (hh : h < 8) (H : post (nI N, gl, le, lp, ls, lz, lh, nI (p + 1), nI s, nI (h + 1), nI g, fun j => nI (kk j), nn, v0, q0, v, upd st h (nI g))) : wpX_workOff__trialVariables_trialPile post (nI N, gl, le, lp, ls, lz, lh, nI p, nI s, nI h, nI g, fun j => nI (kk j), nn, v0, q0, v, st) (nI 13) a := by
  refine nm_e ?_
  refine nm_r (nI_1 p) ?_
  repeat first
    | refine br_t (by decide) ?_
    | refine br_f (by decide) ?_
  exact gx_put_B hh H
theorem gx_work_B {k : Nat} {post : SX → Prop} (hf : gm_fit k a) (h14 : k ≠ 14) (h1 : gm_need k ≤ h) (h2 : h + gm_grow k ≤ 8) (H : post (nI N, gl, le, lp, ls, lz, lh, nI (gm_work a p s h g v st k).1, nI (gm_work a p s h g v st k).2.1, nI (gm_work a p s h g v st k).2.2.1, nI (gm_work a p s h g v st k).2.2.2.1, fun j => nI (kk j), nn, v0, q0, (gm_work a p s h g v st k).2.2.2.2.1, (gm_work a p s h g v st k).2.2.2.2.2)) : wpX_workOff__trialVariables_trialPile post (nI N, gl, le, lp, ls, lz, lh, nI p, nI s, nI h, nI g, fun j => nI (kk j), nn, v0, q0, v, st) (nI k) a := by
  obtain ⟨hk, h8, h10⟩ := hf
  rcases gm_cases hk with rfl | rfl | rfl | rfl | rfl | rfl | rfl | rfl | rfl | rfl | rfl | rfl | rfl | rfl | rfl
  · have q : gm_grow 0 = 1 := rfl
    rw [q] at h2
    exact gx_w0_B (by omega) H
  · have q : gm_grow 1 = 0 := rfl
    rw [q] at h2
    obtain ⟨m, rfl⟩ : ∃ m, h = m + 2 := ⟨h - 2, by have : 2 ≤ h := h1; omega⟩
    exact gx_w1_B (by omega) H
  · have q : gm_grow 2 = 0 := rfl
    rw [q] at h2
    obtain ⟨m, rfl⟩ : ∃ m, h = m + 2 := ⟨h - 2, by have : 2 ≤ h := h1; omega⟩
    exact gx_w2_B (by omega) H
  · have q : gm_grow 3 = 0 := rfl
    rw [q] at h2
    obtain ⟨m, rfl⟩ : ∃ m, h = m + 2 := ⟨h - 2, by have : 2 ≤ h := h1; omega⟩
    exact gx_w3_B (by omega) H
  · have q : gm_grow 4 = 0 := rfl
    rw [q] at h2
    obtain ⟨m, rfl⟩ : ∃ m, h = m + 2 := ⟨h - 2, by have : 2 ≤ h := h1; omega⟩
    exact gx_w4_B (by omega) H
  · obtain ⟨m, rfl⟩ : ∃ m, h = m + 1 := ⟨h - 1, by have : 1 ≤ h := h1; omega⟩
    have q : gm_grow 5 = 1 := rfl
    rw [q] at h2
    exact gx_w5_B (by omega) H
  · obtain ⟨m, rfl⟩ : ∃ m, h = m + 2 := ⟨h - 2, by have : 2 ≤ h := h1; omega⟩
    have q : gm_grow 6 = 0 := rfl
    rw [q] at h2
    exact gx_w6_B (by omega) H
  · obtain ⟨m, rfl⟩ : ∃ m, h = m + 1 := ⟨h - 1, by have : 1 ≤ h := h1; omega⟩
    exact gx_w7_B H
  · obtain ⟨j, hj, rfl⟩ := h8 (Or.inl rfl)
    have e : (nI j).toNatClampNeg = j := nI_clamp (by omega)
    have q : gm_grow 8 = 1 := rfl
    rw [q] at h2
    refine gx_w8_B (by omega) hj rfl ?_
    have H' : post (nI N, gl, le, lp, ls, lz, lh, nI (p + 1), nI s, nI (h + 1), nI g, fun j => nI (kk j), nn, v0, q0, v, upd st h (v (nI j).toNatClampNeg)) := H
    rw [e] at H'
    exact H'
  · obtain ⟨m, rfl⟩ : ∃ m, h = m + 1 := ⟨h - 1, by have : 1 ≤ h := h1; omega⟩
    obtain ⟨j, hj, rfl⟩ := h8 (Or.inr rfl)
    have e : (nI j).toNatClampNeg = j := nI_clamp (by omega)
    have q : gm_grow 9 = 0 := rfl
    rw [q] at h2
    refine gx_w9_B (by omega) hj rfl ?_
    have H' : post (nI N, gl, le, lp, ls, lz, lh, nI (p + 1), nI s, nI m, nI g, fun j => nI (kk j), nn, v0, q0, upd v (nI j).toNatClampNeg (st m), st) := H
    rw [e] at H'
    exact H'
  · obtain ⟨j, hj, rfl⟩ := h10 (Or.inl rfl)
    have e : (nI j).toNatClampNeg = j := nI_clamp (by omega)
    refine gx_w10_B ?_
    have H' : post (nI N, gl, le, lp, ls, lz, lh, nI (nI j).toNatClampNeg, nI s, nI h, nI g, fun j => nI (kk j), nn, v0, q0, v, st) := H
    rw [e] at H'
    exact H'
  · obtain ⟨m, rfl⟩ : ∃ m, h = m + 1 := ⟨h - 1, by have : 1 ≤ h := h1; omega⟩
    obtain ⟨j, hj, rfl⟩ := h10 (Or.inr rfl)
    have e : (nI j).toNatClampNeg = j := nI_clamp (by omega)
    have q : gm_grow 11 = 0 := rfl
    rw [q] at h2
    refine gx_w11_B (by omega) ?_
    have H' : post (nI N, gl, le, lp, ls, lz, lh, nI (if st m = 0 then p + 1 else (nI j).toNatClampNeg), nI s, nI m, nI g, fun j => nI (kk j), nn, v0, q0, v, st) := H
    rw [e] at H'
    by_cases c : st m = 0
    · rw [if_pos c] at H' ⊢
      exact H'
    · rw [if_neg c] at H' ⊢
      exact H'
  · obtain ⟨m, rfl⟩ : ∃ m, h = m + 1 := ⟨h - 1, by have : 1 ≤ h := h1; omega⟩
    exact gx_w12_B H
  · have q : gm_grow 13 = 1 := rfl
    rw [q] at h2
    exact gx_w13_B (by omega) H
  · exact absurd rfl h14
end
end
section
section
variable {N : Nat} {gl le lp ls lz lh : Int32} {kk : Nat → Nat} {nn v0 q0 : Nat → Int32} {p s h m g : Nat} {v st : Nat → Int32} {a x : Int32}
theorem gx_join_A {c k : Nat} {post : Int32 → SX → Prop} (hf : ∀ j, gm_fit (kk j) (nn j)) (o1 : p < 20) (o3 : s < 300) (o4 : g ≤ 1000000) (ek : kk p = k) (h1 : gm_need k ≤ h) (h2 : h + gm_grow k ≤ 8) (hc : c ≤ 16) (H4 : g < c → post 4 (nI N, gl, le, lp, ls, lz, lh, nI p, nI s, nI h, nI g, fun j => nI (kk j), nn, v, st, v0, q0)) (H14 : c ≤ g → k = 14 → post 1 (nI N, gl, le, lp, ls, lz, lh, nI p, nI (s + 1), nI h, nI (g - c), fun j => nI (kk j), nn, v, st, v0, q0)) (Hw : c ≤ g → k ≠ 14 → post 0 (nI N, gl, le, lp, ls, lz, lh, nI (gm_work (nn p) p (s + 1) h (g - c) v st k).1, nI (gm_work (nn p) p (s + 1) h (g - c) v st k).2.1, nI (gm_work (nn p) p (s + 1) h (g - c) v st k).2.2.1, nI (gm_work (nn p) p (s + 1) h (g - c) v st k).2.2.2.1, fun j => nI (kk j), nn, (gm_work (nn p) p (s + 1) h (g - c) v st k).2.2.2.2.1, (gm_work (nn p) p (s + 1) h (g - c) v st k).2.2.2.2.2, v0, q0)) : wX_takeTurn__variables_lastPile_90 post (nI k) (nI c) (nI N) gl le lp ls lz lh (nI p) (nI s) (nI h) (nI g) (fun j => nI (kk j)) nn v st v0 q0 := by
  have hk : gm_fit k (nn p) := by rw [← ek]; exact hf p
  have e' : nn (nI p).toNatClampNeg = nn p := congrArg nn (nI_clamp (by omega))
  refine pk_le c g (fun c5 => ?_) (fun c5 => H4 c5)
  refine nm_r (pk_sub c5) ?_
  refine nm_r (nI_1 s) ?_
  refine pk_eq k 14 (fun c6 => H14 c5 c6) (fun c6 => ?_) (ha := by have := hk.1; omega)
  refine And.intro (vp_in_nI o1 (by decide)) ?_
  rw [e']
  exact gx_work_A hk c6 h1 h2 (Hw c5 c6)
theorem gx_turn_A {post : Int32 → SX → Prop} (hf : ∀ j, gm_fit (kk j) (nn j)) (hN : N ≤ 20) (o1 : p ≤ 20) (o2 : s ≤ 300) (o3 : h ≤ 8) (o4 : g ≤ 1000000) (H : post (nI (gm_turn kk nn N p s h g v st).1) (nI N, gl, le, lp, ls, lz, lh, nI (gm_turn kk nn N p s h g v st).2.1, nI (gm_turn kk nn N p s h g v st).2.2.1, nI (gm_turn kk nn N p s h g v st).2.2.2.1, nI (gm_turn kk nn N p s h g v st).2.2.2.2.1, fun j => nI (kk j), nn, (gm_turn kk nn N p s h g v st).2.2.2.2.2.1, (gm_turn kk nn N p s h g v st).2.2.2.2.2.2, v0, q0)) : wpX_takeTurn__variables_lastPile post (nI N, gl, le, lp, ls, lz, lh, nI p, nI s, nI h, nI g, fun j => nI (kk j), nn, v, st, v0, q0) := by
  have e : (fun j => nI (kk j)) (nI p).toNatClampNeg = nI (kk p) := congrArg (fun i => nI (kk i)) (nI_clamp (by omega))
  have hk := (hf p).1
  refine pk_lt p N (fun c1 => ?_) (fun c1 => ?_)
  rotate_left
  · rw [gm_ts (gm_e1 c1) (by decide)] at H
    exact H
  refine pk_lt s 300 (fun c2 => ?_) (fun c2 => ?_)
  rotate_left
  · rw [gm_ts (gm_e2 c1 (by omega)) (by decide)] at H
    exact H
  refine And.intro (vp_in_nI (by omega) (by decide)) (nm_r e ?_)
  have n2 : gm_need (kk p) ≤ 2 := gm_need_le _
  have n1 : gm_grow (kk p) ≤ 1 := gm_grow_le _
  refine gx_needed hk ?_
  refine pk_lt h (gm_need (kk p)) (fun c3 => ?_) (fun c3 => ?_)
  · rw [gm_ts (gm_e3 c1 (by omega) (Or.inl c3)) (by decide)] at H
    exact H
  refine gx_growth hk ?_
  refine pk_le (h + gm_grow (kk p)) 8 (fun c4 => ?_) (fun c4 => ?_) (hx := nI_add _ _)
  rotate_left
  · rw [gm_ts (gm_e3 c1 (by omega) (Or.inr c4)) (by decide)] at H
    exact H
  have hpr := gm_price_le (st (h - 1)) hk
  have JJ : wX_takeTurn__variables_lastPile_90 post (nI (kk p)) (nI (gm_price (kk p) (st (h - 1)))) (nI N) gl le lp ls lz lh (nI p) (nI s) (nI h) (nI g) (fun j => nI (kk j)) nn v st v0 q0 := by
    refine gx_join_A hf (by omega) c2 o4 rfl c3 c4 hpr (fun c5 => ?_) (fun c5 c6 => ?_) (fun c5 c6 => ?_)
    · rw [gm_ts (gm_e4 c1 (by omega) c3 c4 c5) (by decide)] at H
      exact H
    · rw [gm_t14 (gm_e0 c1 (by omega) c3 c4 c5) c6] at H
      exact H
    · rw [gm_tw (gm_e0 c1 (by omega) c3 c4 c5) c6] at H
      exact H
  refine gx_fixedPrice hk ?_
  refine pk_eq (kk p) 12 (fun c5 => ?_) (fun c5 => ?_) (ha := by omega)
  · rw [c5] at c3 JJ hk
    have c3' : 1 ≤ h := c3
    obtain ⟨m, rfl⟩ : ∃ m, h = m + 1 := ⟨h - 1, by omega⟩
    have em : (nI m).toNatClampNeg = m := nI_clamp (by omega)
    rw [nI_pred m, c5]
    refine And.intro (vp_in_nI (by omega) (by decide)) (nm_r (e' := nI (1 + gm_low (st m))) ?_ JJ)
    rw [em, gm_and, ← nI_add]
    rfl
  · unfold gm_price at JJ
    rw [if_neg c5] at JJ
    exact JJ
theorem gx_exit_A {F : Nat} {t e : Nat} {post : Int32 → SX → Prop} (he : e < 5) (e0 : e ≠ 0) (ht : t ≤ 301) (H : post (nI e) (nI N, gl, le, lp, ls, lz, lh, nI p, nI s, nI h, nI g, fun j => nI (kk j), nn, v, st, v0, q0)) : wX_execute__variables_lastPile_26 post (F + 1) (nI e) (nI t) (nI N) gl le lp ls lz lh (nI p) (nI s) (nI h) (nI g) (fun j => nI (kk j)) nn v st v0 q0 := by
  refine pk_lt 300 t (fun _ => H) (fun _ => ?_)
  exact br_f (nI_ne0 (by omega) (by omega)) H
theorem gx_loop_A {post : Int32 → SX → Prop} (hf : ∀ j, gm_fit (kk j) (nn j)) (hN : N ≤ 20) : ∀ (n F p s h g : Nat) (v st : Nat → Int32), s + n = 300 → p ≤ 20 → h ≤ 8 → g ≤ 1000000 → n + 2 ≤ F → post (nI (gm_run kk nn N n (p, s, h, g, v, st)).1) (nI N, gl, le, lp, ls, lz, lh, nI (gm_run kk nn N n (p, s, h, g, v, st)).2.1, nI (gm_run kk nn N n (p, s, h, g, v, st)).2.2.1, nI (gm_run kk nn N n (p, s, h, g, v, st)).2.2.2.1, nI (gm_run kk nn N n (p, s, h, g, v, st)).2.2.2.2.1, fun j => nI (kk j), nn, (gm_run kk nn N n (p, s, h, g, v, st)).2.2.2.2.2.1, (gm_run kk nn N n (p, s, h, g, v, st)).2.2.2.2.2.2, v0, q0) → wX_execute__variables_lastPile_26 post F 0 (nI s) (nI N) gl le lp ls lz lh (nI p) (nI s) (nI h) (nI g) (fun j => nI (kk j)) nn v st v0 q0 := by
  intro n
  induction n with
  | zero =>
    intro F p s h g v st hs o1 o3 o4 hF H
    obtain ⟨F, rfl⟩ : ∃ E, F = E + 2 := ⟨F - 2, by omega⟩
    refine pk_lt 300 s (fun z => absurd z (by omega)) (fun _ => ?_)
    refine br_t rfl ?_
    refine gx_turn_A hf hN o1 (by omega) o3 o4 ?_
    refine nm_r (nI_1 s) ?_
    obtain ⟨k1, k2, k3⟩ := gm_go_ok hf hN (d := (p, s, h, g, v, st)) ⟨o1, (by omega : s ≤ 300), o3, o4⟩
    have e0 : (gm_go kk nn N (p, s, h, g, v, st)).1 ≠ 0 := fun z => by have q : s < 300 := (k3 z).2; omega
    exact gx_exit_A (gm_go_lt kk nn N (p, s, h, g, v, st)) e0 (by omega) H
  | succ n ih =>
    intro F p s h g v st hs o1 o3 o4 hF H
    obtain ⟨F, rfl⟩ : ∃ E, F = E + 2 := ⟨F - 2, by omega⟩
    refine pk_lt 300 s (fun z => absurd z (by omega)) (fun _ => ?_)
    refine br_t rfl ?_
    refine gx_turn_A hf hN o1 (by omega) o3 o4 ?_
    refine nm_r (nI_1 s) ?_
    obtain ⟨k1, k2, k3⟩ := gm_go_ok hf hN (d := (p, s, h, g, v, st)) ⟨o1, (by omega : s ≤ 300), o3, o4⟩
    rw [gm_run] at H
    by_cases z : (gm_go kk nn N (p, s, h, g, v, st)).1 = 0
    · rw [if_pos z] at H
      have es : (gm_go kk nn N (p, s, h, g, v, st)).2.2.1 = s + 1 := (k3 z).1
      have L := ih (F + 1) (gm_go kk nn N (p, s, h, g, v, st)).2.1 (gm_go kk nn N (p, s, h, g, v, st)).2.2.1 (gm_go kk nn N (p, s, h, g, v, st)).2.2.2.1 (gm_go kk nn N (p, s, h, g, v, st)).2.2.2.2.1 (gm_go kk nn N (p, s, h, g, v, st)).2.2.2.2.2.1 (gm_go kk nn N (p, s, h, g, v, st)).2.2.2.2.2.2 (by rw [es]; omega) k1.1 k1.2.2.1 k1.2.2.2 (by omega) H
      have z' : (gm_turn kk nn N p s h g v st).1 = 0 := z
      rw [z']
      have es' : (gm_go kk nn N (p, s, h, g, v, st)).2.2.1 = s + 1 := es
      rw [es'] at L
      have es2 : (gm_turn kk nn N p s h g v st).2.2.1 = s + 1 := es
      rw [es2]
      exact L
    · rw [if_neg z] at H
      exact gx_exit_A (gm_go_lt kk nn N (p, s, h, g, v, st)) z (by omega) H
theorem gx_exec_A {n1 n2 n3 n4 : Int32} {post : Int32 → SX → Prop} (hf : ∀ j, gm_fit (kk j) (nn j)) (hN : N ≤ 20) (o4 : g ≤ 1000000) (H : post (nI (gm_run kk nn N 300 (0, 0, 0, g, v, st)).1) (nI N, gl, le, lp, ls, lz, lh, nI (gm_run kk nn N 300 (0, 0, 0, g, v, st)).2.1, nI (gm_run kk nn N 300 (0, 0, 0, g, v, st)).2.2.1, nI (gm_run kk nn N 300 (0, 0, 0, g, v, st)).2.2.2.1, nI (gm_run kk nn N 300 (0, 0, 0, g, v, st)).2.2.2.2.1, fun j => nI (kk j), nn, (gm_run kk nn N 300 (0, 0, 0, g, v, st)).2.2.2.2.2.1, (gm_run kk nn N 300 (0, 0, 0, g, v, st)).2.2.2.2.2.2, v0, q0)) : wpX_execute__variables_lastPile post (nI N, gl, le, lp, ls, lz, lh, n1, n2, n3, n4, fun j => nI (kk j), nn, v, st, v0, q0) (nI g) :=
  ⟨302, gx_loop_A hf hN 300 302 0 0 0 g v st rfl (by omega) (by omega) o4 (by omega) H⟩
end
section
variable {N : Nat} {gl le lp ls lz lh : Int32} {kk : Nat → Nat} {nn v0 q0 : Nat → Int32} {p s h m g : Nat} {v st : Nat → Int32} {a x : Int32}
theorem gx_join_B {c k : Nat} {post : Int32 → SX → Prop} (hf : ∀ j, gm_fit (kk j) (nn j)) (o1 : p < 20) (o3 : s < 300) (o4 : g ≤ 1000000) (ek : kk p = k) (h1 : gm_need k ≤ h) (h2 : h + gm_grow k ≤ 8) (hc : c ≤ 16) (H4 : g < c → post 4 (nI N, gl, le, lp, ls, lz, lh, nI p, nI s, nI h, nI g, fun j => nI (kk j), nn, v0, q0, v, st)) (H14 : c ≤ g → k = 14 → post 1 (nI N, gl, le, lp, ls, lz, lh, nI p, nI (s + 1), nI h, nI (g - c), fun j => nI (kk j), nn, v0, q0, v, st)) (Hw : c ≤ g → k ≠ 14 → post 0 (nI N, gl, le, lp, ls, lz, lh, nI (gm_work (nn p) p (s + 1) h (g - c) v st k).1, nI (gm_work (nn p) p (s + 1) h (g - c) v st k).2.1, nI (gm_work (nn p) p (s + 1) h (g - c) v st k).2.2.1, nI (gm_work (nn p) p (s + 1) h (g - c) v st k).2.2.2.1, fun j => nI (kk j), nn, v0, q0, (gm_work (nn p) p (s + 1) h (g - c) v st k).2.2.2.2.1, (gm_work (nn p) p (s + 1) h (g - c) v st k).2.2.2.2.2)) : wX_takeTurn__trialVariables_trialPile_90 post (nI k) (nI c) (nI N) gl le lp ls lz lh (nI p) (nI s) (nI h) (nI g) (fun j => nI (kk j)) nn v0 q0 v st := by
  have hk : gm_fit k (nn p) := by rw [← ek]; exact hf p
  have e' : nn (nI p).toNatClampNeg = nn p := congrArg nn (nI_clamp (by omega))
  refine pk_le c g (fun c5 => ?_) (fun c5 => H4 c5)
  refine nm_r (pk_sub c5) ?_
  refine nm_r (nI_1 s) ?_
  refine pk_eq k 14 (fun c6 => H14 c5 c6) (fun c6 => ?_) (ha := by have := hk.1; omega)
  refine And.intro (vp_in_nI o1 (by decide)) ?_
  rw [e']
  exact gx_work_B hk c6 h1 h2 (Hw c5 c6)
theorem gx_turn_B {post : Int32 → SX → Prop} (hf : ∀ j, gm_fit (kk j) (nn j)) (hN : N ≤ 20) (o1 : p ≤ 20) (o2 : s ≤ 300) (o3 : h ≤ 8) (o4 : g ≤ 1000000) (H : post (nI (gm_turn kk nn N p s h g v st).1) (nI N, gl, le, lp, ls, lz, lh, nI (gm_turn kk nn N p s h g v st).2.1, nI (gm_turn kk nn N p s h g v st).2.2.1, nI (gm_turn kk nn N p s h g v st).2.2.2.1, nI (gm_turn kk nn N p s h g v st).2.2.2.2.1, fun j => nI (kk j), nn, v0, q0, (gm_turn kk nn N p s h g v st).2.2.2.2.2.1, (gm_turn kk nn N p s h g v st).2.2.2.2.2.2)) : wpX_takeTurn__trialVariables_trialPile post (nI N, gl, le, lp, ls, lz, lh, nI p, nI s, nI h, nI g, fun j => nI (kk j), nn, v0, q0, v, st) := by
  have e : (fun j => nI (kk j)) (nI p).toNatClampNeg = nI (kk p) := congrArg (fun i => nI (kk i)) (nI_clamp (by omega))
  have hk := (hf p).1
  refine pk_lt p N (fun c1 => ?_) (fun c1 => ?_)
  rotate_left
  · rw [gm_ts (gm_e1 c1) (by decide)] at H
    exact H
  refine pk_lt s 300 (fun c2 => ?_) (fun c2 => ?_)
  rotate_left
  · rw [gm_ts (gm_e2 c1 (by omega)) (by decide)] at H
    exact H
  refine And.intro (vp_in_nI (by omega) (by decide)) (nm_r e ?_)
  have n2 : gm_need (kk p) ≤ 2 := gm_need_le _
  have n1 : gm_grow (kk p) ≤ 1 := gm_grow_le _
  refine gx_needed hk ?_
  refine pk_lt h (gm_need (kk p)) (fun c3 => ?_) (fun c3 => ?_)
  · rw [gm_ts (gm_e3 c1 (by omega) (Or.inl c3)) (by decide)] at H
    exact H
  refine gx_growth hk ?_
  refine pk_le (h + gm_grow (kk p)) 8 (fun c4 => ?_) (fun c4 => ?_) (hx := nI_add _ _)
  rotate_left
  · rw [gm_ts (gm_e3 c1 (by omega) (Or.inr c4)) (by decide)] at H
    exact H
  have hpr := gm_price_le (st (h - 1)) hk
  have JJ : wX_takeTurn__trialVariables_trialPile_90 post (nI (kk p)) (nI (gm_price (kk p) (st (h - 1)))) (nI N) gl le lp ls lz lh (nI p) (nI s) (nI h) (nI g) (fun j => nI (kk j)) nn v0 q0 v st := by
    refine gx_join_B hf (by omega) c2 o4 rfl c3 c4 hpr (fun c5 => ?_) (fun c5 c6 => ?_) (fun c5 c6 => ?_)
    · rw [gm_ts (gm_e4 c1 (by omega) c3 c4 c5) (by decide)] at H
      exact H
    · rw [gm_t14 (gm_e0 c1 (by omega) c3 c4 c5) c6] at H
      exact H
    · rw [gm_tw (gm_e0 c1 (by omega) c3 c4 c5) c6] at H
      exact H
  refine gx_fixedPrice hk ?_
  refine pk_eq (kk p) 12 (fun c5 => ?_) (fun c5 => ?_) (ha := by omega)
  · rw [c5] at c3 JJ hk
    have c3' : 1 ≤ h := c3
    obtain ⟨m, rfl⟩ : ∃ m, h = m + 1 := ⟨h - 1, by omega⟩
    have em : (nI m).toNatClampNeg = m := nI_clamp (by omega)
    rw [nI_pred m, c5]
    refine And.intro (vp_in_nI (by omega) (by decide)) (nm_r (e' := nI (1 + gm_low (st m))) ?_ JJ)
    rw [em, gm_and, ← nI_add]
    rfl
  · unfold gm_price at JJ
    rw [if_neg c5] at JJ
    exact JJ
theorem gx_exit_B {F : Nat} {t e : Nat} {post : Int32 → SX → Prop} (he : e < 5) (e0 : e ≠ 0) (ht : t ≤ 301) (H : post (nI e) (nI N, gl, le, lp, ls, lz, lh, nI p, nI s, nI h, nI g, fun j => nI (kk j), nn, v0, q0, v, st)) : wX_execute__trialVariables_trialPile_26 post (F + 1) (nI e) (nI t) (nI N) gl le lp ls lz lh (nI p) (nI s) (nI h) (nI g) (fun j => nI (kk j)) nn v0 q0 v st := by
  refine pk_lt 300 t (fun _ => H) (fun _ => ?_)
  exact br_f (nI_ne0 (by omega) (by omega)) H
theorem gx_loop_B {post : Int32 → SX → Prop} (hf : ∀ j, gm_fit (kk j) (nn j)) (hN : N ≤ 20) : ∀ (n F p s h g : Nat) (v st : Nat → Int32), s + n = 300 → p ≤ 20 → h ≤ 8 → g ≤ 1000000 → n + 2 ≤ F → post (nI (gm_run kk nn N n (p, s, h, g, v, st)).1) (nI N, gl, le, lp, ls, lz, lh, nI (gm_run kk nn N n (p, s, h, g, v, st)).2.1, nI (gm_run kk nn N n (p, s, h, g, v, st)).2.2.1, nI (gm_run kk nn N n (p, s, h, g, v, st)).2.2.2.1, nI (gm_run kk nn N n (p, s, h, g, v, st)).2.2.2.2.1, fun j => nI (kk j), nn, v0, q0, (gm_run kk nn N n (p, s, h, g, v, st)).2.2.2.2.2.1, (gm_run kk nn N n (p, s, h, g, v, st)).2.2.2.2.2.2) → wX_execute__trialVariables_trialPile_26 post F 0 (nI s) (nI N) gl le lp ls lz lh (nI p) (nI s) (nI h) (nI g) (fun j => nI (kk j)) nn v0 q0 v st := by
  intro n
  induction n with
  | zero =>
    intro F p s h g v st hs o1 o3 o4 hF H
    obtain ⟨F, rfl⟩ : ∃ E, F = E + 2 := ⟨F - 2, by omega⟩
    refine pk_lt 300 s (fun z => absurd z (by omega)) (fun _ => ?_)
    refine br_t rfl ?_
    refine gx_turn_B hf hN o1 (by omega) o3 o4 ?_
    refine nm_r (nI_1 s) ?_
    obtain ⟨k1, k2, k3⟩ := gm_go_ok hf hN (d := (p, s, h, g, v, st)) ⟨o1, (by omega : s ≤ 300), o3, o4⟩
    have e0 : (gm_go kk nn N (p, s, h, g, v, st)).1 ≠ 0 := fun z => by have q : s < 300 := (k3 z).2; omega
    exact gx_exit_B (gm_go_lt kk nn N (p, s, h, g, v, st)) e0 (by omega) H
  | succ n ih =>
    intro F p s h g v st hs o1 o3 o4 hF H
    obtain ⟨F, rfl⟩ : ∃ E, F = E + 2 := ⟨F - 2, by omega⟩
    refine pk_lt 300 s (fun z => absurd z (by omega)) (fun _ => ?_)
    refine br_t rfl ?_
    refine gx_turn_B hf hN o1 (by omega) o3 o4 ?_
    refine nm_r (nI_1 s) ?_
    obtain ⟨k1, k2, k3⟩ := gm_go_ok hf hN (d := (p, s, h, g, v, st)) ⟨o1, (by omega : s ≤ 300), o3, o4⟩
    rw [gm_run] at H
    by_cases z : (gm_go kk nn N (p, s, h, g, v, st)).1 = 0
    · rw [if_pos z] at H
      have es : (gm_go kk nn N (p, s, h, g, v, st)).2.2.1 = s + 1 := (k3 z).1
      have L := ih (F + 1) (gm_go kk nn N (p, s, h, g, v, st)).2.1 (gm_go kk nn N (p, s, h, g, v, st)).2.2.1 (gm_go kk nn N (p, s, h, g, v, st)).2.2.2.1 (gm_go kk nn N (p, s, h, g, v, st)).2.2.2.2.1 (gm_go kk nn N (p, s, h, g, v, st)).2.2.2.2.2.1 (gm_go kk nn N (p, s, h, g, v, st)).2.2.2.2.2.2 (by rw [es]; omega) k1.1 k1.2.2.1 k1.2.2.2 (by omega) H
      have z' : (gm_turn kk nn N p s h g v st).1 = 0 := z
      rw [z']
      have es' : (gm_go kk nn N (p, s, h, g, v, st)).2.2.1 = s + 1 := es
      rw [es'] at L
      have es2 : (gm_turn kk nn N p s h g v st).2.2.1 = s + 1 := es
      rw [es2]
      exact L
    · rw [if_neg z] at H
      exact gx_exit_B (gm_go_lt kk nn N (p, s, h, g, v, st)) z (by omega) H
theorem gx_exec_B {n1 n2 n3 n4 : Int32} {post : Int32 → SX → Prop} (hf : ∀ j, gm_fit (kk j) (nn j)) (hN : N ≤ 20) (o4 : g ≤ 1000000) (H : post (nI (gm_run kk nn N 300 (0, 0, 0, g, v, st)).1) (nI N, gl, le, lp, ls, lz, lh, nI (gm_run kk nn N 300 (0, 0, 0, g, v, st)).2.1, nI (gm_run kk nn N 300 (0, 0, 0, g, v, st)).2.2.1, nI (gm_run kk nn N 300 (0, 0, 0, g, v, st)).2.2.2.1, nI (gm_run kk nn N 300 (0, 0, 0, g, v, st)).2.2.2.2.1, fun j => nI (kk j), nn, v0, q0, (gm_run kk nn N 300 (0, 0, 0, g, v, st)).2.2.2.2.2.1, (gm_run kk nn N 300 (0, 0, 0, g, v, st)).2.2.2.2.2.2)) : wpX_execute__trialVariables_trialPile post (nI N, gl, le, lp, ls, lz, lh, n1, n2, n3, n4, fun j => nI (kk j), nn, v0, q0, v, st) (nI g) :=
  ⟨302, gx_loop_B hf hN 300 302 0 0 0 g v st rfl (by omega) (by omega) o4 (by omega) H⟩
end
end
section
section
variable {N : Nat} {en pl sp : Int32} {kk : Nat → Nat} {nn kv kp : Nat → Int32} {p s h m g : Nat} {v st : Nat → Int32} {a x : Int32}
theorem gy_push {post : SY → Prop} (hh : h < 8) (H : post (nI N, nI (h + 1), nI g, en, pl, nI s, sp, fun j => nI (kk j), nn, v, upd st h x, kv, kp)) : wpY_push post (nI N, nI h, nI g, en, pl, nI s, sp, fun j => nI (kk j), nn, v, st, kv, kp) x :=
  And.intro (vp_in_nI hh (by decide)) (nm_r (gm_u (by omega)) (nm_r (nI_1 h) H))
theorem gy_pop {post : Int32 → SY → Prop} (hh : m < 8) (H : post (st m) (nI N, nI m, nI g, en, pl, nI s, sp, fun j => nI (kk j), nn, v, st, kv, kp)) : wpY_pop post (nI N, nI (m + 1), nI g, en, pl, nI s, sp, fun j => nI (kk j), nn, v, st, kv, kp) := by
  have e : (nI m).toNatClampNeg = m := nI_clamp (by omega)
  refine nm_r (nI_pred m) (And.intro (vp_in_nI hh (by decide)) ?_)
  rw [e]
  exact H
theorem gy_op1 {post : SY → Prop} (hh : m + 2 ≤ 8) (H : post (nI N, nI (m + 1), nI g, en, pl, nI s, sp, fun j => nI (kk j), nn, v, upd st m (st m + st (m + 1)), kv, kp)) : wpY_operate post (nI N, nI (m + 2), nI g, en, pl, nI s, sp, fun j => nI (kk j), nn, v, st, kv, kp) (nI 1) := by
  unfold wpY_operate
  dsimp only
  refine gy_pop (by omega) ?_
  dsimp only
  refine gy_pop (by omega) ?_
  dsimp only
  repeat first
    | refine br_t (by first | assumption | decide) ?_
    | refine br_f (by first | assumption | decide) ?_
  unfold wY_operate_73
  exact gy_push (by omega) H
theorem gy_op2 {post : SY → Prop} (hh : m + 2 ≤ 8) (H : post (nI N, nI (m + 1), nI g, en, pl, nI s, sp, fun j => nI (kk j), nn, v, upd st m (st m - st (m + 1)), kv, kp)) : wpY_operate post (nI N, nI (m + 2), nI g, en, pl, nI s, sp, fun j => nI (kk j), nn, v, st, kv, kp) (nI 2) := by
  unfold wpY_operate
  dsimp only
  refine gy_pop (by omega) ?_
  dsimp only
  refine gy_pop (by omega) ?_
  dsimp only
  repeat first
    | refine br_t (by first | assumption | decide) ?_
    | refine br_f (by first | assumption | decide) ?_
  unfold wY_operate_73
  exact gy_push (by omega) H
theorem gy_op3 {post : SY → Prop} (hh : m + 2 ≤ 8) (H : post (nI N, nI (m + 1), nI g, en, pl, nI s, sp, fun j => nI (kk j), nn, v, upd st m (st m * st (m + 1)), kv, kp)) : wpY_operate post (nI N, nI (m + 2), nI g, en, pl, nI s, sp, fun j => nI (kk j), nn, v, st, kv, kp) (nI 3) := by
  unfold wpY_operate
  dsimp only
  refine gy_pop (by omega) ?_
  dsimp only
  refine gy_pop (by omega) ?_
  dsimp only
  repeat first
    | refine br_t (by first | assumption | decide) ?_
    | refine br_f (by first | assumption | decide) ?_
  unfold wY_operate_73
  exact gy_push (by omega) H
theorem gy_op4 {post : SY → Prop} (hh : m + 2 ≤ 8) (H : post (nI N, nI (m + 1), nI g, en, pl, nI s, sp, fun j => nI (kk j), nn, v, upd st m (if st m < st (m + 1) then 1 else 0), kv, kp)) : wpY_operate post (nI N, nI (m + 2), nI g, en, pl, nI s, sp, fun j => nI (kk j), nn, v, st, kv, kp) (nI 4) := by
  unfold wpY_operate
  dsimp only
  refine gy_pop (by omega) ?_
  dsimp only
  refine gy_pop (by omega) ?_
  dsimp only
  by_cases c : st m < st (m + 1)
  · have c' : ¬ st (m + 1) ≤ st m := Int32.not_le.mpr c
    rw [if_pos c] at H
    repeat first
      | refine br_t (by first | assumption | decide) ?_
      | refine br_f (by first | assumption | decide) ?_
    unfold wY_operate_73
    exact gy_push (by omega) H
  · have c' : st (m + 1) ≤ st m := Int32.not_lt.mp c
    rw [if_neg c] at H
    repeat first
      | refine br_t (by first | assumption | decide) ?_
      | refine br_f (by first | assumption | decide) ?_
    unfold wY_operate_73
    exact gy_push (by omega) H
theorem gy_op6 {post : SY → Prop} (hh : m + 2 ≤ 8) (H : post (nI N, nI (m + 2), nI g, en, pl, nI s, sp, fun j => nI (kk j), nn, v, upd (upd st m (st (m + 1))) (m + 1) (st m), kv, kp)) : wpY_operate post (nI N, nI (m + 2), nI g, en, pl, nI s, sp, fun j => nI (kk j), nn, v, st, kv, kp) (nI 6) := by
  unfold wpY_operate
  dsimp only
  refine gy_pop (by omega) ?_
  dsimp only
  refine gy_pop (by omega) ?_
  dsimp only
  refine br_t (by decide) ?_
  refine gy_push (by omega) ?_
  dsimp only
  exact gy_push (by omega) H
theorem gy_traps_t {k : Nat} (hk : k < 15) (hh : h ≤ 8) (c : h < gm_need k ∨ 8 < h + gm_grow k) {post : Int32 → Prop} (H : post 1) : wpY_traps post (nI N, nI h, nI g, en, pl, nI s, sp, fun j => nI (kk j), nn, v, st, kv, kp) (nI k) := by
  rcases gm_cases hk with rfl | rfl | rfl | rfl | rfl | rfl | rfl | rfl | rfl | rfl | rfl | rfl | rfl | rfl | rfl
  · have c' : h < 0 ∨ 8 < h + 1 := c
    have q : h = 8 := by omega
    subst q
    repeat first
      | exact H
      | refine br_t (by first | assumption | decide) ?_
      | refine br_f (by first | assumption | decide) ?_
      | refine And.intro rfl ?_
      | refine nm_e ?_
  · have c' : h < 2 ∨ 8 < h + 0 := c
    have q : nI h < 2 := nI_lt (b := 2) (by omega) (by decide)
    have q' : ¬ 2 ≤ nI h := nI_ge (b := 2) (by omega) (by decide)
    repeat first
      | exact H
      | refine br_t (by first | assumption | decide) ?_
      | refine br_f (by first | assumption | decide) ?_
      | refine And.intro rfl ?_
      | refine nm_e ?_
  · have c' : h < 2 ∨ 8 < h + 0 := c
    have q : nI h < 2 := nI_lt (b := 2) (by omega) (by decide)
    have q' : ¬ 2 ≤ nI h := nI_ge (b := 2) (by omega) (by decide)
    repeat first
      | exact H
      | refine br_t (by first | assumption | decide) ?_
      | refine br_f (by first | assumption | decide) ?_
      | refine And.intro rfl ?_
      | refine nm_e ?_
  · have c' : h < 2 ∨ 8 < h + 0 := c
    have q : nI h < 2 := nI_lt (b := 2) (by omega) (by decide)
    have q' : ¬ 2 ≤ nI h := nI_ge (b := 2) (by omega) (by decide)
    repeat first
      | exact H
      | refine br_t (by first | assumption | decide) ?_
      | refine br_f (by first | assumption | decide) ?_
      | refine And.intro rfl ?_
      | refine nm_e ?_
  · have c' : h < 2 ∨ 8 < h + 0 := c
    have q : nI h < 2 := nI_lt (b := 2) (by omega) (by decide)
    have q' : ¬ 2 ≤ nI h := nI_ge (b := 2) (by omega) (by decide)
    repeat first
      | exact H
      | refine br_t (by first | assumption | decide) ?_
      | refine br_f (by first | assumption | decide) ?_
      | refine And.intro rfl ?_
      | refine nm_e ?_
  · have c' : h < 1 ∨ 8 < h + 1 := c
    by_cases z : h = 0
    · subst z
      repeat first
        | exact H
        | refine br_t (by first | assumption | decide) ?_
        | refine br_f (by first | assumption | decide) ?_
        | refine And.intro rfl ?_
        | refine nm_e ?_
    · have q : h = 8 := by omega
      subst q
      repeat first
        | exact H
        | refine br_t (by first | assumption | decide) ?_
        | refine br_f (by first | assumption | decide) ?_
        | refine And.intro rfl ?_
        | refine nm_e ?_
  · have c' : h < 2 ∨ 8 < h + 0 := c
    have q : nI h < 2 := nI_lt (b := 2) (by omega) (by decide)
    have q' : ¬ 2 ≤ nI h := nI_ge (b := 2) (by omega) (by decide)
    repeat first
      | exact H
      | refine br_t (by first | assumption | decide) ?_
      | refine br_f (by first | assumption | decide) ?_
      | refine And.intro rfl ?_
      | refine nm_e ?_
  · have c' : h < 1 ∨ 8 < h + 0 := c
    have q : nI h < 1 := nI_lt (b := 1) (by omega) (by decide)
    have q' : ¬ 1 ≤ nI h := nI_ge (b := 1) (by omega) (by decide)
    repeat first
      | exact H
      | refine br_t (by first | assumption | decide) ?_
      | refine br_f (by first | assumption | decide) ?_
      | refine And.intro rfl ?_
      | refine nm_e ?_
  · have c' : h < 0 ∨ 8 < h + 1 := c
    have q : h = 8 := by omega
    subst q
    repeat first
      | exact H
      | refine br_t (by first | assumption | decide) ?_
      | refine br_f (by first | assumption | decide) ?_
      | refine And.intro rfl ?_
      | refine nm_e ?_
  · have c' : h < 1 ∨ 8 < h + 0 := c
    have q : nI h < 1 := nI_lt (b := 1) (by omega) (by decide)
    have q' : ¬ 1 ≤ nI h := nI_ge (b := 1) (by omega) (by decide)
    repeat first
      | exact H
      | refine br_t (by first | assumption | decide) ?_
      | refine br_f (by first | assumption | decide) ?_
      | refine And.intro rfl ?_
      | refine nm_e ?_
  · have c' : h < 0 ∨ 8 < h + 0 := c
    omega
  · have c' : h < 1 ∨ 8 < h + 0 := c
    have q : nI h < 1 := nI_lt (b := 1) (by omega) (by decide)
    have q' : ¬ 1 ≤ nI h := nI_ge (b := 1) (by omega) (by decide)
    repeat first
      | exact H
      | refine br_t (by first | assumption | decide) ?_
      | refine br_f (by first | assumption | decide) ?_
      | refine And.intro rfl ?_
      | refine nm_e ?_
  · have c' : h < 1 ∨ 8 < h + 0 := c
    have q : nI h < 1 := nI_lt (b := 1) (by omega) (by decide)
    have q' : ¬ 1 ≤ nI h := nI_ge (b := 1) (by omega) (by decide)
    repeat first
      | exact H
      | refine br_t (by first | assumption | decide) ?_
      | refine br_f (by first | assumption | decide) ?_
      | refine And.intro rfl ?_
      | refine nm_e ?_
  · have c' : h < 0 ∨ 8 < h + 1 := c
    have q : h = 8 := by omega
    subst q
    repeat first
      | exact H
      | refine br_t (by first | assumption | decide) ?_
      | refine br_f (by first | assumption | decide) ?_
      | refine And.intro rfl ?_
      | refine nm_e ?_
  · have c' : h < 0 ∨ 8 < h + 0 := c
    omega
theorem gy_traps_f {k : Nat} (hk : k < 15) (c1 : gm_need k ≤ h) (c2 : h + gm_grow k ≤ 8) {post : Int32 → Prop} (H : post 0) : wpY_traps post (nI N, nI h, nI g, en, pl, nI s, sp, fun j => nI (kk j), nn, v, st, kv, kp) (nI k) := by
  rcases gm_cases hk with rfl | rfl | rfl | rfl | rfl | rfl | rfl | rfl | rfl | rfl | rfl | rfl | rfl | rfl | rfl
  · have d1 : 0 ≤ h := c1
    have d2 : h + 1 ≤ 8 := c2
    have q : ¬ nI h < 0 := nI_nlt (b := 0) (by omega) (by omega)
    have q' : 0 ≤ nI h := nI_le (a := 0) (by omega) (by omega)
    have r : ¬ nI h = 8 := fun z => by
      have z' := (nI_eq (a := h) (b := 8) (by omega) (by decide)).mp z
      omega
    repeat first
      | exact H
      | refine br_t (by first | assumption | decide) ?_
      | refine br_f (by first | assumption | decide) ?_
      | refine And.intro rfl ?_
      | refine nm_e ?_
  · have d1 : 2 ≤ h := c1
    have d2 : h + 0 ≤ 8 := c2
    have q : ¬ nI h < 2 := nI_nlt (b := 2) (by omega) (by omega)
    have q' : 2 ≤ nI h := nI_le (a := 2) (by omega) (by omega)
    repeat first
      | exact H
      | refine br_t (by first | assumption | decide) ?_
      | refine br_f (by first | assumption | decide) ?_
      | refine And.intro rfl ?_
      | refine nm_e ?_
  · have d1 : 2 ≤ h := c1
    have d2 : h + 0 ≤ 8 := c2
    have q : ¬ nI h < 2 := nI_nlt (b := 2) (by omega) (by omega)
    have q' : 2 ≤ nI h := nI_le (a := 2) (by omega) (by omega)
    repeat first
      | exact H
      | refine br_t (by first | assumption | decide) ?_
      | refine br_f (by first | assumption | decide) ?_
      | refine And.intro rfl ?_
      | refine nm_e ?_
  · have d1 : 2 ≤ h := c1
    have d2 : h + 0 ≤ 8 := c2
    have q : ¬ nI h < 2 := nI_nlt (b := 2) (by omega) (by omega)
    have q' : 2 ≤ nI h := nI_le (a := 2) (by omega) (by omega)
    repeat first
      | exact H
      | refine br_t (by first | assumption | decide) ?_
      | refine br_f (by first | assumption | decide) ?_
      | refine And.intro rfl ?_
      | refine nm_e ?_
  · have d1 : 2 ≤ h := c1
    have d2 : h + 0 ≤ 8 := c2
    have q : ¬ nI h < 2 := nI_nlt (b := 2) (by omega) (by omega)
    have q' : 2 ≤ nI h := nI_le (a := 2) (by omega) (by omega)
    repeat first
      | exact H
      | refine br_t (by first | assumption | decide) ?_
      | refine br_f (by first | assumption | decide) ?_
      | refine And.intro rfl ?_
      | refine nm_e ?_
  · have d1 : 1 ≤ h := c1
    have d2 : h + 1 ≤ 8 := c2
    have q : ¬ nI h < 1 := nI_nlt (b := 1) (by omega) (by omega)
    have q' : 1 ≤ nI h := nI_le (a := 1) (by omega) (by omega)
    have r : ¬ nI h = 8 := fun z => by
      have z' := (nI_eq (a := h) (b := 8) (by omega) (by decide)).mp z
      omega
    repeat first
      | exact H
      | refine br_t (by first | assumption | decide) ?_
      | refine br_f (by first | assumption | decide) ?_
      | refine And.intro rfl ?_
      | refine nm_e ?_
  · have d1 : 2 ≤ h := c1
    have d2 : h + 0 ≤ 8 := c2
    have q : ¬ nI h < 2 := nI_nlt (b := 2) (by omega) (by omega)
    have q' : 2 ≤ nI h := nI_le (a := 2) (by omega) (by omega)
    repeat first
      | exact H
      | refine br_t (by first | assumption | decide) ?_
      | refine br_f (by first | assumption | decide) ?_
      | refine And.intro rfl ?_
      | refine nm_e ?_
  · have d1 : 1 ≤ h := c1
    have d2 : h + 0 ≤ 8 := c2
    have q : ¬ nI h < 1 := nI_nlt (b := 1) (by omega) (by omega)
    have q' : 1 ≤ nI h := nI_le (a := 1) (by omega) (by omega)
    repeat first
      | exact H
      | refine br_t (by first | assumption | decide) ?_
      | refine br_f (by first | assumption | decide) ?_
      | refine And.intro rfl ?_
      | refine nm_e ?_
  · have d1 : 0 ≤ h := c1
    have d2 : h + 1 ≤ 8 := c2
    have q : ¬ nI h < 0 := nI_nlt (b := 0) (by omega) (by omega)
    have q' : 0 ≤ nI h := nI_le (a := 0) (by omega) (by omega)
    have r : ¬ nI h = 8 := fun z => by
      have z' := (nI_eq (a := h) (b := 8) (by omega) (by decide)).mp z
      omega
    repeat first
      | exact H
      | refine br_t (by first | assumption | decide) ?_
      | refine br_f (by first | assumption | decide) ?_
      | refine And.intro rfl ?_
      | refine nm_e ?_
  · have d1 : 1 ≤ h := c1
    have d2 : h + 0 ≤ 8 := c2
    have q : ¬ nI h < 1 := nI_nlt (b := 1) (by omega) (by omega)
    have q' : 1 ≤ nI h := nI_le (a := 1) (by omega) (by omega)
    repeat first
      | exact H
      | refine br_t (by first | assumption | decide) ?_
      | refine br_f (by first | assumption | decide) ?_
      | refine And.intro rfl ?_
      | refine nm_e ?_
  · have d1 : 0 ≤ h := c1
    have d2 : h + 0 ≤ 8 := c2
    have q : ¬ nI h < 0 := nI_nlt (b := 0) (by omega) (by omega)
    have q' : 0 ≤ nI h := nI_le (a := 0) (by omega) (by omega)
    repeat first
      | exact H
      | refine br_t (by first | assumption | decide) ?_
      | refine br_f (by first | assumption | decide) ?_
      | refine And.intro rfl ?_
      | refine nm_e ?_
  · have d1 : 1 ≤ h := c1
    have d2 : h + 0 ≤ 8 := c2
    have q : ¬ nI h < 1 := nI_nlt (b := 1) (by omega) (by omega)
    have q' : 1 ≤ nI h := nI_le (a := 1) (by omega) (by omega)
    repeat first
      | exact H
      | refine br_t (by first | assumption | decide) ?_
      | refine br_f (by first | assumption | decide) ?_
      | refine And.intro rfl ?_
      | refine nm_e ?_
  · have d1 : 1 ≤ h := c1
    have d2 : h + 0 ≤ 8 := c2
    have q : ¬ nI h < 1 := nI_nlt (b := 1) (by omega) (by omega)
    have q' : 1 ≤ nI h := nI_le (a := 1) (by omega) (by omega)
    repeat first
      | exact H
      | refine br_t (by first | assumption | decide) ?_
      | refine br_f (by first | assumption | decide) ?_
      | refine And.intro rfl ?_
      | refine nm_e ?_
  · have d1 : 0 ≤ h := c1
    have d2 : h + 1 ≤ 8 := c2
    have q : ¬ nI h < 0 := nI_nlt (b := 0) (by omega) (by omega)
    have q' : 0 ≤ nI h := nI_le (a := 0) (by omega) (by omega)
    have r : ¬ nI h = 8 := fun z => by
      have z' := (nI_eq (a := h) (b := 8) (by omega) (by decide)).mp z
      omega
    repeat first
      | exact H
      | refine br_t (by first | assumption | decide) ?_
      | refine br_f (by first | assumption | decide) ?_
      | refine And.intro rfl ?_
      | refine nm_e ?_
  · have d1 : 0 ≤ h := c1
    have d2 : h + 0 ≤ 8 := c2
    have q : ¬ nI h < 0 := nI_nlt (b := 0) (by omega) (by omega)
    have q' : 0 ≤ nI h := nI_le (a := 0) (by omega) (by omega)
    repeat first
      | exact H
      | refine br_t (by first | assumption | decide) ?_
      | refine br_f (by first | assumption | decide) ?_
      | refine And.intro rfl ?_
      | refine nm_e ?_
theorem gy_price {k : Nat} (hk : k < 15) (hh : h ≤ 8) (h1 : gm_need k ≤ h) {post : Int32 → Prop} (H : post (nI (gm_price k (st (h - 1))))) : wpY_price post (nI N, nI h, nI g, en, pl, nI s, sp, fun j => nI (kk j), nn, v, st, kv, kp) (nI k) := by
  rcases gm_cases hk with rfl | rfl | rfl | rfl | rfl | rfl | rfl | rfl | rfl | rfl | rfl | rfl | rfl | rfl | rfl
  ·
    repeat first
      | exact H
      | refine br_t (by first | assumption | decide) ?_
      | refine br_f (by first | assumption | decide) ?_
      | refine And.intro rfl ?_
      | refine nm_e ?_
  ·
    repeat first
      | exact H
      | refine br_t (by first | assumption | decide) ?_
      | refine br_f (by first | assumption | decide) ?_
      | refine And.intro rfl ?_
      | refine nm_e ?_
  ·
    repeat first
      | exact H
      | refine br_t (by first | assumption | decide) ?_
      | refine br_f (by first | assumption | decide) ?_
      | refine And.intro rfl ?_
      | refine nm_e ?_
  ·
    repeat first
      | exact H
      | refine br_t (by first | assumption | decide) ?_
      | refine br_f (by first | assumption | decide) ?_
      | refine And.intro rfl ?_
      | refine nm_e ?_
  ·
    repeat first
      | exact H
      | refine br_t (by first | assumption | decide) ?_
      | refine br_f (by first | assumption | decide) ?_
      | refine And.intro rfl ?_
      | refine nm_e ?_
  ·
    repeat first
      | exact H
      | refine br_t (by first | assumption | decide) ?_
      | refine br_f (by first | assumption | decide) ?_
      | refine And.intro rfl ?_
      | refine nm_e ?_
  ·
    repeat first
      | exact H
      | refine br_t (by first | assumption | decide) ?_
      | refine br_f (by first | assumption | decide) ?_
      | refine And.intro rfl ?_
      | refine nm_e ?_
  ·
    repeat first
      | exact H
      | refine br_t (by first | assumption | decide) ?_
      | refine br_f (by first | assumption | decide) ?_
      | refine And.intro rfl ?_
      | refine nm_e ?_
  ·
    repeat first
      | exact H
      | refine br_t (by first | assumption | decide) ?_
      | refine br_f (by first | assumption | decide) ?_
      | refine And.intro rfl ?_
      | refine nm_e ?_
  ·
    repeat first
      | exact H
      | refine br_t (by first | assumption | decide) ?_
      | refine br_f (by first | assumption | decide) ?_
      | refine And.intro rfl ?_
      | refine nm_e ?_
  ·
    repeat first
      | exact H
      | refine br_t (by first | assumption | decide) ?_
      | refine br_f (by first | assumption | decide) ?_
      | refine And.intro rfl ?_
      | refine nm_e ?_
  ·
    repeat first
      | exact H
      | refine br_t (by first | assumption | decide) ?_
      | refine br_f (by first | assumption | decide) ?_
      | refine And.intro rfl ?_
      | refine nm_e ?_
  · obtain ⟨m, rfl⟩ : ∃ m, h = m + 1 := ⟨h - 1, by have : 1 ≤ h := h1; omega⟩
    have e : (nI m).toNatClampNeg = m := nI_clamp (by omega)
    have H' : post (nI (1 + gm_low (st m))) := H
    rw [← nI_add, ← gm_and] at H'
    unfold wpY_price
    dsimp only
    rw [nI_pred m]
    refine br_t (by decide) (And.intro (vp_in_nI (by omega) (by decide)) ?_)
    rw [e]
    exact H'
  ·
    repeat first
      | exact H
      | refine br_t (by first | assumption | decide) ?_
      | refine br_f (by first | assumption | decide) ?_
      | refine And.intro rfl ?_
      | refine nm_e ?_
  ·
    repeat first
      | exact H
      | refine br_t (by first | assumption | decide) ?_
      | refine br_f (by first | assumption | decide) ?_
      | refine And.intro rfl ?_
      | refine nm_e ?_
theorem gy_endAt (hf : ∀ j, gm_fit (kk j) (nn j)) (hN : N ≤ 20) (o2 : s ≤ 300) (o3 : h ≤ 8) (o4 : g ≤ 1000000) (o1 : p ≤ 20) {post : Int32 → Prop} (H : post (nI (gm_end kk N p s h g st))) : wpY_endAt post (nI N, nI h, nI g, en, pl, nI s, sp, fun j => nI (kk j), nn, v, st, kv, kp) (nI p) := by
  have e : (nI p).toNatClampNeg = p := nI_clamp (by omega)
  refine pk_lt p N (fun c1 => ?_) (fun c1 => ?_)
  rotate_left
  · rw [gm_e1 c1] at H
    exact H
  refine pk_eq s 300 (fun c2 => ?_) (fun c2 => ?_)
  · rw [gm_e2 c1 c2] at H
    exact H
  refine And.intro (vp_in_nI (by omega) (by decide)) ?_
  rw [e]
  by_cases c3 : h < gm_need (kk p) ∨ 8 < h + gm_grow (kk p)
  · rw [gm_e3 c1 c2 c3] at H
    refine gy_traps_t (hf p).1 o3 c3 ?_
    repeat first
      | exact H
      | refine br_t (by first | assumption | decide) ?_
      | refine br_f (by first | assumption | decide) ?_
      | refine And.intro rfl ?_
      | refine nm_e ?_
  refine gy_traps_f (hf p).1 (by omega) (by omega) ?_
  refine br_t rfl ?_
  refine And.intro (vp_in_nI (by omega) (by decide)) ?_
  try rw [e]
  refine gy_price (hf p).1 o3 (by omega) ?_
  have hp := gm_price_le (st (h - 1)) (hf p).1
  refine pk_le (gm_price (kk p) (st (h - 1))) g (fun c5 => ?_) (fun c5 => ?_)
  · rw [gm_e0 c1 c2 (by omega) (by omega) c5] at H
    repeat first
      | exact H
      | refine br_t (by first | assumption | decide) ?_
      | refine br_f (by first | assumption | decide) ?_
      | refine And.intro rfl ?_
      | refine nm_e ?_
  · rw [gm_e4 c1 c2 (by omega) (by omega) c5] at H
    repeat first
      | exact H
      | refine br_t (by first | assumption | decide) ?_
      | refine br_f (by first | assumption | decide) ?_
      | refine And.intro rfl ?_
      | refine nm_e ?_
theorem gy_work {k : Nat} (ek : kk p = k) (ea : nn p = a) (hf : gm_fit k a) (h14 : k ≠ 14) (hp : p < 20) (h1 : gm_need k ≤ h) (h2 : h + gm_grow k ≤ 8) {post : Int32 → SY → Prop} (H : post (nI (gm_work a p s h g v st k).1) (nI N, nI (gm_work a p s h g v st k).2.2.1, nI (gm_work a p s h g v st k).2.2.2.1, en, pl, nI (gm_work a p s h g v st k).2.1, sp, fun j => nI (kk j), nn, (gm_work a p s h g v st k).2.2.2.2.1, (gm_work a p s h g v st k).2.2.2.2.2, kv, kp)) : wpY_work post (nI N, nI h, nI g, en, pl, nI s, sp, fun j => nI (kk j), nn, v, st, kv, kp) (nI p) := by
  have e : (fun j => nI (kk j)) (nI p).toNatClampNeg = nI k := by rw [nI_clamp (by omega)]; exact congrArg nI ek
  have e' : nn (nI p).toNatClampNeg = a := by rw [nI_clamp (by omega)]; exact ea
  refine And.intro (vp_in_nI hp (by decide)) (nm_r e (And.intro (vp_in_nI hp (by decide)) (nm_r e' ?_)))
  clear e e' ek ea
  obtain ⟨hk, h8, h10⟩ := hf
  rcases gm_cases hk with rfl | rfl | rfl | rfl | rfl | rfl | rfl | rfl | rfl | rfl | rfl | rfl | rfl | rfl | rfl
  · have d1 : 0 ≤ h := h1
    have d2 : h + 1 ≤ 8 := h2
    have H' : post (nI p + 1) (nI N, nI (h + 1), nI g, en, pl, nI s, sp, fun j => nI (kk j), nn, v, upd st h a, kv, kp) := by rw [nI_1]; exact H
    repeat first
      | exact H'
      | refine gy_pop (by omega) ?_
      | refine gy_push (by omega) ?_
      | refine br_t (by first | assumption | decide) ?_
      | refine br_f (by first | assumption | decide) ?_
      | refine And.intro rfl ?_
      | refine nm_e ?_
  · have d1 : 2 ≤ h := h1
    have d2 : h + 0 ≤ 8 := h2
    obtain ⟨m, rfl⟩ : ∃ m, h = m + 2 := ⟨h - 2, by omega⟩
    have H' : post (nI p + 1) (nI N, nI (m + 1), nI g, en, pl, nI s, sp, fun j => nI (kk j), nn, v, upd st m (st m + st (m + 1)), kv, kp) := by rw [nI_1]; exact H
    repeat first
      | exact H'
      | refine gy_op1 (by omega) ?_
      | refine gy_pop (by omega) ?_
      | refine gy_push (by omega) ?_
      | refine br_t (by first | assumption | decide) ?_
      | refine br_f (by first | assumption | decide) ?_
      | refine And.intro rfl ?_
      | refine nm_e ?_
  · have d1 : 2 ≤ h := h1
    have d2 : h + 0 ≤ 8 := h2
    obtain ⟨m, rfl⟩ : ∃ m, h = m + 2 := ⟨h - 2, by omega⟩
    have H' : post (nI p + 1) (nI N, nI (m + 1), nI g, en, pl, nI s, sp, fun j => nI (kk j), nn, v, upd st m (st m - st (m + 1)), kv, kp) := by rw [nI_1]; exact H
    repeat first
      | exact H'
      | refine gy_op2 (by omega) ?_
      | refine gy_pop (by omega) ?_
      | refine gy_push (by omega) ?_
      | refine br_t (by first | assumption | decide) ?_
      | refine br_f (by first | assumption | decide) ?_
      | refine And.intro rfl ?_
      | refine nm_e ?_
  · have d1 : 2 ≤ h := h1
    have d2 : h + 0 ≤ 8 := h2
    obtain ⟨m, rfl⟩ : ∃ m, h = m + 2 := ⟨h - 2, by omega⟩
    have H' : post (nI p + 1) (nI N, nI (m + 1), nI g, en, pl, nI s, sp, fun j => nI (kk j), nn, v, upd st m (st m * st (m + 1)), kv, kp) := by rw [nI_1]; exact H
    repeat first
      | exact H'
      | refine gy_op3 (by omega) ?_
      | refine gy_pop (by omega) ?_
      | refine gy_push (by omega) ?_
      | refine br_t (by first | assumption | decide) ?_
      | refine br_f (by first | assumption | decide) ?_
      | refine And.intro rfl ?_
      | refine nm_e ?_
  · have d1 : 2 ≤ h := h1
    have d2 : h + 0 ≤ 8 := h2
    obtain ⟨m, rfl⟩ : ∃ m, h = m + 2 := ⟨h - 2, by omega⟩
    have H' : post (nI p + 1) (nI N, nI (m + 1), nI g, en, pl, nI s, sp, fun j => nI (kk j), nn, v, upd st m (if st m < st (m + 1) then 1 else 0), kv, kp) := by rw [nI_1]; exact H
    repeat first
      | exact H'
      | refine gy_op4 (by omega) ?_
      | refine gy_pop (by omega) ?_
      | refine gy_push (by omega) ?_
      | refine br_t (by first | assumption | decide) ?_
      | refine br_f (by first | assumption | decide) ?_
      | refine And.intro rfl ?_
      | refine nm_e ?_
  · have d1 : 1 ≤ h := h1
    have d2 : h + 1 ≤ 8 := h2
    obtain ⟨m, rfl⟩ : ∃ m, h = m + 1 := ⟨h - 1, by omega⟩
    have H' : post (nI p + 1) (nI N, nI (m + 2), nI g, en, pl, nI s, sp, fun j => nI (kk j), nn, v, upd st (m + 1) (st m), kv, kp) := by rw [nI_1]; exact H
    have em : (nI m).toNatClampNeg = m := nI_clamp (by omega)
    have vm : vp_in (nI m) 8 := vp_in_nI (by omega) (by decide)
    repeat first
      | refine br_t (by decide) ?_
      | refine br_f (by decide) ?_
    rw [nI_pred m]
    refine And.intro vm ?_
    rw [em]
    repeat first
      | exact H'
      | refine gy_pop (by omega) ?_
      | refine gy_push (by omega) ?_
      | refine br_t (by first | assumption | decide) ?_
      | refine br_f (by first | assumption | decide) ?_
      | refine And.intro rfl ?_
      | refine nm_e ?_
  · have d1 : 2 ≤ h := h1
    have d2 : h + 0 ≤ 8 := h2
    obtain ⟨m, rfl⟩ : ∃ m, h = m + 2 := ⟨h - 2, by omega⟩
    have H' : post (nI p + 1) (nI N, nI (m + 2), nI g, en, pl, nI s, sp, fun j => nI (kk j), nn, v, upd (upd st m (st (m + 1))) (m + 1) (st m), kv, kp) := by rw [nI_1]; exact H
    repeat first
      | exact H'
      | refine gy_op6 (by omega) ?_
      | refine gy_pop (by omega) ?_
      | refine gy_push (by omega) ?_
      | refine br_t (by first | assumption | decide) ?_
      | refine br_f (by first | assumption | decide) ?_
      | refine And.intro rfl ?_
      | refine nm_e ?_
  · have d1 : 1 ≤ h := h1
    have d2 : h + 0 ≤ 8 := h2
    obtain ⟨m, rfl⟩ : ∃ m, h = m + 1 := ⟨h - 1, by omega⟩
    have H' : post (nI p + 1) (nI N, nI m, nI g, en, pl, nI s, sp, fun j => nI (kk j), nn, v, st, kv, kp) := by rw [nI_1]; exact H
    repeat first
      | exact H'
      | refine gy_pop (by omega) ?_
      | refine gy_push (by omega) ?_
      | refine br_t (by first | assumption | decide) ?_
      | refine br_f (by first | assumption | decide) ?_
      | refine And.intro rfl ?_
      | refine nm_e ?_
  · have d1 : 0 ≤ h := h1
    have d2 : h + 1 ≤ 8 := h2
    obtain ⟨j, hj, rfl⟩ := h8 (by decide)
    have vj : vp_in (nI j) 4 := vp_in_nI hj (by decide)
    have H' : post (nI p + 1) (nI N, nI (h + 1), nI g, en, pl, nI s, sp, fun j => nI (kk j), nn, v, upd st h (v (nI j).toNatClampNeg), kv, kp) := by rw [nI_1]; exact H
    repeat first
      | exact H'
      | refine gy_pop (by omega) ?_
      | refine gy_push (by omega) ?_
      | refine And.intro vj ?_
      | refine br_t (by first | assumption | decide) ?_
      | refine br_f (by first | assumption | decide) ?_
      | refine And.intro rfl ?_
      | refine nm_e ?_
  · have d1 : 1 ≤ h := h1
    have d2 : h + 0 ≤ 8 := h2
    obtain ⟨m, rfl⟩ : ∃ m, h = m + 1 := ⟨h - 1, by omega⟩
    obtain ⟨j, hj, rfl⟩ := h8 (by decide)
    have vj : vp_in (nI j) 4 := vp_in_nI hj (by decide)
    have H' : post (nI p + 1) (nI N, nI m, nI g, en, pl, nI s, sp, fun j => nI (kk j), nn, upd v (nI j).toNatClampNeg (st m), st, kv, kp) := by rw [nI_1]; exact H
    repeat first
      | exact H'
      | refine gy_pop (by omega) ?_
      | refine gy_push (by omega) ?_
      | refine And.intro vj ?_
      | refine br_t (by first | assumption | decide) ?_
      | refine br_f (by first | assumption | decide) ?_
      | refine And.intro rfl ?_
      | refine nm_e ?_
  · have d1 : 0 ≤ h := h1
    have d2 : h + 0 ≤ 8 := h2
    obtain ⟨j, hj, rfl⟩ := h10 (by decide)
    have ej : (nI j).toNatClampNeg = j := nI_clamp (by omega)
    have H' : post (nI (nI j).toNatClampNeg) (nI N, nI h, nI g, en, pl, nI s, sp, fun j => nI (kk j), nn, v, st, kv, kp) := H
    rw [ej] at H'
    repeat first
      | exact H'
      | refine br_t (by first | assumption | decide) ?_
      | refine br_f (by first | assumption | decide) ?_
      | refine And.intro rfl ?_
      | refine nm_e ?_
  · have d1 : 1 ≤ h := h1
    have d2 : h + 0 ≤ 8 := h2
    obtain ⟨m, rfl⟩ : ∃ m, h = m + 1 := ⟨h - 1, by omega⟩
    obtain ⟨j, hj, rfl⟩ := h10 (by decide)
    have ej : (nI j).toNatClampNeg = j := nI_clamp (by omega)
    have H' : post (nI (if st m = 0 then p + 1 else (nI j).toNatClampNeg)) (nI N, nI m, nI g, en, pl, nI s, sp, fun j => nI (kk j), nn, v, st, kv, kp) := H
    rw [ej] at H'
    by_cases c : st m = 0
    · rw [if_pos c, ← nI_1] at H'
      repeat first
        | exact H'
        | refine gy_pop (by omega) ?_
        | refine gy_push (by omega) ?_
        | refine br_t (by first | assumption | decide) ?_
        | refine br_f (by first | assumption | decide) ?_
        | refine And.intro rfl ?_
        | refine nm_e ?_
    · rw [if_neg c] at H'
      repeat first
        | exact H'
        | refine gy_pop (by omega) ?_
        | refine gy_push (by omega) ?_
        | refine br_t (by first | assumption | decide) ?_
        | refine br_f (by first | assumption | decide) ?_
        | refine And.intro rfl ?_
        | refine nm_e ?_
  · have d1 : 1 ≤ h := h1
    have d2 : h + 0 ≤ 8 := h2
    obtain ⟨m, rfl⟩ : ∃ m, h = m + 1 := ⟨h - 1, by omega⟩
    have H' : post (nI p + 1) (nI N, nI m, nI g, en, pl, nI s, sp, fun j => nI (kk j), nn, v, st, kv, kp) := by rw [nI_1]; exact H
    repeat first
      | exact H'
      | refine gy_pop (by omega) ?_
      | refine gy_push (by omega) ?_
      | refine br_t (by first | assumption | decide) ?_
      | refine br_f (by first | assumption | decide) ?_
      | refine And.intro rfl ?_
      | refine nm_e ?_
  · have d1 : 0 ≤ h := h1
    have d2 : h + 1 ≤ 8 := h2
    have H' : post (nI p + 1) (nI N, nI (h + 1), nI g, en, pl, nI s, sp, fun j => nI (kk j), nn, v, upd st h (nI g), kv, kp) := by rw [nI_1]; exact H
    repeat first
      | exact H'
      | refine gy_pop (by omega) ?_
      | refine gy_push (by omega) ?_
      | refine br_t (by first | assumption | decide) ?_
      | refine br_f (by first | assumption | decide) ?_
      | refine And.intro rfl ?_
      | refine nm_e ?_
  · have d1 : 0 ≤ h := h1
    have d2 : h + 0 ≤ 8 := h2
    exact absurd rfl h14
theorem gy_ins {z1 z2 z3 z4 z5 z6 z7 : Int32} {w1 w2 w3 w4 w5 w6 : Nat → Int32} {k : Nat} {a : Int32} (hk : k < 15) {post : Int32 → Prop} (Ht : gm_good k a → post 1) (Hf : ¬ gm_good k a → post 0) : wpY_isFit post (z1, z2, z3, z4, z5, z6, z7, w1, w2, w3, w4, w5, w6) (nI k) a := by
  rcases gm_cases hk with rfl | rfl | rfl | rfl | rfl | rfl | rfl | rfl | rfl | rfl | rfl | rfl | rfl | rfl | rfl
  · by_cases c1 : a < -100
    · have H := Hf (fun g => (g.1 rfl).1 c1)
      have d1 : ¬ -100 ≤ a := Int32.not_le.mpr c1
      repeat first
        | exact H
        | refine br_t (by first | assumption | decide) ?_
        | refine br_f (by first | assumption | decide) ?_
        | refine And.intro rfl ?_
        | refine nm_e ?_
    · have d1 : -100 ≤ a := Int32.not_lt.mp c1
      by_cases c2 : 100 < a
      · have H := Hf (fun g => (g.1 rfl).2 c2)
        have d2 : ¬ a ≤ 100 := Int32.not_le.mpr c2
        repeat first
          | exact H
          | refine br_t (by first | assumption | decide) ?_
          | refine br_f (by first | assumption | decide) ?_
          | refine And.intro rfl ?_
          | refine nm_e ?_
      · have H := Ht ⟨fun _ => ⟨c1, c2⟩, fun h => absurd h (by decide), fun h => absurd h (by decide)⟩
        have d2 : a ≤ 100 := Int32.not_lt.mp c2
        repeat first
          | exact H
          | refine br_t (by first | assumption | decide) ?_
          | refine br_f (by first | assumption | decide) ?_
          | refine And.intro rfl ?_
          | refine nm_e ?_
  · have H := Ht ⟨fun h => absurd h (by decide), fun h => absurd h (by decide), fun h => absurd h (by decide)⟩
    repeat first
      | exact H
      | refine br_t (by first | assumption | decide) ?_
      | refine br_f (by first | assumption | decide) ?_
      | refine And.intro rfl ?_
      | refine nm_e ?_
  · have H := Ht ⟨fun h => absurd h (by decide), fun h => absurd h (by decide), fun h => absurd h (by decide)⟩
    repeat first
      | exact H
      | refine br_t (by first | assumption | decide) ?_
      | refine br_f (by first | assumption | decide) ?_
      | refine And.intro rfl ?_
      | refine nm_e ?_
  · have H := Ht ⟨fun h => absurd h (by decide), fun h => absurd h (by decide), fun h => absurd h (by decide)⟩
    repeat first
      | exact H
      | refine br_t (by first | assumption | decide) ?_
      | refine br_f (by first | assumption | decide) ?_
      | refine And.intro rfl ?_
      | refine nm_e ?_
  · have H := Ht ⟨fun h => absurd h (by decide), fun h => absurd h (by decide), fun h => absurd h (by decide)⟩
    repeat first
      | exact H
      | refine br_t (by first | assumption | decide) ?_
      | refine br_f (by first | assumption | decide) ?_
      | refine And.intro rfl ?_
      | refine nm_e ?_
  · have H := Ht ⟨fun h => absurd h (by decide), fun h => absurd h (by decide), fun h => absurd h (by decide)⟩
    repeat first
      | exact H
      | refine br_t (by first | assumption | decide) ?_
      | refine br_f (by first | assumption | decide) ?_
      | refine And.intro rfl ?_
      | refine nm_e ?_
  · have H := Ht ⟨fun h => absurd h (by decide), fun h => absurd h (by decide), fun h => absurd h (by decide)⟩
    repeat first
      | exact H
      | refine br_t (by first | assumption | decide) ?_
      | refine br_f (by first | assumption | decide) ?_
      | refine And.intro rfl ?_
      | refine nm_e ?_
  · have H := Ht ⟨fun h => absurd h (by decide), fun h => absurd h (by decide), fun h => absurd h (by decide)⟩
    repeat first
      | exact H
      | refine br_t (by first | assumption | decide) ?_
      | refine br_f (by first | assumption | decide) ?_
      | refine And.intro rfl ?_
      | refine nm_e ?_
  ·
    rcases pk_ix a (n := 4) (by decide) with c | c | ⟨m, hm, rfl⟩
    · have H := Hf (fun g => gm_nvar (n := 4) (by decide) (Or.inl c) (g.2.1 (by decide)))
      have d1 : ¬ 0 ≤ a := Int32.not_le.mpr c
      repeat first
        | exact H
        | refine br_t (by first | assumption | decide) ?_
        | refine br_f (by first | assumption | decide) ?_
        | refine And.intro rfl ?_
        | refine nm_e ?_
    · have H := Hf (fun g => gm_nvar (n := 4) (by decide) (Or.inr c) (g.2.1 (by decide)))
      have d1 : 4 ≤ a := c
      have d0 : ¬ a < 4 := Int32.not_lt.mpr c
      have d2 : 3 < a := Int32.lt_of_lt_of_le (by decide) d1
      have d3 : ¬ a ≤ 3 := Int32.not_le.mpr d2
      have d4 : ¬ a < 0 := fun z => Int32.lt_irrefl (Int32.lt_trans z (Int32.lt_of_lt_of_le (by decide) d1))
      have d5 : 0 ≤ a := Int32.not_lt.mp d4
      repeat first
        | exact H
        | refine br_t (by first | assumption | decide) ?_
        | refine br_f (by first | assumption | decide) ?_
        | refine And.intro rfl ?_
        | refine nm_e ?_
    · have H := Ht (by refine ⟨?_, ?_, ?_⟩ <;> first | exact fun h => absurd h (by decide) | exact fun _ => ⟨m, hm, rfl⟩)
      have d1 : ¬ nI m < 0 := nI_pos (by omega)
      have d5 : 0 ≤ nI m := nI_pos' (by omega)
      have d2 : ¬ 4 ≤ nI m := nI_ge (b := 4) hm (by decide)
      have d3 : ¬ 3 < nI m := nI_nlt (a := 3) (b := m) (by omega) (by decide)
      have d4 : nI m ≤ 3 := nI_le (b := 3) (by omega) (by decide)
      repeat first
        | exact H
        | refine br_t (by first | assumption | decide) ?_
        | refine br_f (by first | assumption | decide) ?_
        | refine And.intro rfl ?_
        | refine nm_e ?_
  ·
    rcases pk_ix a (n := 4) (by decide) with c | c | ⟨m, hm, rfl⟩
    · have H := Hf (fun g => gm_nvar (n := 4) (by decide) (Or.inl c) (g.2.1 (by decide)))
      have d1 : ¬ 0 ≤ a := Int32.not_le.mpr c
      repeat first
        | exact H
        | refine br_t (by first | assumption | decide) ?_
        | refine br_f (by first | assumption | decide) ?_
        | refine And.intro rfl ?_
        | refine nm_e ?_
    · have H := Hf (fun g => gm_nvar (n := 4) (by decide) (Or.inr c) (g.2.1 (by decide)))
      have d1 : 4 ≤ a := c
      have d0 : ¬ a < 4 := Int32.not_lt.mpr c
      have d2 : 3 < a := Int32.lt_of_lt_of_le (by decide) d1
      have d3 : ¬ a ≤ 3 := Int32.not_le.mpr d2
      have d4 : ¬ a < 0 := fun z => Int32.lt_irrefl (Int32.lt_trans z (Int32.lt_of_lt_of_le (by decide) d1))
      have d5 : 0 ≤ a := Int32.not_lt.mp d4
      repeat first
        | exact H
        | refine br_t (by first | assumption | decide) ?_
        | refine br_f (by first | assumption | decide) ?_
        | refine And.intro rfl ?_
        | refine nm_e ?_
    · have H := Ht (by refine ⟨?_, ?_, ?_⟩ <;> first | exact fun h => absurd h (by decide) | exact fun _ => ⟨m, hm, rfl⟩)
      have d1 : ¬ nI m < 0 := nI_pos (by omega)
      have d5 : 0 ≤ nI m := nI_pos' (by omega)
      have d2 : ¬ 4 ≤ nI m := nI_ge (b := 4) hm (by decide)
      have d3 : ¬ 3 < nI m := nI_nlt (a := 3) (b := m) (by omega) (by decide)
      have d4 : nI m ≤ 3 := nI_le (b := 3) (by omega) (by decide)
      repeat first
        | exact H
        | refine br_t (by first | assumption | decide) ?_
        | refine br_f (by first | assumption | decide) ?_
        | refine And.intro rfl ?_
        | refine nm_e ?_
  ·
    rcases pk_ix a (n := 21) (by decide) with c | c | ⟨m, hm, rfl⟩
    · have H := Hf (fun g => gm_nvar (n := 21) (by decide) (Or.inl c) (g.2.2 (by decide)))
      have d1 : ¬ 0 ≤ a := Int32.not_le.mpr c
      repeat first
        | exact H
        | refine br_t (by first | assumption | decide) ?_
        | refine br_f (by first | assumption | decide) ?_
        | refine And.intro rfl ?_
        | refine nm_e ?_
    · have H := Hf (fun g => gm_nvar (n := 21) (by decide) (Or.inr c) (g.2.2 (by decide)))
      have d1 : 21 ≤ a := c
      have d0 : ¬ a < 21 := Int32.not_lt.mpr c
      have d2 : 20 < a := Int32.lt_of_lt_of_le (by decide) d1
      have d3 : ¬ a ≤ 20 := Int32.not_le.mpr d2
      have d4 : ¬ a < 0 := fun z => Int32.lt_irrefl (Int32.lt_trans z (Int32.lt_of_lt_of_le (by decide) d1))
      have d5 : 0 ≤ a := Int32.not_lt.mp d4
      repeat first
        | exact H
        | refine br_t (by first | assumption | decide) ?_
        | refine br_f (by first | assumption | decide) ?_
        | refine And.intro rfl ?_
        | refine nm_e ?_
    · have H := Ht (by refine ⟨?_, ?_, ?_⟩ <;> first | exact fun h => absurd h (by decide) | exact fun _ => ⟨m, hm, rfl⟩)
      have d1 : ¬ nI m < 0 := nI_pos (by omega)
      have d5 : 0 ≤ nI m := nI_pos' (by omega)
      have d2 : ¬ 21 ≤ nI m := nI_ge (b := 21) hm (by decide)
      have d3 : ¬ 20 < nI m := nI_nlt (a := 20) (b := m) (by omega) (by decide)
      have d4 : nI m ≤ 20 := nI_le (b := 20) (by omega) (by decide)
      repeat first
        | exact H
        | refine br_t (by first | assumption | decide) ?_
        | refine br_f (by first | assumption | decide) ?_
        | refine And.intro rfl ?_
        | refine nm_e ?_
  ·
    rcases pk_ix a (n := 21) (by decide) with c | c | ⟨m, hm, rfl⟩
    · have H := Hf (fun g => gm_nvar (n := 21) (by decide) (Or.inl c) (g.2.2 (by decide)))
      have d1 : ¬ 0 ≤ a := Int32.not_le.mpr c
      repeat first
        | exact H
        | refine br_t (by first | assumption | decide) ?_
        | refine br_f (by first | assumption | decide) ?_
        | refine And.intro rfl ?_
        | refine nm_e ?_
    · have H := Hf (fun g => gm_nvar (n := 21) (by decide) (Or.inr c) (g.2.2 (by decide)))
      have d1 : 21 ≤ a := c
      have d0 : ¬ a < 21 := Int32.not_lt.mpr c
      have d2 : 20 < a := Int32.lt_of_lt_of_le (by decide) d1
      have d3 : ¬ a ≤ 20 := Int32.not_le.mpr d2
      have d4 : ¬ a < 0 := fun z => Int32.lt_irrefl (Int32.lt_trans z (Int32.lt_of_lt_of_le (by decide) d1))
      have d5 : 0 ≤ a := Int32.not_lt.mp d4
      repeat first
        | exact H
        | refine br_t (by first | assumption | decide) ?_
        | refine br_f (by first | assumption | decide) ?_
        | refine And.intro rfl ?_
        | refine nm_e ?_
    · have H := Ht (by refine ⟨?_, ?_, ?_⟩ <;> first | exact fun h => absurd h (by decide) | exact fun _ => ⟨m, hm, rfl⟩)
      have d1 : ¬ nI m < 0 := nI_pos (by omega)
      have d5 : 0 ≤ nI m := nI_pos' (by omega)
      have d2 : ¬ 21 ≤ nI m := nI_ge (b := 21) hm (by decide)
      have d3 : ¬ 20 < nI m := nI_nlt (a := 20) (b := m) (by omega) (by decide)
      have d4 : nI m ≤ 20 := nI_le (b := 20) (by omega) (by decide)
      repeat first
        | exact H
        | refine br_t (by first | assumption | decide) ?_
        | refine br_f (by first | assumption | decide) ?_
        | refine And.intro rfl ?_
        | refine nm_e ?_
  · have H := Ht ⟨fun h => absurd h (by decide), fun h => absurd h (by decide), fun h => absurd h (by decide)⟩
    repeat first
      | exact H
      | refine br_t (by first | assumption | decide) ?_
      | refine br_f (by first | assumption | decide) ?_
      | refine And.intro rfl ?_
      | refine nm_e ?_
  · have H := Ht ⟨fun h => absurd h (by decide), fun h => absurd h (by decide), fun h => absurd h (by decide)⟩
    repeat first
      | exact H
      | refine br_t (by first | assumption | decide) ?_
      | refine br_f (by first | assumption | decide) ?_
      | refine And.intro rfl ?_
      | refine nm_e ?_
  · have H := Ht ⟨fun h => absurd h (by decide), fun h => absurd h (by decide), fun h => absurd h (by decide)⟩
    repeat first
      | exact H
      | refine br_t (by first | assumption | decide) ?_
      | refine br_f (by first | assumption | decide) ?_
      | refine And.intro rfl ?_
      | refine nm_e ?_
theorem gy_ins_o {z1 z2 z3 z4 z5 z6 z7 : Int32} {w1 w2 w3 w4 w5 w6 : Nat → Int32} {op a : Int32} (ho : op < 0 ∨ nI 15 ≤ op) {post : Int32 → Prop} (H : post 0) : wpY_isFit post (z1, z2, z3, z4, z5, z6, z7, w1, w2, w3, w4, w5, w6) op a := by
  by_cases c : op < 0
  · have d1 : ¬ 0 ≤ op := Int32.not_le.mpr c
    repeat first
      | exact H
      | refine br_t (by first | assumption | decide) ?_
      | refine br_f (by first | assumption | decide) ?_
      | refine And.intro rfl ?_
      | refine nm_e ?_
  · have d1 : (15 : Int32) ≤ op := ho.resolve_left c
    have d2 : (14 : Int32) < op := Int32.lt_of_lt_of_le (by decide) d1
    have d3 : (11 : Int32) < op := Int32.lt_of_lt_of_le (by decide) d1
    have d4 : 0 ≤ op := Int32.not_lt.mp c
    have d5 : ¬ op ≤ 14 := Int32.not_le.mpr d2
    repeat first
      | exact H
      | refine br_t (by first | assumption | decide) ?_
      | refine br_f (by first | assumption | decide) ?_
      | refine And.intro rfl ?_
      | refine nm_e ?_
end
end
section
section
variable {N : Nat} {en pl sp : Int32} {kk : Nat → Nat} {nn kv kp : Nat → Int32} {p s h m g : Nat} {v st : Nat → Int32} {a x : Int32}
theorem gy_exit {F e : Nat} {pl : Int32} {post : Int32 → SY → Prop} (e0 : e ≠ 0) (he : e < 5) (H : post (nI e) (nI N, nI h, nI g, nI e, pl, nI s, sp, fun j => nI (kk j), nn, v, st, kv, kp)) : wY_run_29 post (F + 1) (nI N) (nI h) (nI g) (nI e) pl (nI s) sp (fun j => nI (kk j)) nn v st kv kp :=
  br_f (nI_ne0 (by omega) (by omega)) H
theorem gy_loop {g0 : Nat} {post : Int32 → SY → Prop} (hf : ∀ j, gm_fit (kk j) (nn j)) (hN : N ≤ 20) (hg0 : g0 ≤ 1000000) : ∀ (n F p s h g : Nat) (v st : Nat → Int32), s + n = 300 → p ≤ 20 → h ≤ 8 → g ≤ g0 → n + 2 ≤ F → post (nI (gm_run kk nn N n (p, s, h, g, v, st)).1) (nI N, nI (gm_run kk nn N n (p, s, h, g, v, st)).2.2.2.1, nI (gm_run kk nn N n (p, s, h, g, v, st)).2.2.2.2.1, nI (gm_run kk nn N n (p, s, h, g, v, st)).1, nI (gm_run kk nn N n (p, s, h, g, v, st)).2.1, nI (gm_run kk nn N n (p, s, h, g, v, st)).2.2.1, nI (g0 - (gm_run kk nn N n (p, s, h, g, v, st)).2.2.2.2.1), fun j => nI (kk j), nn, (gm_run kk nn N n (p, s, h, g, v, st)).2.2.2.2.2.1, (gm_run kk nn N n (p, s, h, g, v, st)).2.2.2.2.2.2, kv, kp) → wY_run_29 post F (nI N) (nI h) (nI g) (nI (gm_end kk N p s h g st)) (nI p) (nI s) (nI (g0 - g)) (fun j => nI (kk j)) nn v st kv kp := by
  intro n
  induction n with
  | zero =>
    intro F p s h g v st hs o1 o3 o4 hF H
    obtain ⟨F, rfl⟩ : ∃ E, F = E + 1 := ⟨F - 1, by omega⟩
    have z : gm_end kk N p s h g st ≠ 0 := fun z => (gm_end_0 z).2.1 (by omega)
    have E : gm_run kk nn N 0 (p, s, h, g, v, st) = (gm_end kk N p s h g st, (p, s, h, g, v, st)) := gm_ts rfl z
    rw [E] at H
    exact gy_exit z (gm_end_lt _ _ _ _ _ _ _) H
  | succ n ih =>
    intro F p s h g v st hs o1 o3 o4 hF H
    obtain ⟨F, rfl⟩ : ∃ E, F = E + 2 := ⟨F - 2, by omega⟩
    by_cases z : gm_end kk N p s h g st = 0
    · obtain ⟨a1, a2, a3, a4, a5⟩ := gm_end_0 z
      have hk := hf p
      have hpr := gm_price_le (st (h - 1)) hk.1
      have e : (nI p).toNatClampNeg = p := nI_clamp (by omega)
      rw [z]
      refine br_t rfl ?_
      refine And.intro (vp_in_nI (by omega) (by decide)) ?_
      rw [e]
      refine gy_price hk.1 o3 a3 ?_
      refine nm_r (pk_sub a5) ?_
      refine nm_r ((nI_add _ _).trans (congrArg nI (by omega : g0 - g + gm_price (kk p) (st (h - 1)) = g0 - (g - gm_price (kk p) (st (h - 1)))))) ?_
      refine nm_r (nI_1 s) ?_
      refine And.intro (vp_in_nI (by omega) (by decide)) ?_
      try rw [e]
      rw [gm_run] at H
      refine pk_eq (kk p) 14 (fun c => ?_) (fun c => ?_) (ha := by have := hk.1; omega)
      · have G : gm_go kk nn N (p, s, h, g, v, st) = _ := gm_t14 z c
        rw [G] at H
        exact gy_exit (e := 1) (by decide) (by decide) H
      · have G : gm_go kk nn N (p, s, h, g, v, st) = _ := gm_tw z c
        rw [G] at H
        rw [if_pos rfl] at H
        obtain ⟨k1, k2, k3⟩ := gm_work_ok (v := v) (st := st) (s := s + 1) (g := g - gm_price (kk p) (st (h - 1))) hk (by omega : p < 20) (by omega) a3 a4 (by omega)
        refine gy_work rfl rfl hk c (by omega) a3 a4 ?_
        refine gy_endAt hf hN k1.2.1 k1.2.2.1 k1.2.2.2 k1.1 ?_
        have L := ih (F + 1) (gm_work (nn p) p (s + 1) h (g - gm_price (kk p) (st (h - 1))) v st (kk p)).1 (gm_work (nn p) p (s + 1) h (g - gm_price (kk p) (st (h - 1))) v st (kk p)).2.1 (gm_work (nn p) p (s + 1) h (g - gm_price (kk p) (st (h - 1))) v st (kk p)).2.2.1 (gm_work (nn p) p (s + 1) h (g - gm_price (kk p) (st (h - 1))) v st (kk p)).2.2.2.1 (gm_work (nn p) p (s + 1) h (g - gm_price (kk p) (st (h - 1))) v st (kk p)).2.2.2.2.1 (gm_work (nn p) p (s + 1) h (g - gm_price (kk p) (st (h - 1))) v st (kk p)).2.2.2.2.2 (by rw [k2]; omega) k1.1 k1.2.2.1 (by rw [k3]; omega) (by omega) H
        rw [k3] at L ⊢
        exact L
    · have E : gm_run kk nn N (n + 1) (p, s, h, g, v, st) = (gm_end kk N p s h g st, (p, s, h, g, v, st)) := by
        have G : gm_go kk nn N (p, s, h, g, v, st) = (gm_end kk N p s h g st, (p, s, h, g, v, st)) := gm_ts rfl z
        rw [gm_run, G, if_neg z]
      rw [E] at H
      exact gy_exit z (gm_end_lt _ _ _ _ _ _ _) H
theorem gy_run {h0 s0 : Int32} {post : Int32 → SY → Prop} (hf : ∀ j, gm_fit (kk j) (nn j)) (hN : N ≤ 20) (hg : g ≤ 1000000) (H : post (nI (gm_run kk nn N 300 (0, 0, 0, g, v, st)).1) (nI N, nI (gm_run kk nn N 300 (0, 0, 0, g, v, st)).2.2.2.1, nI (gm_run kk nn N 300 (0, 0, 0, g, v, st)).2.2.2.2.1, nI (gm_run kk nn N 300 (0, 0, 0, g, v, st)).1, nI (gm_run kk nn N 300 (0, 0, 0, g, v, st)).2.1, nI (gm_run kk nn N 300 (0, 0, 0, g, v, st)).2.2.1, nI (g - (gm_run kk nn N 300 (0, 0, 0, g, v, st)).2.2.2.2.1), fun j => nI (kk j), nn, (gm_run kk nn N 300 (0, 0, 0, g, v, st)).2.2.2.2.2.1, (gm_run kk nn N 300 (0, 0, 0, g, v, st)).2.2.2.2.2.2, kv, kp)) : wpY_run post (nI N, h0, nI g, en, pl, s0, sp, fun j => nI (kk j), nn, v, st, kv, kp) := by
  unfold wpY_run
  dsimp only
  refine gy_endAt (p := 0) (s := 0) (h := 0) hf hN (by omega) (by omega) hg (by omega) ?_
  have L := gy_loop (g0 := g) (post := post) (kv := kv) (kp := kp) hf hN hg 300 302 0 0 0 g v st rfl (by omega) (by omega) (by omega) (by omega) H
  rw [Nat.sub_self] at L
  exact ⟨302, L⟩
theorem gy_keep_l {post : SY → Prop} {hx s1 : Int32} (H : ∀ kv kp : Nat → Int32, (∀ j, j < 4 → kv j = v j) → (∀ j, j < 8 → kp j = st j) → post (nI N, hx, nI g, en, pl, s1, sp, fun j => nI (kk j), nn, v, st, kv, kp)) : ∀ (d i : Nat) (kv kp : Nat → Int32), i + d = 8 → (∀ j, j < 4 → j < i → kv j = v j) → (∀ j, j < i → kp j = st j) → wY_keep_2 post (nI N) hx (nI g) en pl s1 sp (d + 1) (nI i) (fun j => nI (kk j)) nn v st kv kp := by
  intro d
  induction d with
  | zero =>
    intro i kv kp hi h1 h2
    refine pk_le 8 i (fun _ => ?_) (fun z => absurd z (by omega))
    exact H _ _ (fun j hj => h1 j hj (by omega)) (fun j hj => h2 j (by omega))
  | succ d ih =>
    intro i kv kp hi h1 h2
    refine pk_le 8 i (fun z => absurd z (by omega)) (fun _ => ?_)
    have e : (nI i).toNatClampNeg = i := nI_clamp (by omega)
    have e4 : nI i &&& 3 = nI (i % 4) := pk_andN (by omega) 2 (by decide)
    have hm : i % 4 < 4 := Nat.mod_lt _ (by decide)
    have e5 : (nI (i % 4)).toNatClampNeg = i % 4 := nI_clamp (by omega)
    have v8 : vp_in (nI i) 8 := vp_in_nI (by omega) (by decide)
    have v4 : vp_in (nI (i % 4)) 4 := vp_in_nI hm (by decide)
    rw [e4, e, e5]
    refine And.intro v8 (And.intro v8 (nm_e (And.intro v4 (And.intro v4 (nm_e (nm_r (nI_1 i) ?_))))))
    refine ih (i + 1) _ _ (by omega) (fun j hj hi' => ?_) (fun j hj => ?_)
    · by_cases c : j = i % 4
      · rw [c, pk_us]
      · rw [pk_un c]
        exact h1 j hj (by omega)
    · by_cases c : j = i
      · rw [c, pk_us]
      · rw [pk_un c]
        exact h2 j (by omega)
theorem gy_giveBack_l {post : SY → Prop} {hx s1 : Int32} (H : ∀ v st : Nat → Int32, (∀ j, j < 4 → v j = kv j) → (∀ j, j < 8 → st j = kp j) → post (nI N, hx, nI g, en, pl, s1, sp, fun j => nI (kk j), nn, v, st, kv, kp)) : ∀ (d i : Nat) (v st : Nat → Int32), i + d = 8 → (∀ j, j < 4 → j < i → v j = kv j) → (∀ j, j < i → st j = kp j) → wY_giveBack_2 post (nI N) hx (nI g) en pl s1 sp (d + 1) (nI i) (fun j => nI (kk j)) nn v st kv kp := by
  intro d
  induction d with
  | zero =>
    intro i v st hi h1 h2
    refine pk_le 8 i (fun _ => ?_) (fun z => absurd z (by omega))
    exact H _ _ (fun j hj => h1 j hj (by omega)) (fun j hj => h2 j (by omega))
  | succ d ih =>
    intro i v st hi h1 h2
    refine pk_le 8 i (fun z => absurd z (by omega)) (fun _ => ?_)
    have e : (nI i).toNatClampNeg = i := nI_clamp (by omega)
    have e4 : nI i &&& 3 = nI (i % 4) := pk_andN (by omega) 2 (by decide)
    have hm : i % 4 < 4 := Nat.mod_lt _ (by decide)
    have e5 : (nI (i % 4)).toNatClampNeg = i % 4 := nI_clamp (by omega)
    have v8 : vp_in (nI i) 8 := vp_in_nI (by omega) (by decide)
    have v4 : vp_in (nI (i % 4)) 4 := vp_in_nI hm (by decide)
    rw [e4, e, e5]
    refine And.intro v8 (And.intro v8 (nm_e (And.intro v4 (And.intro v4 (nm_e (nm_r (nI_1 i) ?_))))))
    refine ih (i + 1) _ _ (by omega) (fun j hj hi' => ?_) (fun j hj => ?_)
    · by_cases c : j = i % 4
      · rw [c, pk_us]
      · rw [pk_un c]
        exact h1 j hj (by omega)
    · by_cases c : j = i
      · rw [c, pk_us]
      · rw [pk_un c]
        exact h2 j (by omega)
theorem gy_keep {post : SY → Prop} {hx s1 : Int32} (H : ∀ kv kp : Nat → Int32, (∀ j, j < 4 → kv j = v j) → (∀ j, j < 8 → kp j = st j) → post (nI N, hx, nI g, en, pl, s1, sp, fun j => nI (kk j), nn, v, st, kv, kp)) : wpY_keep post (nI N, hx, nI g, en, pl, s1, sp, fun j => nI (kk j), nn, v, st, kv, kp) :=
  ⟨9, gy_keep_l H 8 0 kv kp rfl (fun j _ hj => absurd hj (Nat.not_lt_zero j)) (fun j hj => absurd hj (Nat.not_lt_zero j))⟩
theorem gy_giveBack {post : SY → Prop} {hx s1 : Int32} (H : ∀ v st : Nat → Int32, (∀ j, j < 4 → v j = kv j) → (∀ j, j < 8 → st j = kp j) → post (nI N, hx, nI g, en, pl, s1, sp, fun j => nI (kk j), nn, v, st, kv, kp)) : wpY_giveBack post (nI N, hx, nI g, en, pl, s1, sp, fun j => nI (kk j), nn, v, st, kv, kp) :=
  ⟨9, gy_giveBack_l H 8 0 v st rfl (fun j _ hj => absurd hj (Nat.not_lt_zero j)) (fun j hj => absurd hj (Nat.not_lt_zero j))⟩
end
end
section
section
variable {N g h : Nat} {e pl ss sp n1 n2 n3 n4 : Int32} {kk : Nat → Nat} {nn xv xq tv tp yv yq kv kp : Nat → Int32}
theorem gx_scan (hN : N ≤ 20) : ∀ d j : Nat, j + d = N → ∃ r : Int32, (∀ post : Int32 → Prop, post r → wX_programReadsGas_2 post (nI N) (nI g) e pl ss sp (nI h) n1 n2 n3 n4 (fun j => nI (kk j)) nn xv xq tv tp (d + 1) (nI j)) ∧ (∀ post : Int32 → Prop, post r → wY_asksGas_2 post (nI N) (nI h) (nI g) e pl ss sp (fun j => nI (kk j)) nn yv yq kv kp (d + 1) (nI j)) ∧ (r = 1 ∨ (r = 0 ∧ ∀ i, j ≤ i → i < N → kk i ≠ 13)) := by
  intro d
  induction d with
  | zero =>
    intro j hj
    have c : nI N ≤ nI j := nI_le (by omega) (by omega)
    exact ⟨0, fun _ hp => br_t c hp, fun _ hp => br_t c hp, Or.inr ⟨rfl, fun i h1 h2 => absurd h2 (by omega)⟩⟩
  | succ d ih =>
    intro j hj
    have c : ¬ nI N ≤ nI j := nI_ge (by omega) (by omega)
    have vj : vp_in (nI j) 20 := vp_in_nI (by omega) (by decide)
    have ej : (fun j => nI (kk j)) (nI j).toNatClampNeg = nI (kk j) := congrArg (fun i => nI (kk i)) (nI_clamp (by omega))
    by_cases z : nI (kk j) = 13
    · have z' : (fun j => nI (kk j)) (nI j).toNatClampNeg = 13 := ej.trans z
      exact ⟨1, fun _ hp => br_f c (And.intro vj (br_t z' hp)), fun _ hp => br_f c (And.intro vj (br_t z' hp)), Or.inl rfl⟩
    · have z' : ¬ (fun j => nI (kk j)) (nI j).toNatClampNeg = 13 := fun q => z (ej.symm.trans q)
      obtain ⟨r, hX, hY, hr⟩ := ih (j + 1) (by omega)
      refine ⟨r, fun post hp => br_f c (And.intro vj (br_f z' (nm_r (nI_1 j) (hX post hp)))), fun post hp => br_f c (And.intro vj (br_f z' (nm_r (nI_1 j) (hY post hp)))), ?_⟩
      rcases hr with hr | ⟨hr, hi⟩
      · exact Or.inl hr
      · refine Or.inr ⟨hr, fun i h1 h2 => ?_⟩
        by_cases q : i = j
        · subst q
          exact fun y => z (by rw [y]; rfl)
        · exact hi i (by omega) h2
theorem gx_copy {post : Int32 → SX → Prop} (H : ∀ tv : Nat → Int32, (∀ j, j < 4 → tv j = xv j) → wX_bill_11 post (nI N) (nI g) e pl ss sp (nI h) n1 n2 n3 n4 1 (nI 4) (fun j => nI (kk j)) nn xv xq tv tp) : ∀ (d i : Nat) (tv : Nat → Int32), i + d = 4 → (∀ j, j < i → tv j = xv j) → wX_bill_11 post (nI N) (nI g) e pl ss sp (nI h) n1 n2 n3 n4 (d + 1) (nI i) (fun j => nI (kk j)) nn xv xq tv tp := by
  intro d
  induction d with
  | zero =>
    intro i tv hi h1
    have E : i = 4 := by omega
    subst E
    exact H tv h1
  | succ d ih =>
    intro i tv hi h1
    refine pk_le 4 i (fun z => absurd z (by omega)) (fun _ => ?_)
    have ei : (nI i).toNatClampNeg = i := nI_clamp (by omega)
    have vi : vp_in (nI i) 4 := vp_in_nI (by omega) (by decide)
    rw [ei]
    refine And.intro vi (And.intro vi (nm_e (nm_r (nI_1 i) ?_)))
    refine ih (i + 1) _ (by omega) (fun j hj => ?_)
    by_cases c : j = i
    · rw [c, pk_us]
    · rw [pk_un c]
      exact h1 j (by omega)
end
end
section
section
/-- the same program, gas, last run; the variables agree, and the piles as far as they are high -/
def gm_inv (N g h : Nat) (kk : Nat → Nat) (nn xv yv xq yq : Nat → Int32) : Prop := N ≤ 20 ∧ g ≤ 100000 ∧ h ≤ 8 ∧ (∀ j, gm_fit (kk j) (nn j)) ∧ (∀ j, j < 4 → xv j = yv j) ∧ (∀ j, j < h → xq j = yq j)
def i_Rel (k : Nat) (u : SX) (v : SY) : Prop := ∃ (N g h : Nat) (e pl ss sp n1 n2 n3 n4 : Int32) (kk : Nat → Nat) (nn xv xq tv tp yv yq kv kp : Nat → Int32), u = (nI N, nI g, e, pl, ss, sp, nI h, n1, n2, n3, n4, fun j => nI (kk j), nn, xv, xq, tv, tp) ∧ v = (nI N, nI h, nI g, e, pl, ss, sp, fun j => nI (kk j), nn, yv, yq, kv, kp) ∧ gm_inv N g h kk nn xv yv xq yq
theorem gm_rel {k N g h : Nat} {e pl ss sp n1 n2 n3 n4 : Int32} {kk : Nat → Nat} {nn xv xq tv tp yv yq kv kp : Nat → Int32} (H : gm_inv N g h kk nn xv yv xq yq) : i_Rel k (nI N, nI g, e, pl, ss, sp, nI h, n1, n2, n3, n4, fun j => nI (kk j), nn, xv, xq, tv, tp) (nI N, nI h, nI g, e, pl, ss, sp, fun j => nI (kk j), nn, yv, yq, kv, kp) :=
  ⟨N, g, h, e, pl, ss, sp, n1, n2, n3, n4, kk, nn, xv, xq, tv, tp, yv, yq, kv, kp, rfl, rfl, H⟩
theorem i_up {k : Nat} {u : SX} {v : SY} (h : i_Rel k u v) : i_Rel (k + 4) u v := h
theorem i_vc0 : wpX_init (fun u => wpY_init (fun v => i_Rel 0 u v)) :=
  gm_rel (k := 0) (N := 0) (g := 0) (h := 0) (kk := fun _ => 0) ⟨by decide, by decide, by decide, fun j => ⟨(by decide : 0 < 15), fun h => absurd (show (0 : Nat) = 8 ∨ (0 : Nat) = 9 from h) (by decide), fun h => absurd (show (0 : Nat) = 10 ∨ (0 : Nat) = 11 from h) (by decide)⟩, fun _ _ => rfl, fun _ _ => rfl⟩
theorem i_vc_size {k : Nat} {u : SX} {v : SY} (I : i_Rel k u v) (hk : k + 4 ≤ 2048) : wpX_size (fun r => wpY_size (fun r' => r' = r ∧ i_Rel (k + 4) u v) v) u := by
  obtain ⟨N, g, h, e, pl, ss, sp, n1, n2, n3, n4, kk, nn, xv, xq, tv, tp, yv, yq, kv, kp, rfl, rfl, J⟩ := I
  exact ⟨rfl, gm_rel J⟩
theorem i_vc_gas {k : Nat} {u : SX} {v : SY} (I : i_Rel k u v) (hk : k + 4 ≤ 2048) : wpX_gas (fun r => wpY_gas (fun r' => r' = r ∧ i_Rel (k + 4) u v) v) u := by
  obtain ⟨N, g, h, e, pl, ss, sp, n1, n2, n3, n4, kk, nn, xv, xq, tv, tp, yv, yq, kv, kp, rfl, rfl, J⟩ := I
  exact ⟨rfl, gm_rel J⟩
theorem i_vc_ending {k : Nat} {u : SX} {v : SY} (I : i_Rel k u v) (hk : k + 4 ≤ 2048) : wpX_ending (fun r => wpY_ending (fun r' => r' = r ∧ i_Rel (k + 4) u v) v) u := by
  obtain ⟨N, g, h, e, pl, ss, sp, n1, n2, n3, n4, kk, nn, xv, xq, tv, tp, yv, yq, kv, kp, rfl, rfl, J⟩ := I
  exact ⟨rfl, gm_rel J⟩
theorem i_vc_place {k : Nat} {u : SX} {v : SY} (I : i_Rel k u v) (hk : k + 4 ≤ 2048) : wpX_place (fun r => wpY_place (fun r' => r' = r ∧ i_Rel (k + 4) u v) v) u := by
  obtain ⟨N, g, h, e, pl, ss, sp, n1, n2, n3, n4, kk, nn, xv, xq, tv, tp, yv, yq, kv, kp, rfl, rfl, J⟩ := I
  exact ⟨rfl, gm_rel J⟩
theorem i_vc_steps {k : Nat} {u : SX} {v : SY} (I : i_Rel k u v) (hk : k + 4 ≤ 2048) : wpX_steps (fun r => wpY_steps (fun r' => r' = r ∧ i_Rel (k + 4) u v) v) u := by
  obtain ⟨N, g, h, e, pl, ss, sp, n1, n2, n3, n4, kk, nn, xv, xq, tv, tp, yv, yq, kv, kp, rfl, rfl, J⟩ := I
  exact ⟨rfl, gm_rel J⟩
theorem i_vc_spent {k : Nat} {u : SX} {v : SY} (I : i_Rel k u v) (hk : k + 4 ≤ 2048) : wpX_spent (fun r => wpY_spent (fun r' => r' = r ∧ i_Rel (k + 4) u v) v) u := by
  obtain ⟨N, g, h, e, pl, ss, sp, n1, n2, n3, n4, kk, nn, xv, xq, tv, tp, yv, yq, kv, kp, rfl, rfl, J⟩ := I
  exact ⟨rfl, gm_rel J⟩
theorem i_vc_height {k : Nat} {u : SX} {v : SY} (I : i_Rel k u v) (hk : k + 4 ≤ 2048) : wpX_height (fun r => wpY_height (fun r' => r' = r ∧ i_Rel (k + 4) u v) v) u := by
  obtain ⟨N, g, h, e, pl, ss, sp, n1, n2, n3, n4, kk, nn, xv, xq, tv, tp, yv, yq, kv, kp, rfl, rfl, J⟩ := I
  exact ⟨rfl, gm_rel J⟩
theorem i_vc_set {k : Nat} {u : SX} {v : SY} (I : i_Rel k u v) (hk : k + 4 ≤ 2048) (v1 : Int32) (v2 : Int32) : wpX_set (fun r u' => wpY_set (fun r' v' => r' = r ∧ i_Rel (k + 4) u' v') v v1 v2) u v1 v2 := by
  obtain ⟨N, g, h, e, pl, ss, sp, n1, n2, n3, n4, kk, nn, xv, xq, tv, tp, yv, yq, kv, kp, rfl, rfl, J⟩ := I
  obtain ⟨hN, hg, hh, hf, hv, hq⟩ := id J
  unfold wpX_set wpY_set
  dsimp only
  rcases pk_ix v1 (n := 4) (by decide) with c | c | ⟨j, hj, rfl⟩
  · refine gx_isVar_f (Or.inl c) ?_
    refine br_t rfl ?_
    exact br_t c ⟨rfl, gm_rel J⟩
  · refine gx_isVar_f (Or.inr c) ?_
    refine br_t rfl ?_
    have c' : (4 : Int32) ≤ v1 := c
    have d1 : ¬ v1 < 0 := fun z => Int32.lt_irrefl (Int32.lt_trans z (Int32.lt_of_lt_of_le (by decide) c'))
    have d2 : (3 : Int32) < v1 := Int32.lt_of_lt_of_le (by decide) c'
    have d3 : ¬ v1 ≤ 3 := Int32.not_le.mpr d2
    first | exact br_f d1 (br_f d3 ⟨rfl, gm_rel J⟩) | exact br_f d1 (br_t d2 ⟨rfl, gm_rel J⟩)
  · refine gx_isVar_t hj ?_
    refine br_f (by decide) ?_
    have d1 : ¬ nI j < 0 := nI_pos (by omega)
    have d2 : ¬ 3 < nI j := nI_nlt (a := 3) (b := j) (by omega) (by decide)
    have d3 : nI j ≤ 3 := nI_le (b := 3) (by omega) (by decide)
    have ej : (nI j).toNatClampNeg = j := nI_clamp (by omega)
    have vj : vp_in (nI j) 4 := vp_in_nI hj (by decide)
    refine And.intro vj (nm_e ?_)
    have G : i_Rel (k + 4) (nI N, nI g, e, pl, ss, sp, nI h, n1, n2, n3, n4, fun j => nI (kk j), nn, upd xv (nI j).toNatClampNeg v2, xq, tv, tp) (nI N, nI h, nI g, e, pl, ss, sp, fun j => nI (kk j), nn, upd yv (nI j).toNatClampNeg v2, yq, kv, kp) := gm_rel ⟨hN, hg, hh, hf, gm_ag hv rfl (fun j hj => Or.inr hj), hq⟩
    first | exact br_f d1 (br_t d3 (And.intro vj (nm_e ⟨rfl, G⟩))) | exact br_f d1 (br_f d2 (And.intro vj (nm_e ⟨rfl, G⟩)))
theorem i_vc_get {k : Nat} {u : SX} {v : SY} (I : i_Rel k u v) (hk : k + 4 ≤ 2048) (v1 : Int32) : wpX_get (fun r => wpY_get (fun r' => r' = r ∧ i_Rel (k + 4) u v) v v1) u v1 := by
  obtain ⟨N, g, h, e, pl, ss, sp, n1, n2, n3, n4, kk, nn, xv, xq, tv, tp, yv, yq, kv, kp, rfl, rfl, J⟩ := I
  obtain ⟨hN, hg, hh, hf, hv, hq⟩ := id J
  unfold wpX_get wpY_get
  dsimp only
  rcases pk_ix v1 (n := 4) (by decide) with c | c | ⟨j, hj, rfl⟩
  · refine gx_isVar_f (Or.inl c) ?_
    refine br_t rfl ?_
    exact br_t c ⟨rfl, gm_rel J⟩
  · refine gx_isVar_f (Or.inr c) ?_
    refine br_t rfl ?_
    have c' : (4 : Int32) ≤ v1 := c
    have d1 : ¬ v1 < 0 := fun z => Int32.lt_irrefl (Int32.lt_trans z (Int32.lt_of_lt_of_le (by decide) c'))
    have d2 : (3 : Int32) < v1 := Int32.lt_of_lt_of_le (by decide) c'
    have d3 : ¬ v1 ≤ 3 := Int32.not_le.mpr d2
    first | exact br_f d1 (br_f d3 ⟨rfl, gm_rel J⟩) | exact br_f d1 (br_t d2 ⟨rfl, gm_rel J⟩)
  · refine gx_isVar_t hj ?_
    refine br_f (by decide) ?_
    have d1 : ¬ nI j < 0 := nI_pos (by omega)
    have d2 : ¬ 3 < nI j := nI_nlt (a := 3) (b := j) (by omega) (by decide)
    have d3 : nI j ≤ 3 := nI_le (b := 3) (by omega) (by decide)
    have ej : (nI j).toNatClampNeg = j := nI_clamp (by omega)
    have vj : vp_in (nI j) 4 := vp_in_nI hj (by decide)
    have ev : yv (nI j).toNatClampNeg = xv (nI j).toNatClampNeg := by rw [ej]; exact (hv j hj).symm
    refine And.intro vj ?_
    first | exact br_f d1 (br_t d3 (And.intro vj ⟨ev, gm_rel J⟩)) | exact br_f d1 (br_f d2 (And.intro vj ⟨ev, gm_rel J⟩))
theorem i_vc_fund {k : Nat} {u : SX} {v : SY} (I : i_Rel k u v) (hk : k + 4 ≤ 2048) (v1 : Int32) : wpX_fund (fun r u' => wpY_fund (fun r' v' => r' = r ∧ i_Rel (k + 4) u' v') v v1) u v1 := by
  obtain ⟨N, g, h, e, pl, ss, sp, n1, n2, n3, n4, kk, nn, xv, xq, tv, tp, yv, yq, kv, kp, rfl, rfl, J⟩ := I
  obtain ⟨hN, hg, hh, hf, hv, hq⟩ := id J
  by_cases c1 : v1 < 0
  · exact br_t c1 (br_t c1 ⟨rfl, gm_rel J⟩)
  by_cases c2 : 2000 < v1
  · exact br_f c1 (br_t c2 (br_f c1 (br_t c2 ⟨rfl, gm_rel J⟩)))
  obtain ⟨j, hj, rfl⟩ := nI_of2 (x := v1) (M := 2000) (n := 2000) (by decide) c1 (Int32.not_lt.mp c2)
  have ea : nI g + nI j = nI (g + j) := nI_add g j
  refine br_f c1 (br_f c2 ?_)
  refine pk_le (g + j) 100000 (fun c3 => ?_) (fun c3 => ?_) (hx := ea)
  · refine nm_r ea ?_
    refine br_f c1 (br_f c2 ?_)
    refine pk_le (g + j) 100000 (fun _ => ?_) (fun z => absurd z (by omega)) (hx := ea)
    exact nm_r ea ⟨rfl, gm_rel ⟨hN, c3, hh, hf, hv, hq⟩⟩
  · refine br_f c1 (br_f c2 ?_)
    refine pk_le (g + j) 100000 (fun z => absurd z (by omega)) (fun _ => ?_) (hx := ea)
    exact ⟨rfl, gm_rel J⟩
theorem i_vc_pile {k : Nat} {u : SX} {v : SY} (I : i_Rel k u v) (hk : k + 4 ≤ 2048) (v1 : Int32) : wpX_pile (fun r => wpY_pile (fun r' => r' = r ∧ i_Rel (k + 4) u v) v v1) u v1 := by
  obtain ⟨N, g, h, e, pl, ss, sp, n1, n2, n3, n4, kk, nn, xv, xq, tv, tp, yv, yq, kv, kp, rfl, rfl, J⟩ := I
  obtain ⟨hN, hg, hh, hf, hv, hq⟩ := id J
  rcases pk_ix v1 (n := h) (by omega) with c | c | ⟨j, hj, rfl⟩
  · exact br_t c (br_t c ⟨rfl, gm_rel J⟩)
  · by_cases d : v1 < 0
    · exact br_t d (br_t d ⟨rfl, gm_rel J⟩)
    · exact br_f d (br_t c (br_f d (br_t c ⟨rfl, gm_rel J⟩)))
  · have d : ¬ nI j < 0 := nI_pos (by omega)
    have d2 : ¬ nI h ≤ nI j := nI_ge hj (by omega)
    have vj : vp_in (nI j) 8 := vp_in_nI (by omega) (by decide)
    have ev : yq (nI j).toNatClampNeg = xq (nI j).toNatClampNeg := by rw [nI_clamp (by omega)]; exact (hq j hj).symm
    exact br_f d (br_f d2 (And.intro vj (br_f d (br_f d2 (And.intro vj ⟨ev, gm_rel J⟩)))))
theorem i_vc_append {k : Nat} {u : SX} {v : SY} (I : i_Rel k u v) (hk : k + 4 ≤ 2048) (v1 : Int32) (v2 : Int32) : wpX_append (fun r u' => wpY_append (fun r' v' => r' = r ∧ i_Rel (k + 4) u' v') v v1 v2) u v1 v2 := by
  obtain ⟨N, g, h, e, pl, ss, sp, n1, n2, n3, n4, kk, nn, xv, xq, tv, tp, yv, yq, kv, kp, rfl, rfl, J⟩ := I
  obtain ⟨hN, hg, hh, hf, hv, hq⟩ := id J
  unfold wpX_append wpY_append
  dsimp only
  rcases pk_ix v1 (n := 15) (by decide) with c | c | ⟨i, hi, rfl⟩
  · refine gx_ins_o (Or.inl c) (br_t rfl ?_)
    refine gy_ins_o (Or.inl c) ?_
    exact br_t rfl ⟨rfl, gm_rel J⟩
  · refine gx_ins_o (Or.inr c) (br_t rfl ?_)
    refine gy_ins_o (Or.inr c) ?_
    exact br_t rfl ⟨rfl, gm_rel J⟩
  refine gx_ins hi (fun G => ?_) (fun G => ?_)
  rotate_left
  · refine br_t rfl ?_
    refine gy_ins hi (fun z => absurd z G) (fun _ => ?_)
    exact br_t rfl ⟨rfl, gm_rel J⟩
  refine br_f (by decide) ?_
  refine pk_lt N 20 (fun c => ?_) (fun c => ?_)
  rotate_left
  · refine gy_ins hi (fun _ => ?_) (fun z => absurd G z)
    refine br_f (by decide) ?_
    have E : N = 20 := by omega
    subst E
    exact br_t rfl ⟨rfl, gm_rel J⟩
  have vN : vp_in (nI N) 20 := vp_in_nI c (by decide)
  have eu : upd (fun j => nI (kk j)) (nI N).toNatClampNeg (nI i) = fun j => nI (gm_put kk N i j) := by rw [nI_clamp (by omega)]; exact gm_put_upd kk N i
  have en : upd nn (nI N).toNatClampNeg v2 = upd nn N v2 := gm_u (by omega)
  refine And.intro vN (nm_r eu (And.intro vN (nm_r en (nm_r (nI_1 N) ?_))))
  refine gy_ins hi (fun _ => ?_) (fun z => absurd G z)
  refine br_f (by decide) ?_
  refine pk_eq N 20 (fun z => absurd z (by omega)) (fun _ => ?_)
  refine And.intro vN (nm_r eu (And.intro vN (nm_r en (nm_r (nI_1 N) ?_))))
  exact ⟨nI_pred N, gm_rel ⟨c, hg, hh, gm_put_fit hf (gm_good_fit hi G), hv, hq⟩⟩
theorem i_vc_change {k : Nat} {u : SX} {v : SY} (I : i_Rel k u v) (hk : k + 4 ≤ 2048) (v1 : Int32) (v2 : Int32) (v3 : Int32) : wpX_change (fun r u' => wpY_change (fun r' v' => r' = r ∧ i_Rel (k + 4) u' v') v v1 v2 v3) u v1 v2 v3 := by
  obtain ⟨N, g, h, e, pl, ss, sp, n1, n2, n3, n4, kk, nn, xv, xq, tv, tp, yv, yq, kv, kp, rfl, rfl, J⟩ := I
  obtain ⟨hN, hg, hh, hf, hv, hq⟩ := id J
  unfold wpX_change wpY_change
  dsimp only
  rcases pk_ix v1 (n := N) (by omega) with c | c | ⟨i, hi, rfl⟩
  · exact br_t c (br_t c ⟨rfl, gm_rel J⟩)
  · by_cases d : v1 < 0
    · exact br_t d (br_t d ⟨rfl, gm_rel J⟩)
    · exact br_f d (br_t c (br_f d (br_t c ⟨rfl, gm_rel J⟩)))
  have d1 : ¬ nI i < 0 := nI_pos (by omega)
  have d2 : ¬ nI N ≤ nI i := nI_ge hi (by omega)
  refine br_f d1 (br_f d2 ?_)
  rcases pk_ix v2 (n := 15) (by decide) with c | c | ⟨o, ho, rfl⟩
  · refine gx_ins_o (Or.inl c) (br_t rfl (br_f d1 (br_f d2 ?_)))
    refine gy_ins_o (Or.inl c) ?_
    exact br_t rfl ⟨rfl, gm_rel J⟩
  · refine gx_ins_o (Or.inr c) (br_t rfl (br_f d1 (br_f d2 ?_)))
    refine gy_ins_o (Or.inr c) ?_
    exact br_t rfl ⟨rfl, gm_rel J⟩
  refine gx_ins ho (fun G => ?_) (fun G => ?_)
  rotate_left
  · refine br_t rfl (br_f d1 (br_f d2 ?_))
    refine gy_ins ho (fun z => absurd z G) (fun _ => ?_)
    exact br_t rfl ⟨rfl, gm_rel J⟩
  refine br_f (by decide) ?_
  have vi : vp_in (nI i) 20 := vp_in_nI (by omega) (by decide)
  have eu : upd (fun j => nI (kk j)) (nI i).toNatClampNeg (nI o) = fun j => nI (gm_put kk i o j) := by rw [nI_clamp (by omega)]; exact gm_put_upd kk i o
  have en : upd nn (nI i).toNatClampNeg v3 = upd nn i v3 := gm_u (by omega)
  refine And.intro vi (nm_e (And.intro vi (nm_r eu (And.intro vi (nm_r en (br_f d1 (br_f d2 ?_)))))))
  refine gy_ins ho (fun _ => ?_) (fun z => absurd G z)
  refine br_f (by decide) ?_
  refine And.intro vi (nm_e (And.intro vi (nm_r eu (And.intro vi (nm_r en ?_)))))
  exact ⟨rfl, gm_rel ⟨hN, hg, hh, gm_put_fit hf (gm_good_fit ho G), hv, hq⟩⟩
theorem i_vc_run {k : Nat} {u : SX} {v : SY} (I : i_Rel k u v) (hk : k + 4 ≤ 2048) : wpX_run (fun r u' => wpY_run (fun r' v' => r' = r ∧ i_Rel (k + 4) u' v') v) u := by
  obtain ⟨N, g, h, e, pl, ss, sp, n1, n2, n3, n4, kk, nn, xv, xq, tv, tp, yv, yq, kv, kp, rfl, rfl, J⟩ := I
  obtain ⟨hN, hg, hh, hf, hv, hq⟩ := id J
  obtain ⟨b1, b2⟩ := gm_sim_run (c := 0) (nn := nn) hf hN 300 (0, 0, 0, g, xv, xq) (0, 0, 0, g, yv, yq) (gm_ok0 (by omega)) (Or.inl rfl) (gm_sim_mk hv (fun j hj => absurd hj (by omega)))
  obtain ⟨o1, o2⟩ := gm_run_ok hf hN 300 (0, 0, 0, g, xv, xq) (gm_ok0 (by omega))
  unfold wpX_run
  dsimp only
  refine gx_exec_A (n1 := n1) hf hN (by omega) ?_
  generalize (gm_run kk nn N 300 (0, 0, 0, g, xv, xq)) = RX at b1 b2 o1 o2 ⊢
  have o2' : RX.2.2.2.2.1 ≤ g := o2
  refine nm_r (pk_sub o2') ?_
  refine gy_run hf hN (by omega) ?_
  generalize (gm_run kk nn N 300 (0, 0, 0, g, yv, yq)) = RY at b1 b2 ⊢
  obtain ⟨ex, px, sx, hx, gx, vx, qx⟩ := RX
  obtain ⟨ey, py, sy, hy, gy, vy, qy⟩ := RY
  obtain ⟨c1, c2, c3, c4, c5, c6⟩ := b2
  dsimp only at b1 c1 c2 c3 c4 c5 c6
  subst b1 c1 c2 c3 c4
  exact ⟨rfl, gm_rel ⟨hN, Nat.le_trans o2' hg, o1.2.2.1, hf, c5, c6⟩⟩
theorem i_vc_clear {k : Nat} {u : SX} {v : SY} (I : i_Rel k u v) (hk : k + 4 ≤ 2048) : wpX_clear (fun u' => wpY_clear (fun v' => i_Rel (k + 4) u' v') v) u := by
  obtain ⟨N, g, h, e, pl, ss, sp, n1, n2, n3, n4, kk, nn, xv, xq, tv, tp, yv, yq, kv, kp, rfl, rfl, J⟩ := I
  obtain ⟨hN, hg, hh, hf, hv, hq⟩ := id J
  exact gm_rel (k := k + 4) (N := 0) ⟨Nat.zero_le _, hg, hh, hf, hv, hq⟩
theorem i_vc_bill {k : Nat} {u : SX} {v : SY} (I : i_Rel k u v) (hk : k + 4 ≤ 2048) : wpX_bill (fun r u' => wpY_bill (fun r' v' => r' = r ∧ i_Rel (k + 4) u' v') v) u := by
  obtain ⟨N, g, h, e, pl, ss, sp, n1, n2, n3, n4, kk, nn, xv, xq, tv, tp, yv, yq, kv, kp, rfl, rfl, J⟩ := I
  obtain ⟨hN, hg, hh, hf, hv, hq⟩ := id J
  obtain ⟨r, hX, hY, hr⟩ := gx_scan (g := g) (h := h) (e := e) (pl := pl) (ss := ss) (sp := sp) (n1 := n1) (n2 := n2) (n3 := n3) (n4 := n4) (kk := kk) (nn := nn) (xv := xv) (xq := xq) (tv := tv) (tp := tp) (yv := yv) (yq := yq) (kv := kv) (kp := kp) hN N 0 (by omega)
  unfold wpX_bill wpY_bill
  dsimp only
  rcases hr with rfl | ⟨rfl, hr⟩
  · exact ⟨_, hX _ (br_f (by decide) ⟨_, hY _ (br_f (by decide) ⟨rfl, gm_rel J⟩)⟩)⟩
  refine ⟨_, hX _ (br_t rfl ?_)⟩
  refine ⟨5, gx_copy (fun tv' htv => ?_) 4 0 tv (by decide) (fun j hj => absurd hj (by omega))⟩
  obtain ⟨b1, b2⟩ := gm_sim_run (c := 900000) (nn := nn) hf hN 300 (0, 0, 0, 100000, tv', tp) (0, 0, 0, 1000000, yv, yq) (gm_ok0 (by decide)) (Or.inr ⟨fun j hj => hr j (by omega) hj, (show 16 * (300 - 0) ≤ 100000 by decide)⟩) (gm_sim_mk (fun j hj => (htv j hj).trans (hv j hj)) (fun j hj => absurd hj (by omega)))
  obtain ⟨o1, o2⟩ := gm_run_ok hf hN 300 (0, 0, 0, 100000, tv', tp) (gm_ok0 (by decide))
  obtain ⟨o3, o4⟩ := gm_run_ok hf hN 300 (0, 0, 0, 1000000, yv, yq) (gm_ok0 (by decide))
  refine br_t (by decide) ?_
  refine gx_exec_B (g := 100000) hf hN (by decide) ?_
  generalize (gm_run kk nn N 300 (0, 0, 0, 100000, tv', tp)) = RX at b1 b2 o1 o2 ⊢
  refine ⟨_, hY _ (br_t rfl ?_)⟩
  refine gy_keep (fun kv' kp' hkv hkp => ?_)
  refine gy_run (g := 1000000) hf hN (by decide) ?_
  generalize (gm_run kk nn N 300 (0, 0, 0, 1000000, yv, yq)) = RY at b1 b2 o3 o4 ⊢
  refine gy_giveBack (fun yv' yq' hyv hyq => ?_)
  obtain ⟨ex, px, sx, hx, gx, vx, qx⟩ := RX
  obtain ⟨ey, py, sy, hy, gy, vy, qy⟩ := RY
  obtain ⟨c1, c2, c3, c4, c5, c6⟩ := b2
  dsimp only at b1 c1 c2 c3 c4 c5 c6 o2 o4
  refine ⟨?_, gm_rel ⟨hN, hg, hh, hf, fun j hj => ?_, fun j hj => ?_⟩⟩
  · show nI (1000000 - gy) = nI 100000 - nI gx
    rw [pk_sub o2]
    exact congrArg nI (by omega)
  · exact (hv j hj).trans ((hkv j hj).symm.trans (hyv j hj).symm)
  · exact (hq j hj).trans ((hkp j (by omega)).symm.trans (hyq j (by omega)).symm)
end
end
