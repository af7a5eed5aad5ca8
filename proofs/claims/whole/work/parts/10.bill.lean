section
variable {N g h : Nat} {e pl ss sp n1 n2 n3 n4 : Int32} {kk : Nat → Nat} {nn xv xq tv tp yv yq kv kp : Nat → Int32}
theorem gx_scan (hN : N ≤ 20) : ∀ d j : Nat, j + d = N → ∃ r : Int32, (∀ post : Int32 → Prop, post r → wX_programReadsGas_2 post (nI N) (nI g) e pl ss sp (nI h) n1 n2 n3 n4 (fun j => nI (kk j)) nn xv xq tv tp (d + 1) (nI j)) ∧ (∀ post : Int32 → Prop, post r → wY_asksGas_2 post (nI N) (nI h) (nI g) e pl ss sp (fun j => nI (kk j)) nn yv yq kv kp (d + 1) (nI j)) ∧ (r = 1 ∨ (r = 0 ∧ ∀ i, j ≤ i → i < N → kk i ≠ 13)) := by
  intro d
  induction d with
  | zero =>
    intro j hj
    have c : nI N ≤ nI j := nI_le (by omega) (by omega)
    exact ⟨0, fun _ hp => br_t c hp, fun _ hp => br_t c hp, Or.inr ⟨rfl, fun i h1 h2 => absurd h2 (by omega)⟩⟩
  | succ d ih =>
    intro j hj
    have c : ¬ nI N ≤ nI j := nI_ge (by omega) (by omega)
    have vj : vp_in (nI j) 20 := vp_in_nI (by omega) (by decide)
    have ej : (fun j => nI (kk j)) (nI j).toNatClampNeg = nI (kk j) := congrArg (fun i => nI (kk i)) (nI_clamp (by omega))
    by_cases z : nI (kk j) = 13
    · have z' : (fun j => nI (kk j)) (nI j).toNatClampNeg = 13 := ej.trans z
      exact ⟨1, fun _ hp => br_f c (And.intro vj (br_t z' hp)), fun _ hp => br_f c (And.intro vj (br_t z' hp)), Or.inl rfl⟩
    · have z' : ¬ (fun j => nI (kk j)) (nI j).toNatClampNeg = 13 := fun q => z (ej.symm.trans q)
      obtain ⟨r, hX, hY, hr⟩ := ih (j + 1) (by omega)
      refine ⟨r, fun post hp => br_f c (And.intro vj (br_f z' (nm_r (nI_1 j) (hX post hp)))), fun post hp => br_f c (And.intro vj (br_f z' (nm_r (nI_1 j) (hY post hp)))), ?_⟩
      rcases hr with hr | ⟨hr, hi⟩
      · exact Or.inl hr
      · refine Or.inr ⟨hr, fun i h1 h2 => ?_⟩
        by_cases q : i = j
        · subst q
          exact fun y => z (by rw [y]; rfl)
        · exact hi i (by omega) h2
theorem gx_copy {post : Int32 → SX → Prop} (H : ∀ tv : Nat → Int32, (∀ j, j < 4 → tv j = xv j) → wX_bill_11 post (nI N) (nI g) e pl ss sp (nI h) n1 n2 n3 n4 1 (nI 4) (fun j => nI (kk j)) nn xv xq tv tp) : ∀ (d i : Nat) (tv : Nat → Int32), i + d = 4 → (∀ j, j < i → tv j = xv j) → wX_bill_11 post (nI N) (nI g) e pl ss sp (nI h) n1 n2 n3 n4 (d + 1) (nI i) (fun j => nI (kk j)) nn xv xq tv tp := by
  intro d
  induction d with
  | zero =>
    intro i tv hi h1
    have E : i = 4 := by omega
    subst E
    exact H tv h1
  | succ d ih =>
    intro i tv hi h1
    refine pk_le 4 i (fun z => absurd z (by omega)) (fun _ => ?_)
    have ei : (nI i).toNatClampNeg = i := nI_clamp (by omega)
    have vi : vp_in (nI i) 4 := vp_in_nI (by omega) (by decide)
    rw [ei]
    refine And.intro vi (And.intro vi (nm_e (nm_r (nI_1 i) ?_)))
    refine ih (i + 1) _ (by omega) (fun j hj => ?_)
    by_cases c : j = i
    · rw [c, pk_us]
    · rw [pk_un c]
      exact h1 j (by omega)
end
