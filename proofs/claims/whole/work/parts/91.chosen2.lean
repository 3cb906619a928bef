/-! chosen: worked out -/
theorem z_21 : ∀ m, m < 2 → 2 ≤ m → (fdm 2 1 m).isNone = true := by decide +kernel
theorem w_21 : fdm 2 1 2 = some [1] := by decide +kernel
theorem z_22 : ∀ m, m < 3 → 2 ≤ m → (fdm 2 2 m).isNone = true := by decide +kernel
theorem w_22 : fdm 2 2 3 = some [1] := by decide +kernel
theorem z_23 : ∀ m, m < 4 → 2 ≤ m → (fdm 2 3 m).isNone = true := by decide +kernel
theorem w_23 : fdm 2 3 4 = some [1] := by decide +kernel
theorem z_31 : ∀ m, m < 3 → 3 ≤ m → (fdm 3 1 m).isNone = true := by decide +kernel
theorem w_31 : fdm 3 1 3 = some [1, 2] := by decide +kernel
theorem z_32 : ∀ m, m < 6 → 3 ≤ m → (fdm 3 2 m).isNone = true := by decide +kernel
theorem w_32 : fdm 3 2 6 = some [1, 4] := by decide +kernel
theorem z_33 : ∀ m, m < 11 → 3 ≤ m → (fdm 3 3 m).isNone = true := by decide +kernel
theorem w_33 : fdm 3 3 11 = some [1, 7] := by decide +kernel
theorem z_41 : ∀ m, m < 4 → 4 ≤ m → (fdm 4 1 m).isNone = true := by decide +kernel
theorem w_41 : fdm 4 1 4 = some [1, 2, 3] := by decide +kernel
theorem z_42 : ∀ m, m < 11 → 4 ≤ m → (fdm 4 2 m).isNone = true := by decide +kernel
theorem w_42 : fdm 4 2 11 = some [1, 4, 9] := by decide +kernel
theorem z_43 : ∀ m, m < 23 → 4 ≤ m → (fdm 4 3 m).isNone = true := by decide +kernel
theorem w_43 : fdm 4 3 23 = some [1, 15, 18] := by decide +kernel
theorem z_51 : ∀ m, m < 5 → 5 ≤ m → (fdm 5 1 m).isNone = true := by decide +kernel
theorem w_51 : fdm 5 1 5 = some [1, 2, 3, 4] := by decide +kernel
theorem z_52 : ∀ m, m < 17 → 5 ≤ m → (fdm 5 2 m).isNone = true := by decide +kernel
theorem w_52 : fdm 5 2 17 = some [1, 4, 10, 12] := by decide +kernel
theorem z_53_5 : ∀ m, m < 35 → 5 ≤ m → (fdm 5 3 m).isNone = true := by decide +kernel
theorem z_53_35 : ∀ m, m < 40 → 35 ≤ m → (fdm 5 3 m).isNone = true := by decide +kernel
theorem z_53_40 : ∀ m, m < 43 → 40 ≤ m → (fdm 5 3 m).isNone = true := by decide +kernel
theorem z_53_43 : ∀ m, m < 45 → 43 ≤ m → (fdm 5 3 m).isNone = true := by decide +kernel
theorem z_53 : ∀ m, m < 45 → 5 ≤ m → (fdm 5 3 m).isNone = true := fun m h1 h2 => by
  by_cases q1 : m < 35
  · exact z_53_5 m q1 h2
  by_cases q2 : m < 40
  · exact z_53_35 m q2 (by omega)
  by_cases q3 : m < 43
  · exact z_53_40 m q3 (by omega)
  exact z_53_43 m h1 (by omega)
theorem w_53 : fdm 5 3 45 = some [2, 11, 26, 42] := by decide +kernel
theorem d_chosen {M : Mem} {a1 a2 a3 : Int} (h1 : R3 a1) (h2 : R3 a2) (h3 : R3 a3) : ∃ (r : Int) (M2 : Mem), fn_X10_chosen 0 a1 a2 a3 M = some r ∧ fn_X11_chosen 71 a1 a2 a3 M = some (r, M2) ∧ F9 M M2 := by
  unfold fn_X10_chosen fn_X11_chosen
  rw [p_isWithin h1 ⟨by decide, by decide⟩ ⟨by decide, by decide⟩, cu_s, cE_b2, p_in h1 ⟨by decide, by decide⟩ ⟨by decide, by decide⟩, cu_s, cE_b2]
  by_cases q1 : 2 ≤ a1 ∧ a1 ≤ 5
  · rw [if_pos q1, if_pos q1, p_isWithin h2 ⟨by decide, by decide⟩ ⟨by decide, by decide⟩, cu_s, cE_b2, p_in h2 ⟨by decide, by decide⟩ ⟨by decide, by decide⟩, cu_s, cE_b2]
    by_cases q2 : 1 ≤ a2 ∧ a2 ≤ 3
    · rw [if_pos q2, if_pos q2, p_isWithin h3 ⟨by decide, by decide⟩ ⟨by omega, by omega⟩, cu_s, cE_b2, p_in h3 ⟨by decide, by decide⟩ ⟨by omega, by omega⟩, cu_s, cE_b2]
      by_cases q3 : 0 ≤ a3 ∧ a3 ≤ a1 - 1
      · rw [if_pos q3, if_pos q3, nm_eq, cLt_if (by omega) (by omega) (by decide) (by decide), if_neg (by omega), cLt_if (by omega) (by omega) (by decide) (by decide), if_pos (by omega), ck_t (by omega)]
        obtain ⟨n, hn⟩ := Int.eq_ofNat_of_zero_le (show 0 ≤ a1 by omega)
        obtain ⟨k, hk⟩ := Int.eq_ofNat_of_zero_le (show 0 ≤ a2 by omega)
        obtain ⟨i, hi⟩ := Int.eq_ofNat_of_zero_le q3.1
        subst hn; subst hk; subst hi
        rw [show (((((((n : Int) - 2) * 3) + (k : Int)) - 1) * 5) + (i : Int)).toNat = ((n - 2) * 3 + k - 1) * 5 + i by omega]
        have key : ∀ (m0 : Nat) (r : List Nat), n ≤ m0 ∧ m0 ≤ 60 → (∀ m, m < m0 → n ≤ m → (fdm n k m).isNone = true) → fdm n k m0 = some r → r.length + 1 = n → (∀ i, i < n → chL.getD (((n - 2) * 3 + k - 1) * 5 + i) 0 = (((r ++ [m0]).getD i 0 : Nat) : Int)) → ∃ (r : Int) (M2 : Mem), some (chL.getD (((n - 2) * 3 + k - 1) * 5 + i) 0) = some r ∧ lq2 (fn_X11_chosen_L34 71 n k i) FU n M = some (r, M2) ∧ F9 M M2 := by
          intro m0 r hm hz hw hl hc
          obtain ⟨M', e1, e2⟩ := q_chosenL (M := M) (i := i) (by omega) (by omega) (by omega) hm hz hw hl
          exact ⟨_, M', by rw [hc i (by omega)], e1, e2⟩
        have hn4 : n = 2 ∨ n = 3 ∨ n = 4 ∨ n = 5 := by omega
        have hk4 : k = 1 ∨ k = 2 ∨ k = 3 := by omega
        rcases hn4 with rfl | rfl | rfl | rfl <;> rcases hk4 with rfl | rfl | rfl
        · exact key 2 [1] (by decide) z_21 w_21 rfl (by decide)
        · exact key 3 [1] (by decide) z_22 w_22 rfl (by decide)
        · exact key 4 [1] (by decide) z_23 w_23 rfl (by decide)
        · exact key 3 [1, 2] (by decide) z_31 w_31 rfl (by decide)
        · exact key 6 [1, 4] (by decide) z_32 w_32 rfl (by decide)
        · exact key 11 [1, 7] (by decide) z_33 w_33 rfl (by decide)
        · exact key 4 [1, 2, 3] (by decide) z_41 w_41 rfl (by decide)
        · exact key 11 [1, 4, 9] (by decide) z_42 w_42 rfl (by decide)
        · exact key 23 [1, 15, 18] (by decide) z_43 w_43 rfl (by decide)
        · exact key 5 [1, 2, 3, 4] (by decide) z_51 w_51 rfl (by decide)
        · exact key 17 [1, 4, 10, 12] (by decide) z_52 w_52 rfl (by decide)
        · exact key 45 [2, 11, 26, 42] (by decide) z_53 w_53 rfl (by decide)
      · rw [if_neg q3, if_neg q3]
        exact ⟨_, M, rfl, rfl, fun _ _ _ _ _ => rfl⟩
    · rw [if_neg q2, if_neg q2]
      exact ⟨_, M, rfl, rfl, fun _ _ _ _ _ => rfl⟩
  · rw [if_neg q1, if_neg q1]
    exact ⟨_, M, rfl, rfl, fun _ _ _ _ _ => rfl⟩
