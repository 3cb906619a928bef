/-! of -/
theorem Ra_1 {n : Nat} {g : Nat → Int} {wo : Int} {e lo : Nat} {l x : Int} : Ra n g wo e lo (lo + 1 - lo) l x = Ro n g wo e lo l x := by
  unfold Ra
  rw [show lo + 1 - lo = 1 by omega]
  show 0 + Ro n g wo e (lo + 0) l x = _
  rw [Nat.add_zero, Int.zero_add]
theorem p_must {M : Mem} {n e k : Nat} {g : Nat → Int} {x : Int} (hS : Sg M n g e) (hT : Ta M n g) (hk : k ≤ 12) (hx : -100000 ≤ x ∧ x ≤ 1000000) :
    ∃ v M', lq2 (fn_X10_mustBeWashed_L47 k x) FU 0 M = some (v, M') ∧ Ta M' n g ∧ Fq M M' ∧ v = if 0 < sm n (fun h => Ro n g (-1) e k (h : Int) x) then 0 else 1 := by
  have hn := hS.2.1
  have he := hS.2.2.2.2
  refine lr2 (P := fun o => ∃ v M', o = some (v, M') ∧ Ta M' n g ∧ Fq M M' ∧ v = if 0 < sm n (fun h => Ro n g (-1) e k (h : Int) x) then 0 else 1) (I := fun q a E => ∃ j : Nat, j + q = n ∧ a = (j : Int) ∧ Ta E n g ∧ Fq M E ∧ ∀ h : Nat, h < j → Ro n g (-1) e k (h : Int) x = 0) ?_ n FU 0 M (lt_FU (by omega)) ⟨0, by omega, rfl, hT, fun _ _ _ _ => rfl, fun h hh => by omega⟩
  rintro q a E rec ⟨j, e1, rfl, e2, e3, e4⟩ ih
  have sE := Sg_q e3 hS
  unfold fn_X10_mustBeWashed_L47
  simp only [nm_eq, Nat.zero_add]
  rw [sE.1, sE.2.2.2.1, cLt_if (by omega) (by omega) (by omega) (by omega)]
  by_cases q1 : (j : Int) < (n : Int)
  · obtain ⟨B, hB⟩ := e2.1
    obtain ⟨E1, g1, g2, g3⟩ := p_total (l := (j : Int)) (x := x) (lo := k) (hi := k) (e := e) (Tc_all hS) hB (by omega) (by omega) (by omega) he hx
    have hr0 := Ro_nn (n := n) (g := g) (wo := -1) (e := e) (k := k) (l := (j : Int)) (x := x)
    have hr1 := Ro_bd2 (g := g) (wo := -1) (e := e) (l := (j : Int)) (x := x) hn hk
    have hT1 := Ta_26 g3 g2 e2
    have hF1 := e3.tr (Fq_26 g3)
    rw [if_pos q1, g1, cl_s, Ra_1, dLt_if (by decide) (by decide) (by omega) (by omega)]
    by_cases q2 : 0 < Ro n g (-1) e k j x
    · rw [if_pos q2]
      refine ⟨_, _, rfl, hT1, hF1, ?_⟩
      rw [if_pos ((sm_pos (fun h _ => Ro_nn)).mpr ⟨j, by omega, q2⟩)]
    · rw [if_neg q2]
      obtain ⟨q, rfl⟩ : ∃ r', q = r' + 1 := ⟨q - 1, by omega⟩
      refine ih q _ _ (by omega) ⟨j + 1, by omega, by omega, hT1, hF1, fun h hh => ?_⟩
      by_cases q3 : h = j
      · subst q3; omega
      · exact e4 h (by omega)
  · rw [if_neg q1]
    obtain rfl : j = n := by omega
    refine ⟨_, _, rfl, e2, e3, ?_⟩
    rw [sm_z (fun h hh => e4 h hh), if_neg (by decide)]
theorem q_mustL {M : Mem} {n e K k c : Nat} {g : Nat → Int} {w m x : Int} (hH : Hd M n g e) (hM : La M n g (-1) K) (hk : k < K) (hK : K ≤ 13) (hc : c < 20) (hw : M 72 (21 + 5 * c) = w) (hm : M 72 (20 + 5 * c) = m) (hx : x = w - m) (hx2 : -100000 ≤ x ∧ x ≤ 1000000) :
    lq2 (fn_X11_mustWash_L26 71 c k M) FU 0 0 = fn_X11_mustWash_J66 M (sm n (fun h => Ro n g (-1) e k (h : Int) x)) := by
  have hn := hH.2.1
  refine lr2 (P := fun o => o = fn_X11_mustWash_J66 M (sm n (fun h => Ro n g (-1) e k (h : Int) x))) (I := fun q a v => ∃ j : Nat, j + q = n ∧ a = (j : Int) ∧ v = sm j (fun h => Ro n g (-1) e k (h : Int) x)) ?_ n FU 0 0 (lt_FU (by omega)) ⟨0, by omega, rfl, rfl⟩
  rintro q a v rec ⟨j, e1, rfl, e2⟩ ih
  unfold fn_X11_mustWash_L26
  simp only [nm_eq]
  rw [rd_eq (by decide) (by decide), show (0 : Int).toNat = 0 from rfl, show 71 + 1 = 72 from rfl, hH.1, cLt_if (by omega) (by omega) (by omega) (by omega)]
  by_cases q1 : (j : Int) < (n : Int)
  · obtain ⟨q, rfl⟩ : ∃ r', q = r' + 1 := ⟨q - 1, by omega⟩
    rw [if_pos q1, q_coinOf (by omega) (by omega) (by decide) (by decide), cu_s, q_coinOf (by omega) (by omega) (by decide) (by decide), cu_s, show (20 + 5 * (c : Int) + 1).toNat = 21 + 5 * c by omega, show (20 + 5 * (c : Int) + 0).toNat = 20 + 5 * c by omega, hw, hm, ← hx, q_rowsOf hH hM hk hK (by omega) hx2, cu_s]
    exact ih q _ _ (by omega) ⟨j + 1, by omega, by omega, by rw [e2, sm_s]⟩
  · rw [if_neg q1]
    obtain rfl : j = n := by omega
    rw [e2]
theorem d_of {M : Mem} {n e N : Nat} {g : Nat → Int} {a1 a2 : Int} (h1 : R3 a1) (h2 : R3 a2) (hN : N ≤ 6336) (hR : Rel N M M) (hS : Sg M n g e) (hD : Hd M n g e) (hV : TV M) :
    ∃ (r : Int) (M1 M2 : Mem), fn_X10_of a1 a2 M = some (r, M1) ∧ fn_X11_of 71 a1 a2 M1 = some (r, M2) ∧ Fq M M2 ∧ TV M2 := by
  have hn := hS.2.1
  have he := hS.2.2.2.2
  have hc0 := hR.1.2.2.1.1
  have rN := hR.2.1
  have qc : ∀ M', Fq M M' → fn_X11_isCoin 71 a1 M' = some (b2 (0 ≤ a1 ∧ a1 < M 1 7)) := fun M' hF => by
    have e1 : M' 72 1 = M 1 7 := by rw [hF 72 1 (by decide) (by decide)]; exact rN.2.1
    rw [q_isCoin h1 (by rw [e1]; exact hc0.1) (by rw [e1]; exact hc0.2), e1]
  unfold fn_X10_of fn_X11_of
  simp only [Nat.zero_add]
  rw [p_isCoin h1 hc0.1 hc0.2, cu_s, cE_b2]
  by_cases g1 : 0 ≤ a1 ∧ a1 < M 1 7
  · rw [if_pos g1, ck_t h2]
    obtain ⟨c, hc⟩ := Int.eq_ofNat_of_zero_le g1.1
    subst hc
    have hb := hR.1.2.2.1.2 c g1.2
    have hd := hR.2.2.2.1 c g1.2
    simp only [Nat.reduceAdd] at hb
    have z0 : (20 + 5 * (c : Int) + 0).toNat = 20 + 5 * c := by omega
    have z1 : (20 + 5 * (c : Int) + 1).toNat = 21 + 5 * c := by omega
    have z2 : (20 + 5 * (c : Int) + 2).toNat = 22 + 5 * c := by omega
    have z3 : (20 + 5 * (c : Int) + 3).toNat = 23 + 5 * c := by omega
    have z4 : (20 + 5 * (c : Int) + 4).toNat = 24 + 5 * c := by omega
    by_cases q5 : a2 = 5
    · subst q5
      simp only [Int.reduceEq, if_false, if_true]
      have hW : Wt N ≤ 627764 := by unfold Wt; omega
      have hq : ∀ M', Fq M M' → ∀ o, (cu (fn_X11_isCoin 71 (c : Int) M') fun x2 => cEq x2 0 (some ((-1), M')) (cu (fn_X11_in 5 0 5 M') fun x11 => cEq x11 0 (some ((-1), M')) (ck (R3 5) o))) = o := fun M' hF o => by
        rw [qc M' hF, cu_s, cE_b2, if_pos g1, p_in ⟨by decide, by decide⟩ ⟨by decide, by decide⟩ ⟨by decide, by decide⟩, cu_s, cE_b2, if_pos (by decide), ck_t ⟨by decide, by decide⟩]
      unfold fn_X10_mustBeWashed fn_X11_mustWash
      simp only [Nat.reduceAdd, Nat.zero_add]
      rw [rd_eq (by omega) (by omega), Int.toNat_natCast]
      obtain ⟨k, hk⟩ := Int.eq_ofNat_of_zero_le hb.2.2.2.1.1
      have hTt : Tt N ≤ 6336 := by unfold Tt; omega
      rw [hk, cLt_if (by decide) (by decide) (by omega) (by omega)]
      by_cases q6 : (12 : Int) < (k : Int)
      · rw [if_pos q6, cl_s]
        refine ⟨_, _, M, rfl, ?_, fun _ _ _ _ => rfl, hV⟩
        rw [hq M (fun _ _ _ _ => rfl), q_coinOf (by omega) (by omega) (by decide) (by decide), cu_s, z3, hd.2.2.2.1, hk, cLt_if (by decide) (by decide) (by omega) (by omega), if_pos q6, cl_s]
      · rw [if_neg q6]
        obtain ⟨M1, f1, f2, f3⟩ := p_tabAll hS hV
        have hF1 := Fq_t f3
        have s1 := Sg_q hF1 hS
        obtain ⟨v, M2, m1, m2, m3, m4⟩ := p_must (k := k) (x := M 4 c - M 3 c) s1 f2 (by omega) (by omega)
        have hF2 := hF1.tr m3
        have d2 := Hd_q hF2 hD
        obtain ⟨M3, l1, l2, l3⟩ := q_laysRows (wo := -1) (k := k) d2 (by omega) (by omega)
        have hF3 := hF2.tr (Fq_94 l2)
        have d3 := Hd_q (Fq_94 l2) d2
        rw [f1, cv_s, ck_t (nOf_1 f2.2.1), rd_eq (by omega) (by omega), rd_eq (by omega) (by omega), Int.toNat_natCast, hF1 4 c (by decide) (by decide), hF1 3 c (by decide) (by decide), nm_eq, m1, cl_s]
        refine ⟨_, _, M3, rfl, ?_, hF3, TV_94 l2 (Ta_TV (Sg_q hF2 hS) m2)⟩
        rw [hq M2 hF2, q_coinOf (by omega) (by omega) (by decide) (by decide), cu_s, z3, hF2 72 _ (by decide) (by decide), hd.2.2.2.1, hk, cLt_if (by decide) (by decide) (by omega) (by omega), if_neg q6, l1, cv_s]
        have hsb := sm_bd (n := n) (f := fun h => Ro n g (-1) e k (h : Int) (M 4 c - M 3 c)) (B := 1000000000000) (fun h _ => Ro_bd2 hn (by omega))
        have hs0 := sm_nn (n := n) (f := fun h => Ro n g (-1) e k (h : Int) (M 4 c - M 3 c)) (fun h _ => Ro_nn)
        rw [q_mustL (w := M 4 c) (m := M 3 c) (x := M 4 c - M 3 c) d3 l3 (by omega) (by omega) (by omega) (by rw [hF3 72 _ (by decide) (by decide)]; exact hd.2.1) (by rw [hF3 72 _ (by decide) (by decide)]; exact hd.1) rfl (by omega)]
        unfold fn_X11_mustWash_J66
        rw [dLt_if (by decide) (by decide) (by omega) (by omega), m4]
        split
        · rw [cl_s]
        · rw [cl_s]
    · have key : ∀ r, (if a2 = 0 then (rd M (1 + 3) 20 (c : Int) fun x60 => some (x60, M)) else if a2 = 1 then (rd M (1 + 4) 20 (c : Int) fun x70 => some (x70, M)) else if a2 = 2 then (rd M (1 + 5) 20 (c : Int) fun x80 => some (x80, M)) else if a2 = 3 then (rd M (1 + 2) 20 (c : Int) fun x90 => some (x90, M)) else if a2 = 4 then (rd M (1 + 6) 20 (c : Int) fun x100 => some (x100, M)) else if a2 = 5 then (cl (fn_X10_mustBeWashed (c : Int) M) fun x104 M104 => some (x104, M104)) else some ((-1), M)) = some (r, M) →
          (cu (fn_X11_isCoin 71 (c : Int) M) fun x2 => cEq x2 0 (some ((-1), M)) (cu (fn_X11_in a2 0 5 M) fun x11 => cEq x11 0 (some ((-1), M)) (ck (R3 a2) <| if a2 = 0 then (cu (fn_X11_coinOf 71 (c : Int) 1 M) fun x59 => some (x59, M)) else if a2 = 1 then (cu (fn_X11_coinOf 71 (c : Int) 2 M) fun x66 => some (x66, M)) else if a2 = 2 then (cu (fn_X11_coinOf 71 (c : Int) 3 M) fun x73 => some (x73, M)) else if a2 = 3 then (cu (fn_X11_coinOf 71 (c : Int) 0 M) fun x80 => some (x80, M)) else if a2 = 4 then (cu (fn_X11_coinOf 71 (c : Int) 4 M) fun x87 => some (x87, M)) else cl (fn_X11_mustWash 71 (c : Int) M) fun x93 M93 => some (x93, M93)))) = some (r, M) → ∃ (r : Int) (M1 M2 : Mem), (if a2 = 0 then (rd M (1 + 3) 20 (c : Int) fun x60 => some (x60, M)) else if a2 = 1 then (rd M (1 + 4) 20 (c : Int) fun x70 => some (x70, M)) else if a2 = 2 then (rd M (1 + 5) 20 (c : Int) fun x80 => some (x80, M)) else if a2 = 3 then (rd M (1 + 2) 20 (c : Int) fun x90 => some (x90, M)) else if a2 = 4 then (rd M (1 + 6) 20 (c : Int) fun x100 => some (x100, M)) else if a2 = 5 then (cl (fn_X10_mustBeWashed (c : Int) M) fun x104 M104 => some (x104, M104)) else some ((-1), M)) = some (r, M1) ∧
          (cu (fn_X11_isCoin 71 (c : Int) M1) fun x2 => cEq x2 0 (some ((-1), M1)) (cu (fn_X11_in a2 0 5 M1) fun x11 => cEq x11 0 (some ((-1), M1)) (ck (R3 a2) <| if a2 = 0 then (cu (fn_X11_coinOf 71 (c : Int) 1 M1) fun x59 => some (x59, M1)) else if a2 = 1 then (cu (fn_X11_coinOf 71 (c : Int) 2 M1) fun x66 => some (x66, M1)) else if a2 = 2 then (cu (fn_X11_coinOf 71 (c : Int) 3 M1) fun x73 => some (x73, M1)) else if a2 = 3 then (cu (fn_X11_coinOf 71 (c : Int) 0 M1) fun x80 => some (x80, M1)) else if a2 = 4 then (cu (fn_X11_coinOf 71 (c : Int) 4 M1) fun x87 => some (x87, M1)) else cl (fn_X11_mustWash 71 (c : Int) M1) fun x93 M93 => some (x93, M93)))) = some (r, M2) ∧ Fq M M2 ∧ TV M2 := fun r e1 e2 => ⟨r, M, M, e1, e2, fun _ _ _ _ => rfl, hV⟩
      by_cases q0 : 0 ≤ a2 ∧ a2 ≤ 5
      · have hq : ∀ o, (cu (fn_X11_isCoin 71 (c : Int) M) fun x2 => cEq x2 0 (some ((-1), M)) (cu (fn_X11_in a2 0 5 M) fun x11 => cEq x11 0 (some ((-1), M)) (ck (R3 a2) o))) = o := fun o => by
          rw [qc M (fun _ _ _ _ => rfl), cu_s, cE_b2, if_pos g1, p_in h2 ⟨by decide, by decide⟩ ⟨by decide, by decide⟩, cu_s, cE_b2, if_pos q0, ck_t h2]
        have : a2 = 0 ∨ a2 = 1 ∨ a2 = 2 ∨ a2 = 3 ∨ a2 = 4 := by omega
        rcases this with rfl | rfl | rfl | rfl | rfl
        · refine key (M 4 c) ?_ ?_
          · simp (disch := omega) only [Int.reduceEq, if_false, if_true, rd_eq, Int.toNat_natCast, Nat.reduceAdd]
          · rw [hq]; simp (disch := omega) only [Int.reduceEq, if_false, if_true, q_coinOf, cu_s, z1, hd.2.1]
        · refine key (M 5 c) ?_ ?_
          · simp (disch := omega) only [Int.reduceEq, if_false, if_true, rd_eq, Int.toNat_natCast, Nat.reduceAdd]
          · rw [hq]; simp (disch := omega) only [Int.reduceEq, if_false, if_true, q_coinOf, cu_s, z2, hd.2.2.1]
        · refine key (M 6 c) ?_ ?_
          · simp (disch := omega) only [Int.reduceEq, if_false, if_true, rd_eq, Int.toNat_natCast, Nat.reduceAdd]
          · rw [hq]; simp (disch := omega) only [Int.reduceEq, if_false, if_true, q_coinOf, cu_s, z3, hd.2.2.2.1]
        · refine key (M 3 c) ?_ ?_
          · simp (disch := omega) only [Int.reduceEq, if_false, if_true, rd_eq, Int.toNat_natCast, Nat.reduceAdd]
          · rw [hq]; simp (disch := omega) only [Int.reduceEq, if_false, if_true, q_coinOf, cu_s, z0, hd.1]
        · refine key (M 7 c) ?_ ?_
          · simp (disch := omega) only [Int.reduceEq, if_false, if_true, rd_eq, Int.toNat_natCast, Nat.reduceAdd]
          · rw [hq]; simp (disch := omega) only [Int.reduceEq, if_false, if_true, q_coinOf, cu_s, z4, hd.2.2.2.2]
      · refine key (-1) ?_ ?_
        · rw [if_neg (by omega), if_neg (by omega), if_neg (by omega), if_neg (by omega), if_neg (by omega), if_neg (by omega)]
        · rw [qc M (fun _ _ _ _ => rfl), cu_s, cE_b2, if_pos g1, p_in h2 ⟨by decide, by decide⟩ ⟨by decide, by decide⟩, cu_s, cE_b2, if_neg q0]
  · rw [if_neg g1]
    refine ⟨_, _, M, rfl, ?_, fun _ _ _ _ => rfl, hV⟩
    rw [qc M (fun _ _ _ _ => rfl), cu_s, cE_b2, if_neg g1]
