/-! all operations, and the start -/
def InvP (j : Nat) (M : Mem) : Prop := Core j M ∧ M 15 11 ≤ M 1 11 ∧ TXg M ∧ TV M
theorem inv_n4 {j : Nat} {M : Mem} (hc : Core j M) : 0 ≤ M 1 11 ∧ M 1 11 ≤ 4 := by
  have hN := hc.1.1.2.1
  simp only [OkN] at hN
  exact hN.2.2.2.1
theorem TXg_R {j : Nat} {M : Mem} (hc : Core j M) (h : TXg M) : TXs M M := fun q hq => TxG_R (by have := inv_n4 hc; omega) (h q hq)
theorem TXg_f {M M2 : Mem} (h4 : M 1 11 ≤ 4) (hn : M2 1 11 ≤ M 1 11) (h : ∀ k i, (43 ≤ k ∧ k ≤ 62) ∨ (75 ≤ k ∧ k ≤ 81) → M2 k i = M k i) (hX : TXg M) : TXg M2 := fun q hq => by
  have hq4 : q < 4 := by omega
  exact TxG_f (b := 43 + 5 * q) (C := M) (D := M) (fun i _ => h _ i (by omega)) (fun i _ => h _ i (by omega)) (fun i _ => ⟨h _ i (by omega), h _ i (by omega), h _ i (by omega)⟩) (h _ _ (by omega)) (fun k i h1 h2 _ => h _ _ (by omega)) (fun i _ => ⟨h _ _ (by omega), h _ _ (by omega)⟩) (hX q (by omega))
theorem inv_kx {j : Nat} {M M2 : Mem} (hI : InvP j M) (h : Core (j + 1) M2 ∧ KX M M2) : InvP (j + 1) M2 := by
  obtain ⟨hc, h15, hX, hV⟩ := hI
  obtain ⟨c2, k1, k2, k3⟩ := h
  have hs : ∀ k i, (43 ≤ k ∧ k ≤ 62) ∨ (75 ≤ k ∧ k ≤ 81) ∨ k = 0 ∨ (102 ≤ k ∧ k ≤ 109) → M2 k i = M k i := fun k i hk => k1 k (by simp only [SRest, List.mem_cons, List.not_mem_nil, or_false]; omega) i
  have h4 := inv_n4 hc
  have h5 : M2 1 11 ≤ M 1 11 := by
    have : M2 1 11 ≤ max (M2 1 11) (M2 15 11) := Int.le_max_left _ _
    have e : max (M 1 11) (M 15 11) = M 1 11 := Int.max_eq_left h15
    rw [e] at k2; omega
  exact ⟨c2, k3 h15, TXg_f h4.2 h5 (fun k i hk => hs k i (by omega)) hX, TV_f (fun i => hs 0 i (by omega)) (fun k i a b => hs k i (by omega)) hV⟩
theorem inv_fr {j : Nat} {M M2 : Mem} (hI : InvP j M) (h : ∀ k i, (1 ≤ k ∧ k ≤ 62) ∨ (71 ≤ k ∧ k ≤ 81) → M2 k i = M k i) (hV2 : TV M2) : InvP (j + 1) M2 := by
  obtain ⟨hc, h15, hX, hV⟩ := hI
  have hm := Core_mono hc
  refine ⟨⟨now_frame (fun k hk i => ?_) hm.1, kept_frame (fun k hk i => ?_) hm.2.1, tap_frame (fun i => h 30 i (by omega)) (fun i => h 74 i (by omega)) (h 29 1 (by omega)) (h 71 3 (by omega)) hm.2.2.1, flt_frame (h 31 2 (by omega)) (h 31 3 (by omega)) (h 31 4 (by omega)) (h 71 4 (by omega)) (h 71 5 (by omega)) hm.2.2.2⟩, by rw [h 15 11 (by omega), h 1 11 (by omega)]; exact h15, TXg_f (inv_n4 hc).2 (by rw [h 1 11 (by omega)]; omega) (fun k i hk => h k i (by omega)) hX, hV2⟩
  · have hk' : (1 ≤ k ∧ k ≤ 14) ∨ k = 72 := by
      simp only [SNow, List.mem_cons, List.not_mem_nil, or_false] at hk; omega
    exact h k i (by omega)
  · have hk' : (15 ≤ k ∧ k ≤ 28) ∨ k = 73 := by
      simp only [SKept, List.mem_cons, List.not_mem_nil, or_false] at hk; omega
    exact h k i (by omega)
theorem inv_fq {j : Nat} {M M2 : Mem} (hI : InvP j M) (h : Fq M M2) (hV2 : TV M2) : InvP (j + 1) M2 := inv_fr hI (fun k i hk => h k i (by omega) (by omega)) hV2
theorem sg_of {j : Nat} {M : Mem} (hc : Core j M) : ∃ (n e : Nat), Sg M n (fun h => M 2 h) e ∧ Hd M n (fun h => M 2 h) e := by
  obtain ⟨⟨kH, kN, kC, kT, kP⟩, rN, rH, rC, rT, rP⟩ := hc.1
  simp only [OkH, OkN, RlN, RlH, Nat.reduceAdd] at kH kN rN rH
  obtain ⟨n, hn⟩ := Int.eq_ofNat_of_zero_le kH.1.1
  obtain ⟨e, he⟩ := Int.eq_ofNat_of_zero_le kN.2.2.1.1
  have hn : M 1 1 = (n : Int) := hn
  have he : M 1 10 = (e : Int) := he
  exact ⟨n, e, ⟨hn, by omega, fun h hh => ⟨rfl, kH.2 h (by omega)⟩, he, by omega⟩, by rw [rN.1]; exact hn, by omega, fun h hh => ⟨rH h (by omega), kH.2 h (by omega)⟩, by rw [rN.2.2.2.2.1]; exact he, by omega⟩
theorem pu_of {j : Nat} {M : Mem} (hc : Core j M) : ∃ (n e m : Nat) (bg : Nat → Nat) (gn : Nat → Int), Sg M n (fun h => M 2 h) e ∧ Hd M n (fun h => M 2 h) e ∧ Pu M n m bg gn := by
  obtain ⟨n, e, h1, h2⟩ := sg_of hc
  obtain ⟨⟨kH, kN, kC, kT, kP⟩, rN, rH, rC, rT, rP⟩ := hc.1
  simp only [OkP, RlN, RlP, Nat.reduceAdd] at kP rN rP
  obtain ⟨m, hm⟩ := Int.eq_ofNat_of_zero_le kP.1.1
  have hm : M 1 16 = (m : Int) := hm
  have hn := h1.1
  refine ⟨n, e, m, fun k => (M 13 k).toNat, fun k => M 14 k, h1, h2, ⟨hm, by rw [rN.2.2.2.2.2.2.2.2]; exact hm, by omega⟩, fun k hk => ?_⟩
  have p1 := kP.2 k (by omega)
  have p2 := rP k (by omega)
  have e1 : M 13 k = ((M 13 k).toNat : Int) := by omega
  exact ⟨⟨e1, rfl⟩, ⟨by rw [p2.1]; exact e1, p2.2⟩, by show (M 13 k).toNat < n; omega, p1.2⟩
theorem cc_of {j : Nat} {M : Mem} (hj : j ≤ 64) (hc : Core j M) : ∃ (n : Nat), Cc M n (fun c => M 4 c) (fun c => M 7 c) ∧ Cn M n (fun c => M 4 c) (fun c => M 7 c) := by
  obtain ⟨⟨kH, kN, kC, kT, kP⟩, rN, rH, rC, rT, rP⟩ := hc.1
  simp only [OkC, RlN, RlC, Nat.reduceAdd] at kC rN rC
  obtain ⟨n, hn⟩ := Int.eq_ofNat_of_zero_le kC.1.1
  have hn : M 1 7 = (n : Int) := hn
  have hw : Wt (99 * j) ≤ 1000000 := by unfold Wt; omega
  have hb : ∀ c, c < n → (0 ≤ M 4 c ∧ M 4 c ≤ 1000000) ∧ (-1 ≤ M 7 c ∧ M 7 c ≤ 5) := fun c hc => by
    have := kC.2 c (by omega)
    omega
  refine ⟨n, ⟨hn, by omega, fun c hc => ⟨rfl, rfl, (hb c hc).1, (hb c hc).2⟩⟩, by rw [rN.2.1]; exact hn, by omega, fun c hc => ⟨(rC c (by omega)).2.1, (rC c (by omega)).2.2.2.2, (hb c hc).1, (hb c hc).2⟩⟩
theorem all_ok {j : Nat} {M : Mem} {a1 a2 a3 a4 a5 : Int} (hj : j < 64) (h1 : R3 a1) (h2 : R3 a2) (h3 : R3 a3) (h4 : R3 a4) (h5 : R3 a5) (hI : InvP j M) : SALL a1 a2 a3 a4 a5 M (InvP (j + 1)) := by
  have hc := hI.1
  have hX := TXg_R hc hI.2.2.1
  have hV := hI.2.2.2
  obtain ⟨n, e, m, bg, gn, hS, hD, hP⟩ := pu_of hc
  refine ⟨?_, ?_, ?_, ?_, ?_, ?_, ?_, ?_, ?_, ?_, ?_, ?_, ?_, ?_, ?_, ?_, ?_, ?_, ?_, ?_, ?_, ?_, ?_, ?_, ?_, ?_, ?_, ?_, ?_⟩
  · obtain ⟨r, M1, M2, e1, e2, e3⟩ := s_hand h1 hc; exact ⟨r, M1, M2, e1, e2, inv_kx hI e3⟩
  · obtain ⟨r, M1, M2, e1, e2, e3⟩ := s_coin h1 h2 hc; exact ⟨r, M1, M2, e1, e2, inv_kx hI e3⟩
  · obtain ⟨r, M1, M2, e1, e2, e3⟩ := s_rules h1 h2 hc; exact ⟨r, M1, M2, e1, e2, inv_kx hI e3⟩
  · obtain ⟨r, M1, M2, e1, e2, e3⟩ := s_later h1 hc; exact ⟨r, M1, M2, e1, e2, inv_kx hI e3⟩
  · obtain ⟨r, M1, M2, e1, e2, e3⟩ := s_feed (a1 := a1) (a2 := a2) (a3 := a3) (a4 := a4) (a5 := a5) hc; exact ⟨r, M1, M2, e1, e2, inv_kx hI e3⟩
  · obtain ⟨r, M1, M2, e1, e2, e3⟩ := s_end h1 hc; exact ⟨r, M1, M2, e1, e2, inv_kx hI e3⟩
  · obtain ⟨r, M1, M2, e1, e2, e3, e4, e5, e6⟩ := s_text hc hI.2.2.1 hV hI.2.1; exact ⟨r, M1, M2, e1, e2, e3, e6, e4, e5⟩
  · obtain ⟨r, e1, e2, e3⟩ := s_fault h1 hc; exact ⟨r, e1, e2, inv_kx hI e3⟩
  · obtain ⟨r, M1, M2, e1, e2, e3⟩ := s_by h1 hc; exact ⟨r, M1, M2, e1, e2, inv_kx hI e3⟩
  · obtain ⟨r, M1, M2, e1, e2, e3⟩ := s_gives h1 h2 hj hc hX; exact ⟨r, M1, M2, e1, e2, inv_kx hI e3⟩
  · obtain ⟨r, M1, M2, e1, e2, e3⟩ := s_pay h1 h2 hj hc hX; exact ⟨r, M1, M2, e1, e2, inv_kx hI e3⟩
  · obtain ⟨r, M1, M2, e1, e2, e3⟩ := s_wash h1 hc; exact ⟨r, M1, M2, e1, e2, inv_kx hI e3⟩
  · obtain ⟨r, M1, M2, e1, e2, e3⟩ := s_played h1 hj hc hX; exact ⟨r, M1, M2, e1, e2, inv_kx hI e3⟩
  · obtain ⟨r, M1, M2, e1, e2, e3⟩ := s_undo hc; exact ⟨r, M1, M2, e1, e2, inv_kx hI e3⟩
  · obtain ⟨r, M1, M2, e1, e2, e3, e4⟩ := d_of (N := 99 * j) h1 h2 (by omega) (Rel_of hc.1) hS hD hV; exact ⟨r, M1, M2, e1, e2, inv_fq hI e3 e4⟩
  · obtain ⟨r, M1, M2, e1, e2, e3, e4⟩ := d_rows h1 h2 h3 h4 hS hD hV; exact ⟨r, M1, M2, e1, e2, inv_fq hI e3 e4⟩
  · obtain ⟨r, M1, M2, e1, e2, e3, e4⟩ := d_row h1 h2 h3 h4 h5 hS hD hV; exact ⟨r, M1, M2, e1, e2, inv_fq hI e3 e4⟩
  · obtain ⟨r, M1, M2, e1, e2, e3, e4⟩ := d_among (a5 := bz a5) h1 h2 h3 h4 (by unfold bz; by_cases q : a5 = 0; exact Or.inl (if_pos q); exact Or.inr (if_neg q)) hS hD hV; exact ⟨r, M1, M2, e1, e2, inv_fq hI e3 e4⟩
  · obtain ⟨r, M1, M2, e1, e2, e3⟩ := s_purse h1 h2 hc; exact ⟨r, M1, M2, e1, e2, inv_kx hI e3⟩
  · obtain ⟨r, M1, M2, e1, e2, e3, e4⟩ := d_odds h1 h2 h3 h4 hS hD hP hV; exact ⟨r, M1, M2, e1, e2, inv_fq hI e3 e4⟩
  · obtain ⟨r, M1, M2, e1, e2, e3, e4⟩ := d_told h1 h2 hS hD hP hV; exact ⟨r, M1, M2, e1, e2, inv_fq hI e3 e4⟩
  · obtain ⟨r, M2, e1, e2, e3⟩ := d_chosen (M := M) h1 h2 h3
    exact ⟨r, M2, e1, e2, inv_fr hI (fun k i hk => e3 k i (by omega) (by omega) (by omega)) (TV_f (fun i => e3 0 i (by omega) (by omega) (by omega)) (fun k i a b => e3 k i (by omega) (by omega) (by omega)) hV)⟩
  · obtain ⟨r, M1, M2, e1, e2, e3⟩ := s_tray h1 h2 hc; exact ⟨r, M1, M2, e1, e2, inv_kx hI e3⟩
  · obtain ⟨nc, hC1, hC2⟩ := cc_of (by omega) hc
    obtain ⟨r, M1, M2, e1, e2, e3⟩ := d_sorted h1 h2 hC1 hC2
    exact ⟨r, M1, M2, e1, e2, inv_fr hI (fun k i hk => e3 k i (by omega) (by omega) (by omega)) (TV_f (fun i => e3 0 i (by omega) (by omega) (by omega)) (fun k i a b => e3 k i (by omega) (by omega) (by omega)) hV)⟩
  · obtain ⟨r, M1, M2, e1, e2, e3⟩ := s_read h1 h2 hc; exact ⟨r, M1, M2, e1, e2, inv_kx hI e3⟩
  · obtain ⟨r, M1, M2, e1, e2, e3⟩ := s_market h1 h2 hj hc hX; exact ⟨r, M1, M2, e1, e2, inv_kx hI e3⟩
  · obtain ⟨r, M1, M2, e1, e2, e3⟩ := s_image hc; exact ⟨r, M1, M2, e1, e2, inv_kx hI e3⟩
  · obtain ⟨r, M1, M2, e1, e2, e3⟩ := s_back hc; exact ⟨r, M1, M2, e1, e2, inv_kx hI e3⟩
  · obtain ⟨r, e1, e2, e3⟩ := s_about h1 hc; exact ⟨r, e1, e2, inv_kx hI e3⟩
def Mst : Mem := cp (mc_X11_init_71 (zr (mc_X10_init_0 (zr (fun _ _ => 0) 0)) 71)) 72 73 288
theorem st_0 : (Mst 1 1 = 0 ∧ Mst 1 7 = 0 ∧ Mst 1 8 = 0 ∧ Mst 1 9 = 0 ∧ Mst 1 10 = 3 ∧ Mst 1 11 = 0 ∧ Mst 1 12 = -1 ∧ Mst 1 16 = 0 ∧ Mst 8 4 = 0 ∧ Mst 8 5 = 0) ∧ (Mst 15 1 = 0 ∧ Mst 15 7 = 0 ∧ Mst 15 8 = 0 ∧ Mst 15 9 = 0 ∧ Mst 15 10 = 3 ∧ Mst 15 11 = 0 ∧ Mst 15 12 = -1 ∧ Mst 15 16 = 0 ∧ Mst 22 4 = 0 ∧ Mst 22 5 = 0) := by decide +kernel
theorem st_1 : (Mst 72 0 = 0 ∧ Mst 72 1 = 0 ∧ Mst 72 2 = 0 ∧ Mst 72 3 = 0 ∧ Mst 72 4 = 3 ∧ Mst 72 5 = 0 ∧ Mst 72 6 = -1 ∧ Mst 72 7 = 0 ∧ Mst 72 8 = 0) ∧ (Mst 73 0 = 0 ∧ Mst 73 1 = 0 ∧ Mst 73 2 = 0 ∧ Mst 73 3 = 0 ∧ Mst 73 4 = 3 ∧ Mst 73 5 = 0 ∧ Mst 73 6 = -1 ∧ Mst 73 7 = 0 ∧ Mst 73 8 = 0) := by decide +kernel
theorem st_2 : (Mst 29 1 = 0 ∧ Mst 71 3 = 0 ∧ Mst 31 2 = 0 ∧ Mst 71 4 = -1 ∧ Mst 71 5 = -1) ∧ Mst 0 8 = 0 ∧ Mst 0 9 = 0 := by decide +kernel
theorem inv_start : InvP 0 Mst := by
  obtain ⟨⟨a1, a2, a3, a4, a5, a6, a7, a8, a9, a10⟩, b1, b2', b3, b4, b5, b6, b7, b8, b9, b10⟩ := st_0
  obtain ⟨⟨c1, c2, c3, c4, c5, c6, c7, c8, c9⟩, d1, d2, d3, d4, d5, d6, d7, d8, d9⟩ := st_1
  obtain ⟨⟨e1, e2, e3, e4, e5⟩, e6, e7⟩ := st_2
  refine ⟨⟨⟨⟨?_, ?_, ?_, ?_, ?_⟩, ?_, ?_, ?_, ?_, ?_⟩, ⟨⟨?_, ?_, ?_, ?_, ?_⟩, ?_, ?_, ?_, ?_, ?_⟩, ⟨by rw [e2, e1], by rw [e1]; decide, fun i hi => by rw [e1] at hi; omega⟩, Or.inl ⟨e3, e4, e5⟩⟩, by rw [b6, a6]; decide, fun q hq => by rw [a6] at hq; omega, Or.inl ⟨e6, e7⟩⟩
  · exact ⟨by rw [a1]; decide, fun i hi => by rw [a1] at hi; omega⟩
  · simp only [OkN]; omega
  · exact ⟨by rw [a2]; decide, fun i hi => by rw [a2] at hi; omega⟩
  · exact ⟨by show 0 ≤ Mst 8 4 ∧ _; rw [a9]; decide, by show 0 ≤ Mst 8 5 ∧ Mst 8 5 ≤ 40; rw [a10]; decide, fun i hi => by have hi : (i : Int) < Mst 8 5 := hi; rw [a10] at hi; omega⟩
  · exact ⟨by rw [a8]; decide, fun i hi => by rw [a8] at hi; omega⟩
  · simp only [RlN, Nat.reduceAdd]; omega
  · exact fun i hi => by rw [a1] at hi; omega
  · exact fun i hi => by rw [a2] at hi; omega
  · exact fun i hi => by have hi : (i : Int) < Mst 8 5 := hi; rw [a10] at hi; omega
  · exact fun i hi => by rw [a8] at hi; omega
  · exact ⟨by rw [b1]; decide, fun i hi => by rw [b1] at hi; omega⟩
  · simp only [OkN]; omega
  · exact ⟨by rw [b2']; decide, fun i hi => by rw [b2'] at hi; omega⟩
  · exact ⟨by show 0 ≤ Mst 22 4 ∧ _; rw [b9]; decide, by show 0 ≤ Mst 22 5 ∧ Mst 22 5 ≤ 40; rw [b10]; decide, fun i hi => by have hi : (i : Int) < Mst 22 5 := hi; rw [b10] at hi; omega⟩
  · exact ⟨by rw [b8]; decide, fun i hi => by rw [b8] at hi; omega⟩
  · simp only [RlN, Nat.reduceAdd]; omega
  · exact fun i hi => by rw [b1] at hi; omega
  · exact fun i hi => by rw [b2'] at hi; omega
  · exact fun i hi => by have hi : (i : Int) < Mst 22 5 := hi; rw [b10] at hi; omega
  · exact fun i hi => by rw [b8] at hi; omega
theorem pure_ok : PureOK := by
  refine ⟨InvP, fun M1 h => ?_, ⟨_, q_copies1⟩, fun j M h => ?_, fun j M a1 a2 a3 a4 a5 hj h1 h2 h3 h4 h5 hI => all_ok hj h1 h2 h3 h4 h5 hI⟩
  · rw [q_copies1] at h
    injection h with h
    rw [← h]; exact inv_start
  · exact ⟨Core_mono h.1, h.2⟩
