/-! THE STATE AFTER A CALL, alike -/
theorem WB_said {B : Nat → Nat} {x0 x1 x2 : Nat} (hWB : WB B) (hlim : B 2 < 10) (hx : x0 < 5 ∧ x1 < B 0 ∧ x2 < 24) : WB (rowM3 B (72 + 3 * B 2) 2 x0 x1 x2) := by
  obtain ⟨⟨hn0, hn1, hn2, hn3, hn4, hn5⟩, hbB, hv0, hv1, hv2, hv3, hv4, hv5, hv6, hv7⟩ := hWB
  have h2 : 2 ^ B 0 ≤ 256 := (p256 hn0).2
  have e0 : rowM3 B (72 + 3 * B 2) 2 x0 x1 x2 0 = B 0 := rowM3_o B (by omega) (by omega)
  have e1 : rowM3 B (72 + 3 * B 2) 2 x0 x1 x2 1 = B 1 := rowM3_o B (by omega) (by omega)
  have e2 : rowM3 B (72 + 3 * B 2) 2 x0 x1 x2 2 = B 2 + 1 := rowM3_c B
  have e3 : rowM3 B (72 + 3 * B 2) 2 x0 x1 x2 3 = B 3 := rowM3_o B (by omega) (by omega)
  have e4 : rowM3 B (72 + 3 * B 2) 2 x0 x1 x2 4 = B 4 := rowM3_o B (by omega) (by omega)
  have e5 : rowM3 B (72 + 3 * B 2) 2 x0 x1 x2 5 = B 5 := rowM3_o B (by omega) (by omega)
  refine ⟨by rw [e0, e1, e2, e3, e4, e5]; omega, rowM3_b hbB (by omega) (by omega) (by omega) (by omega), ?_, ?_, ?_, ?_, ?_, ?_, ?_, ?_⟩
  · intro k hk; rw [e0] at hk; have := hv0 k hk; simp (disch := omega) only [rowM3_o, ne_eq]; exact this
  · intro k hk; rw [e1] at hk; have := hv1 k hk; simp (disch := omega) only [rowM3_o, ne_eq]; exact this
  · intro k hk; rw [e2] at hk
    rcases Nat.lt_succ_iff_lt_or_eq.mp hk with z | z
    · have := hv2 k z; simp (disch := omega) only [rowM3_o, ne_eq]; exact this
    · subst z; simp (disch := omega) only [rowM3_o, rowM3_0, rowM3_1, rowM3_2, ne_eq]; omega
  · intro k hk; rw [e3] at hk; have := hv3 k hk; simp (disch := omega) only [rowM3_o, ne_eq]; exact this
  · intro k hk; rw [e4] at hk; have := hv4 k hk; simp (disch := omega) only [rowM3_o, ne_eq]; exact this
  · intro k hk; rw [e5] at hk; have := hv5 k hk; simp (disch := omega) only [rowM3_o, ne_eq]; exact this
  · intro p hp; have := hv6 p hp; simp (disch := omega) only [rowM3_o, ne_eq]; exact this
  · intro p t hp ht; have := hv7 p t hp ht; simp (disch := omega) only [rowM3_o, ne_eq]; exact this
theorem st_term {n0 : Nat} {c0 : Nat → Nat} {n1 : Nat} {c1 : Nat → Nat} {n2 : Nat} {c2 : Nat → Nat} {n3 : Nat} {c3 : Nat → Nat} {n4 : Nat} {c4 : Nat → Nat} {n5 : Nat} {c5 hs wf wt : Nat → Nat} {B : Nat → Nat} (hR : Rep n0 c0 n1 c1 n2 c2 n3 c3 n4 c4 n5 c5 hs wf wt B) (hw : WB B) (K C F : Int) : Rep (okN (okT K C F) n0 8) (okC (okT K C F) n0 8 c0 K.toNat C.toNat F.toNat 0) n1 c1 n2 c2 n3 c3 n4 c4 n5 c5 hs wf wt (okB (okT K C F) (B 0) 8 (termB B K.toNat C.toNat F.toNat) B) ∧ WB (okB (okT K C F) (B 0) 8 (termB B K.toNat C.toNat F.toNat) B) := by
  have m0 : n0 = B 0 := hR.1.1
  have h8 := hw.1.1
  have p2 := (p256 h8).2
  refine ⟨Rep_ok_term hR hw (fun h => ?_), okB_WB hw (fun h hl => ?_)⟩
  · simp only [okT, decide_eq_true_eq] at h
    rw [← m0] at p2
    omega
  · simp only [okT, decide_eq_true_eq] at h
    exact WB_term hw hl (by refine ⟨?_, ?_, ?_, ?_⟩ <;> omega)
theorem st_loan {n0 : Nat} {c0 : Nat → Nat} {n1 : Nat} {c1 : Nat → Nat} {n2 : Nat} {c2 : Nat → Nat} {n3 : Nat} {c3 : Nat → Nat} {n4 : Nat} {c4 : Nat → Nat} {n5 : Nat} {c5 hs wf wt : Nat → Nat} {B : Nat → Nat} (hR : Rep n0 c0 n1 c1 n2 c2 n3 c3 n4 c4 n5 c5 hs wf wt B) (hw : WB B) (P T A Z : Int) : Rep n0 c0 (okN (okL n0 P T A Z) n1 10) (okC (okL n0 P T A Z) n1 10 c1 P.toNat T.toNat A.toNat Z.toNat) n2 c2 n3 c3 n4 c4 n5 c5 hs wf wt (okB (okL n0 P T A Z) (B 1) 10 (rowM4 B (32 + 4 * B 1) 1 P.toNat T.toNat A.toNat Z.toNat) B) ∧ WB (okB (okL n0 P T A Z) (B 1) 10 (rowM4 B (32 + 4 * B 1) 1 P.toNat T.toNat A.toNat Z.toNat) B) := by
  have m0 : n0 = B 0 := hR.1.1
  have h8 := hw.1.1
  have p2 := (p256 h8).2
  refine ⟨Rep_ok_loan hR hw (fun h => ?_), okB_WB hw (fun h hl => ?_)⟩
  · simp only [okL, decide_eq_true_eq] at h
    rw [← m0] at p2
    omega
  · rw [m0] at h
    simp only [okL, decide_eq_true_eq] at h
    exact WB_loan hw hl (by refine ⟨?_, ?_, ?_, ?_⟩ <;> omega)
theorem st_said {n0 : Nat} {c0 : Nat → Nat} {n1 : Nat} {c1 : Nat → Nat} {n2 : Nat} {c2 : Nat → Nat} {n3 : Nat} {c3 : Nat → Nat} {n4 : Nat} {c4 : Nat → Nat} {n5 : Nat} {c5 hs wf wt : Nat → Nat} {B : Nat → Nat} (hR : Rep n0 c0 n1 c1 n2 c2 n3 c3 n4 c4 n5 c5 hs wf wt B) (hw : WB B) (P T A : Int) : Rep n0 c0 n1 c1 (okN (okS n0 P T A) n2 10) (okC (okS n0 P T A) n2 10 c2 P.toNat T.toNat A.toNat 0) n3 c3 n4 c4 n5 c5 hs wf wt (okB (okS n0 P T A) (B 2) 10 (rowM3 B (72 + 3 * B 2) 2 P.toNat T.toNat A.toNat) B) ∧ WB (okB (okS n0 P T A) (B 2) 10 (rowM3 B (72 + 3 * B 2) 2 P.toNat T.toNat A.toNat) B) := by
  have m0 : n0 = B 0 := hR.1.1
  have h8 := hw.1.1
  have p2 := (p256 h8).2
  refine ⟨Rep_ok_said hR hw (fun h => ?_), okB_WB hw (fun h hl => ?_)⟩
  · simp only [okS, decide_eq_true_eq] at h
    rw [← m0] at p2
    omega
  · rw [m0] at h
    simp only [okS, decide_eq_true_eq] at h
    exact WB_said hw hl (by refine ⟨?_, ?_, ?_⟩ <;> omega)
theorem st_rule {n0 : Nat} {c0 : Nat → Nat} {n1 : Nat} {c1 : Nat → Nat} {n2 : Nat} {c2 : Nat → Nat} {n3 : Nat} {c3 : Nat → Nat} {n4 : Nat} {c4 : Nat → Nat} {n5 : Nat} {c5 hs wf wt : Nat → Nat} {B : Nat → Nat} (hR : Rep n0 c0 n1 c1 n2 c2 n3 c3 n4 c4 n5 c5 hs wf wt B) (hw : WB B) (T U V : Int) : Rep n0 c0 n1 c1 n2 c2 (okN (okU n0 T U V) n3 8) (okC (okU n0 T U V) n3 8 c3 T.toNat U.toNat V.toNat 0) n4 c4 n5 c5 hs wf wt (okB (okU n0 T U V) (B 3) 8 (rowM3 B (102 + 3 * B 3) 3 T.toNat U.toNat V.toNat) B) ∧ WB (okB (okU n0 T U V) (B 3) 8 (rowM3 B (102 + 3 * B 3) 3 T.toNat U.toNat V.toNat) B) := by
  have m0 : n0 = B 0 := hR.1.1
  have h8 := hw.1.1
  have p2 := (p256 h8).2
  refine ⟨Rep_ok_rule hR hw (fun h => ?_), okB_WB hw (fun h hl => ?_)⟩
  · simp only [okU, decide_eq_true_eq] at h
    rw [← m0] at p2
    omega
  · rw [m0] at h
    simp only [okU, decide_eq_true_eq] at h
    exact WB_rule hw hl (by refine ⟨?_, ?_, ?_, ?_, ?_⟩ <;> omega)
theorem st_want {n0 : Nat} {c0 : Nat → Nat} {n1 : Nat} {c1 : Nat → Nat} {n2 : Nat} {c2 : Nat → Nat} {n3 : Nat} {c3 : Nat → Nat} {n4 : Nat} {c4 : Nat → Nat} {n5 : Nat} {c5 hs wf wt : Nat → Nat} {B : Nat → Nat} (hR : Rep n0 c0 n1 c1 n2 c2 n3 c3 n4 c4 n5 c5 hs wf wt B) (hw : WB B) (P Q A Z : Int) : Rep n0 c0 n1 c1 n2 c2 n3 c3 (okN (okW n0 P Q A Z ((popM Q.toNat 10 : Nat) : Int)) n4 5) (okC (okW n0 P Q A Z ((popM Q.toNat 10 : Nat) : Int)) n4 5 c4 P.toNat Q.toNat A.toNat Z.toNat) n5 c5 hs wf wt (okB (okW n0 P Q A Z ((popM Q.toNat 10 : Nat) : Int)) (B 4) 5 (rowM4 B (126 + 4 * B 4) 4 P.toNat Q.toNat A.toNat Z.toNat) B) ∧ WB (okB (okW n0 P Q A Z ((popM Q.toNat 10 : Nat) : Int)) (B 4) 5 (rowM4 B (126 + 4 * B 4) 4 P.toNat Q.toNat A.toNat Z.toNat) B) := by
  have m0 : n0 = B 0 := hR.1.1
  have h8 := hw.1.1
  have p2 := (p256 h8).2
  refine ⟨Rep_ok_want hR hw (fun h => ?_), okB_WB hw (fun h hl => ?_)⟩
  · simp only [okW, decide_eq_true_eq] at h
    rw [← m0] at p2
    omega
  · rw [m0] at h
    simp only [okW, decide_eq_true_eq] at h
    have hp : 0 < Q.toNat := popM_pos (by have := h.2.2.1.1; exact Int.ofNat_le.mp this)
    exact WB_want hw hl (by refine ⟨?_, ?_, ?_, ?_, ?_, ?_⟩ <;> omega)
theorem st_saying {n0 : Nat} {c0 : Nat → Nat} {n1 : Nat} {c1 : Nat → Nat} {n2 : Nat} {c2 : Nat → Nat} {n3 : Nat} {c3 : Nat → Nat} {n4 : Nat} {c4 : Nat → Nat} {n5 : Nat} {c5 hs wf wt : Nat → Nat} {B : Nat → Nat} (hR : Rep n0 c0 n1 c1 n2 c2 n3 c3 n4 c4 n5 c5 hs wf wt B) (hw : WB B) (Q U : Int) : Rep n0 c0 n1 c1 n2 c2 n3 c3 n4 c4 (okN (okY n0 Q U) n5 8) (okC (okY n0 Q U) n5 8 c5 Q.toNat U.toNat 0 0) hs wf wt (okB (okY n0 Q U) (B 5) 8 (rowM2 B (196 + 2 * B 5) 5 Q.toNat U.toNat) B) ∧ WB (okB (okY n0 Q U) (B 5) 8 (rowM2 B (196 + 2 * B 5) 5 Q.toNat U.toNat) B) := by
  have m0 : n0 = B 0 := hR.1.1
  have h8 := hw.1.1
  have p2 := (p256 h8).2
  refine ⟨Rep_ok_saying hR hw (fun h => ?_), okB_WB hw (fun h hl => ?_)⟩
  · simp only [okY, decide_eq_true_eq] at h
    rw [← m0] at p2
    omega
  · rw [m0] at h
    simp only [okY, decide_eq_true_eq] at h
    exact WB_saying hw hl (by refine ⟨?_, ?_, ?_, ?_⟩ <;> omega)
theorem st_close {n0 : Nat} {c0 : Nat → Nat} {n1 : Nat} {c1 : Nat → Nat} {n2 : Nat} {c2 : Nat → Nat} {n3 : Nat} {c3 : Nat → Nat} {n4 : Nat} {c4 : Nat → Nat} {n5 : Nat} {c5 hs wf wt : Nat → Nat} {B : Nat → Nat} (hR : Rep n0 c0 n1 c1 n2 c2 n3 c3 n4 c4 n5 c5 hs wf wt B) (hw : WB B) : Rep n0 c0 0 c1 0 c2 n3 c3 n4 c4 n5 c5 hs wf wt (updN (updN B 1 0) 2 0) ∧ WB (updN (updN B 1 0) 2 0) := by
  obtain ⟨⟨m0, m1, m2, m3, m4, m5⟩, ⟨hb0, hb1, hb2, hb3, hb4, hb5, hbh, hbw, hbt⟩, r0, r1, r2, r3, r4, r5, rp, rw9⟩ := hR
  obtain ⟨⟨hn0, hn1, hn2, hn3, hn4, hn5⟩, hbB, hv0, hv1, hv2, hv3, hv4, hv5, hv6, hv7⟩ := hw
  have eo : ∀ j, j ≠ 1 → j ≠ 2 → updN (updN B 1 0) 2 0 j = B j := fun j h1 h2 => (updN_n _ _ h2).trans (updN_n _ _ h1)
  have e1 : updN (updN B 1 0) 2 0 1 = 0 := (updN_n _ _ (by omega)).trans (updN_s _ _ _)
  have e2 : updN (updN B 1 0) 2 0 2 = 0 := updN_s _ _ _
  have hbb : ∀ j, updN (updN B 1 0) 2 0 j < 1048576 := fun j => by unfold updN; have := hbB j; (repeat' split) <;> omega
  generalize hX : updN (updN B 1 0) 2 0 = X at *
  have e0 := eo 0 (by omega) (by omega)
  have e3 := eo 3 (by omega) (by omega)
  have e4 := eo 4 (by omega) (by omega)
  have e5 := eo 5 (by omega) (by omega)
  refine ⟨⟨⟨by omega, by omega, by omega, by omega, by omega, by omega⟩, ⟨hb0, hb1, hb2, hb3, hb4, hb5, hbh, hbw, hbt⟩, ?_, ?_, ?_, ?_, ?_, ?_, ?_, ?_⟩, ⟨by omega, hbb, ?_, ?_, ?_, ?_, ?_, ?_, ?_, ?_⟩⟩
  · intro q hq; rw [e0] at hq; have := r0 q hq; simp (disch := omega) only [eo]; exact this
  · intro q hq; omega
  · intro q hq; omega
  · intro q hq; rw [e3] at hq; have := r3 q hq; simp (disch := omega) only [eo]; exact this
  · intro q hq; rw [e4] at hq; have := r4 q hq; simp (disch := omega) only [eo]; exact this
  · intro q hq; rw [e5] at hq; have := r5 q hq; simp (disch := omega) only [eo]; exact this
  · intro p hp; have := rp p hp; simp (disch := omega) only [eo]; exact this
  · intro p t hp ht; have := rw9 p t hp ht; simp (disch := omega) only [eo]; exact this
  · intro k hk; rw [e0] at hk; have := hv0 k hk; simp (disch := omega) only [eo]; exact this
  · intro k hk; omega
  · intro k hk; omega
  · intro k hk; rw [e3] at hk; have := hv3 k hk; simp (disch := omega) only [eo, ne_eq]; exact this
  · intro k hk; rw [e4] at hk; have := hv4 k hk; simp (disch := omega) only [eo]; exact this
  · intro k hk; rw [e5] at hk; have := hv5 k hk; simp (disch := omega) only [eo]; exact this
  · intro p hp; have := hv6 p hp; simp (disch := omega) only [eo]; exact this
  · intro p t hp ht; have := hv7 p t hp ht; simp (disch := omega) only [eo]; exact this
theorem st_waits_ok {n0 : Nat} {c0 : Nat → Nat} {n1 : Nat} {c1 : Nat → Nat} {n2 : Nat} {c2 : Nat → Nat} {n3 : Nat} {c3 : Nat → Nat} {n4 : Nat} {c4 : Nat → Nat} {n5 : Nat} {c5 hs wf wt : Nat → Nat} {B : Nat → Nat} {P a b : Nat} (hR : Rep n0 c0 n1 c1 n2 c2 n3 c3 n4 c4 n5 c5 hs wf wt B) (hw : WB B) (hP9 : P < 5) (ha : a < 2 ^ B 0) (hb9 : b < 2 ^ B 0) (hab : a &&& b = 0) : Rep n0 c0 n1 c1 n2 c2 n3 c3 n4 c4 n5 c5 (updN hs P a) (updN wf P b) wt (updN (updN B (146 + P) a) (151 + P) b) ∧ WB (updN (updN B (146 + P) a) (151 + P) b) := by
  obtain ⟨⟨m0, m1, m2, m3, m4, m5⟩, ⟨hb0, hb1, hb2, hb3, hb4, hb5, hbh, hbw, hbt⟩, r0, r1, r2, r3, r4, r5, rp, rw9⟩ := hR
  obtain ⟨⟨hn0, hn1, hn2, hn3, hn4, hn5⟩, hbB, hv0, hv1, hv2, hv3, hv4, hv5, hv6, hv7⟩ := hw
  have h2 : 2 ^ B 0 ≤ 256 := (p256 hn0).2
  have eo : ∀ j, (j < 146 ∨ 156 ≤ j) → updN (updN B (146 + P) a) (151 + P) b j = B j := fun j h1 => (updN_n _ _ (by omega)).trans (updN_n _ _ (by omega))
  have ex : ∀ p, p < 5 → updN (updN B (146 + P) a) (151 + P) b (146 + p) = (if p = P then a else B (146 + p)) ∧ updN (updN B (146 + P) a) (151 + P) b (151 + p) = (if p = P then b else B (151 + p)) := fun p hp => by
    unfold updN
    by_cases z : p = P
    · rw [if_pos z, if_pos z, if_neg (by omega), if_pos (by omega), if_pos (by omega)]; exact ⟨rfl, rfl⟩
    · rw [if_neg z, if_neg z, if_neg (by omega), if_neg (by omega), if_neg (by omega), if_neg (by omega)]; exact ⟨rfl, rfl⟩
  have hbb : ∀ j, updN (updN B (146 + P) a) (151 + P) b j < 1048576 := fun j => by unfold updN; have := hbB j; (repeat' split) <;> omega
  have hh : ∀ j, updN hs P a j < 1048576 := fun j => by unfold updN; have := hbh j; split <;> omega
  have hf : ∀ j, updN wf P b j < 1048576 := fun j => by unfold updN; have := hbw j; split <;> omega
  generalize hX : updN (updN B (146 + P) a) (151 + P) b = X at *
  have e0 := eo 0 (by omega)
  have e1 := eo 1 (by omega)
  have e2 := eo 2 (by omega)
  have e3 := eo 3 (by omega)
  have e4 := eo 4 (by omega)
  have e5 := eo 5 (by omega)
  refine ⟨⟨⟨by omega, by omega, by omega, by omega, by omega, by omega⟩, ⟨hb0, hb1, hb2, hb3, hb4, hb5, hh, hf, hbt⟩, ?_, ?_, ?_, ?_, ?_, ?_, ?_, ?_⟩, ⟨by omega, hbb, ?_, ?_, ?_, ?_, ?_, ?_, ?_, ?_⟩⟩
  · intro q hq; rw [e0] at hq; have := r0 q hq; simp (disch := omega) only [eo]; exact this
  · intro q hq; rw [e1] at hq; have := r1 q hq; simp (disch := omega) only [eo]; exact this
  · intro q hq; rw [e2] at hq; have := r2 q hq; simp (disch := omega) only [eo]; exact this
  · intro q hq; rw [e3] at hq; have := r3 q hq; simp (disch := omega) only [eo]; exact this
  · intro q hq; rw [e4] at hq; have := r4 q hq; simp (disch := omega) only [eo]; exact this
  · intro q hq; rw [e5] at hq; have := r5 q hq; simp (disch := omega) only [eo]; exact this
  · intro p hp; have := rp p hp; obtain ⟨a1, a2⟩ := ex p hp; rw [a1, a2]; unfold updN; split
    · exact ⟨rfl, rfl⟩
    · exact this
  · intro p t hp ht; have := rw9 p t hp ht; simp (disch := omega) only [eo]; exact this
  · intro k hk; rw [e0] at hk; have := hv0 k hk; simp (disch := omega) only [eo]; exact this
  · intro k hk; rw [e1] at hk; have := hv1 k hk; simp (disch := omega) only [eo]; exact this
  · intro k hk; rw [e2] at hk; have := hv2 k hk; simp (disch := omega) only [eo]; exact this
  · intro k hk; rw [e3] at hk; have := hv3 k hk; simp (disch := omega) only [eo, ne_eq]; exact this
  · intro k hk; rw [e4] at hk; have := hv4 k hk; simp (disch := omega) only [eo]; exact this
  · intro k hk; rw [e5] at hk; have := hv5 k hk; simp (disch := omega) only [eo]; exact this
  · intro p hp; have := hv6 p hp; obtain ⟨a1, a2⟩ := ex p hp; rw [a1, a2, e0]; split
    · exact ⟨ha, hb9, hab⟩
    · exact this
  · intro p t hp ht; have := hv7 p t hp ht; simp (disch := omega) only [eo]; exact this
theorem st_waits {n0 : Nat} {c0 : Nat → Nat} {n1 : Nat} {c1 : Nat → Nat} {n2 : Nat} {c2 : Nat → Nat} {n3 : Nat} {c3 : Nat → Nat} {n4 : Nat} {c4 : Nat → Nat} {n5 : Nat} {c5 hs wf wt : Nat → Nat} {B : Nat → Nat} (hR : Rep n0 c0 n1 c1 n2 c2 n3 c3 n4 c4 n5 c5 hs wf wt B) (hw : WB B) (P Q V : Int) : Rep n0 c0 n1 c1 n2 c2 n3 c3 n4 c4 n5 c5 (if okH n0 P Q V (Q.toNat &&& V.toNat) = true then updN hs P.toNat Q.toNat else hs) (if okH n0 P Q V (Q.toNat &&& V.toNat) = true then updN wf P.toNat V.toNat else wf) wt (if okH n0 P Q V (Q.toNat &&& V.toNat) = true then updN (updN B (146 + P.toNat) Q.toNat) (151 + P.toNat) V.toNat else B) ∧ WB (if okH n0 P Q V (Q.toNat &&& V.toNat) = true then updN (updN B (146 + P.toNat) Q.toNat) (151 + P.toNat) V.toNat else B) := by
  by_cases h : okH n0 P Q V (Q.toNat &&& V.toNat) = true
  · rw [if_pos h, if_pos h, if_pos h]
    simp only [okH, decide_eq_true_eq] at h
    rw [hR.1.1] at h
    exact st_waits_ok hR hw (by omega) (by omega) (by omega) h.2.2.2
  · rw [if_neg h, if_neg h, if_neg h]; exact ⟨hR, hw⟩
theorem st_worth_ok {n0 : Nat} {c0 : Nat → Nat} {n1 : Nat} {c1 : Nat → Nat} {n2 : Nat} {c2 : Nat → Nat} {n3 : Nat} {c3 : Nat → Nat} {n4 : Nat} {c4 : Nat → Nat} {n5 : Nat} {c5 hs wf wt : Nat → Nat} {B : Nat → Nat} {P T v : Nat} (hR : Rep n0 c0 n1 c1 n2 c2 n3 c3 n4 c4 n5 c5 hs wf wt B) (hw : WB B) (hP9 : P < 5) (hT : T < B 0) (hv : v ≤ 99) : Rep n0 c0 n1 c1 n2 c2 n3 c3 n4 c4 n5 c5 hs wf (updN wt (P * 8 + T) v) (updN B (156 + 8 * P + T) v) ∧ WB (updN B (156 + 8 * P + T) v) := by
  obtain ⟨⟨m0, m1, m2, m3, m4, m5⟩, ⟨hb0, hb1, hb2, hb3, hb4, hb5, hbh, hbw, hbt⟩, r0, r1, r2, r3, r4, r5, rp, rw9⟩ := hR
  obtain ⟨⟨hn0, hn1, hn2, hn3, hn4, hn5⟩, hbB, hv0, hv1, hv2, hv3, hv4, hv5, hv6, hv7⟩ := hw
  have eo : ∀ j, (j < 156 ∨ 196 ≤ j) → updN B (156 + 8 * P + T) v j = B j := fun j h1 => updN_n _ _ (by omega)
  have ex : ∀ p t, p < 5 → t < 8 → updN B (156 + 8 * P + T) v (156 + 8 * p + t) = (if p = P ∧ t = T then v else B (156 + 8 * p + t)) := fun p t hp ht => by
    unfold updN
    by_cases z : p = P ∧ t = T
    · rw [if_pos z, if_pos (by omega)]
    · rw [if_neg z, if_neg (by omega)]
  have hbb : ∀ j, updN B (156 + 8 * P + T) v j < 1048576 := fun j => by unfold updN; have := hbB j; (repeat' split) <;> omega
  have hh : ∀ j, updN wt (P * 8 + T) v j < 1048576 := fun j => by unfold updN; have := hbt j; split <;> omega
  generalize hX : updN B (156 + 8 * P + T) v = X at *
  have e0 := eo 0 (by omega)
  have e1 := eo 1 (by omega)
  have e2 := eo 2 (by omega)
  have e3 := eo 3 (by omega)
  have e4 := eo 4 (by omega)
  have e5 := eo 5 (by omega)
  refine ⟨⟨⟨by omega, by omega, by omega, by omega, by omega, by omega⟩, ⟨hb0, hb1, hb2, hb3, hb4, hb5, hbh, hbw, hh⟩, ?_, ?_, ?_, ?_, ?_, ?_, ?_, ?_⟩, ⟨by omega, hbb, ?_, ?_, ?_, ?_, ?_, ?_, ?_, ?_⟩⟩
  · intro q hq; rw [e0] at hq; have := r0 q hq; simp (disch := omega) only [eo]; exact this
  · intro q hq; rw [e1] at hq; have := r1 q hq; simp (disch := omega) only [eo]; exact this
  · intro q hq; rw [e2] at hq; have := r2 q hq; simp (disch := omega) only [eo]; exact this
  · intro q hq; rw [e3] at hq; have := r3 q hq; simp (disch := omega) only [eo]; exact this
  · intro q hq; rw [e4] at hq; have := r4 q hq; simp (disch := omega) only [eo]; exact this
  · intro q hq; rw [e5] at hq; have := r5 q hq; simp (disch := omega) only [eo]; exact this
  · intro p hp; have := rp p hp; simp (disch := omega) only [eo]; exact this
  · intro p t hp ht; have := rw9 p t hp ht; rw [ex p t hp ht, e0]; unfold updN
    by_cases z : p = P ∧ t = T
    · rw [if_pos z, if_pos (by omega), if_pos (by omega)]
    · rw [if_neg z, if_neg (by omega)]; exact this
  · intro k hk; rw [e0] at hk; have := hv0 k hk; simp (disch := omega) only [eo]; exact this
  · intro k hk; rw [e1] at hk; have := hv1 k hk; simp (disch := omega) only [eo]; exact this
  · intro k hk; rw [e2] at hk; have := hv2 k hk; simp (disch := omega) only [eo]; exact this
  · intro k hk; rw [e3] at hk; have := hv3 k hk; simp (disch := omega) only [eo, ne_eq]; exact this
  · intro k hk; rw [e4] at hk; have := hv4 k hk; simp (disch := omega) only [eo]; exact this
  · intro k hk; rw [e5] at hk; have := hv5 k hk; simp (disch := omega) only [eo]; exact this
  · intro p hp; have := hv6 p hp; simp (disch := omega) only [eo]; exact this
  · intro p t hp ht; have := hv7 p t hp ht; rw [ex p t hp ht]; split
    · exact hv
    · exact this
theorem st_worth {n0 : Nat} {c0 : Nat → Nat} {n1 : Nat} {c1 : Nat → Nat} {n2 : Nat} {c2 : Nat → Nat} {n3 : Nat} {c3 : Nat → Nat} {n4 : Nat} {c4 : Nat → Nat} {n5 : Nat} {c5 hs wf wt : Nat → Nat} {B : Nat → Nat} (hR : Rep n0 c0 n1 c1 n2 c2 n3 c3 n4 c4 n5 c5 hs wf wt B) (hw : WB B) (P T V : Int) : Rep n0 c0 n1 c1 n2 c2 n3 c3 n4 c4 n5 c5 hs wf (if okV n0 P T V = true then updN wt (P.toNat * 8 + T.toNat) V.toNat else wt) (if okV n0 P T V = true then updN B (156 + 8 * P.toNat + T.toNat) V.toNat else B) ∧ WB (if okV n0 P T V = true then updN B (156 + 8 * P.toNat + T.toNat) V.toNat else B) := by
  by_cases h : okV n0 P T V = true
  · rw [if_pos h, if_pos h]
    simp only [okV, decide_eq_true_eq] at h
    rw [hR.1.1] at h
    exact st_worth_ok hR hw (by omega) (by omega) (by omega)
  · rw [if_neg h, if_neg h]; exact ⟨hR, hw⟩
theorem Rep_copy {n0 : Nat} {c0 : Nat → Nat} {n1 : Nat} {c1 : Nat → Nat} {n2 : Nat} {c2 : Nat → Nat} {n3 : Nat} {c3 : Nat → Nat} {n4 : Nat} {c4 : Nat → Nat} {n5 : Nat} {c5 hs wf wt : Nat → Nat} {B : Nat → Nat} {d0 d1 d2 d3 d4 d5 hs2 wf2 wt2 B2 : Nat → Nat} (hR : Rep n0 c0 n1 c1 n2 c2 n3 c3 n4 c4 n5 c5 hs wf wt B) (hw : WB B) (h0 : ∀ j, d0 j < 1048576) (h1 : ∀ j, d1 j < 1048576) (h2 : ∀ j, d2 j < 1048576) (h3 : ∀ j, d3 j < 1048576) (h4 : ∀ j, d4 j < 1048576) (h5 : ∀ j, d5 j < 1048576) (hh : ∀ j, hs2 j < 1048576) (hf : ∀ j, wf2 j < 1048576) (ht9 : ∀ j, wt2 j < 1048576) (hB : ∀ j, B2 j < 1048576) (eB : ∀ j, j < 212 → B2 j = B j) : Rep n0 (cpyN c0 d0 40) n1 (cpyN c1 d1 40) n2 (cpyN c2 d2 40) n3 (cpyN c3 d3 40) n4 (cpyN c4 d4 40) n5 (cpyN c5 d5 40) (cpyN hs hs2 5) (cpyN wf wf2 5) (cpyN wt wt2 40) B2 ∧ WB B2 := by
  have hw2 := WB_same hw hB eB
  obtain ⟨⟨m0, m1, m2, m3, m4, m5⟩, ⟨hb0, hb1, hb2, hb3, hb4, hb5, hbh, hbw, hbt⟩, r0, r1, r2, r3, r4, r5, rp, rw9⟩ := hR
  obtain ⟨⟨hn0, hn1, hn2, hn3, hn4, hn5⟩, hbB, hv0, hv1, hv2, hv3, hv4, hv5, hv6, hv7⟩ := hw
  have ec : ∀ (f g : Nat → Nat) (n j : Nat), j < n → cpyN f g n j = f j := fun f g n j h => if_pos h
  have e0 := eB 0 (by omega)
  have e1 := eB 1 (by omega)
  have e2 := eB 2 (by omega)
  have e3 := eB 3 (by omega)
  have e4 := eB 4 (by omega)
  have e5 := eB 5 (by omega)
  refine ⟨⟨⟨by omega, by omega, by omega, by omega, by omega, by omega⟩, ⟨cpyN_lt hb0 h0 40, cpyN_lt hb1 h1 40, cpyN_lt hb2 h2 40, cpyN_lt hb3 h3 40, cpyN_lt hb4 h4 40, cpyN_lt hb5 h5 40, cpyN_lt hbh hh 5, cpyN_lt hbw hf 5, cpyN_lt hbt ht9 40⟩, ?_, ?_, ?_, ?_, ?_, ?_, ?_, ?_⟩, hw2⟩
  · intro q hq; rw [e0] at hq; have := r0 q hq; simp (disch := omega) only [eB, ec]; exact this
  · intro q hq; rw [e1] at hq; have := r1 q hq; simp (disch := omega) only [eB, ec]; exact this
  · intro q hq; rw [e2] at hq; have := r2 q hq; simp (disch := omega) only [eB, ec]; exact this
  · intro q hq; rw [e3] at hq; have := r3 q hq; simp (disch := omega) only [eB, ec]; exact this
  · intro q hq; rw [e4] at hq; have := r4 q hq; simp (disch := omega) only [eB, ec]; exact this
  · intro q hq; rw [e5] at hq; have := r5 q hq; simp (disch := omega) only [eB, ec]; exact this
  · intro p hp; have := rp p hp; simp (disch := omega) only [eB, ec]; exact this
  · intro p t hp ht; have := rw9 p t hp ht; simp (disch := omega) only [eB, ec]; exact this
theorem Rep_book {n0 : Nat} {c0 : Nat → Nat} {n1 : Nat} {c1 : Nat → Nat} {n2 : Nat} {c2 : Nat → Nat} {n3 : Nat} {c3 : Nat → Nat} {n4 : Nat} {c4 : Nat → Nat} {n5 : Nat} {c5 hs wf wt : Nat → Nat} {B : Nat → Nat} {B2 : Nat → Nat} (hR : Rep n0 c0 n1 c1 n2 c2 n3 c3 n4 c4 n5 c5 hs wf wt B) (hw : WB B) (hB : ∀ j, B2 j < 1048576) (eB : ∀ j, j < 212 → B2 j = B j) : Rep n0 c0 n1 c1 n2 c2 n3 c3 n4 c4 n5 c5 hs wf wt B2 ∧ WB B2 := by
  have hw2 := WB_same hw hB eB
  obtain ⟨⟨m0, m1, m2, m3, m4, m5⟩, ⟨hb0, hb1, hb2, hb3, hb4, hb5, hbh, hbw, hbt⟩, r0, r1, r2, r3, r4, r5, rp, rw9⟩ := hR
  obtain ⟨⟨hn0, hn1, hn2, hn3, hn4, hn5⟩, hbB, hv0, hv1, hv2, hv3, hv4, hv5, hv6, hv7⟩ := hw
  have e0 := eB 0 (by omega)
  have e1 := eB 1 (by omega)
  have e2 := eB 2 (by omega)
  have e3 := eB 3 (by omega)
  have e4 := eB 4 (by omega)
  have e5 := eB 5 (by omega)
  refine ⟨⟨⟨by omega, by omega, by omega, by omega, by omega, by omega⟩, ⟨hb0, hb1, hb2, hb3, hb4, hb5, hbh, hbw, hbt⟩, ?_, ?_, ?_, ?_, ?_, ?_, ?_, ?_⟩, hw2⟩
  · intro q hq; rw [e0] at hq; have := r0 q hq; simp (disch := omega) only [eB]; exact this
  · intro q hq; rw [e1] at hq; have := r1 q hq; simp (disch := omega) only [eB]; exact this
  · intro q hq; rw [e2] at hq; have := r2 q hq; simp (disch := omega) only [eB]; exact this
  · intro q hq; rw [e3] at hq; have := r3 q hq; simp (disch := omega) only [eB]; exact this
  · intro q hq; rw [e4] at hq; have := r4 q hq; simp (disch := omega) only [eB]; exact this
  · intro q hq; rw [e5] at hq; have := r5 q hq; simp (disch := omega) only [eB]; exact this
  · intro p hp; have := rp p hp; simp (disch := omega) only [eB]; exact this
  · intro p t hp ht; have := rw9 p t hp ht; simp (disch := omega) only [eB]; exact this
