/-! what is read is read alike: the items -/
theorem nmS_keep {tx : Nat → Nat} {sz m : Nat} : ∀ j k r I y, y < 5 * m + 1 + k → (nmS tx sz m j k r I).2.2 y = I y := by
  intro j
  induction j with
  | zero => intro k r I y _; rfl
  | succ j ih =>
    intro k r I y hy
    by_cases h : r.2.2.1 = 2
    · rw [nmS_2 tx sz m j k I h, ih _ _ _ _ (by omega), updN_n _ _ (by omega)]
    · rw [nmS_1 tx sz m j k I h]
theorem rdS_keep {tx : Nat → Nat} {sz : Nat} : ∀ f r m I, m ≤ (rdS tx sz f r m I).2.2.1 ∧ ∀ y, y < 5 * m → (rdS tx sz f r m I).2.2.2 y = I y := by
  intro f
  induction f with
  | zero => intro r m I; exact ⟨Nat.le_refl _, fun _ _ => rfl⟩
  | succ f ih =>
    intro r m I
    by_cases h0 : r.2.2.1 = 0
    · rw [rdS_0 tx sz f m I h0]; exact ⟨Nat.le_refl _, fun _ _ => rfl⟩
    by_cases h4 : r.2.2.1 < 4
    · rw [rdS_1 tx sz f m I h0 h4]; exact ⟨Nat.le_refl _, fun _ _ => rfl⟩
    have hk := nmS_keep (tx := tx) (sz := sz) (m := m) (nuV (r.2.2.1 - 4)) 0 (scN tx sz r.1 r.2.2.2) (updN I (5 * m) (r.2.2.1 - 4))
    rcases hz : nmS tx sz m (nuV (r.2.2.1 - 4)) 0 (scN tx sz r.1 r.2.2.2) (updN I (5 * m) (r.2.2.1 - 4)) with ⟨b, s9, J⟩
    rw [hz] at hk
    have hJ : ∀ y, y < 5 * m → J y = I y := fun y hy => (hk y (by omega)).trans (updN_n _ _ (by omega))
    cases b with
    | false => rw [rdS_2 tx sz f m (by omega) hz]; exact ⟨Nat.le_refl _, hJ⟩
    | true =>
      by_cases h3 : s9.2.2.1 = 3
      · rw [rdS_4 tx sz f m (by omega) hz h3]
        have i := ih (scN tx sz s9.1 s9.2.2.2) (m + 1) J
        exact ⟨by omega, fun y hy => (i.2 y (by omega)).trans (hJ y hy)⟩
      · rw [rdS_3 tx sz f m (by omega) hz h3]; exact ⟨Nat.le_refl _, hJ⟩
theorem tlT_congr {I J X : Nat → Nat} : ∀ k, (∀ y, y < 5 * k → J y = I y) → tlT J X k = tlT I X k := by
  intro k
  induction k with
  | zero => intro _; rfl
  | succ k ih =>
    intro h
    rw [tlT_s, tlT_s, ih (fun y hy => h y (by omega)), h (5 * k) (by omega), h (5 * k + 1) (by omega), h (5 * k + 2) (by omega), h (5 * k + 3) (by omega), h (5 * k + 4) (by omega)]
theorem tlO_congr {I J X : Nat → Nat} {k n : Nat} (h : ∀ y, y < 5 * k → J y = I y) (hn : n < k) : tlO J X n ↔ tlO I X n := by
  unfold tlO
  rw [tlT_congr n (fun y hy => h y (by omega)), h (5 * n) (by omega), h (5 * n + 1) (by omega), h (5 * n + 2) (by omega), h (5 * n + 3) (by omega), h (5 * n + 4) (by omega)]
def RepT (nn : Nat → Nat) (cc : Nat → Nat → Nat) (hs wf wt B : Nat → Nat) : Prop := Rep (nn 0) (cc 0) (nn 1) (cc 1) (nn 2) (cc 2) (nn 3) (cc 3) (nn 4) (cc 4) (nn 5) (cc 5) hs wf wt B
theorem RepT_n {nn : Nat → Nat} {cc : Nat → Nat → Nat} {hs wf wt B : Nat → Nat} (h : RepT nn cc hs wf wt B) : ∀ j, j < 6 → nn j = B j := by
  obtain ⟨⟨m0, m1, m2, m3, m4, m5⟩, -⟩ := h
  intro j hj
  rcases (show j = 0 ∨ j = 1 ∨ j = 2 ∨ j = 3 ∨ j = 4 ∨ j = 5 by omega) with rfl | rfl | rfl | rfl | rfl | rfl
  · exact m0
  · exact m1
  · exact m2
  · exact m3
  · exact m4
  · exact m5
/-- how the reading ends -/
def rdEnd (hs wf wt X : Nat → Nat) (z : TTR) (R : Bool × (Nat × Nat × Nat × Nat) × Nat × (Nat → Nat)) : Prop :=
  (R.1 = false → z.1 = (-10) - nI R.2.1.2.1) ∧ (R.1 = true → ∃ kk, kk ≤ R.2.2.1 ∧ (∀ j, j < kk → tlO R.2.2.2 X j) ∧ ((kk = R.2.2.1 ∧ z.1 = nI kk ∧ RepT z.2.2.2.1 z.2.2.2.2 hs wf wt (tlT R.2.2.2 X kk)) ∨ (kk < R.2.2.1 ∧ ¬ tlO R.2.2.2 X kk ∧ z.1 = (-1000) - nI kk)))
theorem nuV_3 {w : Nat} (h : w < 4) : 3 ≤ nuV w := by unfold nuV; (repeat' split) <;> omega
theorem nuV_4 {w : Nat} (h : w = 2 ∨ w = 3) : nuV w = 4 := by unfold nuV; (repeat' split) <;> omega
theorem read_eq {tx : Nat → Nat} {sz : Nat} {hs wf wt X : Nat → Nat} : ∀ f a p v k rf N nn cc I, p ≤ sz → a = ruE tx sz 32 32 p → sz ≤ a + f →
    (rf = 0 → RepT nn cc hs wf wt (tlT I X k) ∧ WB (tlT I X k) ∧ ∀ j, j < k → tlO I X j) → (¬ rf = 0 → rf ≤ k ∧ (∀ j, j < rf - 1 → tlO I X j) ∧ ¬ tlO I X (rf - 1)) →
    rdEnd hs wf wt X (ttS tx sz f a k rf N nn cc) (rdS tx sz (f + 1) (scN tx sz p v) k I) := by
  intro f
  have fin : ∀ f a p v k rf N nn cc I, p ≤ sz → a = ruE tx sz 32 32 p → sz ≤ a →
    (rf = 0 → RepT nn cc hs wf wt (tlT I X k) ∧ WB (tlT I X k) ∧ ∀ j, j < k → tlO I X j) → (¬ rf = 0 → rf ≤ k ∧ (∀ j, j < rf - 1 → tlO I X j) ∧ ¬ tlO I X (rf - 1)) →
    rdEnd hs wf wt X (ttS tx sz f a k rf N nn cc) (rdS tx sz (f + 1) (scN tx sz p v) k I) := by
    intro f a p v k rf N nn cc I hp ha hs9 h1 h2
    have hle := ruE_le tx 32 32 hp
    have e0 : (scN tx sz p v).2.2.1 = 0 := by
      show scT tx sz (ruE tx sz 32 32 p) = 0
      exact (sc_0 0 (by omega)).2.1
    rw [ttS_e f hs9, rdS_0 tx sz f k I e0]
    refine ⟨fun z => (by cases z), fun _ => ?_⟩
    by_cases hrf : rf = 0
    · obtain ⟨g1, g2, g3⟩ := h1 hrf
      exact ⟨k, Nat.le_refl _, g3, Or.inl ⟨rfl, if_pos hrf, g1⟩⟩
    · obtain ⟨g1, g2, g3⟩ := h2 hrf
      refine ⟨rf - 1, by dsimp only; omega, g2, Or.inr ⟨by dsimp only; omega, g3, ?_⟩⟩
      show tfin k rf = _
      unfold tfin
      obtain ⟨r9, rfl⟩ : ∃ z, rf = z + 1 := ⟨rf - 1, by omega⟩
      rw [if_neg hrf, pk_m1, Nat.add_sub_cancel]
  induction f with
  | zero => intro a p v k rf N nn cc I hp ha hf h1 h2; exact fin 0 a p v k rf N nn cc I hp ha (by omega) h1 h2
  | succ f ih =>
    intro a p v k rf N nn cc I hp ha hf h1 h2
    rcases Nat.lt_or_ge a sz with hlt | hge
    · have htw := tok_word (tx := tx) hlt
      have er : (scN tx sz p v).2.2.1 = scT tx sz a := by rw [ha]; rfl
      have er1 : (scN tx sz p v).1 = scA tx sz a := by rw [ha]; rfl
      have er2 : (scN tx sz p v).2.1 = a := ha.symm
      by_cases hq : wqN tx sz a = 0
      · have hw := htw.1 hq
        rw [ttS_w f hlt hq, rdS_1 tx sz (f + 1) k I (by rw [er]; exact hw.1) (by rw [er]; exact hw.2)]
        refine ⟨fun _ => ?_, fun z => (by cases z)⟩
        show (-10) - nI a = (-10) - nI (scN tx sz p v).2.1
        rw [er2]
      · have hw := htw.2 hq
        have hq5 := wqS_le tx a (wqA tx sz a - a)
        obtain ⟨q, hqe⟩ : ∃ z, wqN tx sz a = z + 1 := ⟨wqN tx sz a - 1, by omega⟩
        have hq4 : q < 5 := by have : wqN tx sz a ≤ 5 := hq5; omega
        have et : (scN tx sz p v).2.2.1 - 4 = q := by rw [er, hw.1]; omega
        have et4 : 4 ≤ (scN tx sz p v).2.2.1 := by rw [er, hw.1]; omega
        have hwa := ruE_le tx 97 122 (show a ≤ sz by omega)
        have ewa : wqA tx sz a = ruE tx sz 97 122 a := rfl
        have E := nums_eq (tx := tx) (sz := sz) (m := k) (nuV q) 0 (wqA tx sz a) (scN tx sz p v).2.2.2 N (updN I (5 * k) q) (by omega)
        rcases hzc : nmC tx sz (nuV q) 0 (wqA tx sz a) N with ⟨zb, za, zN⟩
        rcases hzm : nmS tx sz k (nuV q) 0 (scN tx sz (wqA tx sz a) (scN tx sz p v).2.2.2) (updN I (5 * k) q) with ⟨mb, ms, mI⟩
        have hzm2 : nmS tx sz k (nuV ((scN tx sz p v).2.2.1 - 4)) 0 (scN tx sz (scN tx sz p v).1 (scN tx sz p v).2.2.2) (updN I (5 * k) ((scN tx sz p v).2.2.1 - 4)) = (mb, ms, mI) := by
          rw [et, er1, hw.2]; exact hzm
        rw [hzc, hzm] at E
        dsimp only at E
        obtain ⟨e1, e2, e3, e4, e5, e6, e7, e8⟩ := E
        have hz9 : (zb, za, zN) = nmC tx sz (nuV (wqN tx sz a - 1)) 0 (wqA tx sz a) N := by rw [hqe, Nat.add_sub_cancel]; exact hzc.symm
        cases zb with
        | false =>
          rw [ttS_n f hlt rfl (by omega) hz9 Bool.false_ne_true]
          subst e1
          rw [rdS_2 tx sz (f + 1) k et4 hzm2]
          refine ⟨fun _ => ?_, fun z => (by cases z)⟩
          show (-10) - nI za = (-10) - nI ms.2.1
          rw [e2 rfl]
        | true =>
          subst e1
          obtain ⟨v2, hms⟩ := e3 rfl
          have hbl := ruE_le tx 32 32 e4
          have hts := tok_semi (tx := tx) (sz := sz) (b := ruE tx sz 32 32 za) hbl.2
          have ems : ms.2.2.1 = scT tx sz (ruE tx sz 32 32 za) := by rw [hms]; rfl
          by_cases hse : ruE tx sz 32 32 za < sz ∧ tx (ruE tx sz 32 32 za) = 59
          · have e9 : ms.2.2.1 = 3 := by rw [ems]; exact hts.1.mpr hse
            have e10 : ms.1 = ruE tx sz 32 32 za + 1 := by rw [hms]; exact hts.2 hse
            rw [rdS_4 tx sz (f + 1) k et4 hzm2 e9, e10]
            have hbn := ruE_le tx 32 32 (show ruE tx sz 32 32 za + 1 ≤ sz by omega)
            have hag : ∀ y, y < 5 * k → mI y = I y := fun y hy => (e8 y (by omega)).trans (updN_n _ _ (by omega))
            by_cases hrf : rf = 0
            · rw [ttS_k f hlt rfl (by omega) hz9 rfl hse hrf, hqe, Nat.add_sub_cancel]
              dsimp only
              obtain ⟨g1, g2, g3⟩ := h1 hrf
              have ev : mI (5 * k) = q := (e8 (5 * k) (by omega)).trans (updN_s I (5 * k) q)
              have hn2 := nuV_ge q
              have i0 := e6 rfl 0 (by omega)
              have i1 := e6 rfl 1 (by omega)
              have eT := tlT_congr (X := X) k hag
              rw [← eT] at g1 g2
              have ct := cl_tl (nn := nn) (B := tlT mI X k) (w := q) (a := mI (5 * k + 1)) (b := mI (5 * k + 2)) (c := mI (5 * k + 3)) (d := mI (5 * k + 4)) (N := zN) (RepT_n g1) g2.1.1 hq4
                (by rw [show zN 0 = nI (mI (5 * k + 1)) from i0.1, nI_toInt (Nat.lt_trans i0.2 (by omega))])
                (by rw [show zN 1 = nI (mI (5 * k + 2)) from i1.1, nI_toInt (Nat.lt_trans i1.2 (by omega))])
                (fun h4 => by
                  have i2 := e6 rfl 2 (by have := nuV_3 h4; omega)
                  rw [show zN 2 = nI (mI (5 * k + 3)) from i2.1, nI_toInt (Nat.lt_trans i2.2 (by omega))])
                (fun h4 => by
                  have i3 := e6 rfl 3 (by have := nuV_4 h4; omega)
                  rw [show zN 3 = nI (mI (5 * k + 4)) from i3.1, nI_toInt (Nat.lt_trans i3.2 (by omega))])
              have rc := Rep_cl (N := zN) g1 g2 hq4
              have eN : clB (tlT mI X k) q zN = tlT mI X (k + 1) := by rw [ct.1, tlT_s, ev]
              rw [eN] at rc
              have eO : tlO mI X k ↔ 0 ≤ (clA nn q zN).toInt := by unfold tlO; rw [ev, ct.2]
              have hO : ∀ j, j < k → tlO mI X j := fun j hj => (tlO_congr hag hj).mpr (g3 j hj)
              refine ih _ _ _ _ _ _ _ _ mI (show ruE tx sz 32 32 za + 1 ≤ sz by omega) rfl (by omega) (fun z => ?_) (fun z => ?_)
              · refine ⟨rc.1, rc.2, fun j hj => ?_⟩
                rcases Nat.lt_succ_iff_lt_or_eq.mp hj with y | y
                · exact hO j y
                · rw [y]; refine eO.mpr ?_
                  by_cases hc : (clA nn q zN).toInt < 0
                  · rw [if_pos hc] at z; omega
                  · omega
              · by_cases hc : (clA nn q zN).toInt < 0
                · rw [if_pos hc]; exact ⟨Nat.le_refl _, fun j hj => hO j (by omega), fun y => by have := eO.mp y; omega⟩
                · rw [if_neg hc] at z; exact absurd rfl z
            · rw [ttS_r f hlt rfl (by omega) hz9 rfl hse hrf]
              dsimp only
              obtain ⟨g1, g2, g3⟩ := h2 hrf
              refine ih _ _ _ _ _ _ _ _ mI (show ruE tx sz 32 32 za + 1 ≤ sz by omega) rfl (by omega) (fun z => absurd z hrf) (fun _ => ⟨by omega, fun j hj => (tlO_congr hag (by omega)).mpr (g2 j hj), fun y => g3 ((tlO_congr hag (by omega)).mp y)⟩)
          · rw [ttS_s f hlt rfl (by omega) hz9 rfl hse, rdS_3 tx sz (f + 1) k et4 hzm2 (by rw [ems]; exact fun z => hse (hts.1.mp z))]
            refine ⟨fun _ => ?_, fun z => (by cases z)⟩
            show (-10) - nI (ruE tx sz 32 32 za) = (-10) - nI ms.2.1
            rw [hms]; rfl
    · exact fin (f + 1) a p v k rf N nn cc I hp ha hge h1 h2
