/-! PLAN and BUY: alike -/
theorem maysS_at {n0 : Nat} {c0 my : Nat → Nat} {E : Int} : ∀ n t, t < n → maysS n0 c0 my E n t = mayS n0 c0 t + if ((t : Nat) : Int) = E then 1 else 0 := by
  intro n
  induction n with
  | zero => intro t h; omega
  | succ n ih =>
    intro t h
    rw [maysS_s]
    by_cases e : t = n
    · subst e; rw [updN_s]
    · rw [updN_n _ _ e]; exact ih t (by omega)
theorem WN_of {n0 : Nat} {c0 : Nat → Nat} {n1 : Nat} {c1 : Nat → Nat} {n2 : Nat} {c2 : Nat → Nat} {n3 : Nat} {c3 : Nat → Nat} {n4 : Nat} {c4 : Nat → Nat} {n5 : Nat} {c5 hs wf wt B : Nat → Nat} (hR : Rep n0 c0 n1 c1 n2 c2 n3 c3 n4 c4 n5 c5 hs wf wt B) (hw : WB B) (my : Nat → Nat) : WN n4 c4 (maysS n0 c0 my (-1) 8) B := by
  have hR2 := hR
  obtain ⟨⟨m0, m1, m2, m3, m4, m5⟩, -, -, -, -, -, r4, -, -, -⟩ := hR
  have h8 := hw.1.1
  refine ⟨m4, fun q hq => r4 q (by omega), fun t ht => ?_⟩
  rw [maysS_at 8 t (by omega), if_neg (by omega), eq_mayS hR2 hw (by omega)]; rfl
theorem eq_plan {n0 : Nat} {c0 : Nat → Nat} {n1 : Nat} {c1 : Nat → Nat} {n2 : Nat} {c2 : Nat → Nat} {n3 : Nat} {c3 : Nat → Nat} {n4 : Nat} {c4 : Nat → Nat} {n5 : Nat} {c5 hs wf wt B : Nat → Nat} (hR : Rep n0 c0 n1 c1 n2 c2 n3 c3 n4 c4 n5 c5 hs wf wt B) (hw : WB B) (my h b be hh : Nat → Nat) : (mostS n0 c0 n4 c4 my h b (-1)).2.2 = (plS B be hh).1 ∧ ∀ w, w < n4 → (mostS n0 c0 n4 c4 my h b (-1)).2.1 w = (plS B be hh).2.1 w := most_eq hw (WN_of hR hw my) h b be hh
theorem WN_up {n0 : Nat} {c0 : Nat → Nat} {n1 : Nat} {c1 : Nat → Nat} {n2 : Nat} {c2 : Nat → Nat} {n3 : Nat} {c3 : Nat → Nat} {n4 : Nat} {c4 : Nat → Nat} {n5 : Nat} {c5 hs wf wt B : Nat → Nat} (hR : Rep n0 c0 n1 c1 n2 c2 n3 c3 n4 c4 n5 c5 hs wf wt B) (hw : WB B) (my : Nat → Nat) {t : Nat} (ht : t < n0) (hg : growB B t) : WN n4 c4 (maysS n0 c0 my ((t : Nat) : Int) 8) (upB B t) := by
  have hR2 := hR
  obtain ⟨⟨m0, m1, m2, m3, m4, m5⟩, -, -, -, -, -, r4, -, -, -⟩ := hR
  have h8 := hw.1.1
  have e : ∀ j, j < 8 ∨ 32 ≤ j → upB B t j = B j := fun j hj => updN_n _ _ (by omega)
  have h4 := hw.1.2.2.2.2.1
  refine ⟨by rw [e 4 (by omega)]; exact m4, fun q hq => ?_, fun u hu => ?_⟩
  · rw [e (126 + 4 * q) (by omega), e (126 + 4 * q + 1) (by omega), e (126 + 4 * q + 2) (by omega), e (126 + 4 * q + 3) (by omega)]; exact r4 q (by omega)
  · rw [e 0 (by omega)] at hu
    rw [maysS_at 8 u (by omega), eq_mayS hR2 hw (by omega)]
    have x0 : upB B t (8 + 3 * u) = B (8 + 3 * u) := updN_n _ _ (by omega)
    unfold mayM
    rw [x0]
    by_cases eu : u = t
    · subst eu
      have x1 : upB B u (8 + 3 * u + 1) = B (8 + 3 * u + 1) + 1 := updN_s _ _ _
      rw [if_pos rfl, x1, if_neg (by rw [hg.1]; decide), if_neg (by rw [hg.1]; decide)]
    · have x1 : upB B t (8 + 3 * u + 1) = B (8 + 3 * u + 1) := updN_n _ _ (by omega)
      rw [if_neg (show ¬ ((u : Nat) : Int) = ((t : Nat) : Int) from by omega), x1]; rfl
theorem selF_le {C : Nat → Prop} {M : Nat → Nat} {D : Nat → Nat → Nat} {c0 N : Nat} {x : Nat × (Nat → Nat)} (hM : ∀ c, M c ≤ N) (hx : x.1 ≤ N + 1) : ∀ n, (selF C M D c0 n x).1 ≤ N + 1 := by
  intro n
  induction n with
  | zero => exact hx
  | succ n ih =>
    rw [selF_s]
    split
    · have := hM (c0 + n); dsimp only; omega
    · exact ih
theorem plS_le (B be h : Nat → Nat) : (plS B be h).1 ≤ B 4 + 1 := by
  unfold plS
  rw [(plT_sel (waysS B (B 4))).1]
  exact selF_le (fun c => cntN_le _ _) (Nat.zero_le _) _
theorem grow_eq {n0 : Nat} {c0 : Nat → Nat} {n1 : Nat} {c1 : Nat → Nat} {n2 : Nat} {c2 : Nat → Nat} {n3 : Nat} {c3 : Nat → Nat} {n4 : Nat} {c4 : Nat → Nat} {n5 : Nat} {c5 hs wf wt B : Nat → Nat} (hR : Rep n0 c0 n1 c1 n2 c2 n3 c3 n4 c4 n5 c5 hs wf wt B) (hw : WB B) {t : Nat} (ht : t < n0) : growC n0 c0 t ↔ growB B t := by
  unfold growC growB
  rw [eq_mayS hR hw ht, atS_in ht (by omega)]
  have r := hR.2.2.1 t (by have := hR.1.1; omega)
  rw [r.1]
  unfold mayM
  constructor
  · rintro ⟨a, b⟩
    rw [if_neg (by rw [a]; decide)] at b
    exact ⟨a, b⟩
  · rintro ⟨a, b⟩
    rw [if_neg (by rw [a]; decide)]
    exact ⟨a, b⟩
theorem eq_buy {n0 : Nat} {c0 : Nat → Nat} {n1 : Nat} {c1 : Nat → Nat} {n2 : Nat} {c2 : Nat → Nat} {n3 : Nat} {c3 : Nat → Nat} {n4 : Nat} {c4 : Nat → Nat} {n5 : Nat} {c5 hs wf wt B : Nat → Nat} (hR : Rep n0 c0 n1 c1 n2 c2 n3 c3 n4 c4 n5 c5 hs wf wt B) (hw : WB B) (my h b be hh : Nat → Nat) : (bstS n0 c0 n4 c4 my h b).2.1 = (buyS B be hh).2.1 := by
  have m0 : n0 = B 0 := hR.1.1
  have m4 : n4 = B 4 := hR.1.2.2.2.2.1
  have key : ∀ n, n ≤ n0 → ∀ x0, x0.1 = (plS B be hh).1 → x0.2.1 = 0 → (bstT n0 c0 n4 c4 x0 n).1 = (buyT B be hh n).1 ∧ (bstT n0 c0 n4 c4 x0 n).2.1 = (buyT B be hh n).2.1 := by
    intro n
    induction n with
    | zero => intro _ x0 h1 h2; exact ⟨h1, h2⟩
    | succ n ih =>
      intro hn x0 h1 h2
      obtain ⟨i1, i2⟩ := ih (by omega) x0 h1 h2
      rw [bstT_s, buyT_s]
      dsimp only
      have hge := grow_eq hR hw (show n < n0 by omega)
      by_cases g : growB B n
      · have hv : ∀ a1 a2 a3 b1 b2, (mostS n0 c0 n4 c4 a1 a2 a3 ((n : Nat) : Int)).2.2 = (plS (upB B n) b1 b2).1 := fun a1 a2 a3 b1 b2 => (most_eq (WB_up hw (by omega) g.2) (WN_up hR hw a1 (show n < n0 by omega) g) a2 a3 b1 b2).1
        have hle : ∀ b1 b2, (plS (upB B n) b1 b2).1 ≤ n4 + 1 := fun b1 b2 => by
          have q := plS_le (upB B n) b1 b2
          have e4 : upB B n 4 = B 4 := updN_n _ _ (by omega)
          rw [e4, ← m4] at q; exact q
        rw [if_pos (pB_t.mpr g)]
        by_cases c : n4 + 1 ≤ (bstT n0 c0 n4 c4 x0 n).1
        · rw [if_pos c, if_neg (by have := hle (buyT B be hh n).2.2.1 (buyT B be hh n).2.2.2; omega)]
          exact ⟨i1, i2⟩
        · rw [if_neg c, if_pos (pB_t.mpr (hge.mpr g)), hv _ _ _ (buyT B be hh n).2.2.1 (buyT B be hh n).2.2.2, i1]
          by_cases d : (buyT B be hh n).1 < (plS (upB B n) (buyT B be hh n).2.2.1 (buyT B be hh n).2.2.2).1
          · rw [if_pos d, if_pos d]; exact ⟨rfl, rfl⟩
          · rw [if_neg d, if_neg d]; exact ⟨rfl, i2⟩
      · rw [if_neg (fun z => g (pB_t.mp z)), if_neg (fun z => g (hge.mp (pB_t.mp z)))]
        split
        · exact ⟨i1, i2⟩
        · exact ⟨i1, i2⟩
  unfold bstS buyS
  rw [← m0]
  exact (key n0 (Nat.le_refl _) _ (eq_plan hR hw my h b be hh).1 rfl).2
