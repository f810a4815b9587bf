/-! what is read is read alike -/
def hN (tx : Nat → Nat) (a : Nat) : Nat → Nat
  | 0 => 0
  | j + 1 => 32 * hN tx a j + (tx (a + j) - 96)
theorem hN_s (tx : Nat → Nat) (a j : Nat) : hN tx a (j + 1) = 32 * hN tx a j + (tx (a + j) - 96) := rfl
theorem hN_lt {tx : Nat → Nat} {a : Nat} : ∀ j, (∀ k, k < j → 97 ≤ tx (a + k) ∧ tx (a + k) ≤ 122) → hN tx a j + 1 ≤ 32 ^ j := by
  intro j
  induction j with
  | zero => intro _; exact Nat.le_refl _
  | succ j ih =>
    intro h
    have h1 := ih (fun k hk => h k (by omega))
    have h2 := h j (by omega)
    rw [hN_s, Nat.pow_succ]; omega
theorem hsS_N {tx : Nat → Nat} {a : Nat} : ∀ j, j ≤ 6 → (∀ k, k < j → 97 ≤ tx (a + k) ∧ tx (a + k) ≤ 122) → hsS tx a j = lN (hN tx a j) := by
  intro j
  induction j with
  | zero => intro _ _; rw [hsS_0, nI_l (by omega)]; rfl
  | succ j ih =>
    intro hj h
    have h1 := ih (by omega) (fun k hk => h k (by omega))
    have h2 := h j (by omega)
    rw [hsS_s, if_neg (by omega), h1, nI_l (by omega), nI_l (by omega), nI_l (by omega), nI_l (by omega), lN_mul, lN_add, lN_sub (by omega), lN_add]
    exact congrArg lN (by rw [hN_s]; omega)
theorem ruE_run {tx : Nat → Nat} {tyd lo hi : Nat} : ∀ n a, tyd ≤ a + n → a ≤ tyd → ∀ k, a + k < ruE tx tyd lo hi a → lo ≤ tx (a + k) ∧ tx (a + k) ≤ hi := by
  intro n
  induction n with
  | zero =>
    intro a h1 h2 k hk
    rw [ruE_2 (by omega)] at hk; omega
  | succ n ih =>
    intro a h1 h2 k hk
    by_cases c : a < tyd ∧ lo ≤ tx a ∧ tx a ≤ hi
    · rw [← ruE_1 c] at hk
      rcases Nat.eq_zero_or_pos k with z | z
      · subst z; exact ⟨c.2.1, c.2.2⟩
      · have h3 := ih (a + 1) (by omega) (by omega) (k - 1) (by rw [show a + 1 + (k - 1) = a + k from by omega]; exact hk)
        rw [show a + 1 + (k - 1) = a + k from by omega] at h3; exact h3
    · rw [ruE_2 c] at hk; omega
theorem ruE_in {tx : Nat → Nat} {tyd lo hi a : Nat} (ha : a ≤ tyd) : ∀ k, k < ruE tx tyd lo hi a - a → lo ≤ tx (a + k) ∧ tx (a + k) ≤ hi := fun k hk => ruE_run tyd a (by omega) ha k (by omega)
theorem ruE_out {tx : Nat → Nat} {tyd lo hi : Nat} : ∀ n a, tyd ≤ a + n → a ≤ tyd → ruE tx tyd lo hi (ruE tx tyd lo hi a) = ruE tx tyd lo hi a := by
  intro n
  induction n with
  | zero => intro a h1 h2; rw [ruE_2 (a := a) (by omega), ruE_2 (by omega)]
  | succ n ih =>
    intro a h1 h2
    by_cases c : a < tyd ∧ lo ≤ tx a ∧ tx a ≤ hi
    · rw [← ruE_1 c]; exact ih (a + 1) (by omega) (by omega)
    · rw [ruE_2 c, ruE_2 c]
theorem chW_v : (lnW 0 = 4 ∧ chW 0 0 = 116 ∧ chW 0 1 = 101 ∧ chW 0 2 = 114 ∧ chW 0 3 = 109) ∧ (lnW 1 = 4 ∧ chW 1 0 = 114 ∧ chW 1 1 = 117 ∧ chW 1 2 = 108 ∧ chW 1 3 = 101) ∧ (lnW 2 = 4 ∧ chW 2 0 = 108 ∧ chW 2 1 = 111 ∧ chW 2 2 = 97 ∧ chW 2 3 = 110) ∧ (lnW 3 = 4 ∧ chW 3 0 = 119 ∧ chW 3 1 = 97 ∧ chW 3 2 = 110 ∧ chW 3 3 = 116) ∧ (lnW 4 = 6 ∧ chW 4 0 = 115 ∧ chW 4 1 = 97 ∧ chW 4 2 = 121 ∧ chW 4 3 = 105 ∧ chW 4 4 = 110 ∧ chW 4 5 = 103) := by decide +kernel
theorem hN_u (tx : Nat → Nat) (a : Nat) : hN tx a 0 = 0 ∧ hN tx a 1 = 32 * hN tx a 0 + (tx (a + 0) - 96) ∧ hN tx a 2 = 32 * hN tx a 1 + (tx (a + 1) - 96) ∧ hN tx a 3 = 32 * hN tx a 2 + (tx (a + 2) - 96) ∧ hN tx a 4 = 32 * hN tx a 3 + (tx (a + 3) - 96) ∧ hN tx a 5 = 32 * hN tx a 4 + (tx (a + 4) - 96) ∧ hN tx a 6 = 32 * hN tx a 5 + (tx (a + 5) - 96) := ⟨rfl, rfl, rfl, rfl, rfl, rfl, rfl⟩
theorem spl_4 {tx : Nat → Nat} {a w : Nat} (h : lnW w = 4) : spl tx a 4 w ↔ (tx (a + 0) = chW w 0 ∧ tx (a + 1) = chW w 1 ∧ tx (a + 2) = chW w 2 ∧ tx (a + 3) = chW w 3) := by
  constructor
  · intro z; exact ⟨z.2 0 (by omega), z.2 1 (by omega), z.2 2 (by omega), z.2 3 (by omega)⟩
  · intro z
    refine ⟨h.symm, fun j hj => ?_⟩
    rcases (show j = 0 ∨ j = 1 ∨ j = 2 ∨ j = 3 by omega) with rfl | rfl | rfl | rfl
    · exact z.1
    · exact z.2.1
    · exact z.2.2.1
    · exact z.2.2.2
theorem spl_6 {tx : Nat → Nat} {a w : Nat} (h : lnW w = 6) : spl tx a 6 w ↔ (tx (a + 0) = chW w 0 ∧ tx (a + 1) = chW w 1 ∧ tx (a + 2) = chW w 2 ∧ tx (a + 3) = chW w 3 ∧ tx (a + 4) = chW w 4 ∧ tx (a + 5) = chW w 5) := by
  constructor
  · intro z; exact ⟨z.2 0 (by omega), z.2 1 (by omega), z.2 2 (by omega), z.2 3 (by omega), z.2 4 (by omega), z.2 5 (by omega)⟩
  · intro z
    refine ⟨h.symm, fun j hj => ?_⟩
    rcases (show j = 0 ∨ j = 1 ∨ j = 2 ∨ j = 3 ∨ j = 4 ∨ j = 5 by omega) with rfl | rfl | rfl | rfl | rfl | rfl
    · exact z.1
    · exact z.2.1
    · exact z.2.2.1
    · exact z.2.2.2.1
    · exact z.2.2.2.2.1
    · exact z.2.2.2.2.2
/-- a word of a length, and its number -/
theorem hash_4 {tx : Nat → Nat} {a len w C : Nat} (hl : len ≤ 6) (hin : ∀ k, k < len → 97 ≤ tx (a + k) ∧ tx (a + k) ≤ 122) (hw : lnW w = 4) (hC : C = 32 * (32 * (32 * (chW w 0 - 96) + (chW w 1 - 96)) + (chW w 2 - 96)) + (chW w 3 - 96)) (hc : (97 ≤ chW w 0 ∧ chW w 0 ≤ 122) ∧ (97 ≤ chW w 1 ∧ chW w 1 ≤ 122) ∧ (97 ≤ chW w 2 ∧ chW w 2 ≤ 122) ∧ (97 ≤ chW w 3 ∧ chW w 3 ≤ 122)) : spl tx a len w ↔ hN tx a len = C := by
  obtain ⟨u0, u1, u2, u3, u4, u5, u6⟩ := hN_u tx a
  rcases (show len = 0 ∨ len = 1 ∨ len = 2 ∨ len = 3 ∨ len = 4 ∨ len = 5 ∨ len = 6 by omega) with rfl | rfl | rfl | rfl | rfl | rfl | rfl
  · exact ⟨fun z => absurd z.1 (by omega), fun z => by omega⟩
  · have i0 := hin 0 (by omega)
    exact ⟨fun z => absurd z.1 (by omega), fun z => by omega⟩
  · have i0 := hin 0 (by omega); have i1 := hin 1 (by omega)
    exact ⟨fun z => absurd z.1 (by omega), fun z => by omega⟩
  · have i0 := hin 0 (by omega); have i1 := hin 1 (by omega); have i2 := hin 2 (by omega)
    exact ⟨fun z => absurd z.1 (by omega), fun z => by omega⟩
  · have i0 := hin 0 (by omega); have i1 := hin 1 (by omega); have i2 := hin 2 (by omega); have i3 := hin 3 (by omega)
    rw [spl_4 hw]
    exact ⟨fun z => by omega, fun z => by omega⟩
  · have i0 := hin 0 (by omega); have i1 := hin 1 (by omega); have i2 := hin 2 (by omega); have i3 := hin 3 (by omega); have i4 := hin 4 (by omega)
    exact ⟨fun z => absurd z.1 (by omega), fun z => by omega⟩
  · have i0 := hin 0 (by omega); have i1 := hin 1 (by omega); have i2 := hin 2 (by omega); have i3 := hin 3 (by omega); have i4 := hin 4 (by omega); have i5 := hin 5 (by omega)
    exact ⟨fun z => absurd z.1 (by omega), fun z => by omega⟩
theorem hash_6 {tx : Nat → Nat} {a len w C : Nat} (hl : len ≤ 6) (hin : ∀ k, k < len → 97 ≤ tx (a + k) ∧ tx (a + k) ≤ 122) (hw : lnW w = 6) (hC : C = 32 * (32 * (32 * (32 * (32 * (chW w 0 - 96) + (chW w 1 - 96)) + (chW w 2 - 96)) + (chW w 3 - 96)) + (chW w 4 - 96)) + (chW w 5 - 96)) (hc : (97 ≤ chW w 0 ∧ chW w 0 ≤ 122) ∧ (97 ≤ chW w 1 ∧ chW w 1 ≤ 122) ∧ (97 ≤ chW w 2 ∧ chW w 2 ≤ 122) ∧ (97 ≤ chW w 3 ∧ chW w 3 ≤ 122) ∧ (97 ≤ chW w 4 ∧ chW w 4 ≤ 122) ∧ (97 ≤ chW w 5 ∧ chW w 5 ≤ 122)) : spl tx a len w ↔ hN tx a len = C := by
  obtain ⟨u0, u1, u2, u3, u4, u5, u6⟩ := hN_u tx a
  rcases (show len = 0 ∨ len = 1 ∨ len = 2 ∨ len = 3 ∨ len = 4 ∨ len = 5 ∨ len = 6 by omega) with rfl | rfl | rfl | rfl | rfl | rfl | rfl
  · exact ⟨fun z => absurd z.1 (by omega), fun z => by omega⟩
  · have i0 := hin 0 (by omega)
    exact ⟨fun z => absurd z.1 (by omega), fun z => by omega⟩
  · have i0 := hin 0 (by omega); have i1 := hin 1 (by omega)
    exact ⟨fun z => absurd z.1 (by omega), fun z => by omega⟩
  · have i0 := hin 0 (by omega); have i1 := hin 1 (by omega); have i2 := hin 2 (by omega)
    exact ⟨fun z => absurd z.1 (by omega), fun z => by omega⟩
  · have i0 := hin 0 (by omega); have i1 := hin 1 (by omega); have i2 := hin 2 (by omega); have i3 := hin 3 (by omega)
    exact ⟨fun z => absurd z.1 (by omega), fun z => by omega⟩
  · have i0 := hin 0 (by omega); have i1 := hin 1 (by omega); have i2 := hin 2 (by omega); have i3 := hin 3 (by omega); have i4 := hin 4 (by omega)
    exact ⟨fun z => absurd z.1 (by omega), fun z => by omega⟩
  · have i0 := hin 0 (by omega); have i1 := hin 1 (by omega); have i2 := hin 2 (by omega); have i3 := hin 3 (by omega); have i4 := hin 4 (by omega); have i5 := hin 5 (by omega)
    rw [spl_6 hw]
    exact ⟨fun z => by omega, fun z => by omega⟩
theorem vb_wq {tx : Nat → Nat} {a len : Nat} (hl : len ≤ 6) (hin : ∀ k, k < len → 97 ≤ tx (a + k) ∧ tx (a + k) ≤ 122) : vbN (hsS tx a len) = wqS tx a len := by
  obtain ⟨⟨l0, a0, a1, a2, a3⟩, ⟨l1, b0, b1, b2, b3⟩, ⟨l2, d0, d1, d2, d3⟩, ⟨l3, e0, e1, e2, e3⟩, l4, f0, f1, f2, f3, f4, f5⟩ := chW_v
  have s0 := hash_4 (w := 0) (C := 661069) hl hin l0 (by omega) (by omega)
  have s1 := hash_4 (w := 1) (C := 611717) hl hin l1 (by omega) (by omega)
  have s2 := hash_4 (w := 2) (C := 408622) hl hin l2 (by omega) (by omega)
  have s3 := hash_4 (w := 3) (C := 755156) hl hin l3 (by omega) (by omega)
  have s4 := hash_6 (w := 4) (C := 639411655) hl hin l4 (by omega) (by omega)
  have hb := hN_lt len hin
  have hb2 : 32 ^ len ≤ 32 ^ 6 := Nat.pow_le_pow_right (by omega) hl
  have q : ∀ C, C < 2 ^ 31 → (hsS tx a len = (nI C).toInt64 ↔ hN tx a len = C) := fun C hC => by
    rw [hsS_N len hl hin, nI_l hC, lN_eq (by omega) hC]
  unfold vbN
  by_cases c0 : hN tx a len = 661069
  · rw [if_pos ((q _ (by omega)).mpr c0), wqS_1 (w := 0) (by omega) (s0.mpr c0) (fun j hj => by omega)]
  rw [if_neg (fun z => c0 ((q _ (by omega)).mp z))]
  by_cases c1 : hN tx a len = 611717
  · rw [if_pos ((q _ (by omega)).mpr c1), wqS_1 (w := 1) (by omega) (s1.mpr c1) (fun j hj => by rw [show j = 0 from by omega]; exact fun z => c0 (s0.mp z))]
  rw [if_neg (fun z => c1 ((q _ (by omega)).mp z))]
  by_cases c2 : hN tx a len = 408622
  · rw [if_pos ((q _ (by omega)).mpr c2), wqS_1 (w := 2) (by omega) (s2.mpr c2) (fun j hj => by
      rcases (show j = 0 ∨ j = 1 by omega) with rfl | rfl
      · exact fun z => c0 (s0.mp z)
      · exact fun z => c1 (s1.mp z))]
  rw [if_neg (fun z => c2 ((q _ (by omega)).mp z))]
  by_cases c3 : hN tx a len = 755156
  · rw [if_pos ((q _ (by omega)).mpr c3), wqS_1 (w := 3) (by omega) (s3.mpr c3) (fun j hj => by
      rcases (show j = 0 ∨ j = 1 ∨ j = 2 by omega) with rfl | rfl | rfl
      · exact fun z => c0 (s0.mp z)
      · exact fun z => c1 (s1.mp z)
      · exact fun z => c2 (s2.mp z))]
  rw [if_neg (fun z => c3 ((q _ (by omega)).mp z))]
  by_cases c4 : hN tx a len = 639411655
  · rw [if_pos ((q _ (by omega)).mpr c4), wqS_1 (w := 4) (by omega) (s4.mpr c4) (fun j hj => by
      rcases (show j = 0 ∨ j = 1 ∨ j = 2 ∨ j = 3 by omega) with rfl | rfl | rfl | rfl
      · exact fun z => c0 (s0.mp z)
      · exact fun z => c1 (s1.mp z)
      · exact fun z => c2 (s2.mp z)
      · exact fun z => c3 (s3.mp z))]
  rw [if_neg (fun z => c4 ((q _ (by omega)).mp z)), wqS_0 (fun j hj => by
      rcases (show j = 0 ∨ j = 1 ∨ j = 2 ∨ j = 3 ∨ j = 4 by omega) with rfl | rfl | rfl | rfl | rfl
      · exact fun z => c0 (s0.mp z)
      · exact fun z => c1 (s1.mp z)
      · exact fun z => c2 (s2.mp z)
      · exact fun z => c3 (s3.mp z)
      · exact fun z => c4 (s4.mp z))]
theorem wq_none {tx : Nat → Nat} {a len : Nat} (h : len < 4 ∨ 6 < len) : wqS tx a len = 0 := wqS_0 (fun j hj z => by have := lnW_lt j hj; have := z.1; omega)
/-- the token where an item begins -/
theorem tok_word {tx : Nat → Nat} {sz a : Nat} (ha : a < sz) : (wqN tx sz a = 0 → scT tx sz a ≠ 0 ∧ scT tx sz a < 4) ∧ (¬ wqN tx sz a = 0 → scT tx sz a = wqN tx sz a + 3 ∧ scA tx sz a = wqA tx sz a) := by
  unfold wqN wqA
  by_cases c : 97 ≤ tx a ∧ tx a ≤ 122
  · obtain ⟨q1, q2, -⟩ := sc_1 (tyd := sz) 0 (show a < sz ∧ 97 ≤ tx a ∧ tx a ≤ 122 from ⟨ha, c.1, c.2⟩) rfl
    rw [q1, q2]
    by_cases h6 : 6 < ruE tx sz 97 122 a - a
    · rw [wq_none (Or.inr h6), if_pos (Or.inl h6)]
      exact ⟨fun _ => ⟨by omega, by omega⟩, fun z => absurd rfl z⟩
    · rw [vb_wq (by omega) (ruE_in (by omega))]
      refine ⟨fun z => ?_, fun z => ?_⟩
      · rw [if_pos (Or.inr z)]; exact ⟨by omega, by omega⟩
      · rw [if_neg (by omega)]; exact ⟨rfl, rfl⟩
  · have e : ruE tx sz 97 122 a = a := ruE_2 (by omega)
    rw [e, Nat.sub_self, wq_none (Or.inl (by omega))]
    refine ⟨fun _ => ?_, fun z => absurd rfl z⟩
    by_cases f : 48 ≤ tx a ∧ tx a ≤ 57
    · obtain ⟨-, q2, -⟩ := sc_2 (tyd := sz) 0 (show a < sz ∧ 48 ≤ tx a ∧ tx a ≤ 57 from ⟨ha, f.1, f.2⟩) rfl
      rw [q2]; split <;> omega
    · obtain ⟨-, q2, -⟩ := sc_3 (tyd := sz) 0 (show ¬ a = sz from by omega) c f
      rw [q2]; split <;> omega
theorem tok_num {tx : Nat → Nat} {sz b : Nat} (v : Nat) (hb : b ≤ sz) : (tnQ tx sz b = 0 → scT tx sz b ≠ 2) ∧ (¬ tnQ tx sz b = 0 → scT tx sz b = 2 ∧ scA tx sz b = tnA tx sz b ∧ scV tx sz v b + 1 = tnQ tx sz b) := by
  by_cases f : b < sz ∧ 48 ≤ tx b ∧ tx b ≤ 57
  · obtain ⟨q1, q2, q3⟩ := sc_2 v f (rfl : ruE tx sz 48 57 b = ruE tx sz 48 57 b)
    have hne : ¬ ruE tx sz 48 57 b = b := by
      have h1 := ruE_le tx 48 57 (show b + 1 ≤ sz by omega)
      rw [ruE_1 f] at h1; omega
    by_cases h3 : 3 < ruE tx sz 48 57 b - b
    · obtain ⟨p1, p2⟩ := tnQ_0 (tx := tx) (sz := sz) (a := b) rfl (Or.inr h3)
      rw [p1, q2, if_pos h3]; exact ⟨fun _ => by omega, fun z => absurd rfl z⟩
    · obtain ⟨p1, p2⟩ := tnQ_1 (tx := tx) (sz := sz) (a := b) rfl (show ¬ (_ ∨ _) from by omega)
      rw [p1, p2, q1, q2, q3, if_neg h3]; exact ⟨fun z => by omega, fun _ => ⟨rfl, rfl, rfl⟩⟩
  · have e : ruE tx sz 48 57 b = b := ruE_2 f
    obtain ⟨p1, p2⟩ := tnQ_0 (tx := tx) (sz := sz) (a := b) e (Or.inl rfl)
    rw [p1]
    refine ⟨fun _ => ?_, fun z => absurd rfl z⟩
    by_cases hs : b = sz
    · obtain ⟨-, q2, -⟩ := sc_0 (tx := tx) (tyd := sz) 0 hs; rw [q2]; omega
    · by_cases c : 97 ≤ tx b ∧ tx b ≤ 122
      · obtain ⟨-, q2, -⟩ := sc_1 (tyd := sz) 0 (show b < sz ∧ 97 ≤ tx b ∧ tx b ≤ 122 from ⟨by omega, c.1, c.2⟩) rfl
        rw [q2]; split
        · omega
        · rename_i z; omega
      · obtain ⟨-, q2, -⟩ := sc_3 (tyd := sz) 0 hs c (fun z => f ⟨by omega, z.1, z.2⟩)
        rw [q2]; split <;> omega
theorem tok_semi {tx : Nat → Nat} {sz b : Nat} (hb : b ≤ sz) : (scT tx sz b = 3 ↔ (b < sz ∧ tx b = 59)) ∧ ((b < sz ∧ tx b = 59) → scA tx sz b = b + 1) := by
  by_cases hs : b = sz
  · obtain ⟨-, q2, -⟩ := sc_0 (tx := tx) (tyd := sz) 0 hs
    rw [q2]; exact ⟨⟨fun z => absurd z (by omega), fun z => absurd z.1 (by omega)⟩, fun z => absurd z.1 (by omega)⟩
  · by_cases c : 97 ≤ tx b ∧ tx b ≤ 122
    · obtain ⟨-, q2, -⟩ := sc_1 (tyd := sz) 0 (show b < sz ∧ 97 ≤ tx b ∧ tx b ≤ 122 from ⟨by omega, c.1, c.2⟩) rfl
      rw [q2]
      refine ⟨⟨fun z => ?_, fun z => by omega⟩, fun z => by omega⟩
      split at z
      · omega
      · rename_i y; omega
    · by_cases f : 48 ≤ tx b ∧ tx b ≤ 57
      · obtain ⟨-, q2, -⟩ := sc_2 (tyd := sz) 0 (show b < sz ∧ 48 ≤ tx b ∧ tx b ≤ 57 from ⟨by omega, f.1, f.2⟩) rfl
        rw [q2]
        refine ⟨⟨fun z => ?_, fun z => by omega⟩, fun z => by omega⟩
        split at z <;> omega
      · obtain ⟨q1, q2, -⟩ := sc_3 (tyd := sz) 0 hs c f
        rw [q1, q2]
        refine ⟨⟨fun z => ?_, fun z => if_pos z.2⟩, fun _ => rfl⟩
        split at z
        · exact ⟨by omega, by assumption⟩
        · omega
theorem tnA_le {tx : Nat → Nat} {sz b : Nat} (hb : b ≤ sz) : b ≤ tnA tx sz b ∧ tnA tx sz b ≤ sz := by
  have h1 := ruE_le tx 48 57 hb
  unfold tnA; split <;> omega
/-- the numbers of an item -/
theorem nums_eq {tx : Nat → Nat} {sz m : Nat} : ∀ j k a v N I, a ≤ sz → (nmC tx sz j k a N).1 = (nmS tx sz m j k (scN tx sz a v) I).1 ∧
    ((nmC tx sz j k a N).1 = false → (nmC tx sz j k a N).2.1 = (nmS tx sz m j k (scN tx sz a v) I).2.1.2.1) ∧
    ((nmC tx sz j k a N).1 = true → ∃ v2, (nmS tx sz m j k (scN tx sz a v) I).2.1 = scN tx sz (nmC tx sz j k a N).2.1 v2) ∧
    (nmC tx sz j k a N).2.1 ≤ sz ∧ a ≤ (nmC tx sz j k a N).2.1 ∧
    ((nmC tx sz j k a N).1 = true → ∀ i, i < j → (nmC tx sz j k a N).2.2 (k + i) = nI ((nmS tx sz m j k (scN tx sz a v) I).2.2 (5 * m + 1 + k + i)) ∧ (nmS tx sz m j k (scN tx sz a v) I).2.2 (5 * m + 1 + k + i) < 1048576) ∧
    (∀ x, x < k → (nmC tx sz j k a N).2.2 x = N x) ∧ (∀ y, y < 5 * m + 1 + k → (nmS tx sz m j k (scN tx sz a v) I).2.2 y = I y) := by
  intro j
  induction j with
  | zero =>
    intro k a v N I ha
    exact ⟨rfl, fun z => (by cases z), fun _ => ⟨v, rfl⟩, ha, Nat.le_refl _, fun _ i hi => absurd hi (Nat.not_lt_zero _), fun _ _ => rfl, fun _ _ => rfl⟩
  | succ j ih =>
    intro k a v N I ha
    have hb := ruE_le tx 32 32 ha
    have hn := tok_num (tx := tx) v hb.2
    have hta := tnA_le (tx := tx) hb.2
    by_cases q : tnQ tx sz (ruE tx sz 32 32 a) = 0
    · have e1 : nmC tx sz (j + 1) k a N = _ := nmC_1 q
      have e2 : nmS tx sz m (j + 1) k (scN tx sz a v) I = _ := nmS_1 tx sz m j k I (show (scN tx sz a v).2.2.1 ≠ 2 from hn.1 q)
      rw [e1, e2]
      have e3 : tnA tx sz (ruE tx sz 32 32 a) = ruE tx sz 32 32 a := if_pos q
      refine ⟨rfl, fun _ => e3, fun z => (by cases z), hta.2, by dsimp only; omega, fun z => (by cases z), fun x hx => ?_, fun _ _ => rfl⟩
      show upd N k _ x = N x
      unfold upd; rw [if_neg (by omega)]
    · have h2 := hn.2 q
      have e1 : nmC tx sz (j + 1) k a N = _ := nmC_2 q
      have e2 : nmS tx sz m (j + 1) k (scN tx sz a v) I = _ := nmS_2 tx sz m j k I (show (scN tx sz a v).2.2.1 = 2 from h2.1)
      have e3 : (scN tx sz a v).1 = tnA tx sz (ruE tx sz 32 32 a) := h2.2.1
      have e4 : (scN tx sz a v).2.2.2 + 1 = tnQ tx sz (ruE tx sz 32 32 a) := h2.2.2
      rw [e1, e2, e3]
      have i := ih (k + 1) (tnA tx sz (ruE tx sz 32 32 a)) (scN tx sz a v).2.2.2 (upd N k ((nI (tnQ tx sz (ruE tx sz 32 32 a))) + (-1))) (updN I (5 * m + 1 + k) (scN tx sz a v).2.2.2) hta.2
      obtain ⟨i1, i2, i3, i4, i5, i6, i7, i8⟩ := i
      refine ⟨i1, i2, i3, i4, by omega, fun z x hx => ?_, fun x hx => ?_, fun y hy => ?_⟩
      · rcases Nat.eq_zero_or_pos x with rfl | hx0
        · have f1 := (i7 (k + 0) (by omega)).trans (upd_s N k _)
          have f2 := (i8 (5 * m + 1 + k + 0) (by omega)).trans (updN_s I (5 * m + 1 + k) _)
          rw [f1, f2, ← e4, pk_m1]
          refine ⟨rfl, ?_⟩
          have hv : (scN tx sz a v).2.2.2 = nuS tx (ruE tx sz 32 32 a) (ruE tx sz 48 57 (ruE tx sz 32 32 a) - ruE tx sz 32 32 a) := by
            have q9 : ¬ (ruE tx sz 48 57 (ruE tx sz 32 32 a) = ruE tx sz 32 32 a ∨ 3 < ruE tx sz 48 57 (ruE tx sz 32 32 a) - ruE tx sz 32 32 a) := fun y => q (if_pos y)
            have p1 := (tnQ_1 (tx := tx) (sz := sz) (a := ruE tx sz 32 32 a) rfl q9).1
            omega
          rw [hv]
          have h9 := nuS_lt (tx := tx) (a := ruE tx sz 32 32 a) (e := 0) (ruE tx sz 48 57 (ruE tx sz 32 32 a) - ruE tx sz 32 32 a) (fun x hx => (ruE_in hb.2 x hx).2)
          have h8 : 10 ^ min (ruE tx sz 48 57 (ruE tx sz 32 32 a) - ruE tx sz 32 32 a) 3 ≤ 10 ^ 3 := Nat.pow_le_pow_right (by omega) (Nat.min_le_right _ _)
          omega
        · have f := i6 z (x - 1) (by omega)
          rw [show k + 1 + (x - 1) = k + x from by omega, show 5 * m + 1 + (k + 1) + (x - 1) = 5 * m + 1 + k + x from by omega] at f
          exact f
      · rw [i7 x (by omega)]; unfold upd; rw [if_neg (by omega)]
      · rw [i8 y (by omega), updN_n _ _ (by omega)]
