/-! the model: the book stays well-formed -/
theorem rowM2_o (B : Nat → Nat) {q c x0 x1 j : Nat} (h : j < q ∨ q + 2 ≤ j) (h2 : j ≠ c) : rowM2 B q c x0 x1 j = B j := by
  unfold rowM2 updN
  rw [if_neg h2, if_neg (show ¬ j = q + 1 by omega), if_neg (show ¬ j = q by omega)]
theorem rowM2_c (B : Nat → Nat) {q c x0 x1 : Nat} : rowM2 B q c x0 x1 c = B c + 1 := by
  unfold rowM2
  rw [updN_s]
theorem rowM2_0 (B : Nat → Nat) {q c x0 x1 : Nat} (h : c < q) : rowM2 B q c x0 x1 (q) = x0 := by
  unfold rowM2 updN
  rw [if_neg (by omega), if_neg (by omega), if_pos rfl]
theorem rowM2_1 (B : Nat → Nat) {q c x0 x1 : Nat} (h : c < q) : rowM2 B q c x0 x1 (q + 1) = x1 := by
  unfold rowM2 updN
  rw [if_neg (by omega), if_pos rfl]
theorem rowM2_b {B : Nat → Nat} {q c x0 x1 : Nat} (hb : ∀ j, B j < 1048576) (hc : B c < 100) (h0 : x0 < 1048576) (h1 : x1 < 1048576) : ∀ j, rowM2 B q c x0 x1 j < 1048576 := by
  intro j
  unfold rowM2 updN
  have := hb j
  (repeat' split) <;> omega
theorem rowM3_o (B : Nat → Nat) {q c x0 x1 x2 j : Nat} (h : j < q ∨ q + 3 ≤ j) (h2 : j ≠ c) : rowM3 B q c x0 x1 x2 j = B j := by
  unfold rowM3 updN
  rw [if_neg h2, if_neg (show ¬ j = q + 2 by omega), if_neg (show ¬ j = q + 1 by omega), if_neg (show ¬ j = q by omega)]
theorem rowM3_c (B : Nat → Nat) {q c x0 x1 x2 : Nat} : rowM3 B q c x0 x1 x2 c = B c + 1 := by
  unfold rowM3
  rw [updN_s]
theorem rowM3_0 (B : Nat → Nat) {q c x0 x1 x2 : Nat} (h : c < q) : rowM3 B q c x0 x1 x2 (q) = x0 := by
  unfold rowM3 updN
  rw [if_neg (by omega), if_neg (by omega), if_neg (by omega), if_pos rfl]
theorem rowM3_1 (B : Nat → Nat) {q c x0 x1 x2 : Nat} (h : c < q) : rowM3 B q c x0 x1 x2 (q + 1) = x1 := by
  unfold rowM3 updN
  rw [if_neg (by omega), if_neg (by omega), if_pos rfl]
theorem rowM3_2 (B : Nat → Nat) {q c x0 x1 x2 : Nat} (h : c < q) : rowM3 B q c x0 x1 x2 (q + 2) = x2 := by
  unfold rowM3 updN
  rw [if_neg (by omega), if_pos rfl]
theorem rowM3_b {B : Nat → Nat} {q c x0 x1 x2 : Nat} (hb : ∀ j, B j < 1048576) (hc : B c < 100) (h0 : x0 < 1048576) (h1 : x1 < 1048576) (h2 : x2 < 1048576) : ∀ j, rowM3 B q c x0 x1 x2 j < 1048576 := by
  intro j
  unfold rowM3 updN
  have := hb j
  (repeat' split) <;> omega
theorem rowM4_o (B : Nat → Nat) {q c x0 x1 x2 x3 j : Nat} (h : j < q ∨ q + 4 ≤ j) (h2 : j ≠ c) : rowM4 B q c x0 x1 x2 x3 j = B j := by
  unfold rowM4 updN
  rw [if_neg h2, if_neg (show ¬ j = q + 3 by omega), if_neg (show ¬ j = q + 2 by omega), if_neg (show ¬ j = q + 1 by omega), if_neg (show ¬ j = q by omega)]
theorem rowM4_c (B : Nat → Nat) {q c x0 x1 x2 x3 : Nat} : rowM4 B q c x0 x1 x2 x3 c = B c + 1 := by
  unfold rowM4
  rw [updN_s]
theorem rowM4_0 (B : Nat → Nat) {q c x0 x1 x2 x3 : Nat} (h : c < q) : rowM4 B q c x0 x1 x2 x3 (q) = x0 := by
  unfold rowM4 updN
  rw [if_neg (by omega), if_neg (by omega), if_neg (by omega), if_neg (by omega), if_pos rfl]
theorem rowM4_1 (B : Nat → Nat) {q c x0 x1 x2 x3 : Nat} (h : c < q) : rowM4 B q c x0 x1 x2 x3 (q + 1) = x1 := by
  unfold rowM4 updN
  rw [if_neg (by omega), if_neg (by omega), if_neg (by omega), if_pos rfl]
theorem rowM4_2 (B : Nat → Nat) {q c x0 x1 x2 x3 : Nat} (h : c < q) : rowM4 B q c x0 x1 x2 x3 (q + 2) = x2 := by
  unfold rowM4 updN
  rw [if_neg (by omega), if_neg (by omega), if_pos rfl]
theorem rowM4_3 (B : Nat → Nat) {q c x0 x1 x2 x3 : Nat} (h : c < q) : rowM4 B q c x0 x1 x2 x3 (q + 3) = x3 := by
  unfold rowM4 updN
  rw [if_neg (by omega), if_pos rfl]
theorem rowM4_b {B : Nat → Nat} {q c x0 x1 x2 x3 : Nat} (hb : ∀ j, B j < 1048576) (hc : B c < 100) (h0 : x0 < 1048576) (h1 : x1 < 1048576) (h2 : x2 < 1048576) (h3 : x3 < 1048576) : ∀ j, rowM4 B q c x0 x1 x2 x3 j < 1048576 := by
  intro j
  unfold rowM4 updN
  have := hb j
  (repeat' split) <;> omega
theorem WB_loan {B : Nat → Nat} {x0 x1 x2 x3 : Nat} (hWB : WB B) (hlim : B 1 < 10) (hx : x0 < 5 ∧ x1 < B 0 ∧ x2 ≤ x3 ∧ x3 < 24) : WB (rowM4 B (32 + 4 * B 1) 1 x0 x1 x2 x3) := by
  obtain ⟨⟨hn0, hn1, hn2, hn3, hn4, hn5⟩, hbB, hv0, hv1, hv2, hv3, hv4, hv5, hv6, hv7⟩ := hWB
  have h2 : 2 ^ B 0 ≤ 256 := (p256 hn0).2
  have e0 : rowM4 B (32 + 4 * B 1) 1 x0 x1 x2 x3 0 = B 0 := rowM4_o B (by omega) (by omega)
  have e1 : rowM4 B (32 + 4 * B 1) 1 x0 x1 x2 x3 1 = B 1 + 1 := rowM4_c B
  have e2 : rowM4 B (32 + 4 * B 1) 1 x0 x1 x2 x3 2 = B 2 := rowM4_o B (by omega) (by omega)
  have e3 : rowM4 B (32 + 4 * B 1) 1 x0 x1 x2 x3 3 = B 3 := rowM4_o B (by omega) (by omega)
  have e4 : rowM4 B (32 + 4 * B 1) 1 x0 x1 x2 x3 4 = B 4 := rowM4_o B (by omega) (by omega)
  have e5 : rowM4 B (32 + 4 * B 1) 1 x0 x1 x2 x3 5 = B 5 := rowM4_o B (by omega) (by omega)
  refine ⟨by rw [e0, e1, e2, e3, e4, e5]; omega, rowM4_b hbB (by omega) (by omega) (by omega) (by omega) (by omega), ?_, ?_, ?_, ?_, ?_, ?_, ?_, ?_⟩
  · intro k hk; rw [e0] at hk; have := hv0 k hk; simp (disch := omega) only [rowM4_o, ne_eq]; exact this
  · intro k hk; rw [e1] at hk
    rcases Nat.lt_succ_iff_lt_or_eq.mp hk with z | z
    · have := hv1 k z; simp (disch := omega) only [rowM4_o, ne_eq]; exact this
    · subst z; simp (disch := omega) only [rowM4_o, rowM4_0, rowM4_1, rowM4_2, rowM4_3, ne_eq]; omega
  · intro k hk; rw [e2] at hk; have := hv2 k hk; simp (disch := omega) only [rowM4_o, ne_eq]; exact this
  · intro k hk; rw [e3] at hk; have := hv3 k hk; simp (disch := omega) only [rowM4_o, ne_eq]; exact this
  · intro k hk; rw [e4] at hk; have := hv4 k hk; simp (disch := omega) only [rowM4_o, ne_eq]; exact this
  · intro k hk; rw [e5] at hk; have := hv5 k hk; simp (disch := omega) only [rowM4_o, ne_eq]; exact this
  · intro p hp; have := hv6 p hp; simp (disch := omega) only [rowM4_o, ne_eq]; exact this
  · intro p t hp ht; have := hv7 p t hp ht; simp (disch := omega) only [rowM4_o, ne_eq]; exact this
theorem WB_rule {B : Nat → Nat} {x0 x1 x2 : Nat} (hWB : WB B) (hlim : B 3 < 8) (hx : x0 < B 0 ∧ x1 < B 0 ∧ x2 < B 0 ∧ x0 ≠ x1 ∧ x0 ≠ x2) : WB (rowM3 B (102 + 3 * B 3) 3 x0 x1 x2) := by
  obtain ⟨⟨hn0, hn1, hn2, hn3, hn4, hn5⟩, hbB, hv0, hv1, hv2, hv3, hv4, hv5, hv6, hv7⟩ := hWB
  have h2 : 2 ^ B 0 ≤ 256 := (p256 hn0).2
  have e0 : rowM3 B (102 + 3 * B 3) 3 x0 x1 x2 0 = B 0 := rowM3_o B (by omega) (by omega)
  have e1 : rowM3 B (102 + 3 * B 3) 3 x0 x1 x2 1 = B 1 := rowM3_o B (by omega) (by omega)
  have e2 : rowM3 B (102 + 3 * B 3) 3 x0 x1 x2 2 = B 2 := rowM3_o B (by omega) (by omega)
  have e3 : rowM3 B (102 + 3 * B 3) 3 x0 x1 x2 3 = B 3 + 1 := rowM3_c B
  have e4 : rowM3 B (102 + 3 * B 3) 3 x0 x1 x2 4 = B 4 := rowM3_o B (by omega) (by omega)
  have e5 : rowM3 B (102 + 3 * B 3) 3 x0 x1 x2 5 = B 5 := rowM3_o B (by omega) (by omega)
  refine ⟨by rw [e0, e1, e2, e3, e4, e5]; omega, rowM3_b hbB (by omega) (by omega) (by omega) (by omega), ?_, ?_, ?_, ?_, ?_, ?_, ?_, ?_⟩
  · intro k hk; rw [e0] at hk; have := hv0 k hk; simp (disch := omega) only [rowM3_o, ne_eq]; exact this
  · intro k hk; rw [e1] at hk; have := hv1 k hk; simp (disch := omega) only [rowM3_o, ne_eq]; exact this
  · intro k hk; rw [e2] at hk; have := hv2 k hk; simp (disch := omega) only [rowM3_o, ne_eq]; exact this
  · intro k hk; rw [e3] at hk
    rcases Nat.lt_succ_iff_lt_or_eq.mp hk with z | z
    · have := hv3 k z; simp (disch := omega) only [rowM3_o, ne_eq]; exact this
    · subst z; simp (disch := omega) only [rowM3_o, rowM3_0, rowM3_1, rowM3_2, ne_eq]; omega
  · intro k hk; rw [e4] at hk; have := hv4 k hk; simp (disch := omega) only [rowM3_o, ne_eq]; exact this
  · intro k hk; rw [e5] at hk; have := hv5 k hk; simp (disch := omega) only [rowM3_o, ne_eq]; exact this
  · intro p hp; have := hv6 p hp; simp (disch := omega) only [rowM3_o, ne_eq]; exact this
  · intro p t hp ht; have := hv7 p t hp ht; simp (disch := omega) only [rowM3_o, ne_eq]; exact this
theorem WB_want {B : Nat → Nat} {x0 x1 x2 x3 : Nat} (hWB : WB B) (hlim : B 4 < 5) (hx : x0 < 5 ∧ 0 < x1 ∧ x1 < 2 ^ B 0 ∧ x2 ≤ x3 ∧ x3 < 24 ∧ x3 ≤ x2 + 5) : WB (rowM4 B (126 + 4 * B 4) 4 x0 x1 x2 x3) := by
  obtain ⟨⟨hn0, hn1, hn2, hn3, hn4, hn5⟩, hbB, hv0, hv1, hv2, hv3, hv4, hv5, hv6, hv7⟩ := hWB
  have h2 : 2 ^ B 0 ≤ 256 := (p256 hn0).2
  have e0 : rowM4 B (126 + 4 * B 4) 4 x0 x1 x2 x3 0 = B 0 := rowM4_o B (by omega) (by omega)
  have e1 : rowM4 B (126 + 4 * B 4) 4 x0 x1 x2 x3 1 = B 1 := rowM4_o B (by omega) (by omega)
  have e2 : rowM4 B (126 + 4 * B 4) 4 x0 x1 x2 x3 2 = B 2 := rowM4_o B (by omega) (by omega)
  have e3 : rowM4 B (126 + 4 * B 4) 4 x0 x1 x2 x3 3 = B 3 := rowM4_o B (by omega) (by omega)
  have e4 : rowM4 B (126 + 4 * B 4) 4 x0 x1 x2 x3 4 = B 4 + 1 := rowM4_c B
  have e5 : rowM4 B (126 + 4 * B 4) 4 x0 x1 x2 x3 5 = B 5 := rowM4_o B (by omega) (by omega)
  refine ⟨by rw [e0, e1, e2, e3, e4, e5]; omega, rowM4_b hbB (by omega) (by omega) (by omega) (by omega) (by omega), ?_, ?_, ?_, ?_, ?_, ?_, ?_, ?_⟩
  · intro k hk; rw [e0] at hk; have := hv0 k hk; simp (disch := omega) only [rowM4_o, ne_eq]; exact this
  · intro k hk; rw [e1] at hk; have := hv1 k hk; simp (disch := omega) only [rowM4_o, ne_eq]; exact this
  · intro k hk; rw [e2] at hk; have := hv2 k hk; simp (disch := omega) only [rowM4_o, ne_eq]; exact this
  · intro k hk; rw [e3] at hk; have := hv3 k hk; simp (disch := omega) only [rowM4_o, ne_eq]; exact this
  · intro k hk; rw [e4] at hk
    rcases Nat.lt_succ_iff_lt_or_eq.mp hk with z | z
    · have := hv4 k z; simp (disch := omega) only [rowM4_o, ne_eq]; exact this
    · subst z; simp (disch := omega) only [rowM4_o, rowM4_0, rowM4_1, rowM4_2, rowM4_3, ne_eq]; omega
  · intro k hk; rw [e5] at hk; have := hv5 k hk; simp (disch := omega) only [rowM4_o, ne_eq]; exact this
  · intro p hp; have := hv6 p hp; simp (disch := omega) only [rowM4_o, ne_eq]; exact this
  · intro p t hp ht; have := hv7 p t hp ht; simp (disch := omega) only [rowM4_o, ne_eq]; exact this
theorem WB_saying {B : Nat → Nat} {x0 x1 : Nat} (hWB : WB B) (hlim : B 5 < 8) (hx : 0 < x0 ∧ x0 < 2 ^ B 0 ∧ 1 ≤ x1 ∧ x1 ≤ 9) : WB (rowM2 B (196 + 2 * B 5) 5 x0 x1) := by
  obtain ⟨⟨hn0, hn1, hn2, hn3, hn4, hn5⟩, hbB, hv0, hv1, hv2, hv3, hv4, hv5, hv6, hv7⟩ := hWB
  have h2 : 2 ^ B 0 ≤ 256 := (p256 hn0).2
  have e0 : rowM2 B (196 + 2 * B 5) 5 x0 x1 0 = B 0 := rowM2_o B (by omega) (by omega)
  have e1 : rowM2 B (196 + 2 * B 5) 5 x0 x1 1 = B 1 := rowM2_o B (by omega) (by omega)
  have e2 : rowM2 B (196 + 2 * B 5) 5 x0 x1 2 = B 2 := rowM2_o B (by omega) (by omega)
  have e3 : rowM2 B (196 + 2 * B 5) 5 x0 x1 3 = B 3 := rowM2_o B (by omega) (by omega)
  have e4 : rowM2 B (196 + 2 * B 5) 5 x0 x1 4 = B 4 := rowM2_o B (by omega) (by omega)
  have e5 : rowM2 B (196 + 2 * B 5) 5 x0 x1 5 = B 5 + 1 := rowM2_c B
  refine ⟨by rw [e0, e1, e2, e3, e4, e5]; omega, rowM2_b hbB (by omega) (by omega) (by omega), ?_, ?_, ?_, ?_, ?_, ?_, ?_, ?_⟩
  · intro k hk; rw [e0] at hk; have := hv0 k hk; simp (disch := omega) only [rowM2_o, ne_eq]; exact this
  · intro k hk; rw [e1] at hk; have := hv1 k hk; simp (disch := omega) only [rowM2_o, ne_eq]; exact this
  · intro k hk; rw [e2] at hk; have := hv2 k hk; simp (disch := omega) only [rowM2_o, ne_eq]; exact this
  · intro k hk; rw [e3] at hk; have := hv3 k hk; simp (disch := omega) only [rowM2_o, ne_eq]; exact this
  · intro k hk; rw [e4] at hk; have := hv4 k hk; simp (disch := omega) only [rowM2_o, ne_eq]; exact this
  · intro k hk; rw [e5] at hk
    rcases Nat.lt_succ_iff_lt_or_eq.mp hk with z | z
    · have := hv5 k z; simp (disch := omega) only [rowM2_o, ne_eq]; exact this
    · subst z; simp (disch := omega) only [rowM2_o, rowM2_0, rowM2_1, ne_eq]; omega
  · intro p hp; have := hv6 p hp; simp (disch := omega) only [rowM2_o, ne_eq]; exact this
  · intro p t hp ht; have := hv7 p t hp ht; simp (disch := omega) only [rowM2_o, ne_eq]; exact this
theorem WB_0 : WB (fun _ => 0) := by
  unfold WB
  dsimp only
  exact ⟨⟨by omega, by omega, by omega, by omega, by omega, by omega⟩, fun _ => by omega, fun k h => absurd h (by omega), fun k h => absurd h (by omega), fun k h => absurd h (by omega), fun k h => absurd h (by omega), fun k h => absurd h (by omega), fun k h => absurd h (by omega), fun p h => ⟨by decide, by decide, by decide⟩, fun p t h h2 => by omega⟩
theorem wrth_o (X : Nat → Nat) (t : Nat) {j : Nat} (h : j < 156) : ∀ n, wrth X t n j = X j := by
  intro n
  induction n with
  | zero => rfl
  | succ n ih => rw [wrth_s]; unfold updN; rw [if_neg (by omega)]; exact ih
theorem wrth_h (X : Nat → Nat) {t j : Nat} (h : 196 ≤ j) (ht : t < 8) : ∀ n, n ≤ 5 → wrth X t n j = X j := by
  intro n
  induction n with
  | zero => intro _; rfl
  | succ n ih => intro hn; rw [wrth_s]; unfold updN; rw [if_neg (by omega)]; exact ih (by omega)
theorem wrth_le (X : Nat → Nat) (t j : Nat) : ∀ n, wrth X t n j ≤ X j := by
  intro n
  induction n with
  | zero => exact Nat.le_refl _
  | succ n ih => rw [wrth_s]; unfold updN; split; omega; exact ih
theorem termX_o (B : Nat → Nat) (k c f : Nat) {j : Nat} (h : j < 8 + 3 * B 0 ∨ 11 + 3 * B 0 ≤ j) : termX B k c f j = B j := by
  unfold termX updN
  rw [if_neg (by omega), if_neg (by omega), if_neg (by omega)]
theorem termB_o (B : Nat → Nat) (k c f : Nat) {j : Nat} (h0 : j ≠ 0) (h : j < 8 + 3 * B 0 ∨ 11 + 3 * B 0 ≤ j) (h1 : j < 156) : termB B k c f j = B j := by
  unfold termB; rw [updN, if_neg h0, wrth_o _ _ h1, termX_o _ _ _ _ h]
theorem termB_h (B : Nat → Nat) (k c f : Nat) {j : Nat} (hn : B 0 < 8) (h1 : 196 ≤ j) : termB B k c f j = B j := by
  unfold termB; rw [updN, if_neg (by omega), wrth_h _ h1 hn 5 (Nat.le_refl 5), termX_o _ _ _ _ (by omega)]
theorem termB_w (B : Nat → Nat) (k c f : Nat) {j : Nat} (hn : B 0 < 8) (h1 : 156 ≤ j) : termB B k c f j ≤ B j := by
  unfold termB; rw [updN, if_neg (by omega)]
  have := wrth_le (termX B k c f) (B 0) j 5
  rw [termX_o _ _ _ _ (by omega)] at this
  exact this
theorem termB_c (B : Nat → Nat) (k c f : Nat) : termB B k c f 0 = B 0 + 1 := by
  unfold termB; rw [updN_s, wrth_o _ _ (by omega), termX_o _ _ _ _ (by omega)]
theorem termB_0 (B : Nat → Nat) (k c f : Nat) (hn : B 0 < 8) : termB B k c f (8 + 3 * B 0) = k := by
  unfold termB; rw [updN, if_neg (by omega), wrth_o _ _ (by omega)]; unfold termX updN; rw [if_neg (by omega), if_neg (by omega), if_pos rfl]
theorem termB_1 (B : Nat → Nat) (k c f : Nat) (hn : B 0 < 8) : termB B k c f (8 + 3 * B 0 + 1) = c := by
  unfold termB; rw [updN, if_neg (by omega), wrth_o _ _ (by omega)]; unfold termX updN; rw [if_neg (by omega), if_pos rfl]
theorem termB_2 (B : Nat → Nat) (k c f : Nat) (hn : B 0 < 8) : termB B k c f (8 + 3 * B 0 + 2) = f := by
  unfold termB; rw [updN, if_neg (by omega), wrth_o _ _ (by omega)]; unfold termX updN; rw [if_pos rfl]
theorem termB_b {B : Nat → Nat} {k c f : Nat} (hn : B 0 < 8) (hb : ∀ j, B j < 1048576) (h0 : k < 6) (h1 : c ≤ 3) (h2 : f ≤ 9) : ∀ j, termB B k c f j < 1048576 := by
  intro j
  by_cases z : j = 0
  · rw [z, termB_c]; omega
  · unfold termB; rw [updN, if_neg z]
    have := wrth_le (termX B k c f) (B 0) j 5
    have q : termX B k c f j < 1048576 := by
      have := hb j
      unfold termX updN; (repeat' split) <;> omega
    omega
theorem pow_up {x n : Nat} (h : x < 2 ^ n) : x < 2 ^ (n + 1) := Nat.lt_of_lt_of_le h (Nat.pow_le_pow_right (by omega) (by omega))
theorem WB_term {B : Nat → Nat} {k c f : Nat} (hWB : WB B) (hn : B 0 < 8) (hx : k < 6 ∧ 1 ≤ c ∧ c ≤ 3 ∧ f ≤ 9) : WB (termB B k c f) := by
  obtain ⟨⟨hn0, hn1, hn2, hn3, hn4, hn5⟩, hbB, hv0, hv1, hv2, hv3, hv4, hv5, hv6, hv7⟩ := hWB
  have e0 := termB_c B k c f
  have e1 : termB B k c f 1 = B 1 := termB_o B k c f (by omega) (by omega) (by omega)
  have e2 : termB B k c f 2 = B 2 := termB_o B k c f (by omega) (by omega) (by omega)
  have e3 : termB B k c f 3 = B 3 := termB_o B k c f (by omega) (by omega) (by omega)
  have e4 : termB B k c f 4 = B 4 := termB_o B k c f (by omega) (by omega) (by omega)
  have e5 : termB B k c f 5 = B 5 := termB_o B k c f (by omega) (by omega) (by omega)
  refine ⟨by rw [e0, e1, e2, e3, e4, e5]; omega, termB_b hn hbB (by omega) (by omega) (by omega), ?_, ?_, ?_, ?_, ?_, ?_, ?_, ?_⟩
  · intro k9 hk; rw [e0] at hk
    rcases Nat.lt_succ_iff_lt_or_eq.mp hk with z | z
    · have := hv0 k9 z; simp (disch := omega) only [termB_o]; exact this
    · subst z; simp (disch := omega) only [termB_0, termB_1, termB_2]; omega
  · intro k9 hk; rw [e1] at hk; have := hv1 k9 hk; rw [e0]; simp (disch := omega) only [termB_o]; omega
  · intro k9 hk; rw [e2] at hk; have := hv2 k9 hk; rw [e0]; simp (disch := omega) only [termB_o]; omega
  · intro k9 hk; rw [e3] at hk; have := hv3 k9 hk; rw [e0]; simp (disch := omega) only [termB_o]; omega
  · intro k9 hk; rw [e4] at hk; have := hv4 k9 hk; have q := pow_up this.2.2.1; rw [e0]; simp (disch := omega) only [termB_o]; omega
  · intro k9 hk; rw [e5] at hk; have := hv5 k9 hk; have q := pow_up this.2.1; rw [e0]; simp (disch := omega) only [termB_h]; omega
  · intro p hp; have := hv6 p hp; have q := pow_up this.1; have q2 := pow_up this.2.1; rw [e0]; simp (disch := omega) only [termB_o]; exact ⟨q, q2, this.2.2⟩
  · intro p t hp ht; have := hv7 p t hp ht; have q := termB_w B k c f (j := 156 + 8 * p + t) hn (by omega); omega
theorem okB_WB {ok : Bool} {n lim : Nat} {X B : Nat → Nat} (hB : WB B) (h : ok = true → n < lim → WB X) : WB (okB ok n lim X B) := by
  unfold okB
  split
  · split
    · exact h (by assumption) (by assumption)
    · exact hB
  · exact hB
theorem popM_pos {x : Nat} (h : 1 ≤ popM x 10) : 0 < x := by
  rcases Nat.eq_zero_or_pos x with z | z
  · subst z; exact absurd h (by decide)
  · exact z
theorem WB_tl {B : Nat → Nat} {vb a b c d : Nat} (hB : WB B) : WB (tlB B vb a b c d) := by
  unfold tlB
  by_cases v0 : vb = 0
  · rw [if_pos v0]
    refine okB_WB hB (fun h hl => ?_)
    simp only [okT, decide_eq_true_eq] at h
    exact WB_term (k := a) (c := b) (f := c) hB hl ⟨by omega, by omega, by omega, by omega⟩
  rw [if_neg v0]
  by_cases v1 : vb = 1
  · rw [if_pos v1]
    refine okB_WB hB (fun h hl => ?_)
    simp only [okU, decide_eq_true_eq] at h
    exact WB_rule (x0 := a) (x1 := b) (x2 := c) hB hl ⟨by omega, by omega, by omega, by omega, by omega⟩
  rw [if_neg v1]
  by_cases v2 : vb = 2
  · rw [if_pos v2]
    refine okB_WB hB (fun h hl => ?_)
    simp only [okL, decide_eq_true_eq] at h
    exact WB_loan (x0 := a) (x1 := b) (x2 := c) (x3 := d) hB hl ⟨by omega, by omega, by omega, by omega⟩
  rw [if_neg v2]
  by_cases v3 : vb = 3
  · rw [if_pos v3]
    refine okB_WB hB (fun h hl => ?_)
    simp only [okW, decide_eq_true_eq] at h
    have hp : 0 < b := popM_pos (by have := h.2.2.1.1; exact Int.ofNat_le.mp this)
    exact WB_want (x0 := a) (x1 := b) (x2 := c) (x3 := d) hB hl ⟨by omega, by omega, by omega, by omega, by omega, by omega⟩
  rw [if_neg v3]
  refine okB_WB hB (fun h hl => ?_)
  simp only [okY, decide_eq_true_eq] at h
  exact WB_saying (x0 := a) (x1 := b) hB hl ⟨by omega, by omega, by omega, by omega⟩
theorem WB_same {B C : Nat → Nat} (hB : WB B) (hC : ∀ j, C j < 1048576) (h : ∀ j, j < 212 → C j = B j) : WB C := by
  obtain ⟨⟨hn0, hn1, hn2, hn3, hn4, hn5⟩, hbB, hv0, hv1, hv2, hv3, hv4, hv5, hv6, hv7⟩ := hB
  have e0 := h 0 (by omega)
  have e1 := h 1 (by omega)
  have e2 := h 2 (by omega)
  have e3 := h 3 (by omega)
  have e4 := h 4 (by omega)
  have e5 := h 5 (by omega)
  refine ⟨by rw [e0, e1, e2, e3, e4, e5]; omega, hC, ?_, ?_, ?_, ?_, ?_, ?_, ?_, ?_⟩
  · intro k hk; rw [e0] at hk; have := hv0 k hk; simp (disch := omega) only [h]; exact this
  · intro k hk; rw [e1] at hk; have := hv1 k hk; simp (disch := omega) only [h]; exact this
  · intro k hk; rw [e2] at hk; have := hv2 k hk; simp (disch := omega) only [h]; exact this
  · intro k hk; rw [e3] at hk; have := hv3 k hk; simp (disch := omega) only [h, ne_eq]; exact this
  · intro k hk; rw [e4] at hk; have := hv4 k hk; simp (disch := omega) only [h]; exact this
  · intro k hk; rw [e5] at hk; have := hv5 k hk; simp (disch := omega) only [h]; exact this
  · intro p hp; have := hv6 p hp; simp (disch := omega) only [h]; exact this
  · intro p t hp ht; have := hv7 p t hp ht; simp (disch := omega) only [h]; exact this
