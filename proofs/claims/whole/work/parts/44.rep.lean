/-! a counter of the class and a book of the model say the same -/
def Rep (n0 : Nat) (c0 : Nat → Nat) (n1 : Nat) (c1 : Nat → Nat) (n2 : Nat) (c2 : Nat → Nat) (n3 : Nat) (c3 : Nat → Nat) (n4 : Nat) (c4 : Nat → Nat) (n5 : Nat) (c5 hs wf wt B : Nat → Nat) : Prop :=
  (n0 = B 0 ∧ n1 = B 1 ∧ n2 = B 2 ∧ n3 = B 3 ∧ n4 = B 4 ∧ n5 = B 5) ∧
  ((∀ j, c0 j < 1048576) ∧ (∀ j, c1 j < 1048576) ∧ (∀ j, c2 j < 1048576) ∧ (∀ j, c3 j < 1048576) ∧ (∀ j, c4 j < 1048576) ∧ (∀ j, c5 j < 1048576) ∧ (∀ j, hs j < 1048576) ∧ (∀ j, wf j < 1048576) ∧ (∀ j, wt j < 1048576)) ∧
  (∀ q, q < B 0 → c0 (q * 4 + 0) = B (8 + 3 * q) ∧ c0 (q * 4 + 1) = B (8 + 3 * q + 1) ∧ c0 (q * 4 + 2) = B (8 + 3 * q + 2)) ∧
  (∀ q, q < B 1 → c1 (q * 4 + 0) = B (32 + 4 * q) ∧ c1 (q * 4 + 1) = B (32 + 4 * q + 1) ∧ c1 (q * 4 + 2) = B (32 + 4 * q + 2) ∧ c1 (q * 4 + 3) = B (32 + 4 * q + 3)) ∧
  (∀ q, q < B 2 → c2 (q * 4 + 0) = B (72 + 3 * q) ∧ c2 (q * 4 + 1) = B (72 + 3 * q + 1) ∧ c2 (q * 4 + 2) = B (72 + 3 * q + 2)) ∧
  (∀ q, q < B 3 → c3 (q * 4 + 0) = B (102 + 3 * q) ∧ c3 (q * 4 + 1) = B (102 + 3 * q + 1) ∧ c3 (q * 4 + 2) = B (102 + 3 * q + 2)) ∧
  (∀ q, q < B 4 → c4 (q * 4 + 0) = B (126 + 4 * q) ∧ c4 (q * 4 + 1) = B (126 + 4 * q + 1) ∧ c4 (q * 4 + 2) = B (126 + 4 * q + 2) ∧ c4 (q * 4 + 3) = B (126 + 4 * q + 3)) ∧
  (∀ q, q < B 5 → c5 (q * 4 + 0) = B (196 + 2 * q) ∧ c5 (q * 4 + 1) = B (196 + 2 * q + 1)) ∧
  (∀ p, p < 5 → hs p = B (146 + p) ∧ wf p = B (151 + p)) ∧
  (∀ p t, p < 5 → t < 8 → wt (p * 8 + t) = if t < B 0 then B (156 + 8 * p + t) else 0)
theorem CW_of {n0 : Nat} {c0 : Nat → Nat} {n1 : Nat} {c1 : Nat → Nat} {n2 : Nat} {c2 : Nat → Nat} {n3 : Nat} {c3 : Nat → Nat} {n4 : Nat} {c4 : Nat → Nat} {n5 : Nat} {c5 hs wf wt : Nat → Nat} {B : Nat → Nat} (h : Rep n0 c0 n1 c1 n2 c2 n3 c3 n4 c4 n5 c5 hs wf wt B) (hw : WB B) : CW n0 c0 n1 c1 n2 c2 n3 c3 n4 c4 n5 c5 hs wf wt := by
  obtain ⟨⟨m0, m1, m2, m3, m4, m5⟩, ⟨hb0, hb1, hb2, hb3, hb4, hb5, hbh, hbw, hbt⟩, r0, r1, r2, r3, r4, r5, rp, rw9⟩ := h
  obtain ⟨⟨hn0, hn1, hn2, hn3, hn4, hn5⟩, hbB, hv0, hv1, hv2, hv3, hv4, hv5, hv6, hv7⟩ := hw
  subst m0; subst m1; subst m2; subst m3; subst m4; subst m5
  refine ⟨⟨hn0, hn1, hn2, hn3, hn4, hn5⟩, ⟨hb0, hb1, hb2, hb3, hb4, hb5, hbh, hbw, hbt⟩, ?_, ?_, ?_, ?_, ?_, ?_, ?_, ?_⟩
  · intro q hq; have a := r0 q hq; have b := hv0 q hq; omega
  · intro q hq; have a := r1 q hq; have b := hv1 q hq; omega
  · intro q hq; have a := r2 q hq; have b := hv2 q hq; omega
  · intro q hq; have a := r3 q hq; have b := hv3 q hq; omega
  · intro q hq; have a := r4 q hq; have b := hv4 q hq; omega
  · intro q hq; have a := r5 q hq; have b := hv5 q hq; omega
  · intro p hp; have a := rp p hp; have b := hv6 p hp; rw [a.1, a.2]; exact b
  · intro p t hp ht; have a := rw9 p t hp ht; have b := hv7 p t hp ht; rw [a]; refine ⟨by split <;> omega, fun z => if_neg (by omega)⟩
def bkC (n0 : Nat) (c0 : Nat → Nat) (n1 : Nat) (c1 : Nat → Nat) (n2 : Nat) (c2 : Nat → Nat) (n3 : Nat) (c3 : Nat → Nat) (n4 : Nat) (c4 : Nat → Nat) (n5 : Nat) (c5 hs wf wt : Nat → Nat) : Nat → Nat := fun j =>
  if j = 0 then n0 else if j = 1 then n1 else if j = 2 then n2 else if j = 3 then n3 else if j = 4 then n4 else if j = 5 then n5 else if j < 8 then 0 else if j < 32 then c0 ((j - 8) / 3 * 4 + (j - 8) % 3) else if j < 72 then c1 ((j - 32) / 4 * 4 + (j - 32) % 4) else if j < 102 then c2 ((j - 72) / 3 * 4 + (j - 72) % 3) else if j < 126 then c3 ((j - 102) / 3 * 4 + (j - 102) % 3) else if j < 146 then c4 ((j - 126) / 4 * 4 + (j - 126) % 4) else if j < 151 then hs (j - 146) else if j < 156 then wf (j - 151) else if j < 196 then wt (j - 156) else if j < 212 then c5 ((j - 196) / 2 * 4 + (j - 196) % 2) else 0
theorem bkC_0 {n0 : Nat} {c0 : Nat → Nat} {n1 : Nat} {c1 : Nat → Nat} {n2 : Nat} {c2 : Nat → Nat} {n3 : Nat} {c3 : Nat → Nat} {n4 : Nat} {c4 : Nat → Nat} {n5 : Nat} {c5 hs wf wt : Nat → Nat} : bkC n0 c0 n1 c1 n2 c2 n3 c3 n4 c4 n5 c5 hs wf wt 0 = n0 := rfl
theorem bkC_1 {n0 : Nat} {c0 : Nat → Nat} {n1 : Nat} {c1 : Nat → Nat} {n2 : Nat} {c2 : Nat → Nat} {n3 : Nat} {c3 : Nat → Nat} {n4 : Nat} {c4 : Nat → Nat} {n5 : Nat} {c5 hs wf wt : Nat → Nat} : bkC n0 c0 n1 c1 n2 c2 n3 c3 n4 c4 n5 c5 hs wf wt 1 = n1 := rfl
theorem bkC_2 {n0 : Nat} {c0 : Nat → Nat} {n1 : Nat} {c1 : Nat → Nat} {n2 : Nat} {c2 : Nat → Nat} {n3 : Nat} {c3 : Nat → Nat} {n4 : Nat} {c4 : Nat → Nat} {n5 : Nat} {c5 hs wf wt : Nat → Nat} : bkC n0 c0 n1 c1 n2 c2 n3 c3 n4 c4 n5 c5 hs wf wt 2 = n2 := rfl
theorem bkC_3 {n0 : Nat} {c0 : Nat → Nat} {n1 : Nat} {c1 : Nat → Nat} {n2 : Nat} {c2 : Nat → Nat} {n3 : Nat} {c3 : Nat → Nat} {n4 : Nat} {c4 : Nat → Nat} {n5 : Nat} {c5 hs wf wt : Nat → Nat} : bkC n0 c0 n1 c1 n2 c2 n3 c3 n4 c4 n5 c5 hs wf wt 3 = n3 := rfl
theorem bkC_4 {n0 : Nat} {c0 : Nat → Nat} {n1 : Nat} {c1 : Nat → Nat} {n2 : Nat} {c2 : Nat → Nat} {n3 : Nat} {c3 : Nat → Nat} {n4 : Nat} {c4 : Nat → Nat} {n5 : Nat} {c5 hs wf wt : Nat → Nat} : bkC n0 c0 n1 c1 n2 c2 n3 c3 n4 c4 n5 c5 hs wf wt 4 = n4 := rfl
theorem bkC_5 {n0 : Nat} {c0 : Nat → Nat} {n1 : Nat} {c1 : Nat → Nat} {n2 : Nat} {c2 : Nat → Nat} {n3 : Nat} {c3 : Nat → Nat} {n4 : Nat} {c4 : Nat → Nat} {n5 : Nat} {c5 hs wf wt : Nat → Nat} : bkC n0 c0 n1 c1 n2 c2 n3 c3 n4 c4 n5 c5 hs wf wt 5 = n5 := rfl
theorem bkR_0 {n0 : Nat} {c0 : Nat → Nat} {n1 : Nat} {c1 : Nat → Nat} {n2 : Nat} {c2 : Nat → Nat} {n3 : Nat} {c3 : Nat → Nat} {n4 : Nat} {c4 : Nat → Nat} {n5 : Nat} {c5 hs wf wt : Nat → Nat} {j : Nat} (h1 : 8 ≤ j) (h2 : j < 32) : bkC n0 c0 n1 c1 n2 c2 n3 c3 n4 c4 n5 c5 hs wf wt j = c0 ((j - 8) / 3 * 4 + (j - 8) % 3) := by
  unfold bkC
  rw [if_neg (by omega), if_neg (by omega), if_neg (by omega), if_neg (by omega), if_neg (by omega), if_neg (by omega), if_neg (by omega), if_pos h2]
theorem bkR_1 {n0 : Nat} {c0 : Nat → Nat} {n1 : Nat} {c1 : Nat → Nat} {n2 : Nat} {c2 : Nat → Nat} {n3 : Nat} {c3 : Nat → Nat} {n4 : Nat} {c4 : Nat → Nat} {n5 : Nat} {c5 hs wf wt : Nat → Nat} {j : Nat} (h1 : 32 ≤ j) (h2 : j < 72) : bkC n0 c0 n1 c1 n2 c2 n3 c3 n4 c4 n5 c5 hs wf wt j = c1 ((j - 32) / 4 * 4 + (j - 32) % 4) := by
  unfold bkC
  rw [if_neg (by omega), if_neg (by omega), if_neg (by omega), if_neg (by omega), if_neg (by omega), if_neg (by omega), if_neg (by omega), if_neg (by omega), if_pos h2]
theorem bkR_2 {n0 : Nat} {c0 : Nat → Nat} {n1 : Nat} {c1 : Nat → Nat} {n2 : Nat} {c2 : Nat → Nat} {n3 : Nat} {c3 : Nat → Nat} {n4 : Nat} {c4 : Nat → Nat} {n5 : Nat} {c5 hs wf wt : Nat → Nat} {j : Nat} (h1 : 72 ≤ j) (h2 : j < 102) : bkC n0 c0 n1 c1 n2 c2 n3 c3 n4 c4 n5 c5 hs wf wt j = c2 ((j - 72) / 3 * 4 + (j - 72) % 3) := by
  unfold bkC
  rw [if_neg (by omega), if_neg (by omega), if_neg (by omega), if_neg (by omega), if_neg (by omega), if_neg (by omega), if_neg (by omega), if_neg (by omega), if_neg (by omega), if_pos h2]
theorem bkR_3 {n0 : Nat} {c0 : Nat → Nat} {n1 : Nat} {c1 : Nat → Nat} {n2 : Nat} {c2 : Nat → Nat} {n3 : Nat} {c3 : Nat → Nat} {n4 : Nat} {c4 : Nat → Nat} {n5 : Nat} {c5 hs wf wt : Nat → Nat} {j : Nat} (h1 : 102 ≤ j) (h2 : j < 126) : bkC n0 c0 n1 c1 n2 c2 n3 c3 n4 c4 n5 c5 hs wf wt j = c3 ((j - 102) / 3 * 4 + (j - 102) % 3) := by
  unfold bkC
  rw [if_neg (by omega), if_neg (by omega), if_neg (by omega), if_neg (by omega), if_neg (by omega), if_neg (by omega), if_neg (by omega), if_neg (by omega), if_neg (by omega), if_neg (by omega), if_pos h2]
theorem bkR_4 {n0 : Nat} {c0 : Nat → Nat} {n1 : Nat} {c1 : Nat → Nat} {n2 : Nat} {c2 : Nat → Nat} {n3 : Nat} {c3 : Nat → Nat} {n4 : Nat} {c4 : Nat → Nat} {n5 : Nat} {c5 hs wf wt : Nat → Nat} {j : Nat} (h1 : 126 ≤ j) (h2 : j < 146) : bkC n0 c0 n1 c1 n2 c2 n3 c3 n4 c4 n5 c5 hs wf wt j = c4 ((j - 126) / 4 * 4 + (j - 126) % 4) := by
  unfold bkC
  rw [if_neg (by omega), if_neg (by omega), if_neg (by omega), if_neg (by omega), if_neg (by omega), if_neg (by omega), if_neg (by omega), if_neg (by omega), if_neg (by omega), if_neg (by omega), if_neg (by omega), if_pos h2]
theorem bkR_5 {n0 : Nat} {c0 : Nat → Nat} {n1 : Nat} {c1 : Nat → Nat} {n2 : Nat} {c2 : Nat → Nat} {n3 : Nat} {c3 : Nat → Nat} {n4 : Nat} {c4 : Nat → Nat} {n5 : Nat} {c5 hs wf wt : Nat → Nat} {j : Nat} (h1 : 146 ≤ j) (h2 : j < 151) : bkC n0 c0 n1 c1 n2 c2 n3 c3 n4 c4 n5 c5 hs wf wt j = hs (j - 146) := by
  unfold bkC
  rw [if_neg (by omega), if_neg (by omega), if_neg (by omega), if_neg (by omega), if_neg (by omega), if_neg (by omega), if_neg (by omega), if_neg (by omega), if_neg (by omega), if_neg (by omega), if_neg (by omega), if_neg (by omega), if_pos h2]
theorem bkR_6 {n0 : Nat} {c0 : Nat → Nat} {n1 : Nat} {c1 : Nat → Nat} {n2 : Nat} {c2 : Nat → Nat} {n3 : Nat} {c3 : Nat → Nat} {n4 : Nat} {c4 : Nat → Nat} {n5 : Nat} {c5 hs wf wt : Nat → Nat} {j : Nat} (h1 : 151 ≤ j) (h2 : j < 156) : bkC n0 c0 n1 c1 n2 c2 n3 c3 n4 c4 n5 c5 hs wf wt j = wf (j - 151) := by
  unfold bkC
  rw [if_neg (by omega), if_neg (by omega), if_neg (by omega), if_neg (by omega), if_neg (by omega), if_neg (by omega), if_neg (by omega), if_neg (by omega), if_neg (by omega), if_neg (by omega), if_neg (by omega), if_neg (by omega), if_neg (by omega), if_pos h2]
theorem bkR_7 {n0 : Nat} {c0 : Nat → Nat} {n1 : Nat} {c1 : Nat → Nat} {n2 : Nat} {c2 : Nat → Nat} {n3 : Nat} {c3 : Nat → Nat} {n4 : Nat} {c4 : Nat → Nat} {n5 : Nat} {c5 hs wf wt : Nat → Nat} {j : Nat} (h1 : 156 ≤ j) (h2 : j < 196) : bkC n0 c0 n1 c1 n2 c2 n3 c3 n4 c4 n5 c5 hs wf wt j = wt (j - 156) := by
  unfold bkC
  rw [if_neg (by omega), if_neg (by omega), if_neg (by omega), if_neg (by omega), if_neg (by omega), if_neg (by omega), if_neg (by omega), if_neg (by omega), if_neg (by omega), if_neg (by omega), if_neg (by omega), if_neg (by omega), if_neg (by omega), if_neg (by omega), if_pos h2]
theorem bkR_8 {n0 : Nat} {c0 : Nat → Nat} {n1 : Nat} {c1 : Nat → Nat} {n2 : Nat} {c2 : Nat → Nat} {n3 : Nat} {c3 : Nat → Nat} {n4 : Nat} {c4 : Nat → Nat} {n5 : Nat} {c5 hs wf wt : Nat → Nat} {j : Nat} (h1 : 196 ≤ j) (h2 : j < 212) : bkC n0 c0 n1 c1 n2 c2 n3 c3 n4 c4 n5 c5 hs wf wt j = c5 ((j - 196) / 2 * 4 + (j - 196) % 2) := by
  unfold bkC
  rw [if_neg (by omega), if_neg (by omega), if_neg (by omega), if_neg (by omega), if_neg (by omega), if_neg (by omega), if_neg (by omega), if_neg (by omega), if_neg (by omega), if_neg (by omega), if_neg (by omega), if_neg (by omega), if_neg (by omega), if_neg (by omega), if_neg (by omega), if_pos h2]
theorem Rep_bk {n0 : Nat} {c0 : Nat → Nat} {n1 : Nat} {c1 : Nat → Nat} {n2 : Nat} {c2 : Nat → Nat} {n3 : Nat} {c3 : Nat → Nat} {n4 : Nat} {c4 : Nat → Nat} {n5 : Nat} {c5 hs wf wt : Nat → Nat} (h : CW n0 c0 n1 c1 n2 c2 n3 c3 n4 c4 n5 c5 hs wf wt) : Rep n0 c0 n1 c1 n2 c2 n3 c3 n4 c4 n5 c5 hs wf wt (bkC n0 c0 n1 c1 n2 c2 n3 c3 n4 c4 n5 c5 hs wf wt) := by
  obtain ⟨⟨hn0, hn1, hn2, hn3, hn4, hn5⟩, ⟨hb0, hb1, hb2, hb3, hb4, hb5, hbh, hbw, hbt⟩, hv0, hv1, hv2, hv3, hv4, hv5, hv6, hv7⟩ := h
  refine ⟨⟨rfl, rfl, rfl, rfl, rfl, rfl⟩, ⟨hb0, hb1, hb2, hb3, hb4, hb5, hbh, hbw, hbt⟩, ?_, ?_, ?_, ?_, ?_, ?_, ?_, ?_⟩
  · intro q hq
    have hq : q < n0 := hq
    exact ⟨by rw [bkR_0 (by omega) (by omega), show (8 + 3 * q - 8) / 3 = q from by omega, show (8 + 3 * q - 8) % 3 = 0 from by omega], by rw [bkR_0 (by omega) (by omega), show (8 + 3 * q + 1 - 8) / 3 = q from by omega, show (8 + 3 * q + 1 - 8) % 3 = 1 from by omega], by rw [bkR_0 (by omega) (by omega), show (8 + 3 * q + 2 - 8) / 3 = q from by omega, show (8 + 3 * q + 2 - 8) % 3 = 2 from by omega]⟩
  · intro q hq
    have hq : q < n1 := hq
    exact ⟨by rw [bkR_1 (by omega) (by omega), show (32 + 4 * q - 32) / 4 = q from by omega, show (32 + 4 * q - 32) % 4 = 0 from by omega], by rw [bkR_1 (by omega) (by omega), show (32 + 4 * q + 1 - 32) / 4 = q from by omega, show (32 + 4 * q + 1 - 32) % 4 = 1 from by omega], by rw [bkR_1 (by omega) (by omega), show (32 + 4 * q + 2 - 32) / 4 = q from by omega, show (32 + 4 * q + 2 - 32) % 4 = 2 from by omega], by rw [bkR_1 (by omega) (by omega), show (32 + 4 * q + 3 - 32) / 4 = q from by omega, show (32 + 4 * q + 3 - 32) % 4 = 3 from by omega]⟩
  · intro q hq
    have hq : q < n2 := hq
    exact ⟨by rw [bkR_2 (by omega) (by omega), show (72 + 3 * q - 72) / 3 = q from by omega, show (72 + 3 * q - 72) % 3 = 0 from by omega], by rw [bkR_2 (by omega) (by omega), show (72 + 3 * q + 1 - 72) / 3 = q from by omega, show (72 + 3 * q + 1 - 72) % 3 = 1 from by omega], by rw [bkR_2 (by omega) (by omega), show (72 + 3 * q + 2 - 72) / 3 = q from by omega, show (72 + 3 * q + 2 - 72) % 3 = 2 from by omega]⟩
  · intro q hq
    have hq : q < n3 := hq
    exact ⟨by rw [bkR_3 (by omega) (by omega), show (102 + 3 * q - 102) / 3 = q from by omega, show (102 + 3 * q - 102) % 3 = 0 from by omega], by rw [bkR_3 (by omega) (by omega), show (102 + 3 * q + 1 - 102) / 3 = q from by omega, show (102 + 3 * q + 1 - 102) % 3 = 1 from by omega], by rw [bkR_3 (by omega) (by omega), show (102 + 3 * q + 2 - 102) / 3 = q from by omega, show (102 + 3 * q + 2 - 102) % 3 = 2 from by omega]⟩
  · intro q hq
    have hq : q < n4 := hq
    exact ⟨by rw [bkR_4 (by omega) (by omega), show (126 + 4 * q - 126) / 4 = q from by omega, show (126 + 4 * q - 126) % 4 = 0 from by omega], by rw [bkR_4 (by omega) (by omega), show (126 + 4 * q + 1 - 126) / 4 = q from by omega, show (126 + 4 * q + 1 - 126) % 4 = 1 from by omega], by rw [bkR_4 (by omega) (by omega), show (126 + 4 * q + 2 - 126) / 4 = q from by omega, show (126 + 4 * q + 2 - 126) % 4 = 2 from by omega], by rw [bkR_4 (by omega) (by omega), show (126 + 4 * q + 3 - 126) / 4 = q from by omega, show (126 + 4 * q + 3 - 126) % 4 = 3 from by omega]⟩
  · intro q hq
    have hq : q < n5 := hq
    exact ⟨by rw [bkR_8 (by omega) (by omega), show (196 + 2 * q - 196) / 2 = q from by omega, show (196 + 2 * q - 196) % 2 = 0 from by omega], by rw [bkR_8 (by omega) (by omega), show (196 + 2 * q + 1 - 196) / 2 = q from by omega, show (196 + 2 * q + 1 - 196) % 2 = 1 from by omega]⟩
  · intro p hp
    exact ⟨by rw [bkR_5 (by omega) (by omega), show 146 + p - 146 = p from by omega], by rw [bkR_6 (by omega) (by omega), show 151 + p - 151 = p from by omega]⟩
  · intro p t hp ht
    rw [bkC_0, bkR_7 (j := 156 + 8 * p + t) (by omega) (by omega), show 156 + 8 * p + t - 156 = p * 8 + t from by omega]
    split
    · rfl
    · exact (hv7 p t hp ht).2 (by omega)
theorem bkC_b {n0 : Nat} {c0 : Nat → Nat} {n1 : Nat} {c1 : Nat → Nat} {n2 : Nat} {c2 : Nat → Nat} {n3 : Nat} {c3 : Nat → Nat} {n4 : Nat} {c4 : Nat → Nat} {n5 : Nat} {c5 hs wf wt : Nat → Nat} (kc0 : ∀ j, c0 j < 1048576) (kc1 : ∀ j, c1 j < 1048576) (kc2 : ∀ j, c2 j < 1048576) (kc3 : ∀ j, c3 j < 1048576) (kc4 : ∀ j, c4 j < 1048576) (kc5 : ∀ j, c5 j < 1048576) (khs : ∀ j, hs j < 1048576) (kwf : ∀ j, wf j < 1048576) (kwt : ∀ j, wt j < 1048576) (l0 : n0 ≤ 8) (l1 : n1 ≤ 10) (l2 : n2 ≤ 10) (l3 : n3 ≤ 8) (l4 : n4 ≤ 5) (l5 : n5 ≤ 8) : ∀ j, bkC n0 c0 n1 c1 n2 c2 n3 c3 n4 c4 n5 c5 hs wf wt j < 1048576 := by
  intro j
  unfold bkC
  by_cases h0 : j = 0
  · rw [if_pos h0]; omega
  rw [if_neg h0]
  by_cases h1 : j = 1
  · rw [if_pos h1]; omega
  rw [if_neg h1]
  by_cases h2 : j = 2
  · rw [if_pos h2]; omega
  rw [if_neg h2]
  by_cases h3 : j = 3
  · rw [if_pos h3]; omega
  rw [if_neg h3]
  by_cases h4 : j = 4
  · rw [if_pos h4]; omega
  rw [if_neg h4]
  by_cases h5 : j = 5
  · rw [if_pos h5]; omega
  rw [if_neg h5]
  by_cases h6 : j < 8
  · rw [if_pos h6]; omega
  rw [if_neg h6]
  by_cases g0 : j < 32
  · rw [if_pos g0]; exact kc0 _
  rw [if_neg g0]
  by_cases g1 : j < 72
  · rw [if_pos g1]; exact kc1 _
  rw [if_neg g1]
  by_cases g2 : j < 102
  · rw [if_pos g2]; exact kc2 _
  rw [if_neg g2]
  by_cases g3 : j < 126
  · rw [if_pos g3]; exact kc3 _
  rw [if_neg g3]
  by_cases g4 : j < 146
  · rw [if_pos g4]; exact kc4 _
  rw [if_neg g4]
  by_cases g5 : j < 151
  · rw [if_pos g5]; exact khs _
  rw [if_neg g5]
  by_cases g6 : j < 156
  · rw [if_pos g6]; exact kwf _
  rw [if_neg g6]
  by_cases g7 : j < 196
  · rw [if_pos g7]; exact kwt _
  rw [if_neg g7]
  by_cases g8 : j < 212
  · rw [if_pos g8]; exact kc5 _
  rw [if_neg g8]
  omega
theorem WB_bk {n0 : Nat} {c0 : Nat → Nat} {n1 : Nat} {c1 : Nat → Nat} {n2 : Nat} {c2 : Nat → Nat} {n3 : Nat} {c3 : Nat → Nat} {n4 : Nat} {c4 : Nat → Nat} {n5 : Nat} {c5 hs wf wt : Nat → Nat} (h : CW n0 c0 n1 c1 n2 c2 n3 c3 n4 c4 n5 c5 hs wf wt) : WB (bkC n0 c0 n1 c1 n2 c2 n3 c3 n4 c4 n5 c5 hs wf wt) := by
  have hr := Rep_bk h
  obtain ⟨⟨hn0, hn1, hn2, hn3, hn4, hn5⟩, ⟨hb0, hb1, hb2, hb3, hb4, hb5, hbh, hbw, hbt⟩, hv0, hv1, hv2, hv3, hv4, hv5, hv6, hv7⟩ := h
  obtain ⟨⟨m0, m1, m2, m3, m4, m5⟩, ⟨hb0, hb1, hb2, hb3, hb4, hb5, hbh, hbw, hbt⟩, r0, r1, r2, r3, r4, r5, rp, rw9⟩ := hr
  have hbb := bkC_b hb0 hb1 hb2 hb3 hb4 hb5 hbh hbw hbt (show n0 ≤ 8 by omega) (show n1 ≤ 10 by omega) (show n2 ≤ 10 by omega) (show n3 ≤ 8 by omega) (show n4 ≤ 5 by omega) (show n5 ≤ 8 by omega)
  generalize hB : bkC n0 c0 n1 c1 n2 c2 n3 c3 n4 c4 n5 c5 hs wf wt = B at *
  refine ⟨by omega, ?_, ?_, ?_, ?_, ?_, ?_, ?_, ?_, ?_⟩
  · exact hbb
  · intro q hq; have a := r0 q hq; have b := hv0 q (by omega); omega
  · intro q hq; have a := r1 q hq; have b := hv1 q (by omega); omega
  · intro q hq; have a := r2 q hq; have b := hv2 q (by omega); omega
  · intro q hq; have a := r3 q hq; have b := hv3 q (by omega); omega
  · intro q hq; have a := r4 q hq; have b := hv4 q (by omega); rw [m0] at b; omega
  · intro q hq; have a := r5 q hq; have b := hv5 q (by omega); rw [m0] at b; omega
  · intro p hp; have a := rp p hp; have b := hv6 p hp; rw [← a.1, ← a.2, ← m0]; exact b
  · intro p t hp ht
    have e : B (156 + 8 * p + t) = wt (p * 8 + t) := by rw [← hB, bkR_7 (by omega) (by omega), show 156 + 8 * p + t - 156 = p * 8 + t from by omega]
    rw [e]; exact (hv7 p t hp ht).1
theorem row4_o (c : Nat → Nat) (n x0 x1 x2 x3 : Nat) {j : Nat} (h : j < n * 4) : row4 c n x0 x1 x2 x3 j = c j := by
  unfold row4 updN
  rw [if_neg (by omega), if_neg (by omega), if_neg (by omega), if_neg (by omega)]
theorem row4_0 (c : Nat → Nat) (n x0 x1 x2 x3 : Nat) : row4 c n x0 x1 x2 x3 (n * 4 + 0) = x0 := by
  unfold row4 updN
  rw [if_neg (by omega), if_neg (by omega), if_neg (by omega), if_pos (by omega)]
theorem row4_1 (c : Nat → Nat) (n x0 x1 x2 x3 : Nat) : row4 c n x0 x1 x2 x3 (n * 4 + 1) = x1 := by
  unfold row4 updN
  rw [if_neg (by omega), if_neg (by omega), if_pos rfl]
theorem row4_2 (c : Nat → Nat) (n x0 x1 x2 x3 : Nat) : row4 c n x0 x1 x2 x3 (n * 4 + 2) = x2 := by
  unfold row4 updN
  rw [if_neg (by omega), if_pos rfl]
theorem row4_3 (c : Nat → Nat) (n x0 x1 x2 x3 : Nat) : row4 c n x0 x1 x2 x3 (n * 4 + 3) = x3 := by
  unfold row4 updN
  rw [if_pos rfl]
theorem row4_b {c : Nat → Nat} {n x0 x1 x2 x3 : Nat} (h : ∀ j, c j < 1048576) (h0 : x0 < 1048576) (h1 : x1 < 1048576) (h2 : x2 < 1048576) (h3 : x3 < 1048576) : ∀ j, row4 c n x0 x1 x2 x3 j < 1048576 := by
  intro j
  have := h j
  unfold row4 updN
  (repeat' split) <;> omega
theorem Rep_loan {n0 : Nat} {c0 : Nat → Nat} {n1 : Nat} {c1 : Nat → Nat} {n2 : Nat} {c2 : Nat → Nat} {n3 : Nat} {c3 : Nat → Nat} {n4 : Nat} {c4 : Nat → Nat} {n5 : Nat} {c5 hs wf wt : Nat → Nat} {B : Nat → Nat} {x0 x1 x2 x3 : Nat} (h : Rep n0 c0 n1 c1 n2 c2 n3 c3 n4 c4 n5 c5 hs wf wt B) (hw : WB B) (hlim : B 1 < 10) (hx : x0 < 1048576 ∧ x1 < 1048576 ∧ x2 < 1048576 ∧ x3 < 1048576) : Rep n0 c0 (n1 + 1) (row4 c1 n1 x0 x1 x2 x3) n2 c2 n3 c3 n4 c4 n5 c5 hs wf wt (rowM4 B (32 + 4 * B 1) 1 x0 x1 x2 x3) := by
  obtain ⟨⟨m0, m1, m2, m3, m4, m5⟩, ⟨hb0, hb1, hb2, hb3, hb4, hb5, hbh, hbw, hbt⟩, r0, r1, r2, r3, r4, r5, rp, rw9⟩ := h
  have hl := hw.1
  subst m0; subst m1; subst m2; subst m3; subst m4; subst m5
  have e0 : (rowM4 B (32 + 4 * B 1) 1 x0 x1 x2 x3) 0 = B 0 := rowM4_o B (by omega) (by omega)
  have e1 : (rowM4 B (32 + 4 * B 1) 1 x0 x1 x2 x3) 1 = B 1 + 1 := rowM4_c B
  have e2 : (rowM4 B (32 + 4 * B 1) 1 x0 x1 x2 x3) 2 = B 2 := rowM4_o B (by omega) (by omega)
  have e3 : (rowM4 B (32 + 4 * B 1) 1 x0 x1 x2 x3) 3 = B 3 := rowM4_o B (by omega) (by omega)
  have e4 : (rowM4 B (32 + 4 * B 1) 1 x0 x1 x2 x3) 4 = B 4 := rowM4_o B (by omega) (by omega)
  have e5 : (rowM4 B (32 + 4 * B 1) 1 x0 x1 x2 x3) 5 = B 5 := rowM4_o B (by omega) (by omega)
  refine ⟨⟨e0.symm, e1.symm, e2.symm, e3.symm, e4.symm, e5.symm⟩, ⟨hb0, row4_b hb1 (by omega) (by omega) (by omega) (by omega), hb2, hb3, hb4, hb5, hbh, hbw, hbt⟩, ?_, ?_, ?_, ?_, ?_, ?_, ?_, ?_⟩
  · intro q hq; rw [e0] at hq; have := r0 q hq; simp (disch := omega) only [rowM4_o, ne_eq]; exact this
  · intro q hq; rw [e1] at hq
    rcases Nat.lt_succ_iff_lt_or_eq.mp hq with z | z
    · have := r1 q z; simp (disch := omega) only [rowM4_o, row4_o, ne_eq]; exact this
    · subst z; simp (disch := omega) only [rowM4_0, rowM4_1, rowM4_2, rowM4_3, row4_0, row4_1, row4_2, row4_3, ne_eq, and_self]
  · intro q hq; rw [e2] at hq; have := r2 q hq; simp (disch := omega) only [rowM4_o, ne_eq]; exact this
  · intro q hq; rw [e3] at hq; have := r3 q hq; simp (disch := omega) only [rowM4_o, ne_eq]; exact this
  · intro q hq; rw [e4] at hq; have := r4 q hq; simp (disch := omega) only [rowM4_o, ne_eq]; exact this
  · intro q hq; rw [e5] at hq; have := r5 q hq; simp (disch := omega) only [rowM4_o, ne_eq]; exact this
  · intro p hp; have := rp p hp; simp (disch := omega) only [rowM4_o, ne_eq]; exact this
  · intro p t hp ht; have := rw9 p t hp ht; rw [e0]; simp (disch := omega) only [rowM4_o, ne_eq]; exact this
theorem Rep_said {n0 : Nat} {c0 : Nat → Nat} {n1 : Nat} {c1 : Nat → Nat} {n2 : Nat} {c2 : Nat → Nat} {n3 : Nat} {c3 : Nat → Nat} {n4 : Nat} {c4 : Nat → Nat} {n5 : Nat} {c5 hs wf wt : Nat → Nat} {B : Nat → Nat} {x0 x1 x2 : Nat} (h : Rep n0 c0 n1 c1 n2 c2 n3 c3 n4 c4 n5 c5 hs wf wt B) (hw : WB B) (hlim : B 2 < 10) (hx : x0 < 1048576 ∧ x1 < 1048576 ∧ x2 < 1048576) : Rep n0 c0 n1 c1 (n2 + 1) (row4 c2 n2 x0 x1 x2 0) n3 c3 n4 c4 n5 c5 hs wf wt (rowM3 B (72 + 3 * B 2) 2 x0 x1 x2) := by
  obtain ⟨⟨m0, m1, m2, m3, m4, m5⟩, ⟨hb0, hb1, hb2, hb3, hb4, hb5, hbh, hbw, hbt⟩, r0, r1, r2, r3, r4, r5, rp, rw9⟩ := h
  have hl := hw.1
  subst m0; subst m1; subst m2; subst m3; subst m4; subst m5
  have e0 : (rowM3 B (72 + 3 * B 2) 2 x0 x1 x2) 0 = B 0 := rowM3_o B (by omega) (by omega)
  have e1 : (rowM3 B (72 + 3 * B 2) 2 x0 x1 x2) 1 = B 1 := rowM3_o B (by omega) (by omega)
  have e2 : (rowM3 B (72 + 3 * B 2) 2 x0 x1 x2) 2 = B 2 + 1 := rowM3_c B
  have e3 : (rowM3 B (72 + 3 * B 2) 2 x0 x1 x2) 3 = B 3 := rowM3_o B (by omega) (by omega)
  have e4 : (rowM3 B (72 + 3 * B 2) 2 x0 x1 x2) 4 = B 4 := rowM3_o B (by omega) (by omega)
  have e5 : (rowM3 B (72 + 3 * B 2) 2 x0 x1 x2) 5 = B 5 := rowM3_o B (by omega) (by omega)
  refine ⟨⟨e0.symm, e1.symm, e2.symm, e3.symm, e4.symm, e5.symm⟩, ⟨hb0, hb1, row4_b hb2 (by omega) (by omega) (by omega) (by omega), hb3, hb4, hb5, hbh, hbw, hbt⟩, ?_, ?_, ?_, ?_, ?_, ?_, ?_, ?_⟩
  · intro q hq; rw [e0] at hq; have := r0 q hq; simp (disch := omega) only [rowM3_o, ne_eq]; exact this
  · intro q hq; rw [e1] at hq; have := r1 q hq; simp (disch := omega) only [rowM3_o, ne_eq]; exact this
  · intro q hq; rw [e2] at hq
    rcases Nat.lt_succ_iff_lt_or_eq.mp hq with z | z
    · have := r2 q z; simp (disch := omega) only [rowM3_o, row4_o, ne_eq]; exact this
    · subst z; simp (disch := omega) only [rowM3_0, rowM3_1, rowM3_2, row4_0, row4_1, row4_2, row4_3, ne_eq, and_self]
  · intro q hq; rw [e3] at hq; have := r3 q hq; simp (disch := omega) only [rowM3_o, ne_eq]; exact this
  · intro q hq; rw [e4] at hq; have := r4 q hq; simp (disch := omega) only [rowM3_o, ne_eq]; exact this
  · intro q hq; rw [e5] at hq; have := r5 q hq; simp (disch := omega) only [rowM3_o, ne_eq]; exact this
  · intro p hp; have := rp p hp; simp (disch := omega) only [rowM3_o, ne_eq]; exact this
  · intro p t hp ht; have := rw9 p t hp ht; rw [e0]; simp (disch := omega) only [rowM3_o, ne_eq]; exact this
theorem Rep_rule {n0 : Nat} {c0 : Nat → Nat} {n1 : Nat} {c1 : Nat → Nat} {n2 : Nat} {c2 : Nat → Nat} {n3 : Nat} {c3 : Nat → Nat} {n4 : Nat} {c4 : Nat → Nat} {n5 : Nat} {c5 hs wf wt : Nat → Nat} {B : Nat → Nat} {x0 x1 x2 : Nat} (h : Rep n0 c0 n1 c1 n2 c2 n3 c3 n4 c4 n5 c5 hs wf wt B) (hw : WB B) (hlim : B 3 < 8) (hx : x0 < 1048576 ∧ x1 < 1048576 ∧ x2 < 1048576) : Rep n0 c0 n1 c1 n2 c2 (n3 + 1) (row4 c3 n3 x0 x1 x2 0) n4 c4 n5 c5 hs wf wt (rowM3 B (102 + 3 * B 3) 3 x0 x1 x2) := by
  obtain ⟨⟨m0, m1, m2, m3, m4, m5⟩, ⟨hb0, hb1, hb2, hb3, hb4, hb5, hbh, hbw, hbt⟩, r0, r1, r2, r3, r4, r5, rp, rw9⟩ := h
  have hl := hw.1
  subst m0; subst m1; subst m2; subst m3; subst m4; subst m5
  have e0 : (rowM3 B (102 + 3 * B 3) 3 x0 x1 x2) 0 = B 0 := rowM3_o B (by omega) (by omega)
  have e1 : (rowM3 B (102 + 3 * B 3) 3 x0 x1 x2) 1 = B 1 := rowM3_o B (by omega) (by omega)
  have e2 : (rowM3 B (102 + 3 * B 3) 3 x0 x1 x2) 2 = B 2 := rowM3_o B (by omega) (by omega)
  have e3 : (rowM3 B (102 + 3 * B 3) 3 x0 x1 x2) 3 = B 3 + 1 := rowM3_c B
  have e4 : (rowM3 B (102 + 3 * B 3) 3 x0 x1 x2) 4 = B 4 := rowM3_o B (by omega) (by omega)
  have e5 : (rowM3 B (102 + 3 * B 3) 3 x0 x1 x2) 5 = B 5 := rowM3_o B (by omega) (by omega)
  refine ⟨⟨e0.symm, e1.symm, e2.symm, e3.symm, e4.symm, e5.symm⟩, ⟨hb0, hb1, hb2, row4_b hb3 (by omega) (by omega) (by omega) (by omega), hb4, hb5, hbh, hbw, hbt⟩, ?_, ?_, ?_, ?_, ?_, ?_, ?_, ?_⟩
  · intro q hq; rw [e0] at hq; have := r0 q hq; simp (disch := omega) only [rowM3_o, ne_eq]; exact this
  · intro q hq; rw [e1] at hq; have := r1 q hq; simp (disch := omega) only [rowM3_o, ne_eq]; exact this
  · intro q hq; rw [e2] at hq; have := r2 q hq; simp (disch := omega) only [rowM3_o, ne_eq]; exact this
  · intro q hq; rw [e3] at hq
    rcases Nat.lt_succ_iff_lt_or_eq.mp hq with z | z
    · have := r3 q z; simp (disch := omega) only [rowM3_o, row4_o, ne_eq]; exact this
    · subst z; simp (disch := omega) only [rowM3_0, rowM3_1, rowM3_2, row4_0, row4_1, row4_2, row4_3, ne_eq, and_self]
  · intro q hq; rw [e4] at hq; have := r4 q hq; simp (disch := omega) only [rowM3_o, ne_eq]; exact this
  · intro q hq; rw [e5] at hq; have := r5 q hq; simp (disch := omega) only [rowM3_o, ne_eq]; exact this
  · intro p hp; have := rp p hp; simp (disch := omega) only [rowM3_o, ne_eq]; exact this
  · intro p t hp ht; have := rw9 p t hp ht; rw [e0]; simp (disch := omega) only [rowM3_o, ne_eq]; exact this
theorem Rep_want {n0 : Nat} {c0 : Nat → Nat} {n1 : Nat} {c1 : Nat → Nat} {n2 : Nat} {c2 : Nat → Nat} {n3 : Nat} {c3 : Nat → Nat} {n4 : Nat} {c4 : Nat → Nat} {n5 : Nat} {c5 hs wf wt : Nat → Nat} {B : Nat → Nat} {x0 x1 x2 x3 : Nat} (h : Rep n0 c0 n1 c1 n2 c2 n3 c3 n4 c4 n5 c5 hs wf wt B) (hw : WB B) (hlim : B 4 < 5) (hx : x0 < 1048576 ∧ x1 < 1048576 ∧ x2 < 1048576 ∧ x3 < 1048576) : Rep n0 c0 n1 c1 n2 c2 n3 c3 (n4 + 1) (row4 c4 n4 x0 x1 x2 x3) n5 c5 hs wf wt (rowM4 B (126 + 4 * B 4) 4 x0 x1 x2 x3) := by
  obtain ⟨⟨m0, m1, m2, m3, m4, m5⟩, ⟨hb0, hb1, hb2, hb3, hb4, hb5, hbh, hbw, hbt⟩, r0, r1, r2, r3, r4, r5, rp, rw9⟩ := h
  have hl := hw.1
  subst m0; subst m1; subst m2; subst m3; subst m4; subst m5
  have e0 : (rowM4 B (126 + 4 * B 4) 4 x0 x1 x2 x3) 0 = B 0 := rowM4_o B (by omega) (by omega)
  have e1 : (rowM4 B (126 + 4 * B 4) 4 x0 x1 x2 x3) 1 = B 1 := rowM4_o B (by omega) (by omega)
  have e2 : (rowM4 B (126 + 4 * B 4) 4 x0 x1 x2 x3) 2 = B 2 := rowM4_o B (by omega) (by omega)
  have e3 : (rowM4 B (126 + 4 * B 4) 4 x0 x1 x2 x3) 3 = B 3 := rowM4_o B (by omega) (by omega)
  have e4 : (rowM4 B (126 + 4 * B 4) 4 x0 x1 x2 x3) 4 = B 4 + 1 := rowM4_c B
  have e5 : (rowM4 B (126 + 4 * B 4) 4 x0 x1 x2 x3) 5 = B 5 := rowM4_o B (by omega) (by omega)
  refine ⟨⟨e0.symm, e1.symm, e2.symm, e3.symm, e4.symm, e5.symm⟩, ⟨hb0, hb1, hb2, hb3, row4_b hb4 (by omega) (by omega) (by omega) (by omega), hb5, hbh, hbw, hbt⟩, ?_, ?_, ?_, ?_, ?_, ?_, ?_, ?_⟩
  · intro q hq; rw [e0] at hq; have := r0 q hq; simp (disch := omega) only [rowM4_o, ne_eq]; exact this
  · intro q hq; rw [e1] at hq; have := r1 q hq; simp (disch := omega) only [rowM4_o, ne_eq]; exact this
  · intro q hq; rw [e2] at hq; have := r2 q hq; simp (disch := omega) only [rowM4_o, ne_eq]; exact this
  · intro q hq; rw [e3] at hq; have := r3 q hq; simp (disch := omega) only [rowM4_o, ne_eq]; exact this
  · intro q hq; rw [e4] at hq
    rcases Nat.lt_succ_iff_lt_or_eq.mp hq with z | z
    · have := r4 q z; simp (disch := omega) only [rowM4_o, row4_o, ne_eq]; exact this
    · subst z; simp (disch := omega) only [rowM4_0, rowM4_1, rowM4_2, rowM4_3, row4_0, row4_1, row4_2, row4_3, ne_eq, and_self]
  · intro q hq; rw [e5] at hq; have := r5 q hq; simp (disch := omega) only [rowM4_o, ne_eq]; exact this
  · intro p hp; have := rp p hp; simp (disch := omega) only [rowM4_o, ne_eq]; exact this
  · intro p t hp ht; have := rw9 p t hp ht; rw [e0]; simp (disch := omega) only [rowM4_o, ne_eq]; exact this
theorem Rep_saying {n0 : Nat} {c0 : Nat → Nat} {n1 : Nat} {c1 : Nat → Nat} {n2 : Nat} {c2 : Nat → Nat} {n3 : Nat} {c3 : Nat → Nat} {n4 : Nat} {c4 : Nat → Nat} {n5 : Nat} {c5 hs wf wt : Nat → Nat} {B : Nat → Nat} {x0 x1 : Nat} (h : Rep n0 c0 n1 c1 n2 c2 n3 c3 n4 c4 n5 c5 hs wf wt B) (hw : WB B) (hlim : B 5 < 8) (hx : x0 < 1048576 ∧ x1 < 1048576) : Rep n0 c0 n1 c1 n2 c2 n3 c3 n4 c4 (n5 + 1) (row4 c5 n5 x0 x1 0 0) hs wf wt (rowM2 B (196 + 2 * B 5) 5 x0 x1) := by
  obtain ⟨⟨m0, m1, m2, m3, m4, m5⟩, ⟨hb0, hb1, hb2, hb3, hb4, hb5, hbh, hbw, hbt⟩, r0, r1, r2, r3, r4, r5, rp, rw9⟩ := h
  have hl := hw.1
  subst m0; subst m1; subst m2; subst m3; subst m4; subst m5
  have e0 : (rowM2 B (196 + 2 * B 5) 5 x0 x1) 0 = B 0 := rowM2_o B (by omega) (by omega)
  have e1 : (rowM2 B (196 + 2 * B 5) 5 x0 x1) 1 = B 1 := rowM2_o B (by omega) (by omega)
  have e2 : (rowM2 B (196 + 2 * B 5) 5 x0 x1) 2 = B 2 := rowM2_o B (by omega) (by omega)
  have e3 : (rowM2 B (196 + 2 * B 5) 5 x0 x1) 3 = B 3 := rowM2_o B (by omega) (by omega)
  have e4 : (rowM2 B (196 + 2 * B 5) 5 x0 x1) 4 = B 4 := rowM2_o B (by omega) (by omega)
  have e5 : (rowM2 B (196 + 2 * B 5) 5 x0 x1) 5 = B 5 + 1 := rowM2_c B
  refine ⟨⟨e0.symm, e1.symm, e2.symm, e3.symm, e4.symm, e5.symm⟩, ⟨hb0, hb1, hb2, hb3, hb4, row4_b hb5 (by omega) (by omega) (by omega) (by omega), hbh, hbw, hbt⟩, ?_, ?_, ?_, ?_, ?_, ?_, ?_, ?_⟩
  · intro q hq; rw [e0] at hq; have := r0 q hq; simp (disch := omega) only [rowM2_o, ne_eq]; exact this
  · intro q hq; rw [e1] at hq; have := r1 q hq; simp (disch := omega) only [rowM2_o, ne_eq]; exact this
  · intro q hq; rw [e2] at hq; have := r2 q hq; simp (disch := omega) only [rowM2_o, ne_eq]; exact this
  · intro q hq; rw [e3] at hq; have := r3 q hq; simp (disch := omega) only [rowM2_o, ne_eq]; exact this
  · intro q hq; rw [e4] at hq; have := r4 q hq; simp (disch := omega) only [rowM2_o, ne_eq]; exact this
  · intro q hq; rw [e5] at hq
    rcases Nat.lt_succ_iff_lt_or_eq.mp hq with z | z
    · have := r5 q z; simp (disch := omega) only [rowM2_o, row4_o, ne_eq]; exact this
    · subst z; simp (disch := omega) only [rowM2_0, rowM2_1, row4_0, row4_1, row4_2, row4_3, ne_eq, and_self]
  · intro p hp; have := rp p hp; simp (disch := omega) only [rowM2_o, ne_eq]; exact this
  · intro p t hp ht; have := rw9 p t hp ht; rw [e0]; simp (disch := omega) only [rowM2_o, ne_eq]; exact this
theorem termB_n (B : Nat → Nat) (k c f : Nat) {p : Nat} (hn : B 0 < 8) (hp : p < 5) : termB B k c f (156 + 8 * p + B 0) = 0 := by
  unfold termB; rw [updN, if_neg (by omega)]
  have key : ∀ n, p < n → n ≤ 5 → wrth (termX B k c f) (B 0) n (156 + 8 * p + B 0) = 0 := by
    intro n
    induction n with
    | zero => intro h; omega
    | succ n ih =>
      intro h1 h2
      rw [wrth_s]; unfold updN
      split
      · rfl
      · rename_i z; exact ih (by omega) (by omega)
  exact key 5 (by omega) (Nat.le_refl _)
theorem termB_p (B : Nat → Nat) (k c f : Nat) {p t : Nat} (hn : B 0 < 8) (ht : t < 8) (hne : t ≠ B 0) : termB B k c f (156 + 8 * p + t) = B (156 + 8 * p + t) := by
  unfold termB; rw [updN, if_neg (by omega)]
  have key : ∀ n, wrth (termX B k c f) (B 0) n (156 + 8 * p + t) = termX B k c f (156 + 8 * p + t) := by
    intro n
    induction n with
    | zero => rfl
    | succ n ih =>
      rw [wrth_s]; unfold updN
      rw [if_neg (by omega)]; exact ih
  rw [key 5, termX_o _ _ _ _ (by omega)]
theorem Rep_term {n0 : Nat} {c0 : Nat → Nat} {n1 : Nat} {c1 : Nat → Nat} {n2 : Nat} {c2 : Nat → Nat} {n3 : Nat} {c3 : Nat → Nat} {n4 : Nat} {c4 : Nat → Nat} {n5 : Nat} {c5 hs wf wt : Nat → Nat} {B : Nat → Nat} {x0 x1 x2 : Nat} (h : Rep n0 c0 n1 c1 n2 c2 n3 c3 n4 c4 n5 c5 hs wf wt B) (hw : WB B) (hlim : B 0 < 8) (hx : x0 < 1048576 ∧ x1 < 1048576 ∧ x2 < 1048576) : Rep (n0 + 1) (row4 c0 n0 x0 x1 x2 0) n1 c1 n2 c2 n3 c3 n4 c4 n5 c5 hs wf wt (termB B x0 x1 x2) := by
  obtain ⟨⟨m0, m1, m2, m3, m4, m5⟩, ⟨hb0, hb1, hb2, hb3, hb4, hb5, hbh, hbw, hbt⟩, r0, r1, r2, r3, r4, r5, rp, rw9⟩ := h
  have hl := hw.1
  subst m0; subst m1; subst m2; subst m3; subst m4; subst m5
  have e0 : (termB B x0 x1 x2) 0 = B 0 + 1 := termB_c B _ _ _
  have e1 : (termB B x0 x1 x2) 1 = B 1 := termB_o B _ _ _ (by omega) (by omega) (by omega)
  have e2 : (termB B x0 x1 x2) 2 = B 2 := termB_o B _ _ _ (by omega) (by omega) (by omega)
  have e3 : (termB B x0 x1 x2) 3 = B 3 := termB_o B _ _ _ (by omega) (by omega) (by omega)
  have e4 : (termB B x0 x1 x2) 4 = B 4 := termB_o B _ _ _ (by omega) (by omega) (by omega)
  have e5 : (termB B x0 x1 x2) 5 = B 5 := termB_o B _ _ _ (by omega) (by omega) (by omega)
  refine ⟨⟨e0.symm, e1.symm, e2.symm, e3.symm, e4.symm, e5.symm⟩, ⟨row4_b hb0 (by omega) (by omega) (by omega) (by omega), hb1, hb2, hb3, hb4, hb5, hbh, hbw, hbt⟩, ?_, ?_, ?_, ?_, ?_, ?_, ?_, ?_⟩
  · intro q hq; rw [e0] at hq
    rcases Nat.lt_succ_iff_lt_or_eq.mp hq with z | z
    · have := r0 q z; simp (disch := omega) only [termB_o, termB_h, row4_o, ne_eq]; exact this
    · subst z; simp (disch := omega) only [termB_0, termB_1, termB_2, row4_0, row4_1, row4_2, row4_3, ne_eq, and_self]
  · intro q hq; rw [e1] at hq; have := r1 q hq; simp (disch := omega) only [termB_o, termB_h, ne_eq]; exact this
  · intro q hq; rw [e2] at hq; have := r2 q hq; simp (disch := omega) only [termB_o, termB_h, ne_eq]; exact this
  · intro q hq; rw [e3] at hq; have := r3 q hq; simp (disch := omega) only [termB_o, termB_h, ne_eq]; exact this
  · intro q hq; rw [e4] at hq; have := r4 q hq; simp (disch := omega) only [termB_o, termB_h, ne_eq]; exact this
  · intro q hq; rw [e5] at hq; have := r5 q hq; simp (disch := omega) only [termB_o, termB_h, ne_eq]; exact this
  · intro p hp; have := rp p hp; simp (disch := omega) only [termB_o, termB_h, ne_eq]; exact this
  · intro p t hp ht; have := rw9 p t hp ht; rw [e0, this]
    by_cases z : t = B 0
    · subst z; rw [if_neg (by omega), if_pos (by omega), termB_n B _ _ _ hlim hp]
    · rw [termB_p B _ _ _ hlim ht z]
      by_cases z2 : t < B 0
      · rw [if_pos z2, if_pos (by omega)]
      · rw [if_neg z2, if_neg (by omega)]
theorem Rep_ok_loan {n0 : Nat} {c0 : Nat → Nat} {n1 : Nat} {c1 : Nat → Nat} {n2 : Nat} {c2 : Nat → Nat} {n3 : Nat} {c3 : Nat → Nat} {n4 : Nat} {c4 : Nat → Nat} {n5 : Nat} {c5 hs wf wt : Nat → Nat} {B : Nat → Nat} {ok : Bool} {x0 x1 x2 x3 : Nat} (h : Rep n0 c0 n1 c1 n2 c2 n3 c3 n4 c4 n5 c5 hs wf wt B) (hw : WB B) (hx : ok = true → (x0 < 1048576 ∧ x1 < 1048576 ∧ x2 < 1048576 ∧ x3 < 1048576)) : Rep n0 c0 (okN ok n1 10) (okC ok n1 10 c1 x0 x1 x2 x3) n2 c2 n3 c3 n4 c4 n5 c5 hs wf wt (okB ok (B 1) 10 (rowM4 B (32 + 4 * B 1) 1 x0 x1 x2 x3) B) := by
  have e : n1 = B 1 := h.1.2.1
  by_cases z : ok = true ∧ n1 < 10
  · have e1 : okN ok n1 10 = n1 + 1 := if_pos z
    have e2 : okC ok n1 10 c1 x0 x1 x2 x3 = row4 c1 n1 x0 x1 x2 x3 := if_pos z
    have e3 : okB ok (B 1) 10 (rowM4 B (32 + 4 * B 1) 1 x0 x1 x2 x3) B = rowM4 B (32 + 4 * B 1) 1 x0 x1 x2 x3 := by unfold okB; rw [if_pos z.1, if_pos (by omega)]
    rw [e1, e2, e3]
    exact Rep_loan h hw (by omega) (hx z.1)
  · have e1 : okN ok n1 10 = n1 := if_neg z
    have e2 : okC ok n1 10 c1 x0 x1 x2 x3 = c1 := if_neg z
    have e3 : okB ok (B 1) 10 (rowM4 B (32 + 4 * B 1) 1 x0 x1 x2 x3) B = B := by
      unfold okB
      split
      · rename_i y; rw [if_neg (fun q => z ⟨y, by omega⟩)]
      · rfl
    rw [e1, e2, e3]; exact h
theorem Rep_ok_said {n0 : Nat} {c0 : Nat → Nat} {n1 : Nat} {c1 : Nat → Nat} {n2 : Nat} {c2 : Nat → Nat} {n3 : Nat} {c3 : Nat → Nat} {n4 : Nat} {c4 : Nat → Nat} {n5 : Nat} {c5 hs wf wt : Nat → Nat} {B : Nat → Nat} {ok : Bool} {x0 x1 x2 : Nat} (h : Rep n0 c0 n1 c1 n2 c2 n3 c3 n4 c4 n5 c5 hs wf wt B) (hw : WB B) (hx : ok = true → (x0 < 1048576 ∧ x1 < 1048576 ∧ x2 < 1048576)) : Rep n0 c0 n1 c1 (okN ok n2 10) (okC ok n2 10 c2 x0 x1 x2 0) n3 c3 n4 c4 n5 c5 hs wf wt (okB ok (B 2) 10 (rowM3 B (72 + 3 * B 2) 2 x0 x1 x2) B) := by
  have e : n2 = B 2 := h.1.2.2.1
  by_cases z : ok = true ∧ n2 < 10
  · have e1 : okN ok n2 10 = n2 + 1 := if_pos z
    have e2 : okC ok n2 10 c2 x0 x1 x2 0 = row4 c2 n2 x0 x1 x2 0 := if_pos z
    have e3 : okB ok (B 2) 10 (rowM3 B (72 + 3 * B 2) 2 x0 x1 x2) B = rowM3 B (72 + 3 * B 2) 2 x0 x1 x2 := by unfold okB; rw [if_pos z.1, if_pos (by omega)]
    rw [e1, e2, e3]
    exact Rep_said h hw (by omega) (hx z.1)
  · have e1 : okN ok n2 10 = n2 := if_neg z
    have e2 : okC ok n2 10 c2 x0 x1 x2 0 = c2 := if_neg z
    have e3 : okB ok (B 2) 10 (rowM3 B (72 + 3 * B 2) 2 x0 x1 x2) B = B := by
      unfold okB
      split
      · rename_i y; rw [if_neg (fun q => z ⟨y, by omega⟩)]
      · rfl
    rw [e1, e2, e3]; exact h
theorem Rep_ok_rule {n0 : Nat} {c0 : Nat → Nat} {n1 : Nat} {c1 : Nat → Nat} {n2 : Nat} {c2 : Nat → Nat} {n3 : Nat} {c3 : Nat → Nat} {n4 : Nat} {c4 : Nat → Nat} {n5 : Nat} {c5 hs wf wt : Nat → Nat} {B : Nat → Nat} {ok : Bool} {x0 x1 x2 : Nat} (h : Rep n0 c0 n1 c1 n2 c2 n3 c3 n4 c4 n5 c5 hs wf wt B) (hw : WB B) (hx : ok = true → (x0 < 1048576 ∧ x1 < 1048576 ∧ x2 < 1048576)) : Rep n0 c0 n1 c1 n2 c2 (okN ok n3 8) (okC ok n3 8 c3 x0 x1 x2 0) n4 c4 n5 c5 hs wf wt (okB ok (B 3) 8 (rowM3 B (102 + 3 * B 3) 3 x0 x1 x2) B) := by
  have e : n3 = B 3 := h.1.2.2.2.1
  by_cases z : ok = true ∧ n3 < 8
  · have e1 : okN ok n3 8 = n3 + 1 := if_pos z
    have e2 : okC ok n3 8 c3 x0 x1 x2 0 = row4 c3 n3 x0 x1 x2 0 := if_pos z
    have e3 : okB ok (B 3) 8 (rowM3 B (102 + 3 * B 3) 3 x0 x1 x2) B = rowM3 B (102 + 3 * B 3) 3 x0 x1 x2 := by unfold okB; rw [if_pos z.1, if_pos (by omega)]
    rw [e1, e2, e3]
    exact Rep_rule h hw (by omega) (hx z.1)
  · have e1 : okN ok n3 8 = n3 := if_neg z
    have e2 : okC ok n3 8 c3 x0 x1 x2 0 = c3 := if_neg z
    have e3 : okB ok (B 3) 8 (rowM3 B (102 + 3 * B 3) 3 x0 x1 x2) B = B := by
      unfold okB
      split
      · rename_i y; rw [if_neg (fun q => z ⟨y, by omega⟩)]
      · rfl
    rw [e1, e2, e3]; exact h
theorem Rep_ok_want {n0 : Nat} {c0 : Nat → Nat} {n1 : Nat} {c1 : Nat → Nat} {n2 : Nat} {c2 : Nat → Nat} {n3 : Nat} {c3 : Nat → Nat} {n4 : Nat} {c4 : Nat → Nat} {n5 : Nat} {c5 hs wf wt : Nat → Nat} {B : Nat → Nat} {ok : Bool} {x0 x1 x2 x3 : Nat} (h : Rep n0 c0 n1 c1 n2 c2 n3 c3 n4 c4 n5 c5 hs wf wt B) (hw : WB B) (hx : ok = true → (x0 < 1048576 ∧ x1 < 1048576 ∧ x2 < 1048576 ∧ x3 < 1048576)) : Rep n0 c0 n1 c1 n2 c2 n3 c3 (okN ok n4 5) (okC ok n4 5 c4 x0 x1 x2 x3) n5 c5 hs wf wt (okB ok (B 4) 5 (rowM4 B (126 + 4 * B 4) 4 x0 x1 x2 x3) B) := by
  have e : n4 = B 4 := h.1.2.2.2.2.1
  by_cases z : ok = true ∧ n4 < 5
  · have e1 : okN ok n4 5 = n4 + 1 := if_pos z
    have e2 : okC ok n4 5 c4 x0 x1 x2 x3 = row4 c4 n4 x0 x1 x2 x3 := if_pos z
    have e3 : okB ok (B 4) 5 (rowM4 B (126 + 4 * B 4) 4 x0 x1 x2 x3) B = rowM4 B (126 + 4 * B 4) 4 x0 x1 x2 x3 := by unfold okB; rw [if_pos z.1, if_pos (by omega)]
    rw [e1, e2, e3]
    exact Rep_want h hw (by omega) (hx z.1)
  · have e1 : okN ok n4 5 = n4 := if_neg z
    have e2 : okC ok n4 5 c4 x0 x1 x2 x3 = c4 := if_neg z
    have e3 : okB ok (B 4) 5 (rowM4 B (126 + 4 * B 4) 4 x0 x1 x2 x3) B = B := by
      unfold okB
      split
      · rename_i y; rw [if_neg (fun q => z ⟨y, by omega⟩)]
      · rfl
    rw [e1, e2, e3]; exact h
theorem Rep_ok_saying {n0 : Nat} {c0 : Nat → Nat} {n1 : Nat} {c1 : Nat → Nat} {n2 : Nat} {c2 : Nat → Nat} {n3 : Nat} {c3 : Nat → Nat} {n4 : Nat} {c4 : Nat → Nat} {n5 : Nat} {c5 hs wf wt : Nat → Nat} {B : Nat → Nat} {ok : Bool} {x0 x1 : Nat} (h : Rep n0 c0 n1 c1 n2 c2 n3 c3 n4 c4 n5 c5 hs wf wt B) (hw : WB B) (hx : ok = true → (x0 < 1048576 ∧ x1 < 1048576)) : Rep n0 c0 n1 c1 n2 c2 n3 c3 n4 c4 (okN ok n5 8) (okC ok n5 8 c5 x0 x1 0 0) hs wf wt (okB ok (B 5) 8 (rowM2 B (196 + 2 * B 5) 5 x0 x1) B) := by
  have e : n5 = B 5 := h.1.2.2.2.2.2
  by_cases z : ok = true ∧ n5 < 8
  · have e1 : okN ok n5 8 = n5 + 1 := if_pos z
    have e2 : okC ok n5 8 c5 x0 x1 0 0 = row4 c5 n5 x0 x1 0 0 := if_pos z
    have e3 : okB ok (B 5) 8 (rowM2 B (196 + 2 * B 5) 5 x0 x1) B = rowM2 B (196 + 2 * B 5) 5 x0 x1 := by unfold okB; rw [if_pos z.1, if_pos (by omega)]
    rw [e1, e2, e3]
    exact Rep_saying h hw (by omega) (hx z.1)
  · have e1 : okN ok n5 8 = n5 := if_neg z
    have e2 : okC ok n5 8 c5 x0 x1 0 0 = c5 := if_neg z
    have e3 : okB ok (B 5) 8 (rowM2 B (196 + 2 * B 5) 5 x0 x1) B = B := by
      unfold okB
      split
      · rename_i y; rw [if_neg (fun q => z ⟨y, by omega⟩)]
      · rfl
    rw [e1, e2, e3]; exact h
theorem Rep_ok_term {n0 : Nat} {c0 : Nat → Nat} {n1 : Nat} {c1 : Nat → Nat} {n2 : Nat} {c2 : Nat → Nat} {n3 : Nat} {c3 : Nat → Nat} {n4 : Nat} {c4 : Nat → Nat} {n5 : Nat} {c5 hs wf wt : Nat → Nat} {B : Nat → Nat} {ok : Bool} {x0 x1 x2 : Nat} (h : Rep n0 c0 n1 c1 n2 c2 n3 c3 n4 c4 n5 c5 hs wf wt B) (hw : WB B) (hx : ok = true → (x0 < 1048576 ∧ x1 < 1048576 ∧ x2 < 1048576)) : Rep (okN ok n0 8) (okC ok n0 8 c0 x0 x1 x2 0) n1 c1 n2 c2 n3 c3 n4 c4 n5 c5 hs wf wt (okB ok (B 0) 8 (termB B x0 x1 x2) B) := by
  have e : n0 = B 0 := h.1.1
  by_cases z : ok = true ∧ n0 < 8
  · have e1 : okN ok n0 8 = n0 + 1 := if_pos z
    have e2 : okC ok n0 8 c0 x0 x1 x2 0 = row4 c0 n0 x0 x1 x2 0 := if_pos z
    have e3 : okB ok (B 0) 8 (termB B x0 x1 x2) B = termB B x0 x1 x2 := by unfold okB; rw [if_pos z.1, if_pos (by omega)]
    rw [e1, e2, e3]
    exact Rep_term h hw (by omega) (hx z.1)
  · have e1 : okN ok n0 8 = n0 := if_neg z
    have e2 : okC ok n0 8 c0 x0 x1 x2 0 = c0 := if_neg z
    have e3 : okB ok (B 0) 8 (termB B x0 x1 x2) B = B := by
      unfold okB
      split
      · rename_i y; rw [if_neg (fun q => z ⟨y, by omega⟩)]
      · rfl
    rw [e1, e2, e3]; exact h
