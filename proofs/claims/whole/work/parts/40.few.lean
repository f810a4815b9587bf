/-! the model: the fewest, once they stand still -/
theorem cntN_mono {p q : Nat → Bool} : ∀ n, (∀ k, k < n → p k = true → q k = true) → cntN p n ≤ cntN q n := by
  intro n
  induction n with
  | zero => intro _; exact Nat.le_refl 0
  | succ n ih =>
    intro h
    have h1 := ih (fun k hk => h k (by omega))
    rw [cntN_s, cntN_s]
    by_cases e : p n = true
    · rw [if_pos e, if_pos (h n (by omega) e)]; omega
    · rw [if_neg e]; split <;> omega
theorem cntN_strict {p q : Nat → Bool} : ∀ n, (∀ k, k < n → p k = true → q k = true) → ∀ j, j < n → p j = false → q j = true → cntN p n < cntN q n := by
  intro n
  induction n with
  | zero => intro _ j hj; omega
  | succ n ih =>
    intro h j hj hp hq
    rw [cntN_s, cntN_s]
    rcases Nat.lt_succ_iff_lt_or_eq.mp hj with e | e
    · have h1 := ih (fun k hk => h k (by omega)) j e hp hq
      by_cases e2 : p n = true
      · rw [if_pos e2, if_pos (h n (by omega) e2)]; omega
      · rw [if_neg e2]; split <;> omega
    · subst e
      have h1 := cntN_mono (p := p) (q := q) j (fun k hk => h k (by omega))
      rw [hp, hq, if_neg (by decide), if_pos rfl]; omega
def rkF (n : Nat) (F : Nat → Nat) (t : Nat) : Nat := cntN (fun s => decide (F s < F t)) n
theorem rkF_lt {n : Nat} {F : Nat → Nat} {s t : Nat} (hs : s < n) (h : F s < F t) : rkF n F s < rkF n F t :=
  cntN_strict n (fun k _ e => by have e1 := of_decide_eq_true e; exact decide_eq_true (by omega)) s hs (decide_eq_false (by omega)) (decide_eq_true h)
theorem cntN_true : ∀ n, cntN (fun _ => true) n = n := by
  intro n
  induction n with
  | zero => rfl
  | succ n ih => rw [cntN_s, ih, if_pos rfl]
theorem rkF_7 {n : Nat} (F : Nat → Nat) {t : Nat} (ht : t < n) : rkF n F t < n := by
  have h := cntN_strict (p := fun s => decide (F s < F t)) (q := fun _ => true) n (fun _ _ _ => rfl) t ht (decide_eq_false (by omega)) rfl
  rw [cntN_true] at h; exact h
theorem stepM_le (B F : Nat → Nat) (q j : Nat) : stepM B q F j ≤ F j := by
  unfold stepM
  split
  · unfold updN
    split
    · rename_i h e; subst e; omega
    · exact Nat.le_refl _
  · exact Nat.le_refl _
theorem stepM_sum (B F : Nat → Nat) (q : Nat) : stepM B q F (B (102 + 3 * q)) ≤ F (B (102 + 3 * q + 1)) + F (B (102 + 3 * q + 2)) := by
  unfold stepM
  split
  · rw [updN_s]; exact Nat.le_refl _
  · omega
theorem rndF_mono (B F : Nat → Nat) (j n d : Nat) : rndF B F (n + d) j ≤ rndF B F n j := by
  induction d with
  | zero => exact Nat.le_refl _
  | succ d ih => exact Nat.le_trans (stepM_le B (rndF B F (n + d)) (n + d) j) ih
theorem rndF_le (B F : Nat → Nat) (n j : Nat) : rndF B F n j ≤ F j := by
  have h := rndF_mono B F j 0 n
  rw [Nat.zero_add] at h; exact h
theorem fewM_mono (B F : Nat → Nat) (j n d : Nat) : fewM B F (n + d) j ≤ fewM B F n j := by
  induction d with
  | zero => exact Nat.le_refl _
  | succ d ih => exact Nat.le_trans (rndF_le B (fewM B F (n + d)) (B 3) j) ih
theorem fewM_le (B F : Nat → Nat) (n j : Nat) : fewM B F n j ≤ F j := by
  have h := fewM_mono B F j 0 n
  rw [Nat.zero_add] at h; exact h
theorem fewM_1 (B F : Nat → Nat) : ∀ n, fewM B (rndF B F (B 3)) n = fewM B F (n + 1) := by
  intro n
  induction n with
  | zero => rfl
  | succ n ih => rw [fewM_s, ih, fewM_s B F (n + 1)]
def sumF (F : Nat → Nat) (n : Nat) : Nat := it (fun j a => a + F j) n 0
theorem sumF_s (F : Nat → Nat) (n : Nat) : sumF F (n + 1) = sumF F n + F n := rfl
theorem sumF_le {F F2 : Nat → Nat} : ∀ n, (∀ j, j < n → F2 j ≤ F j) → sumF F2 n ≤ sumF F n := by
  intro n
  induction n with
  | zero => intro _; exact Nat.le_refl _
  | succ n ih => intro h; have h1 := ih (fun j hj => h j (by omega)); have h2 := h n (by omega); rw [sumF_s, sumF_s]; omega
theorem sumF_lt {F F2 : Nat → Nat} : ∀ n, (∀ j, j < n → F2 j ≤ F j) → ∀ j, j < n → F2 j < F j → sumF F2 n < sumF F n := by
  intro n
  induction n with
  | zero => intro _ j hj; omega
  | succ n ih =>
    intro h j hj hl
    rw [sumF_s, sumF_s]
    rcases Nat.lt_succ_iff_lt_or_eq.mp hj with e | e
    · have h1 := ih (fun j hj => h j (by omega)) j e hl; have h2 := h n (by omega); omega
    · subst e; have h1 := sumF_le (F := F) (F2 := F2) j (fun k hk => h k (by omega)); omega
theorem fewM_lim (B : Nat → Nat) : ∀ m F, sumF F (B 0) < m → ∃ N, ∀ j, j < B 0 → fewM B F (N + 1) j = fewM B F N j := by
  intro m
  induction m with
  | zero => intro F h; omega
  | succ m ih =>
    intro F h
    by_cases e : ∀ j, j < B 0 → fewM B F 1 j = fewM B F 0 j
    · exact ⟨0, e⟩
    · have e2 : ∃ j, j < B 0 ∧ fewM B F 1 j < fewM B F 0 j := by
        apply Classical.byContradiction
        intro z
        refine e (fun j hj => ?_)
        have h1 := fewM_mono B F j 0 1
        rw [Nat.zero_add] at h1
        have h2 : ¬ fewM B F 1 j < fewM B F 0 j := fun y => z ⟨j, hj, y⟩
        omega
      obtain ⟨j, hj, hl⟩ := e2
      have h3 : sumF (rndF B F (B 3)) (B 0) < sumF F (B 0) := sumF_lt (B 0) (fun j _ => rndF_le B F (B 3) j) j hj hl
      obtain ⟨N, hN⟩ := ih (rndF B F (B 3)) (by omega)
      refine ⟨N + 1, fun j hj => ?_⟩
      have h4 := hN j hj
      rw [fewM_1, fewM_1] at h4; exact h4
theorem fewM_stay {B F : Nat → Nat} (hw : WB B) {N : Nat} (h : ∀ j, j < B 0 → fewM B F (N + 1) j = fewM B F N j) : ∀ d j, j < B 0 → fewM B F (N + d) j = fewM B F N j := by
  intro d
  induction d with
  | zero => intro j _; rfl
  | succ d ih =>
    intro j hj
    have h1 := rndF_ext hw ih (B 3) (Nat.le_refl _) j hj
    exact (show fewM B F (N + d + 1) j = rndF B (fewM B F (N + d)) (B 3) j from rfl).trans (h1.trans (h j hj))
/-- what the fewest are by: their own start, or a rule -/
def expl (B F : Nat → Nat) (x : Nat) : Prop := ∀ t, t < B 0 → (x / 2 ^ t % 2 = 1 ∧ F t = 1) ∨ F t = 100000 ∨ ∃ q, q < B 3 ∧ B (102 + 3 * q) = t ∧ F (B (102 + 3 * q + 1)) + F (B (102 + 3 * q + 2)) ≤ F t
def posF (B F : Nat → Nat) : Prop := ∀ t, t < B 0 → 1 ≤ F t ∧ F t ≤ 100000
theorem stepM_pos {B F : Nat → Nat} (hw : WB B) (h : posF B F) {q : Nat} (hq : q < B 3) : posF B (stepM B q F) := by
  obtain ⟨-, -, -, -, -, hv3, -⟩ := hw
  have hv := hv3 q hq
  intro t ht
  have h1 := h t ht
  have h2 := h _ hv.2.1
  have h3 := h _ hv.2.2.1
  refine ⟨?_, Nat.le_trans (stepM_le B F q t) h1.2⟩
  unfold stepM
  split
  · unfold updN; split <;> omega
  · exact h1.1
theorem stepM_expl {B F : Nat → Nat} {x : Nat} (hw : WB B) (hp : posF B F) (h : expl B F x) {q : Nat} (hq : q < B 3) : expl B (stepM B q F) x := by
  have hv := hw.2.2.2.2.2.1 q hq
  intro t ht
  by_cases e : F (B (102 + 3 * q + 1)) + F (B (102 + 3 * q + 2)) < F (B (102 + 3 * q))
  · have es : stepM B q F = updN F (B (102 + 3 * q)) (F (B (102 + 3 * q + 1)) + F (B (102 + 3 * q + 2))) := if_pos e
    by_cases e2 : t = B (102 + 3 * q)
    · refine Or.inr (Or.inr ⟨q, hq, e2.symm, ?_⟩)
      rw [es, e2, updN_s, updN_n _ _ (Ne.symm hv.2.2.2.1), updN_n _ _ (Ne.symm hv.2.2.2.2)]
      exact Nat.le_refl _
    · have et : stepM B q F t = F t := by rw [es, updN_n _ _ e2]
      rcases h t ht with h1 | h1 | ⟨q2, h1, h2, h3⟩
      · exact Or.inl ⟨h1.1, by rw [et]; exact h1.2⟩
      · exact Or.inr (Or.inl (by rw [et]; exact h1))
      · have h4 := stepM_le B F q (B (102 + 3 * q2 + 1))
        have h5 := stepM_le B F q (B (102 + 3 * q2 + 2))
        exact Or.inr (Or.inr ⟨q2, h1, h2, by rw [et]; omega⟩)
  · have es : stepM B q F = F := if_neg e
    rw [es]; exact h t ht
theorem rndF_pe {B F : Nat → Nat} {x : Nat} (hw : WB B) (hp : posF B F) (h : expl B F x) : ∀ n, n ≤ B 3 → posF B (rndF B F n) ∧ expl B (rndF B F n) x := by
  intro n
  induction n with
  | zero => intro _; exact ⟨hp, h⟩
  | succ n ih => intro hn; have i := ih (by omega); exact ⟨stepM_pos hw i.1 (by omega), stepM_expl hw i.1 i.2 (by omega)⟩
theorem fewM_pe {B F : Nat → Nat} {x : Nat} (hw : WB B) (hp : posF B F) (h : expl B F x) : ∀ n, posF B (fewM B F n) ∧ expl B (fewM B F n) x := by
  intro n
  induction n with
  | zero => exact ⟨hp, h⟩
  | succ n ih => exact rndF_pe hw ih.1 ih.2 (B 3) (Nat.le_refl _)
theorem initM_at (fw : Nat → Nat) (x : Nat) : ∀ n t, t < n → initM fw x n t = if x / 2 ^ t % 2 = 1 then 1 else 100000 := by
  intro n
  induction n with
  | zero => intro t h; omega
  | succ n ih =>
    intro t h
    rw [initM_s]
    by_cases e : t = n
    · subst e; rw [updN_s]
    · rw [updN_n _ _ e]; exact ih t (by omega)
theorem init_pe {B : Nat → Nat} (fw : Nat → Nat) (x : Nat) : posF B (initM fw x (B 0)) ∧ expl B (initM fw x (B 0)) x := by
  refine ⟨fun t ht => ?_, fun t ht => ?_⟩
  · rw [initM_at fw x (B 0) t ht]; split <;> omega
  · rw [initM_at fw x (B 0) t ht]
    by_cases e : x / 2 ^ t % 2 = 1
    · exact Or.inl ⟨e, if_pos e⟩
    · exact Or.inr (Or.inl (if_neg e))
/-- a standing row: no rule makes it less -/
theorem stand_le {B L : Nat → Nat} (hw : WB B) (h : ∀ j, j < B 0 → rndF B L (B 3) j = L j) {q : Nat} (hq : q < B 3) : L (B (102 + 3 * q)) ≤ L (B (102 + 3 * q + 1)) + L (B (102 + 3 * q + 2)) := by
  have hv := hw.2.2.2.2.2.1 q hq
  have h1 := stepM_sum B (rndF B L q) q
  have h2 := rndF_le B L q (B (102 + 3 * q + 1))
  have h3 := rndF_le B L q (B (102 + 3 * q + 2))
  have h4 := rndF_mono B L (B (102 + 3 * q)) (q + 1) (B 3 - (q + 1))
  rw [show q + 1 + (B 3 - (q + 1)) = B 3 from by omega, h _ hv.1] at h4
  have h5 : rndF B L (q + 1) (B (102 + 3 * q)) = stepM B q (rndF B L q) (B (102 + 3 * q)) := rfl
  omega
theorem few_key {B F : Nat → Nat} {x : Nat} (hw : WB B) (hp : posF B F) (he : expl B F x) (hi : ∀ t, t < B 0 → x / 2 ^ t % 2 = 1 → F t = 1) {N : Nat} (hN : ∀ j, j < B 0 → fewM B F (N + 1) j = fewM B F N j) : ∀ r t, t < B 0 → fewM B F N t < 100000 → rkF (B 0) (fewM B F N) t ≤ r → ∀ k, r ≤ k → fewM B F k t ≤ fewM B F N t := by
  have hpe := fewM_pe hw hp he N
  intro r
  induction r with
  | zero =>
    intro t ht hf hr k _
    rcases hpe.2 t ht with h1 | h1 | ⟨q, h1, h2, h3⟩
    · have h4 := fewM_le B F k t
      have h5 := hi t ht h1.1
      omega
    · omega
    · have hv := hw.2.2.2.2.2.1 q h1
      have hu := (hpe.1 _ hv.2.1).1
      have hv2 := (hpe.1 _ hv.2.2.1).1
      have h4 := rkF_lt (n := B 0) (F := fewM B F N) (s := B (102 + 3 * q + 1)) (t := t) hv.2.1 (by omega)
      omega
  | succ r ih =>
    intro t ht hf hr k hk
    rcases hpe.2 t ht with h1 | h1 | ⟨q, h1, h2, h3⟩
    · have h4 := fewM_le B F k t
      have h5 := hi t ht h1.1
      omega
    · omega
    · have hv := hw.2.2.2.2.2.1 q h1
      have hu := (hpe.1 _ hv.2.1).1
      have hv2 := (hpe.1 _ hv.2.2.1).1
      have h4 := rkF_lt (n := B 0) (F := fewM B F N) (s := B (102 + 3 * q + 1)) (t := t) hv.2.1 (by omega)
      have h5 := rkF_lt (n := B 0) (F := fewM B F N) (s := B (102 + 3 * q + 2)) (t := t) hv.2.2.1 (by omega)
      obtain ⟨k9, rfl⟩ : ∃ z, k = z + 1 := ⟨k - 1, by omega⟩
      have g1 := ih _ hv.2.1 (by omega) (by omega) k9 (by omega)
      have g2 := ih _ hv.2.2.1 (by omega) (by omega) k9 (by omega)
      have h6 := stepM_sum B (rndF B (fewM B F k9) q) q
      have h7 := rndF_le B (fewM B F k9) q (B (102 + 3 * q + 1))
      have h8 := rndF_le B (fewM B F k9) q (B (102 + 3 * q + 2))
      have h9 := rndF_mono B (fewM B F k9) (B (102 + 3 * q)) (q + 1) (B 3 - (q + 1))
      rw [show q + 1 + (B 3 - (q + 1)) = B 3 from by omega] at h9
      have h10 : rndF B (fewM B F k9) (q + 1) (B (102 + 3 * q)) = stepM B q (rndF B (fewM B F k9) q) (B (102 + 3 * q)) := rfl
      rw [fewM_s, ← h2]; rw [← h2] at h3
      omega
theorem few_done {B F : Nat → Nat} {x : Nat} (hw : WB B) (hp : posF B F) (he : expl B F x) (hi : ∀ t, t < B 0 → x / 2 ^ t % 2 = 1 → F t = 1) : ∀ k, 7 ≤ k → ∀ t, t < B 0 → fewM B F (k + 1) t = fewM B F k t := by
  obtain ⟨N, hN⟩ := fewM_lim B _ F (Nat.lt_succ_self _)
  have key := few_key hw hp he hi hN
  have stay := fewM_stay hw hN
  have hn := hw.1.1
  have e : ∀ k, 7 ≤ k → ∀ t, t < B 0 → fewM B F k t = fewM B F N t := by
    intro k hk t ht
    have h1 : fewM B F N t ≤ fewM B F k t := by
      rcases Nat.lt_or_ge k N with z | z
      · have h2 := fewM_mono B F t k (N - k)
        rw [show k + (N - k) = N from by omega] at h2; exact h2
      · have h2 := stay (k - N) t ht
        rw [show N + (k - N) = k from by omega] at h2; omega
    by_cases hf : fewM B F N t < 100000
    · have h2 := rkF_7 (fewM B F N) ht
      have h3 := key 7 t ht hf (by omega) k hk
      omega
    · have h2 := fewM_le B F k t
      have h3 := (hp t ht).2
      omega
  intro k hk t ht
  rw [e k hk t ht, e (k + 1) (by omega) t ht]
def fixM (B F : Nat → Nat) : Prop := ∀ t, t < B 0 → 1 ≤ F t ∧ F t ≤ 100000 ∧ (F t < 100000 → F t ≤ 128) ∧ (1 < F t → F t < 100000 → ∃ q, q < B 3 ∧ B (102 + 3 * q) = t ∧ F (B (102 + 3 * q + 1)) + F (B (102 + 3 * q + 2)) = F t)
theorem fix_of {B L : Nat → Nat} {x : Nat} (hw : WB B) (hp : posF B L) (he : expl B L x) (h : ∀ j, j < B 0 → rndF B L (B 3) j = L j) : fixM B L := by
  have hq : ∀ t, t < B 0 → 1 < L t → L t < 100000 → ∃ q, q < B 3 ∧ B (102 + 3 * q) = t ∧ L (B (102 + 3 * q + 1)) + L (B (102 + 3 * q + 2)) = L t := by
    intro t ht h1 h2
    rcases he t ht with g | g | ⟨q, g1, g2, g3⟩
    · omega
    · omega
    · have h3 := stand_le hw h g1
      rw [g2] at h3
      exact ⟨q, g1, g2, by omega⟩
  have hb : ∀ r t, t < B 0 → L t < 100000 → rkF (B 0) L t ≤ r → L t ≤ 2 ^ r := by
    intro r
    induction r with
    | zero =>
      intro t ht hf hr
      rcases Nat.lt_or_ge 1 (L t) with z | z
      · obtain ⟨q, g1, g2, g3⟩ := hq t ht z hf
        have hv := hw.2.2.2.2.2.1 q g1
        have hu := (hp _ hv.2.1).1
        have hv2 := (hp _ hv.2.2.1).1
        have h4 := rkF_lt (n := B 0) (F := L) (s := B (102 + 3 * q + 1)) (t := t) hv.2.1 (by omega)
        omega
      · exact z
    | succ r ih =>
      intro t ht hf hr
      have h0 := Nat.two_pow_pos (r + 1)
      rcases Nat.lt_or_ge 1 (L t) with z | z
      · obtain ⟨q, g1, g2, g3⟩ := hq t ht z hf
        have hv := hw.2.2.2.2.2.1 q g1
        have hu := (hp _ hv.2.1).1
        have hv2 := (hp _ hv.2.2.1).1
        have h4 := rkF_lt (n := B 0) (F := L) (s := B (102 + 3 * q + 1)) (t := t) hv.2.1 (by omega)
        have h5 := rkF_lt (n := B 0) (F := L) (s := B (102 + 3 * q + 2)) (t := t) hv.2.2.1 (by omega)
        have i1 := ih _ hv.2.1 (by omega) (by omega)
        have i2 := ih _ hv.2.2.1 (by omega) (by omega)
        rw [Nat.pow_succ]; omega
      · omega
  have hn := hw.1.1
  intro t ht
  refine ⟨(hp t ht).1, (hp t ht).2, fun hf => ?_, hq t ht⟩
  have h2 := rkF_7 L ht
  exact hb 7 t ht hf (by omega)
theorem few_init {B : Nat → Nat} (fw : Nat → Nat) (x : Nat) : ∀ t, t < B 0 → x / 2 ^ t % 2 = 1 → initM fw x (B 0) t = 1 := fun t ht h => by rw [initM_at fw x (B 0) t ht, if_pos h]
theorem fewS_fix {B : Nat → Nat} (hw : WB B) (fw : Nat → Nat) (x : Nat) : fixM B (fewS B fw x) := by
  have hi := init_pe (B := B) fw x
  have hpe := fewM_pe hw hi.1 hi.2 9
  exact fix_of hw hpe.1 hpe.2 (few_done hw hi.1 hi.2 (few_init fw x) 9 (by omega))
def rulM (B F : Nat → Nat) (t : Nat) : Nat → Bool := fun q => decide (B (102 + 3 * q) = t ∧ F (B (102 + 3 * q + 1)) + F (B (102 + 3 * q + 2)) = F t)
def rlM (B F : Nat → Nat) (t : Nat) : Nat := ffN (rulM B F t) (B 3) 0
def lftM (B F : Nat → Nat) (t : Nat) : Nat := B (102 + 3 * rlM B F t + 1)
def rgtM (B F : Nat → Nat) (t : Nat) : Nat := B (102 + 3 * rlM B F t + 2)
def leafM (B F : Nat → Nat) : Nat → Nat → Nat → Nat
  | 0, t, _ => t
  | k + 1, t, i => if 1 < F t then (if i < F (lftM B F t) then leafM B F k (lftM B F t) i else leafM B F k (rgtM B F t) (i - F (lftM B F t))) else t
theorem leafM_e {B F : Nat → Nat} {k t i : Nat} (h : ¬ 1 < F t) : leafM B F k t i = t := by cases k with
  | zero => rfl
  | succ k => exact if_neg h
theorem leafM_s {B F : Nat → Nat} {k t i : Nat} (h : 1 < F t) : leafM B F (k + 1) t i = if i < F (lftM B F t) then leafM B F k (lftM B F t) i else leafM B F k (rgtM B F t) (i - F (lftM B F t)) := if_pos h
theorem rlM_ok {B F : Nat → Nat} {t : Nat} (hx : fixM B F) (ht : t < B 0) (h1 : 1 < F t) (h2 : F t < 100000) : rlM B F t < B 3 ∧ B (102 + 3 * rlM B F t) = t ∧ F (lftM B F t) + F (rgtM B F t) = F t ∧ ∀ i, i < rlM B F t → rulM B F t i = false := by
  obtain ⟨q, g1, g2, g3⟩ := (hx t ht).2.2.2 h1 h2
  obtain ⟨a1, a2, a3, a4⟩ := ffN_at (p := rulM B F t) (B 3) 0 q (Nat.zero_le _) (by omega) (decide_eq_true ⟨g2, g3⟩)
  have a5 := of_decide_eq_true a3
  exact ⟨Nat.lt_of_le_of_lt a2 g1, a5.1, a5.2, fun i hi => a4 i (Nat.zero_le _) hi⟩
theorem lrM_ok {B F : Nat → Nat} {t : Nat} (hw : WB B) (hx : fixM B F) (ht : t < B 0) (h1 : 1 < F t) (h2 : F t < 100000) : lftM B F t < B 0 ∧ rgtM B F t < B 0 ∧ F (lftM B F t) + F (rgtM B F t) = F t ∧ 1 ≤ F (lftM B F t) ∧ 1 ≤ F (rgtM B F t) := by
  obtain ⟨g1, g2, g3, -⟩ := rlM_ok hx ht h1 h2
  have hv := hw.2.2.2.2.2.1 _ g1
  exact ⟨hv.2.1, hv.2.2.1, g3, (hx _ hv.2.1).1, (hx _ hv.2.2.1).1⟩
/-- fuel is no matter, once there is enough: by any measure that falls where the fewest fall -/
theorem leafM_k {B F : Nat → Nat} (hw : WB B) (hx : fixM B F) (μ : Nat → Nat) (hμ : ∀ s t, s < B 0 → t < B 0 → F s < F t → μ s < μ t) : ∀ k t i j, t < B 0 → F t < 100000 → μ t ≤ k → μ t ≤ j → leafM B F k t i = leafM B F j t i := by
  intro k
  induction k with
  | zero =>
    intro t i j ht hf hk hj
    by_cases h1 : 1 < F t
    · obtain ⟨g1, g2, g3, g4, g5⟩ := lrM_ok hw hx ht h1 hf
      have := hμ _ t g1 ht (by omega)
      omega
    · rw [leafM_e h1, leafM_e h1]
  | succ k ih =>
    intro t i j ht hf hk hj
    by_cases h1 : 1 < F t
    · obtain ⟨g1, g2, g3, g4, g5⟩ := lrM_ok hw hx ht h1 hf
      have m1 := hμ _ t g1 ht (by omega)
      have m2 := hμ _ t g2 ht (by omega)
      obtain ⟨j9, rfl⟩ : ∃ z, j = z + 1 := ⟨j - 1, by omega⟩
      rw [leafM_s h1, leafM_s h1]
      split
      · exact ih _ _ _ g1 (by omega) (by omega) (by omega)
      · exact ih _ _ _ g2 (by omega) (by omega) (by omega)
    · rw [leafM_e h1, leafM_e h1]
/-- what is said for a term in the i-th place -/
def lfM (B F : Nat → Nat) (t i : Nat) : Nat := leafM B F (F t) t i
theorem lfM_e {B F : Nat → Nat} {t : Nat} (i : Nat) (h : F t = 1) : lfM B F t i = t := leafM_e (by omega)
theorem lfM_s {B F : Nat → Nat} {t i : Nat} (hw : WB B) (hx : fixM B F) (ht : t < B 0) (h1 : 1 < F t) (h2 : F t < 100000) : lfM B F t i = if i < F (lftM B F t) then lfM B F (lftM B F t) i else lfM B F (rgtM B F t) (i - F (lftM B F t)) := by
  obtain ⟨g1, g2, g3, g4, g5⟩ := lrM_ok hw hx ht h1 h2
  obtain ⟨n, hn⟩ : ∃ z, F t = z + 1 := ⟨F t - 1, by omega⟩
  unfold lfM
  rw [hn, leafM_s h1]
  split
  · exact leafM_k hw hx F (fun _ _ _ _ h => h) _ _ _ _ g1 (by omega) (by omega) (by omega)
  · exact leafM_k hw hx F (fun _ _ _ _ h => h) _ _ _ _ g2 (by omega) (by omega) (by omega)
theorem lfM_8 {B F : Nat → Nat} {t i : Nat} (hw : WB B) (hx : fixM B F) (ht : t < B 0) (h2 : F t < 100000) : lfM B F t i = leafM B F 8 t i := by
  have hr := rkF_7 F ht
  have hn := hw.1.1
  have e : ∀ k, rkF (B 0) F t ≤ k → F t ≤ k → leafM B F (F t) t i = leafM B F k t i := fun k h1 h3 => leafM_k hw hx F (fun _ _ _ _ h => h) _ _ _ _ ht h2 (by omega) (by omega)
  have e2 := leafM_k hw hx (rkF (B 0) F) (fun _ _ h _ h3 => rkF_lt h h3) (F t + 8) t i 8 ht h2 (by omega) (by omega)
  exact (e (F t + 8) (by omega) (by omega)).trans e2
/-- what a pile of h will say, from its top -/
def plM (B F P : Nat → Nat) : Nat → Nat → Nat
  | 0, _ => 0
  | h + 1, i => if i < F (P h) then lfM B F (P h) i else plM B F P h (i - F (P h))
theorem plM_congr {B F P P2 : Nat → Nat} : ∀ h i, (∀ j, j < h → P2 j = P j) → plM B F P2 h i = plM B F P h i := by
  intro h
  induction h with
  | zero => intro i _; rfl
  | succ h ih =>
    intro i e
    show (if i < F (P2 h) then lfM B F (P2 h) i else plM B F P2 h (i - F (P2 h))) = _
    rw [e h (by omega), ih _ (fun j hj => e j (by omega))]
    rfl
def sumP (F P : Nat → Nat) (h : Nat) : Nat := it (fun j a => a + F (P j)) h 0
theorem sumP_s (F P : Nat → Nat) (h : Nat) : sumP F P (h + 1) = sumP F P h + F (P h) := rfl
theorem sumP_congr {F P P2 : Nat → Nat} (h : Nat) (e : ∀ j, j < h → P2 j = P j) : sumP F P2 h = sumP F P h := it_congr h 0 (fun j hj y => by rw [e j hj])
theorem sumP_ge {F P : Nat → Nat} : ∀ h, (∀ j, j < h → 1 ≤ F (P j)) → h ≤ sumP F P h := by
  intro h
  induction h with
  | zero => intro _; exact Nat.zero_le _
  | succ h ih => intro e; have h1 := ih (fun j hj => e j (by omega)); have h2 := e h (by omega); rw [sumP_s]; omega
theorem push_P (P : Nat → Nat) (h v u : Nat) : (∀ j, j < h → updN (updN P h v) (h + 1) u j = P j) ∧ updN (updN P h v) (h + 1) u h = v ∧ updN (updN P h v) (h + 1) u (h + 1) = u := by
  refine ⟨fun j hj => ?_, ?_, updN_s _ _ _⟩
  · rw [updN_n _ _ (by omega), updN_n _ _ (by omega)]
  · rw [updN_n _ _ (by omega), updN_s]
theorem push_sum {F P : Nat → Nat} {h v u : Nat} (e : F u + F v = F (P h)) : sumP F (updN (updN P h v) (h + 1) u) (h + 2) = sumP F P (h + 1) := by
  obtain ⟨p1, p2, p3⟩ := push_P P h v u
  rw [show h + 2 = (h + 1) + 1 from rfl, sumP_s, sumP_s, p3, p2, sumP_congr h p1, sumP_s]
  omega
theorem push_pl {B F P : Nat → Nat} {h : Nat} (hw : WB B) (hx : fixM B F) (ht : P h < B 0) (h1 : 1 < F (P h)) (h2 : F (P h) < 100000) (i : Nat) : plM B F (updN (updN P h (rgtM B F (P h))) (h + 1) (lftM B F (P h))) (h + 2) i = plM B F P (h + 1) i := by
  obtain ⟨p1, p2, p3⟩ := push_P P h (rgtM B F (P h)) (lftM B F (P h))
  obtain ⟨g1, g2, g3, g4, g5⟩ := lrM_ok hw hx ht h1 h2
  show (if i < F (updN (updN P h (rgtM B F (P h))) (h + 1) (lftM B F (P h)) (h + 1)) then _ else (if _ < F (updN (updN P h (rgtM B F (P h))) (h + 1) (lftM B F (P h)) h) then _ else _)) = (if i < F (P h) then _ else _)
  rw [p3, p2, plM_congr h _ p1, lfM_s hw hx ht h1 h2]
  by_cases a : i < F (lftM B F (P h))
  · rw [if_pos a, if_pos (by omega), if_pos a]
  · rw [if_neg a, if_neg a]
    by_cases b : i < F (P h)
    · rw [if_pos b, if_pos (by omega)]
    · rw [if_neg b, if_neg (by omega)]
      exact congrArg _ (by omega)
