/-! STUCK, BREAK: alike -/
/-- who is gone, who is left -/
def CG (g l : Nat) : Prop := g < 32 ∧ l < 32 ∧ ∀ p, p < 5 → l.testBit p = !g.testBit p
theorem CG_l {g l l2 : Nat} (h : CG g l) (h2 : CG g l2) : l = l2 := by
  refine Nat.eq_of_testBit_eq (fun i => ?_)
  rcases Nat.lt_or_ge i 5 with z | z
  · rw [h.2.2 i z, h2.2.2 i z]
  · rw [Nat.testBit_lt_two_pow (Nat.lt_of_lt_of_le (show l < 2 ^ 5 from h.2.1) (Nat.pow_le_pow_right (by omega) z)), Nat.testBit_lt_two_pow (Nat.lt_of_lt_of_le (show l2 < 2 ^ 5 from h2.2.1) (Nat.pow_le_pow_right (by omega) z))]
theorem CG_of {g : Nat} (h : g < 32) : CG g (andn 31 g) := by
  have h1 := andn_le 31 g
  refine ⟨h, by omega, fun p hp => ?_⟩
  rw [andn_tb, show (31 : Nat) = 2 ^ 5 - 1 from rfl, Nat.testBit_two_pow_sub_one, decide_eq_true hp]; rfl
theorem had_eq {hs B : Nat → Nat} {g l t : Nat} (hp : ∀ p, p < 5 → hs p = B (146 + p)) (hc : CG g l) : ∀ n, n ≤ 5 → hadR hs g t n = hvM B l t n := by
  intro n
  induction n with
  | zero => intro _; rfl
  | succ n ih =>
    intro hn
    have i := ih (by omega)
    show (if ¬ (n < 32 ∧ g / 2 ^ n % 2 = 1) ∧ hs n / 2 ^ t % 2 = 1 then hadR hs g t n + 1 else hadR hs g t n) = _
    rw [hvM_s, i, hp n (by omega)]
    have hb := hc.2.2 n (by omega)
    have e1 : l / 2 ^ n % 2 = 1 ↔ ¬ (g / 2 ^ n % 2 = 1) := by
      rw [tb, tb, hb]; cases g.testBit n <;> simp
    by_cases a : g / 2 ^ n % 2 = 1
    · rw [if_neg (fun z => z.1 ⟨by omega, a⟩), if_neg (fun z => e1.mp z a)]; rfl
    · rw [if_pos (e1.mpr a)]
      by_cases b : B (146 + n) / 2 ^ t % 2 = 1
      · rw [if_pos ⟨fun z => a z.2, b⟩, b]
      · rw [if_neg (fun z => b z.2)]
        have := Nat.mod_lt (B (146 + n) / 2 ^ t) (show 2 > 0 by omega)
        omega
theorem bitsN_tb (p : Nat → Bool) : ∀ n i, (bitsN p n).testBit i = true ↔ (i < n ∧ p i = true) := by
  intro n
  induction n with
  | zero => intro i; show (0 : Nat).testBit i = true ↔ _; rw [Nat.zero_testBit]; exact ⟨fun z => absurd z (by decide), fun z => absurd z.1 (Nat.not_lt_zero _)⟩
  | succ n ih =>
    intro i
    rw [bitsN_s, tb_or, ih]
    by_cases c : p n = true
    · rw [if_pos c, tb_pw]
      constructor
      · rintro (z | z)
        · exact ⟨by omega, z.2⟩
        · subst z; exact ⟨by omega, c⟩
      · intro z
        rcases Nat.lt_succ_iff_lt_or_eq.mp z.1 with y | y
        · exact Or.inl ⟨y, z.2⟩
        · exact Or.inr y.symm
    · rw [if_neg c, Nat.zero_testBit]
      constructor
      · rintro (z | z)
        · exact ⟨by omega, z.2⟩
        · cases z
      · intro z
        rcases Nat.lt_succ_iff_lt_or_eq.mp z.1 with y | y
        · exact Or.inl ⟨y, z.2⟩
        · rw [y] at z; exact absurd z.2 c
def RP (n0 : Nat) (c0 hs wf B : Nat → Nat) : Prop := n0 = B 0 ∧ (∀ t, t < n0 → mayS n0 c0 t = mayM B t) ∧ (∀ p, p < 5 → hs p = B (146 + p)) ∧ ∀ p, p < 5 → wf p = B (151 + p)
theorem done_eq {n0 : Nat} {c0 hs wf B : Nat → Nat} {g l p : Nat} (hw : WB B) (hr : RP n0 c0 hs wf B) (hc : CG g l) (hp : p < 5) : andn (wf p) (freeR n0 c0 hs g) = 0 ↔ doneM B l p (B 0) := by
  obtain ⟨m0, r1, r2, r3⟩ := hr
  have hv := hw.2.2.2.2.2.2.2.2.1 p hp
  subst m0
  rw [andn_0, r3 p hp]
  unfold doneM freeM freeR
  constructor
  · intro z t ht
    cases h : (B (151 + p)).testBit t with
    | false => exact Or.inl ((tb0 _ _).mpr h)
    | true =>
      have y := ((bitsN_tb _ _ _).mp (z t h)).2
      have y := of_decide_eq_true y
      rw [had_eq r2 hc 5 (Nat.le_refl _), r1 t ht] at y
      exact Or.inr y
  · intro z i hi
    have ht := tb_lt hv.2.1 hi
    refine (bitsN_tb _ _ _).mpr ⟨ht, decide_eq_true ?_⟩
    rw [had_eq r2 hc 5 (Nat.le_refl _), r1 i ht]
    rcases z i ht with y | y
    · rw [tb0, hi] at y; cases y
    · exact y
theorem go_eq {n0 : Nat} {c0 hs wf B : Nat → Nat} {g l : Nat} (hw : WB B) (hr : RP n0 c0 hs wf B) (hc : CG g l) : ∀ n, n ≤ 5 → CG (goR wf (freeR n0 c0 hs g) n g) (rndM B l n) := by
  intro n
  induction n with
  | zero => intro _; exact hc
  | succ n ih =>
    intro hn
    have i := ih (by omega)
    have hd := done_eq hw hr hc (show n < 5 by omega)
    rw [goR_s, rndM_s]
    by_cases c : andn (wf n) (freeR n0 c0 hs g) = 0
    · rw [if_pos c, if_pos (pB_t.mpr (hd.mp c))]
      have hl := andn_le (rndM B l n) (2 ^ n)
      refine ⟨Nat.or_lt_two_pow (n := 5) i.1 (Nat.pow_lt_pow_right (by omega) (by omega)), by have := i.2.1; omega, fun p hp => ?_⟩
      rw [andn_tb, Nat.testBit_or, i.2.2 p hp]
      cases goR wf (freeR n0 c0 hs g) n g |>.testBit p <;> cases (2 ^ n).testBit p <;> rfl
    · rw [if_neg c, if_neg (fun z => c (hd.mpr (pB_t.mp z)))]; exact i
def stpR (n0 : Nat) (c0 hs wf : Nat → Nat) (g : Nat) : Nat := goR wf (freeR n0 c0 hs g) 5 g
def itR (n0 : Nat) (c0 hs wf : Nat → Nat) (g : Nat) : Nat → Nat
  | 0 => g
  | k + 1 => stpR n0 c0 hs wf (itR n0 c0 hs wf g k)
theorem itR_1 (n0 : Nat) (c0 hs wf : Nat → Nat) (g : Nat) : ∀ k, itR n0 c0 hs wf (stpR n0 c0 hs wf g) k = itR n0 c0 hs wf g (k + 1) := by
  intro k
  induction k with
  | zero => rfl
  | succ k ih => show stpR n0 c0 hs wf (itR n0 c0 hs wf (stpR n0 c0 hs wf g) k) = _; rw [ih]; rfl
theorem itR_st {n0 : Nat} {c0 hs wf : Nat → Nat} {g : Nat} (h : stpR n0 c0 hs wf g = g) : ∀ k, itR n0 c0 hs wf g k = g := by
  intro k
  induction k with
  | zero => rfl
  | succ k ih => show stpR n0 c0 hs wf (itR n0 c0 hs wf g k) = g; rw [ih]; exact h
theorem run_it {n0 : Nat} {c0 hs wf : Nat → Nat} : ∀ k g bf, (g + 1 = bf → stpR n0 c0 hs wf g = g) → runR n0 c0 hs wf k g bf = itR n0 c0 hs wf g k := by
  intro k
  induction k with
  | zero => intro g bf _; rfl
  | succ k ih =>
    intro g bf h
    by_cases c : g + 1 = bf
    · rw [runR_e _ _ _ _ _ _ _ c, itR_st (h c)]
    · rw [runR_s _ _ _ _ _ _ _ c, ← itR_1]
      refine ih _ _ (fun z => ?_)
      have e : stpR n0 c0 hs wf g = g := by
        have z2 : stpR n0 c0 hs wf g + 1 = g + 1 := z
        omega
      show stpR n0 c0 hs wf (stpR n0 c0 hs wf g) = stpR n0 c0 hs wf g
      rw [e, e]
theorem it_CG {n0 : Nat} {c0 hs wf B : Nat → Nat} {g : Nat} (hw : WB B) (hr : RP n0 c0 hs wf B) (hg : g < 32) : ∀ k, CG (itR n0 c0 hs wf g k) (stuckM B g k) := by
  intro k
  induction k with
  | zero => exact CG_of hg
  | succ k ih => exact go_eq hw hr ih 5 (Nat.le_refl _)
/-- who goes back stays gone: five rounds are enough -/
theorem go_sub {wf : Nat → Nat} {free g : Nat} : ∀ n i, g.testBit i = true → (goR wf free n g).testBit i = true := by
  intro n
  induction n with
  | zero => intro i h; exact h
  | succ n ih =>
    intro i h
    rw [goR_s]
    split
    · exact (tb_or _ _ _).mpr (Or.inl (ih i h))
    · exact ih i h
theorem pop_s (x n : Nat) : popM x (n + 1) = popM x n + x / 2 ^ n % 2 := rfl
theorem pop_mono {a b : Nat} (h : ∀ i, a.testBit i = true → b.testBit i = true) : ∀ n, popM a n ≤ popM b n := by
  intro n
  induction n with
  | zero => exact Nat.le_refl _
  | succ n ih =>
    rw [pop_s, pop_s]
    have h1 := Nat.mod_lt (a / 2 ^ n) (show 2 > 0 by omega)
    have h2 : a / 2 ^ n % 2 = 1 → b / 2 ^ n % 2 = 1 := fun z => (tb _ _).mpr (h n ((tb _ _).mp z))
    omega
theorem pop_strict {a b : Nat} (h : ∀ i, a.testBit i = true → b.testBit i = true) : ∀ n j, j < n → a.testBit j = false → b.testBit j = true → popM a n < popM b n := by
  intro n
  induction n with
  | zero => intro j h; omega
  | succ n ih =>
    intro j hj ha hb
    rw [pop_s, pop_s]
    have h1 := Nat.mod_lt (a / 2 ^ n) (show 2 > 0 by omega)
    have h2 : a / 2 ^ n % 2 = 1 → b / 2 ^ n % 2 = 1 := fun z => (tb _ _).mpr (h n ((tb _ _).mp z))
    rcases Nat.lt_succ_iff_lt_or_eq.mp hj with z | z
    · have := ih j z ha hb; omega
    · subst z
      have h3 := pop_mono h j
      have h4 := (tb0 a j).mpr ha
      have h5 := (tb b j).mpr hb
      omega
theorem pop_full : ∀ g, g < 32 → 5 ≤ popM g 5 → g = 31 := by decide +kernel
theorem go_lt {n0 : Nat} {c0 hs wf : Nat → Nat} {g : Nat} (hg : g < 32) : stpR n0 c0 hs wf g < 32 := goR_lt hg 5 (Nat.le_refl _)
theorem it_lt {n0 : Nat} {c0 hs wf : Nat → Nat} {g : Nat} (hg : g < 32) : ∀ k, itR n0 c0 hs wf g k < 32 := by
  intro k
  induction k with
  | zero => exact hg
  | succ k ih => exact go_lt ih
theorem go_grow {n0 : Nat} {c0 hs wf : Nat → Nat} {g : Nat} (hg : g < 32) (h : stpR n0 c0 hs wf g ≠ g) : popM g 5 < popM (stpR n0 c0 hs wf g) 5 := by
  obtain ⟨i, hi⟩ := Nat.exists_testBit_ne_of_ne h
  have hs9 : ∀ i, g.testBit i = true → (stpR n0 c0 hs wf g).testBit i = true := go_sub 5
  have hl := go_lt (n0 := n0) (c0 := c0) (hs := hs) (wf := wf) hg
  cases ha : g.testBit i with
  | true => rw [ha, hs9 i ha] at hi; exact absurd rfl hi
  | false =>
    cases hb : (stpR n0 c0 hs wf g).testBit i with
    | false => rw [ha, hb] at hi; exact absurd rfl hi
    | true => exact pop_strict hs9 5 i (tb_lt (n := 5) hl hb) ha hb
theorem it_grow {n0 : Nat} {c0 hs wf : Nat → Nat} {g : Nat} (hg : g < 32) : ∀ k, stpR n0 c0 hs wf (itR n0 c0 hs wf g k) = itR n0 c0 hs wf g k ∨ k ≤ popM (itR n0 c0 hs wf g k) 5 := by
  intro k
  induction k with
  | zero => exact Or.inr (Nat.zero_le _)
  | succ k ih =>
    by_cases c : stpR n0 c0 hs wf (itR n0 c0 hs wf g k) = itR n0 c0 hs wf g k
    · left
      show stpR n0 c0 hs wf (stpR n0 c0 hs wf (itR n0 c0 hs wf g k)) = stpR n0 c0 hs wf (itR n0 c0 hs wf g k)
      rw [c, c]
    · have h1 := go_grow (it_lt hg k) c
      right
      show k + 1 ≤ popM (stpR n0 c0 hs wf (itR n0 c0 hs wf g k)) 5
      rcases ih with z | z
      · exact absurd z c
      · omega
theorem it_5 {n0 : Nat} {c0 hs wf : Nat → Nat} {g : Nat} (hg : g < 32) : itR n0 c0 hs wf g 6 = itR n0 c0 hs wf g 5 := by
  show stpR n0 c0 hs wf (itR n0 c0 hs wf g 5) = itR n0 c0 hs wf g 5
  rcases it_grow (n0 := n0) (c0 := c0) (hs := hs) (wf := wf) hg 5 with z | z
  · exact z
  · have h1 := it_lt (n0 := n0) (c0 := c0) (hs := hs) (wf := wf) hg 5
    have e := pop_full _ h1 z
    have h2 := go_lt (n0 := n0) (c0 := c0) (hs := hs) (wf := wf) h1
    refine Nat.eq_of_testBit_eq (fun i => ?_)
    rcases Nat.lt_or_ge i 5 with y | y
    · have a : (itR n0 c0 hs wf g 5).testBit i = true := by rw [e, show (31 : Nat) = 2 ^ 5 - 1 from rfl, Nat.testBit_two_pow_sub_one, decide_eq_true y]
      rw [a]; exact go_sub 5 i a
    · rw [Nat.testBit_lt_two_pow (Nat.lt_of_lt_of_le (show _ < 2 ^ 5 from h2) (Nat.pow_le_pow_right (by omega) y)), Nat.testBit_lt_two_pow (Nat.lt_of_lt_of_le (show _ < 2 ^ 5 from h1) (Nat.pow_le_pow_right (by omega) y))]
theorem stuck_eq {n0 : Nat} {c0 hs wf B : Nat → Nat} {g : Nat} (hw : WB B) (hr : RP n0 c0 hs wf B) (hg : g < 32) : stuckR n0 c0 hs wf g = stuckM B g 5 := by
  unfold stuckR
  rw [run_it 6 g 0 (fun z => absurd z (by omega)), it_5 hg]
  exact CG_l (CG_of (it_lt hg 5)) (it_CG hw hr hg 5)
/-- with fewer left, no more wait -/
theorem hv_mono {B : Nat → Nat} {a b t : Nat} (h : ∀ i, a.testBit i = true → b.testBit i = true) : ∀ n, hvM B a t n ≤ hvM B b t n := by
  intro n
  induction n with
  | zero => exact Nat.le_refl _
  | succ n ih =>
    rw [hvM_s, hvM_s]
    by_cases c : a / 2 ^ n % 2 = 1
    · rw [if_pos c, if_pos ((tb _ _).mpr (h n ((tb _ _).mp c)))]; omega
    · rw [if_neg c]; omega
theorem rndM_tb {B : Nat → Nat} {l i : Nat} : ∀ n, (rndM B l n).testBit i = true ↔ (l.testBit i = true ∧ (i < n → ¬ doneM B l i (B 0))) := by
  intro n
  induction n with
  | zero => exact ⟨fun z => ⟨z, fun y => absurd y (Nat.not_lt_zero _)⟩, fun z => z.1⟩
  | succ n ih =>
    rw [rndM_s]
    by_cases c : doneM B l n (B 0)
    · rw [if_pos (pB_t.mpr c), andn_tb, Bool.and_eq_true, ih]
      constructor
      · rintro ⟨⟨z1, z2⟩, z3⟩
        refine ⟨z1, fun y => ?_⟩
        rcases Nat.lt_succ_iff_lt_or_eq.mp y with q | q
        · exact z2 q
        · subst q; rw [Nat.testBit_two_pow_self] at z3; cases z3
      · rintro ⟨z1, z2⟩
        refine ⟨⟨z1, fun y => z2 (by omega)⟩, ?_⟩
        by_cases e : i = n
        · subst e; exact absurd c (z2 (by omega))
        · rw [Nat.testBit_two_pow_of_ne (Ne.symm e)]; rfl
    · rw [if_neg (fun z => c (pB_t.mp z)), ih]
      constructor
      · rintro ⟨z1, z2⟩
        refine ⟨z1, fun y => ?_⟩
        rcases Nat.lt_succ_iff_lt_or_eq.mp y with q | q
        · exact z2 q
        · rw [q]; exact c
      · rintro ⟨z1, z2⟩; exact ⟨z1, fun y => z2 (by omega)⟩
theorem brk_all {B : Nat → Nat} : stuckM B (stuckM B 0 5) 5 = 0 := by
  have h31 := stuckM_le B 0 5
  have key : ∀ k, ∀ i, (stuckM B (stuckM B 0 5) k).testBit i = true → (stuckM B 0 k).testBit i = true ∧ (stuckM B 0 5).testBit i = false := by
    intro k
    induction k with
    | zero =>
      intro i hi
      have hi : (andn 31 (stuckM B 0 5)).testBit i = true := hi
      rw [andn_tb, Bool.and_eq_true] at hi
      refine ⟨?_, ?_⟩
      · show (andn 31 0).testBit i = true
        rw [andn_tb, hi.1, Nat.zero_testBit]; rfl
      · cases h : (stuckM B 0 5).testBit i with
        | false => rfl
        | true => rw [h] at hi; exact absurd hi.2 (by decide)
    | succ k ih =>
      intro i hi
      rw [stuckM_s, rndM_tb] at hi
      obtain ⟨a1, a2⟩ := ih i hi.1
      refine ⟨?_, a2⟩
      rw [stuckM_s, rndM_tb]
      refine ⟨a1, fun h5 z => hi.2 h5 (fun t ht => ?_)⟩
      rcases z t ht with y | y
      · exact Or.inl y
      · exact Or.inr (Nat.lt_of_le_of_lt (hv_mono (fun i q => (ih i q).1) 5) y)
  refine Nat.eq_of_testBit_eq (fun i => ?_)
  rw [Nat.zero_testBit]
  cases h : (stuckM B (stuckM B 0 5) 5).testBit i with
  | false => rfl
  | true =>
    obtain ⟨a1, a2⟩ := key 5 i h
    rw [a1] at a2; cases a2
theorem pop_5 : ∀ y, y < 32 → popN y < 6 := by decide +kernel
theorem RP_of {n0 : Nat} {c0 : Nat → Nat} {n1 : Nat} {c1 : Nat → Nat} {n2 : Nat} {c2 : Nat → Nat} {n3 : Nat} {c3 : Nat → Nat} {n4 : Nat} {c4 : Nat → Nat} {n5 : Nat} {c5 hs wf wt B : Nat → Nat} (h : Rep n0 c0 n1 c1 n2 c2 n3 c3 n4 c4 n5 c5 hs wf wt B) (hw : WB B) : RP n0 c0 hs wf B := by
  have h9 := h
  obtain ⟨⟨m0, -⟩, -, -, -, -, -, -, -, rp, -⟩ := h
  exact ⟨m0, fun t ht => eq_mayS h9 hw ht, fun p hp => (rp p hp).1, fun p hp => (rp p hp).2⟩
/-- STUCK and BREAK -/
theorem eq_stuck {n0 : Nat} {c0 : Nat → Nat} {n1 : Nat} {c1 : Nat → Nat} {n2 : Nat} {c2 : Nat → Nat} {n3 : Nat} {c3 : Nat → Nat} {n4 : Nat} {c4 : Nat → Nat} {n5 : Nat} {c5 hs wf wt B : Nat → Nat} (hR : Rep n0 c0 n1 c1 n2 c2 n3 c3 n4 c4 n5 c5 hs wf wt B) (hw : WB B) :
    stuckR n0 c0 hs wf 0 = stuckM B 0 5 ∧ leastM (breakP B (stuckM B 0 5)) (stuckM B 0 5 + 1) = leastF (brkB n0 c0 hs wf) (stuckR n0 c0 hs wf 0 + 1) (stuckR n0 c0 hs wf 0) 6 0 + 1 := by
  have hr := RP_of hR hw
  have e0 := stuck_eq hw hr (show 0 < 32 by omega)
  have h31 := stuckM_le B 0 5
  refine ⟨e0, ?_⟩
  rw [e0]
  refine least_eq (by omega) (fun x hx => ?_) ⟨stuckM B 0 5, by omega, (andn_0 _ _).mpr (fun i hi => hi), brk_all⟩ (fun y hy => pop_5 y (by omega))
  unfold brkB breakP
  rw [decide_eq_true_iff, e0, stuck_eq hw hr (show x < 32 by omega)]
