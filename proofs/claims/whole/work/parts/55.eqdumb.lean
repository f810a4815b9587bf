/-! the least bits of the fewest, bits, DUMB: alike -/
theorem tb (a i : Nat) : a / 2 ^ i % 2 = 1 ↔ a.testBit i = true := by rw [Nat.testBit_eq_decide_div_mod_eq, decide_eq_true_iff]
theorem tb0 (a i : Nat) : a / 2 ^ i % 2 = 0 ↔ a.testBit i = false := by
  rw [Nat.testBit_eq_decide_div_mod_eq, decide_eq_false_iff_not]; omega
theorem andn_tb (a b i : Nat) : (andn a b).testBit i = (a.testBit i && !b.testBit i) := by
  unfold andn
  rw [Nat.testBit_xor, Nat.testBit_and]
  cases a.testBit i <;> cases b.testBit i <;> rfl
theorem andn_0 (a b : Nat) : andn a b = 0 ↔ ∀ i, a.testBit i = true → b.testBit i = true := by
  constructor
  · intro h i hi
    have e := andn_tb a b i
    rw [h, Nat.zero_testBit, hi] at e
    cases hb : b.testBit i with
    | true => rfl
    | false => rw [hb] at e; cases e
  · intro h
    refine Nat.eq_of_testBit_eq (fun i => ?_)
    rw [andn_tb, Nat.zero_testBit]
    cases ha : a.testBit i with
    | false => rfl
    | true => rw [h i ha]; rfl
theorem tb_lt {x n i : Nat} (h : x < 2 ^ n) (hi : x.testBit i = true) : i < n := by
  rcases Nat.lt_or_ge i n with z | z
  · exact z
  · rw [Nat.testBit_lt_two_pow (Nat.lt_of_lt_of_le h (Nat.pow_le_pow_right (by omega) z))] at hi; cases hi
theorem tb_pw (t i : Nat) : (2 ^ t).testBit i = true ↔ t = i := by rw [Nat.testBit_two_pow, decide_eq_true_iff]
theorem tb_or (a b i : Nat) : (a ||| b).testBit i = true ↔ (a.testBit i = true ∨ b.testBit i = true) := by rw [Nat.testBit_or, Bool.or_eq_true]
def minP (Q : Nat → Prop) (N x : Nat) : Prop := x < N ∧ Q x ∧ ∀ y, y < N → Q y → popM x 10 < popM y 10 ∨ (popM x 10 = popM y 10 ∧ x ≤ y)
theorem minP_u {Q : Nat → Prop} {N x y : Nat} (h1 : minP Q N x) (h2 : minP Q N y) : x = y := by
  have a := h1.2.2 y h2.1 h2.2.1
  have b := h2.2.2 x h1.1 h1.2.1
  omega
theorem leastM_char (Q : Nat → Prop) : ∀ n, (leastM Q n = 0 ∧ ∀ y, y < n → ¬ Q y) ∨ ∃ x, leastM Q n = x + 1 ∧ minP Q n x := by
  intro n
  induction n with
  | zero => exact Or.inl ⟨rfl, fun y h => absurd h (Nat.not_lt_zero _)⟩
  | succ n ih =>
    rw [leastM_s]
    rcases ih with ⟨e, h⟩ | ⟨x, e, h1, h2, h3⟩
    · by_cases q : Q n
      · rw [if_pos (pB_t.mpr ⟨Or.inl e, q⟩)]
        refine Or.inr ⟨n, rfl, by omega, q, fun y hy hQ => ?_⟩
        rcases Nat.lt_succ_iff_lt_or_eq.mp hy with z | z
        · exact absurd hQ (h y z)
        · exact Or.inr ⟨by rw [z], by omega⟩
      · rw [if_neg (fun z => q (pB_t.mp z).2)]
        refine Or.inl ⟨e, fun y hy => ?_⟩
        rcases Nat.lt_succ_iff_lt_or_eq.mp hy with z | z
        · exact h y z
        · rw [z]; exact q
    · by_cases q : bestB Q n (leastM Q n)
      · rw [if_pos (pB_t.mpr q)]
        have hb : popM n 10 < popM x 10 := by
          rcases q.1 with z | z
          · omega
          · rw [e, Nat.add_sub_cancel] at z; exact z
        refine Or.inr ⟨n, rfl, by omega, q.2, fun y hy hQ => ?_⟩
        rcases Nat.lt_succ_iff_lt_or_eq.mp hy with z | z
        · have := h3 y z hQ; omega
        · exact Or.inr ⟨by rw [z], by omega⟩
      · rw [if_neg (fun z => q (pB_t.mp z))]
        refine Or.inr ⟨x, e, by omega, h2, fun y hy hQ => ?_⟩
        rcases Nat.lt_succ_iff_lt_or_eq.mp hy with z | z
        · exact h3 y z hQ
        · have hn : ¬ popM n 10 < popM x 10 := fun c => q ⟨Or.inr (by rw [e, Nat.add_sub_cancel]; exact c), by rw [← z]; exact hQ⟩
          rw [z]; omega
theorem leastK_char {P : Nat → Bool} {k : Nat} : ∀ n x0, (leastK P k n x0 = 0 ∧ ∀ y, x0 ≤ y → y < x0 + n → ¬ (P y = true ∧ popN y = k)) ∨ ∃ y, leastK P k n x0 = y + 1 ∧ x0 ≤ y ∧ y < x0 + n ∧ P y = true ∧ popN y = k ∧ ∀ z, x0 ≤ z → z < y → ¬ (P z = true ∧ popN z = k) := by
  intro n
  induction n with
  | zero => intro x0; exact Or.inl ⟨rfl, fun y h1 h2 => by omega⟩
  | succ n ih =>
    intro x0
    by_cases c : P x0 = true ∧ popN x0 = k
    · rw [leastK_1 c]; exact Or.inr ⟨x0, rfl, Nat.le_refl _, by omega, c.1, c.2, fun z h1 h2 => by omega⟩
    · rw [leastK_2 c]
      rcases ih (x0 + 1) with ⟨e, h⟩ | ⟨y, e, h1, h2, h3, h4, h5⟩
      · refine Or.inl ⟨e, fun y h1 h2 => ?_⟩
        rcases Nat.lt_or_ge x0 y with z | z
        · exact h y (by omega) (by omega)
        · rw [show y = x0 from by omega]; exact c
      · refine Or.inr ⟨y, e, by omega, by omega, h3, h4, fun z g1 g2 => ?_⟩
        rcases Nat.lt_or_ge x0 z with q | q
        · exact h5 z (by omega) g2
        · rw [show z = x0 from by omega]; exact c
theorem leastF_char {P : Nat → Bool} {N no : Nat} : ∀ f k, (∃ y, y < N ∧ P y = true ∧ popN y < k + f) → (∀ y, y < N → P y = true → k ≤ popN y) → leastF P N no f k < N ∧ P (leastF P N no f k) = true ∧ ∀ y, y < N → P y = true → popN (leastF P N no f k) < popN y ∨ (popN (leastF P N no f k) = popN y ∧ leastF P N no f k ≤ y) := by
  intro f
  induction f with
  | zero => rintro k ⟨y, h1, h2, h3⟩ h; have := h y h1 h2; omega
  | succ f ih =>
    rintro k ⟨y, h1, h2, h3⟩ h
    rcases leastK_char (P := P) (k := k) N 0 with ⟨e, g⟩ | ⟨x, e, g1, g2, g3, g4, g5⟩
    · rw [leastF_2 e]
      have hk : ∀ z, z < N → P z = true → k + 1 ≤ popN z := fun z z1 z2 => by
        have a := h z z1 z2
        have b : ¬ popN z = k := fun q => g z (Nat.zero_le _) (by omega) ⟨z2, q⟩
        omega
      exact ih (k + 1) ⟨y, h1, h2, by omega⟩ hk
    · rw [leastF_1 e]
      refine ⟨by omega, g3, fun z z1 z2 => ?_⟩
      have a := h z z1 z2
      by_cases b : popN z = k
      · refine Or.inr ⟨by omega, ?_⟩
        rcases Nat.lt_or_ge z x with q | q
        · exact absurd ⟨z2, b⟩ (g5 z (Nat.zero_le _) q)
        · exact q
      · left; omega
theorem least_eq {P : Nat → Bool} {Q : Nat → Prop} {N no f : Nat} (hN : N ≤ 256) (hPQ : ∀ x, x < N → (P x = true ↔ Q x)) (hex : ∃ y, y < N ∧ Q y) (hf : ∀ y, y < N → popN y < f) : leastM Q N = leastF P N no f 0 + 1 := by
  obtain ⟨y, y1, y2⟩ := hex
  have c := leastF_char (P := P) (N := N) (no := no) f 0 ⟨y, y1, (hPQ y y1).mpr y2, by have := hf y y1; omega⟩ (fun _ _ _ => Nat.zero_le _)
  obtain ⟨c1, c2, c3⟩ := c
  have m : minP Q N (leastF P N no f 0) := ⟨c1, (hPQ _ c1).mp c2, fun z z1 z2 => by
    have c4 := c3 z z1 ((hPQ z z1).mpr z2)
    rw [popN_M _ (show leastF P N no f 0 < 256 by omega), popN_M z (by omega)] at c4; exact c4⟩
  rcases leastM_char Q N with ⟨e, h⟩ | ⟨x, e, h⟩
  · exact absurd y2 (h y y1)
  · rw [e, minP_u h m]
/-- bits of what can be said -/
def BT (n g : Nat) (F : Nat → Nat) : Prop := g < 2 ^ n ∧ ∀ t, t < n → (g.testBit t = true ↔ F t < 100000)
def SYN (n3 : Nat) (c3 sy nd : Nat → Nat) : Prop := ∀ q, q < n3 → sy q = 2 ^ c3 (q * 4 + 0) ∧ nd q = 2 ^ c3 (q * 4 + 1) ||| 2 ^ c3 (q * 4 + 2)
theorem BT_step {c3 B G F sy nd : Nat → Nat} {n3 q g : Nat} (hw : WB B) (hr : RU n3 c3 B) (hs : SYN n3 c3 sy nd) (hok : okF G) (hu : UN (B 0) G F) (hb : BT (B 0) g F) (hq : q < n3) : BT (B 0) (if andn (nd q) g = 0 then g ||| sy q else g) (stepM B q F) := by
  have hv := hw.2.2.2.2.2.1 q (by have := hr.1; omega)
  have h8 := hw.1.1
  obtain ⟨r1, r2, r3⟩ := hr.2 q hq
  obtain ⟨s1, s2⟩ := hs q hq
  rw [r1] at s1
  rw [r2, r3] at s2
  have u0 := hu _ hv.1
  have u1 := hu _ hv.2.1
  have u2 := hu _ hv.2.2.1
  have k0 := okF_256 hok (show B (102 + 3 * q) < 8 by omega)
  have k1 := okF_256 hok (show B (102 + 3 * q + 1) < 8 by omega)
  have k2 := okF_256 hok (show B (102 + 3 * q + 2) < 8 by omega)
  have b1 := hb.2 _ hv.2.1
  have b2 := hb.2 _ hv.2.2.1
  have hc : andn (nd q) g = 0 ↔ (F (B (102 + 3 * q + 1)) < 100000 ∧ F (B (102 + 3 * q + 2)) < 100000) := by
    rw [andn_0, s2]
    constructor
    · intro z
      exact ⟨b1.mp (z _ ((tb_or _ _ _).mpr (Or.inl ((tb_pw _ _).mpr rfl)))), b2.mp (z _ ((tb_or _ _ _).mpr (Or.inr ((tb_pw _ _).mpr rfl))))⟩
    · intro z i hi
      rcases (tb_or _ _ _).mp hi with y | y
      · rw [← (tb_pw _ _).mp y]; exact b1.mpr z.1
      · rw [← (tb_pw _ _).mp y]; exact b2.mpr z.2
  have hp0 : F (B (102 + 3 * q)) ≤ 100000 := by rw [u0]; split <;> omega
  by_cases c : andn (nd q) g = 0
  · rw [if_pos c]
    have hf := hc.mp c
    have hsum : F (B (102 + 3 * q + 1)) + F (B (102 + 3 * q + 2)) ≤ 512 := by
      by_cases z1 : G (B (102 + 3 * q + 1)) = 0
      · rw [if_pos z1] at u1; omega
      · by_cases z2 : G (B (102 + 3 * q + 2)) = 0
        · rw [if_pos z2] at u2; omega
        · rw [if_neg z1] at u1; rw [if_neg z2] at u2; omega
    refine ⟨Nat.or_lt_two_pow hb.1 (by rw [s1]; exact Nat.pow_lt_pow_right (by omega) hv.1), fun t ht => ?_⟩
    rw [tb_or, s1, tb_pw]
    by_cases e : t = B (102 + 3 * q)
    · have hl : stepM B q F t < 100000 := by have := stepM_sum B F q; rw [e]; omega
      exact ⟨fun _ => hl, fun _ => Or.inr e.symm⟩
    · have hl : stepM B q F t = F t := by
        unfold stepM
        split
        · exact updN_n _ _ e
        · rfl
      rw [hl]
      exact ⟨fun z => (by rcases z with z | z; exact (hb.2 t ht).mp z; exact absurd z.symm e), fun z => Or.inl ((hb.2 t ht).mpr z)⟩
  · rw [if_neg c]
    have e : stepM B q F = F := by
      refine if_neg (fun z => c (hc.mpr ?_))
      omega
    rw [e]; exact hb
theorem BT_rnd {c3 B G F sy nd : Nat → Nat} {n3 g : Nat} (hw : WB B) (hr : RU n3 c3 B) (hs : SYN n3 c3 sy nd) (hok : okF G) (hu : UN (B 0) G F) (hb : BT (B 0) g F) : ∀ n, n ≤ n3 → BT (B 0) (sgo sy nd n g) (rndF B F n) := by
  intro n
  induction n with
  | zero => intro _; exact hb
  | succ n ih =>
    intro hn
    obtain ⟨i1, i2, -⟩ := UN_rnd (ch := 0) hw hr hok hu n (by omega)
    rw [sgo_s, rndF_s]
    exact BT_step hw hr hs i2 i1 (ih (by omega)) (by omega)
theorem BT_run {c3 B F0 sy nd : Nat → Nat} {n3 : Nat} (hw : WB B) (hr : RU n3 c3 B) (hs : SYN n3 c3 sy nd) (hUN : ∀ j, ∃ G, okF G ∧ UN (B 0) G (fewM B F0 j)) : ∀ k g bf j, BT (B 0) g (fewM B F0 j) → (g + 1 = bf → ∀ i, BT (B 0) g (fewM B F0 (j + i))) → BT (B 0) (rnS sy nd n3 k g bf) (fewM B F0 (j + k)) := by
  intro k
  induction k with
  | zero => intro g bf j h1 _; exact h1
  | succ k ih =>
    intro g bf j h1 h2
    by_cases c : g + 1 = bf
    · rw [rnS_e _ _ _ _ _ _ c]; exact h2 c (k + 1)
    · rw [rnS_s _ _ _ _ _ _ c, show j + (k + 1) = (j + 1) + k from by omega]
      have st : ∀ i h, BT (B 0) h (fewM B F0 i) → BT (B 0) (sgo sy nd n3 h) (fewM B F0 (i + 1)) := fun i h hb => by
        obtain ⟨G, g1, g2⟩ := hUN i
        rw [fewM_s, ← hr.1]
        exact BT_rnd hw hr hs g1 g2 hb n3 (Nat.le_refl _)
      refine ih _ _ (j + 1) (st j g h1) (fun z i => ?_)
      have e : sgo sy nd n3 g = g := by omega
      rw [e]
      have s0 := st j g h1
      rw [e] at s0
      induction i with
      | zero => exact s0
      | succ i ii =>
        have s1 := st (j + 1 + i) g ii
        rw [e] at s1
        exact s1
theorem UN_ex {c3 B : Nat → Nat} {n3 : Nat} (hw : WB B) (hr : RU n3 c3 B) (fw : Nat → Nat) (x : Nat) : ∀ j, ∃ G, okF G ∧ UN (B 0) G (fewM B (initM fw x (B 0)) j) := by
  intro j
  induction j with
  | zero => exact ⟨initW z0 x 8, okF_init (fun _ => by show (0 : Nat) < _; omega) x, UN_init hw z0 fw x⟩
  | succ j ih =>
    obtain ⟨G, g1, g2⟩ := ih
    obtain ⟨s1, s2, -⟩ := UN_rnd (ch := 0) hw hr g1 g2 n3 (Nat.le_refl _)
    exact ⟨_, s2, by rw [fewM_s, ← hr.1]; exact s1⟩
theorem BT_all {c3 B sy nd : Nat → Nat} {n3 : Nat} (hw : WB B) (hr : RU n3 c3 B) (hs : SYN n3 c3 sy nd) (fw : Nat → Nat) {x : Nat} (hx : x < 2 ^ B 0) : BT (B 0) (rnS sy nd n3 9 x 0) (fewS B fw x) := by
  have h := BT_run (F0 := initM fw x (B 0)) hw hr hs (UN_ex hw hr fw x) 9 x 0 0 ⟨hx, fun t ht => ?_⟩ (fun z => absurd z (by omega))
  · exact h
  · rw [fewM_0, initM_at fw x (B 0) t ht]
    by_cases b : x / 2 ^ t % 2 = 1
    · rw [if_pos b]; exact ⟨fun _ => by omega, fun _ => (tb _ _).mp b⟩
    · rw [if_neg b]; exact ⟨fun z => absurd ((tb _ _).mpr z) b, fun z => by omega⟩
theorem few_none {B : Nat → Nat} (hw : WB B) (fw : Nat → Nat) : ∀ t, t < B 0 → ¬ fewS B fw 0 t < 100000 := by
  have h0 : ∀ t, t < B 0 → initM fw 0 (B 0) t = 100000 := fun t ht => by rw [initM_at fw 0 (B 0) t ht, if_neg (by rw [Nat.zero_div]; decide)]
  have hr : ∀ F : Nat → Nat, (∀ t, t < B 0 → F t = 100000) → ∀ n, n ≤ B 3 → ∀ t, t < B 0 → rndF B F n t = 100000 := by
    intro F hF n
    induction n with
    | zero => intro _; exact hF
    | succ n ih =>
      intro hn t ht
      have i := ih (by omega)
      have hv := hw.2.2.2.2.2.1 n (by omega)
      rw [rndF_s]
      unfold stepM
      rw [if_neg (by rw [i _ hv.2.1, i _ hv.1]; omega)]
      exact i t ht
  have hk : ∀ k t, t < B 0 → fewM B (initM fw 0 (B 0)) k t = 100000 := by
    intro k
    induction k with
    | zero => exact h0
    | succ k ih => rw [fewM_s]; exact hr _ ih _ (Nat.le_refl _)
  intro t ht z
  have := hk 9 t ht
  unfold fewS at z
  omega
theorem canS_tb {B F : Nat → Nat} {k : Nat} (hw : WB B) (hk : k < B 5) {sa : Nat} (hb : BT (B 0) sa F) : canS B F k (B 0) ↔ andn (B (196 + 2 * k)) sa = 0 := by
  have hv := hw.2.2.2.2.2.2.2.1 k hk
  rw [andn_0]
  unfold canS
  constructor
  · intro z i hi
    have ht := tb_lt hv.2.1 hi
    rcases z i ht with y | y
    · rw [tb0, hi] at y; cases y
    · exact (hb.2 i ht).mpr y
  · intro z t ht
    cases h : (B (196 + 2 * k)).testBit t with
    | false => exact Or.inl ((tb0 _ _).mpr h)
    | true => exact Or.inr ((hb.2 t ht).mp (z t h))
/-- DUMB -/
theorem eq_dumb {n0 : Nat} {c0 : Nat → Nat} {n1 : Nat} {c1 : Nat → Nat} {n2 : Nat} {c2 : Nat → Nat} {n3 : Nat} {c3 : Nat → Nat} {n4 : Nat} {c4 : Nat → Nat} {n5 : Nat} {c5 hs wf wt B sy nd : Nat → Nat} (hR : Rep n0 c0 n1 c1 n2 c2 n3 c3 n4 c4 n5 c5 hs wf wt B) (hw : WB B) (m9 : Nat) :
    leastM (dumbS B z0 m9) (2 ^ B 0) = leastF (dmbB n0 n3 c3 sy nd n5 c5 m9) (2 ^ n0) (2 ^ n0 - 1) 9 0 + 1 := by
  have hr := RU_of hR
  obtain ⟨⟨m0, m1, m2, m3, m4, m5⟩, -, -, -, -, -, -, r5, -, -⟩ := hR
  have h8 := hw.1.1
  have hp := p256 h8
  subst m0; subst m5
  have hs : SYN n3 c3 (cpTo sy 0 (syC c3) n3) (cpTo nd 0 (ndC c3) n3) := fun q hq => by
    unfold cpTo
    rw [if_pos (by omega), if_pos (by omega)]
    exact ⟨rfl, rfl⟩
  have hxl : ∀ x, andn (2 ^ B 0 - 1) x < 2 ^ B 0 := fun x => by have := andn_le (2 ^ B 0 - 1) x; omega
  have key : ∀ x, x < 2 ^ B 0 → (dmbB (B 0) n3 c3 sy nd (B 5) c5 m9 x = true ↔ dumbS B z0 m9 x) := by
    intro x _
    unfold dmbB dumbS
    rw [pB_t]
    have hb := BT_all hw hr hs z0 (hxl x)
    unfold dumbC dumbP
    constructor
    · intro z k hk y
      refine z k hk ⟨⟨by have := hw.1.2.2.2.2.2; omega, y.1⟩, ?_⟩
      rw [(r5 k hk).1]; exact (canS_tb hw hk hb).mp y.2
    · intro z k hk y
      refine z k hk ⟨y.1.2, (canS_tb hw hk hb).mpr ?_⟩
      rw [← (r5 k hk).1]; exact y.2
  refine least_eq hp.2 key ⟨2 ^ B 0 - 1, by omega, ?_⟩ (fun y hy => by have := popN_le y; omega)
  unfold dumbS dumbP
  intro k hk y
  have e0 : andn (2 ^ B 0 - 1) (2 ^ B 0 - 1) = 0 := (andn_0 _ _).mpr (fun i hi => hi)
  rw [e0] at y
  have hv := hw.2.2.2.2.2.2.2.1 k hk
  obtain ⟨i, hi⟩ := Nat.exists_testBit_of_ne_zero (show B (196 + 2 * k) ≠ 0 by omega)
  have ht := tb_lt hv.2.1 hi
  rcases y.2 i ht with z | z
  · rw [tb0, hi] at z; cases z
  · exact few_none hw z0 i ht z
