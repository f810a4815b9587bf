/-! round about: alike -/
theorem initW_at (F : Nat → Nat) (x : Nat) : ∀ n t, t < n → n ≤ 8 → initW F x n t = if x / 2 ^ t % 2 = 1 then 1 else 0 := by
  intro n
  induction n with
  | zero => intro t h; omega
  | succ n ih =>
    intro t h h8
    rw [initW_s]
    by_cases e : t = n
    · subst e
      rw [updN_s]
      by_cases b : x / 2 ^ t % 2 = 1
      · rw [if_pos ⟨by omega, b⟩, if_pos b]
      · rw [if_neg (fun z => b z.2), if_neg b]
    · rw [updN_n _ _ e]; exact ih t (by omega) (by omega)
/-- a row of the class and a row of the model -/
def UN (n : Nat) (G F : Nat → Nat) : Prop := ∀ t, t < n → F t = if G t = 0 then 100000 else G t
/-- the rules alike -/
def RU (n3 : Nat) (c3 B : Nat → Nat) : Prop := n3 = B 3 ∧ ∀ q, q < n3 → c3 (q * 4 + 0) = B (102 + 3 * q) ∧ c3 (q * 4 + 1) = B (102 + 3 * q + 1) ∧ c3 (q * 4 + 2) = B (102 + 3 * q + 2)
theorem UN_sum {c3 B G F : Nat → Nat} {n3 q : Nat} (hw : WB B) (hr : RU n3 c3 B) (hok : okF G) (hu : UN (B 0) G F) (hq : q < n3) :
    (sumW G c3 q = 0 ∧ 100000 ≤ F (B (102 + 3 * q + 1)) + F (B (102 + 3 * q + 2))) ∨ (0 < sumW G c3 q ∧ sumW G c3 q ≤ 512 ∧ sumW G c3 q = F (B (102 + 3 * q + 1)) + F (B (102 + 3 * q + 2)) ∧ ¬ G (B (102 + 3 * q + 1)) = 0 ∧ ¬ G (B (102 + 3 * q + 2)) = 0) := by
  have hv := hw.2.2.2.2.2.1 q (by have := hr.1; omega)
  have h8 := hw.1.1
  obtain ⟨-, r2, r3⟩ := hr.2 q hq
  have u1 := hu _ hv.2.1
  have u2 := hu _ hv.2.2.1
  have k1 := okF_256 hok (show B (102 + 3 * q + 1) < 8 by omega)
  have k2 := okF_256 hok (show B (102 + 3 * q + 2) < 8 by omega)
  unfold sumW
  rw [r2, r3]
  by_cases a : G (B (102 + 3 * q + 1)) = 0
  · rw [if_pos a] at u1
    left; refine ⟨if_neg (by omega), by omega⟩
  · by_cases b : G (B (102 + 3 * q + 2)) = 0
    · rw [if_pos b] at u2
      left; refine ⟨if_neg (by omega), by omega⟩
    · rw [if_neg a] at u1; rw [if_neg b] at u2
      right; rw [if_pos ⟨by omega, by omega⟩]; exact ⟨by omega, by omega, by omega, a, b⟩
theorem UN_step {c3 B G F : Nat → Nat} {n3 q ch : Nat} (hw : WB B) (hr : RU n3 c3 B) (hok : okF G) (hu : UN (B 0) G F) (hq : q < n3) : UN (B 0) (stW c3 q (G, ch)).1 (stepM B q F) ∧ okF (stW c3 q (G, ch)).1 ∧ ((stW c3 q (G, ch)).2 = 0 → ch = 0 ∧ (stW c3 q (G, ch)).1 = G) := by
  have hv := hw.2.2.2.2.2.1 q (by have := hr.1; omega)
  have h8 := hw.1.1
  obtain ⟨r1, r2, r3⟩ := hr.2 q hq
  have hs := UN_sum hw hr hok hu hq
  have u0 := hu _ hv.1
  have k0 := okF_256 hok (show B (102 + 3 * q) < 8 by omega)
  by_cases c : 0 < sumW G c3 q ∧ (G (c3 (q * 4 + 0)) = 0 ∨ sumW G c3 q < G (c3 (q * 4 + 0)))
  · have e1 : stW c3 q (G, ch) = (updN G (c3 (q * 4 + 0)) (sumW G c3 q), 1) := if_pos c
    have hs2 : 0 < sumW G c3 q ∧ sumW G c3 q ≤ 512 ∧ sumW G c3 q = F (B (102 + 3 * q + 1)) + F (B (102 + 3 * q + 2)) := by
      rcases hs with z | z
      · omega
      · exact ⟨z.1, z.2.1, z.2.2.1⟩
    have e2 : stepM B q F = updN F (B (102 + 3 * q)) (F (B (102 + 3 * q + 1)) + F (B (102 + 3 * q + 2))) := by
      refine if_pos ?_
      rw [r1] at c
      rcases c.2 with z | z
      · rw [if_pos z] at u0; omega
      · rw [if_neg (by omega)] at u0; omega
    rw [e1, e2, r1, ← hs2.2.2]
    dsimp only
    refine ⟨fun t ht => ?_, ?_, fun z => absurd z (by omega)⟩
    · by_cases e : t = B (102 + 3 * q)
      · rw [e, updN_s, updN_s, if_neg (by omega)]
      · rw [updN_n _ _ e, updN_n _ _ e]; exact hu t ht
    · rw [← r1]; exact okF_step hok (by omega) (by omega) (by omega) c
  · have e1 : stW c3 q (G, ch) = (G, ch) := if_neg c
    have e2 : stepM B q F = F := by
      refine if_neg (fun z => c ?_)
      rw [r1]
      rcases hs with y | y
      · by_cases g : G (B (102 + 3 * q)) = 0
        · rw [if_pos g] at u0; omega
        · rw [if_neg g] at u0; omega
      · refine ⟨y.1, ?_⟩
        by_cases g : G (B (102 + 3 * q)) = 0
        · exact Or.inl g
        · rw [if_neg g] at u0; right; omega
    rw [e1, e2]; exact ⟨hu, hok, fun z => ⟨z, rfl⟩⟩
theorem UN_rnd {c3 B G F : Nat → Nat} {n3 ch : Nat} (hw : WB B) (hr : RU n3 c3 B) (hok : okF G) (hu : UN (B 0) G F) : ∀ n, n ≤ n3 → UN (B 0) (rdW c3 n (G, ch)).1 (rndF B F n) ∧ okF (rdW c3 n (G, ch)).1 ∧ ((rdW c3 n (G, ch)).2 = 0 → ch = 0 ∧ (rdW c3 n (G, ch)).1 = G) := by
  intro n
  induction n with
  | zero => intro _; exact ⟨hu, hok, fun z => ⟨z, rfl⟩⟩
  | succ n ih =>
    intro hn
    obtain ⟨i1, i2, i3⟩ := ih (by omega)
    rw [rdW_s, rndF_s]
    rcases hx : rdW c3 n (G, ch) with ⟨G2, ch2⟩
    rw [hx] at i1 i2 i3
    obtain ⟨s1, s2, s3⟩ := UN_step (ch := ch2) hw hr i2 i1 (show n < n3 by omega)
    refine ⟨s1, s2, fun z => ?_⟩
    obtain ⟨z1, z2⟩ := s3 z
    obtain ⟨z3, z4⟩ := i3 z1
    exact ⟨z3, z2.trans z4⟩
theorem UN_run {c3 B F0 : Nat → Nat} {n3 : Nat} (hw : WB B) (hr : RU n3 c3 B) : ∀ k G ch j, okF G → UN (B 0) G (fewM B F0 j) → (ch = 0 → ∀ i, UN (B 0) G (fewM B F0 (j + i))) → UN (B 0) (runW n3 c3 k G ch) (fewM B F0 (j + k)) ∧ okF (runW n3 c3 k G ch) := by
  intro k
  induction k with
  | zero => intro G ch j h1 h2 _; exact ⟨h2, h1⟩
  | succ k ih =>
    intro G ch j h1 h2 h3
    by_cases c : ch = 0
    · rw [runW_e c]; exact ⟨h3 c (k + 1), h1⟩
    · obtain ⟨s1, s2, s3⟩ := UN_rnd (ch := 0) hw hr h1 h2 n3 (Nat.le_refl _)
      rcases hx : rdW c3 n3 (G, 0) with ⟨G2, ch2⟩
      rw [hx] at s1 s2 s3
      rw [runW_s c hx.symm, show j + (k + 1) = (j + 1) + k from by omega]
      have s1' : UN (B 0) G2 (fewM B F0 (j + 1)) := by rw [fewM_s, ← hr.1]; exact s1
      refine ih G2 ch2 (j + 1) s2 s1' (fun z i => ?_)
      have e : G2 = G := (s3 z).2
      subst e
      induction i with
      | zero => exact s1'
      | succ i ii =>
        have t1 := (UN_rnd (ch := 0) hw hr s2 ii n3 (Nat.le_refl _)).1
        rw [hx] at t1
        rw [show j + 1 + (i + 1) = (j + 1 + i) + 1 from by omega, fewM_s, ← hr.1]; exact t1
theorem UN_init {B : Nat → Nat} (hw : WB B) (F fw : Nat → Nat) (x : Nat) : UN (B 0) (initW F x 8) (initM fw x (B 0)) := by
  intro t ht
  have h8 := hw.1.1
  rw [initM_at fw x (B 0) t ht, initW_at F x 8 t (by omega) (Nat.le_refl _)]
  by_cases b : x / 2 ^ t % 2 = 1
  · rw [if_pos b, if_pos b]; rfl
  · rw [if_neg b, if_neg b]; rfl
/-- what the class weighs is what the model finds -/
theorem weigh_few {c3 B F fw : Nat → Nat} {n3 : Nat} (hw : WB B) (hr : RU n3 c3 B) (hF : ∀ j, F j < 1048576) (x : Nat) : UN (B 0) (weighS n3 c3 F x) (fewS B fw x) ∧ okF (weighS n3 c3 F x) := by
  have h := UN_run (F0 := initM fw x (B 0)) hw hr 8 (initW F x 8) 1 0 (okF_init hF x) (UN_init hw F fw x) (fun z => absurd z (by decide))
  refine ⟨fun t ht => ?_, h.2⟩
  have hi := init_pe (B := B) fw x
  have e : fewS B fw x t = fewM B (initM fw x (B 0)) 8 t := few_done hw hi.1 hi.2 (few_init fw x) 8 (by omega) t ht
  rw [e]
  exact h.1 t ht
theorem RU_of {n0 : Nat} {c0 : Nat → Nat} {n1 : Nat} {c1 : Nat → Nat} {n2 : Nat} {c2 : Nat → Nat} {n3 : Nat} {c3 : Nat → Nat} {n4 : Nat} {c4 : Nat → Nat} {n5 : Nat} {c5 hs wf wt B : Nat → Nat} (h : Rep n0 c0 n1 c1 n2 c2 n3 c3 n4 c4 n5 c5 hs wf wt B) : RU n3 c3 B := by
  obtain ⟨⟨m0, m1, m2, m3, m4, m5⟩, -, -, -, -, r3, -⟩ := h
  exact ⟨m3, fun q hq => r3 q (by omega)⟩
theorem fix_W {c3 B G F : Nat → Nat} {n3 : Nat} (hw : WB B) (hr : RU n3 c3 B) (hok : okF G) (hu : UN (B 0) G F) (hx : fixM B F) : fixW (B 0) n3 c3 G := by
  intro t ht h1
  have h8 := hw.1.1
  have u := hu t ht
  have k := okF_256 hok (show t < 8 by omega)
  rw [if_neg (by omega)] at u
  obtain ⟨q, g1, g2, g3⟩ := (hx t ht).2.2.2 (by omega) (by omega)
  have hq : q < n3 := by have := hr.1; omega
  refine ⟨q, hq, by rw [(hr.2 q hq).1]; exact g2, ?_⟩
  rcases UN_sum hw hr hok hu hq with z | z
  · omega
  · omega
theorem ffN_congr {p q : Nat → Bool} : ∀ n k, (∀ j, k ≤ j → j < k + n → p j = q j) → ffN p n k = ffN q n k := by
  intro n
  induction n with
  | zero => intro k _; rfl
  | succ n ih =>
    intro k h
    unfold ffN
    rw [h k (Nat.le_refl _) (by omega), ih (k + 1) (fun j h1 h2 => h j (by omega) (by omega))]
theorem rul_eq {c3 B G F : Nat → Nat} {n3 t : Nat} (hw : WB B) (hr : RU n3 c3 B) (hok : okF G) (hu : UN (B 0) G F) (ht : t < B 0) (h0 : ¬ G t = 0) : ffN (rulB G c3 t) n3 0 = rlM B F t := by
  unfold rlM
  rw [← hr.1]
  refine ffN_congr n3 0 (fun q _ hq => ?_)
  have h8 := hw.1.1
  have hq : q < n3 := by omega
  have u := hu t ht
  have k := okF_256 hok (show t < 8 by omega)
  rw [if_neg h0] at u
  unfold rulB rulM
  rw [(hr.2 q hq).1]
  refine decide_eq_decide.mpr ?_
  rcases UN_sum hw hr hok hu hq with z | z
  · exact ⟨fun y => by omega, fun y => by omega⟩
  · exact ⟨fun y => ⟨y.1, by omega⟩, fun y => ⟨y.1, by omega⟩⟩
theorem leaf_eq {c3 B G F : Nat → Nat} {n3 : Nat} (hw : WB B) (hr : RU n3 c3 B) (hok : okF G) (hu : UN (B 0) G F) (hx : fixM B F) : ∀ k t i, t < B 0 → ¬ G t = 0 → leafW n3 c3 G k t i = leafM B F k t i := by
  have h8 := hw.1.1
  intro k
  induction k with
  | zero => intro t i _ _; rfl
  | succ k ih =>
    intro t i ht h0
    have u := hu t ht
    have k6 := okF_256 hok (show t < 8 by omega)
    rw [if_neg h0] at u
    by_cases h1 : 1 < G t
    · have e := rul_eq hw hr hok hu ht h0
      obtain ⟨g1, g2, g3, g4, g5⟩ := lrM_ok hw hx ht (show 1 < F t by omega) (by omega)
      obtain ⟨a1, -, -, -⟩ := rlM_ok hx ht (show 1 < F t by omega) (by omega)
      have hq : rlM B F t < n3 := by have := hr.1; omega
      have el : c3 (rlM B F t * 4 + 1) = lftM B F t := (hr.2 _ hq).2.1
      have e2 : c3 (rlM B F t * 4 + 2) = rgtM B F t := (hr.2 _ hq).2.2
      have ul := hu _ g1
      have ur := hu _ g2
      have nl : ¬ G (lftM B F t) = 0 := fun z => by rw [if_pos z] at ul; omega
      have nr : ¬ G (rgtM B F t) = 0 := fun z => by rw [if_pos z] at ur; omega
      rw [if_neg nl] at ul
      rw [leafM_s (show 1 < F t by omega)]
      by_cases hi : i < G (lftM B F t)
      · rw [leafW_1 h1 e.symm (by rw [el]; exact hi), el, if_pos (by omega)]
        exact ih _ _ g1 nl
      · rw [leafW_2 h1 e.symm (by rw [el]; exact hi), el, e2, if_neg (by omega), ul]
        exact ih _ _ g2 nr
    · rw [leafW_e h1, leafM_e (by omega)]
/-- ROUND ABOUT -/
theorem eq_round {n0 : Nat} {c0 : Nat → Nat} {n1 : Nat} {c1 : Nat → Nat} {n2 : Nat} {c2 : Nat → Nat} {n3 : Nat} {c3 : Nat → Nat} {n4 : Nat} {c4 : Nat → Nat} {n5 : Nat} {c5 hs wf wt B F fw : Nat → Nat} (hR : Rep n0 c0 n1 c1 n2 c2 n3 c3 n4 c4 n5 c5 hs wf wt B) (hw : WB B) (hF : ∀ j, F j < 1048576) (x : Nat) :
    fixW n0 n3 c3 (weighS n3 c3 F x) ∧ ∀ t, t < n0 → (weighS n3 c3 F x t = 0 ↔ 100000 ≤ fewS B fw x t) ∧ (¬ weighS n3 c3 F x t = 0 → weighS n3 c3 F x t = fewS B fw x t ∧ ∀ i, leafW n3 c3 (weighS n3 c3 F x) 8 t i = lfM B (fewS B fw x) t i) := by
  have hr := RU_of hR
  have m0 : n0 = B 0 := hR.1.1
  obtain ⟨hu, hok⟩ := weigh_few (fw := fw) hw hr hF x
  have hx := fewS_fix hw fw x
  have h8 := hw.1.1
  subst m0
  refine ⟨fix_W hw hr hok hu hx, fun t ht => ?_⟩
  have u := hu t ht
  have k6 := okF_256 hok (show t < 8 by omega)
  by_cases c : weighS n3 c3 F x t = 0
  · rw [if_pos c] at u
    exact ⟨⟨fun _ => by omega, fun _ => c⟩, fun z => absurd c z⟩
  · rw [if_neg c] at u
    refine ⟨⟨fun z => absurd z c, fun z => by omega⟩, fun _ => ⟨u.symm, fun i => ?_⟩⟩
    rw [lfM_8 hw hx ht (by omega)]
    exact leaf_eq hw hr hok hu hx 8 t i ht c
