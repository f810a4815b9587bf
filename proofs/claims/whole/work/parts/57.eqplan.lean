/-! PLAN: alike -/
/-- the first of the most, over some codes -/
noncomputable def selF (C : Nat → Prop) (M : Nat → Nat) (D : Nat → Nat → Nat) (c0 : Nat) : Nat → Nat × (Nat → Nat) → Nat × (Nat → Nat)
  | 0, x => x
  | n + 1, x => if pB ((selF C M D c0 n x).1 < M (c0 + n) + 1 ∧ C (c0 + n)) = true then (M (c0 + n) + 1, D (c0 + n)) else selF C M D c0 n x
section SELF
variable {C : Nat → Prop} {M : Nat → Nat} {D : Nat → Nat → Nat}
theorem selF_s (c0 n : Nat) (x : Nat × (Nat → Nat)) : selF C M D c0 (n + 1) x = if pB ((selF C M D c0 n x).1 < M (c0 + n) + 1 ∧ C (c0 + n)) = true then (M (c0 + n) + 1, D (c0 + n)) else selF C M D c0 n x := rfl
theorem selF_add (c0 n : Nat) (x : Nat × (Nat → Nat)) : ∀ m, selF C M D c0 (n + m) x = selF C M D (c0 + n) m (selF C M D c0 n x) := by
  intro m
  induction m with
  | zero => rfl
  | succ m ih => rw [show n + (m + 1) = (n + m) + 1 from rfl, selF_s, selF_s, ih, show c0 + (n + m) = c0 + n + m from by omega]
theorem selF_none {c0 : Nat} {x : Nat × (Nat → Nat)} : ∀ n, (∀ c, c0 ≤ c → c < c0 + n → ¬ (x.1 < M c + 1 ∧ C c)) → selF C M D c0 n x = x := by
  intro n
  induction n with
  | zero => intro _; rfl
  | succ n ih =>
    intro h
    rw [selF_s, ih (fun c h1 h2 => h c h1 (by omega)), if_neg (fun z => h (c0 + n) (by omega) (by omega) (pB_t.mp z))]
theorem selF_fst {c0 : Nat} {x y : Nat × (Nat → Nat)} (e : x.1 = y.1) : ∀ n, (selF C M D c0 n x).1 = (selF C M D c0 n y).1 := by
  intro n
  induction n with
  | zero => exact e
  | succ n ih =>
    rw [selF_s, selF_s, ih]
    split
    · rfl
    · exact ih
theorem selF_one {c0 : Nat} {x : Nat × (Nat → Nat)} (h : x.1 < M c0 + 1) (hc : C c0) : selF C M D c0 1 x = (M c0 + 1, D c0) := by
  rw [selF_s]; exact if_pos (pB_t.mpr ⟨h, hc⟩)
end SELF
def EqB (N : Nat) (b b2 : Nat → Nat) : Prop := ∀ w, w < N → b w = b2 w
def Wl (B : Nat → Nat) (N : Nat) : Nat → Nat
  | 0 => 1
  | j + 1 => Wl B N j * eachS B (N - 1 - j)
theorem Wl_s (B : Nat → Nat) (N j : Nat) : Wl B N (j + 1) = Wl B N j * eachS B (N - 1 - j) := rfl
theorem Wl_pos (B : Nat → Nat) (N : Nat) : ∀ j, 0 < Wl B N j := by
  intro j
  induction j with
  | zero => exact Nat.zero_lt_one
  | succ j ih => rw [Wl_s]; exact Nat.mul_pos ih (by unfold eachS; omega)
theorem Wl_add (B : Nat → Nat) (N j : Nat) : ∀ d, ∃ X, Wl B N (j + d) = Wl B N j * X := by
  intro d
  induction d with
  | zero => exact ⟨1, (Nat.mul_one _).symm⟩
  | succ d ih =>
    obtain ⟨X, e⟩ := ih
    exact ⟨X * eachS B (N - 1 - (j + d)), by rw [show j + (d + 1) = (j + d) + 1 from rfl, Wl_s, e, Nat.mul_assoc]⟩
theorem dL_W (B : Nat → Nat) (N code : Nat) : ∀ i, dL B N code i = code / Wl B N i := by
  intro i
  induction i with
  | zero => exact (Nat.div_one code).symm
  | succ i ih => rw [dL_s, ih, Wl_s, Nat.div_div_eq_div_mul]
theorem ways_W (B : Nat → Nat) (N : Nat) : ∀ n, n ≤ N → waysS B n * Wl B N (N - n) = Wl B N N := by
  intro n
  induction n with
  | zero => intro _; rw [Nat.sub_zero]; exact Nat.one_mul _
  | succ n ih =>
    intro h
    rw [← ih (by omega), waysS_s, show N - n = (N - (n + 1)) + 1 from by omega, Wl_s, show N - 1 - (N - (n + 1)) = n from by omega, Nat.mul_assoc]
    exact congrArg _ (Nat.mul_comm _ _)
/-- the plan of a code -/
def pnD (B : Nat → Nat) (N code w : Nat) : Nat := hourC B (code / Wl B N (N - 1 - w)) w
theorem dH_D {B : Nat → Nat} {N code : Nat} {h : Nat → Nat} : ∀ i, i ≤ N → ∀ w, w < N → dH B N code h i w = if N - i ≤ w then pnD B N code w else h w := by
  intro i
  induction i with
  | zero => intro _ w hw; rw [if_neg (by omega)]; rfl
  | succ i ih =>
    intro hi w hw
    rw [dH_s]
    by_cases e : w = N - 1 - i
    · rw [e, updN_s, if_pos (by omega), dL_W]
      unfold pnD
      rw [show N - 1 - (N - 1 - i) = i from by omega]
    · rw [updN_n _ _ e, ih (by omega) w hw]
      by_cases c : N - i ≤ w
      · rw [if_pos c, if_pos (by omega)]
      · rw [if_neg c, if_neg (by omega)]
theorem dM_D {B : Nat → Nat} {N code : Nat} : ∀ i, i ≤ N → cntN (fun w => decide (pnD B N code w < 24)) (N - i) + dM B N code i = cntN (fun w => decide (pnD B N code w < 24)) N := by
  intro i
  induction i with
  | zero => intro _; rfl
  | succ i ih =>
    intro hi
    rw [← ih (by omega), dM_s, show N - i = (N - (i + 1)) + 1 from by omega, cntN_s, dL_W]
    have e : pnD B N code (N - (i + 1)) = hourC B (code / Wl B N i) (N - 1 - i) := by
      unfold pnD
      rw [show N - 1 - (N - (i + 1)) = i from by omega, show N - (i + 1) = N - 1 - i from by omega]
    rw [e]
    by_cases c : hourC B (code / Wl B N i) (N - 1 - i) < 24
    · rw [if_pos c, if_pos (decide_eq_true c)]; omega
    · rw [if_neg c, if_neg (fun z => c (of_decide_eq_true z))]; omega
def pnM (B : Nat → Nat) (N code : Nat) : Nat := cntN (fun w => decide (pnD B N code w < 24)) N
theorem dM_M (B : Nat → Nat) (N code : Nat) : dM B N code N = pnM B N code := by
  have h := dM_D (B := B) (N := N) (code := code) N (Nat.le_refl _)
  rw [Nat.sub_self] at h
  have h0 : cntN (fun w => decide (pnD B N code w < 24)) 0 = 0 := rfl
  unfold pnM; omega
theorem cntW_congr {B h h2 : Nat → Nat} {w t : Nat} (e : ∀ v, v < B 4 → h v = h2 v) (hw : w < B 4) : ∀ n, n ≤ B 4 → cntW B h w t n = cntW B h2 w t n := by
  intro n
  induction n with
  | zero => intro _; rfl
  | succ n ih =>
    intro hn
    rw [cntW_s, cntW_s, ih (by omega)]
    unfold bothM
    rw [e n (by omega), e w hw]
theorem canP_congr {B h h2 : Nat → Nat} (e : ∀ v, v < B 4 → h v = h2 v) (hc : canP B h) : canP B h2 := by
  intro w hw t ht
  obtain ⟨a, b⟩ := hc w hw t ht
  refine ⟨fun v hv => ?_, by rw [← cntW_congr e hw (B 4) (Nat.le_refl _)]; exact b⟩
  have q := a v hv
  unfold meetM bothM at q ⊢
  rw [← e v hv, ← e w hw]; exact q
theorem plT_sel {B be h : Nat → Nat} : ∀ n, (plT B be h n).1 = (selF (fun c => canP B (pnD B (B 4) c)) (pnM B (B 4)) (pnD B (B 4)) 0 n (0, be)).1 ∧ EqB (B 4) (plT B be h n).2.1 (selF (fun c => canP B (pnD B (B 4) c)) (pnM B (B 4)) (pnD B (B 4)) 0 n (0, be)).2 := by
  intro n
  induction n with
  | zero => exact ⟨rfl, fun _ _ => rfl⟩
  | succ n ih =>
    have ed : ∀ v, v < B 4 → dH B (B 4) n (plT B be h n).2.2 (B 4) v = pnD B (B 4) n v := fun v hv => by
      rw [dH_D (B 4) (Nat.le_refl _) v hv, if_pos (by omega)]
    have ec : canP B (dH B (B 4) n (plT B be h n).2.2 (B 4)) ↔ canP B (pnD B (B 4) n) := ⟨canP_congr ed, canP_congr (fun v hv => (ed v hv).symm)⟩
    rw [plT_s, selF_s, Nat.zero_add, ← ih.1, dM_M]
    by_cases c : (plT B be h n).1 < pnM B (B 4) n + 1 ∧ canP B (pnD B (B 4) n)
    · rw [if_pos (pB_t.mpr ⟨c.1, ec.mpr c.2⟩), if_pos (pB_t.mpr c)]
      refine ⟨rfl, fun w hw => ?_⟩
      show cpTo _ 0 _ (B 4) w = _
      unfold cpTo
      rw [if_pos (by omega), Nat.sub_zero]; exact ed w hw
    · rw [if_neg (fun z => c ⟨(pB_t.mp z).1, ec.mp (pB_t.mp z).2⟩), if_neg (fun z => c (pB_t.mp z))]
      exact ih
/-- the wants alike -/
def WN (n4 : Nat) (c4 my B : Nat → Nat) : Prop := n4 = B 4 ∧ (∀ q, q < n4 → c4 (q * 4 + 0) = B (126 + 4 * q) ∧ c4 (q * 4 + 1) = B (126 + 4 * q + 1) ∧ c4 (q * 4 + 2) = B (126 + 4 * q + 2) ∧ c4 (q * 4 + 3) = B (126 + 4 * q + 3)) ∧ ∀ t, t < B 0 → my t = mayM B t
def PF (c4 my h : Nat → Nat) (w : Nat) : Prop := ∀ v, v < w → h v < 24 → fitsC c4 my h v (h v)
theorem tkn_congr {c4 h h2 : Nat → Nat} {t hr : Nat} : ∀ n, (∀ o, o < n → h o = h2 o) → tknC c4 h t hr n = tknC c4 h2 t hr n := by
  intro n
  induction n with
  | zero => intro _; rfl
  | succ n ih => intro e; rw [tknC_s, tknC_s, ih (fun o ho => e o (by omega)), e n (by omega)]
theorem fits_congr {c4 my h h2 : Nat → Nat} {w hr : Nat} (e : ∀ o, o < w → h o = h2 o) (hf : fitsC c4 my h w hr) : fitsC c4 my h2 w hr := by
  refine ⟨fun o ho => by rw [← e o ho]; exact hf.1 o ho, fun t ht hb => by rw [← tkn_congr w e]; exact hf.2 t ht hb⟩
theorem PF_congr {c4 my h h2 : Nat → Nat} {w : Nat} (e : ∀ o, o < w → h o = h2 o) (hf : PF c4 my h w) : PF c4 my h2 w := by
  intro v hv h24
  rw [← e v hv] at h24 ⊢
  exact fits_congr (fun o ho => e o (by omega)) (hf v hv h24)
theorem tkn_cnt {n4 : Nat} {c4 my B h : Nat → Nat} {w t : Nat} (hr : WN n4 c4 my B) (h24 : h w < 24) (ht : t < 32) : ∀ n, n ≤ n4 → cntW B h w t n = tknC c4 h t (h w) n := by
  intro n
  induction n with
  | zero => intro _; rfl
  | succ n ih =>
    intro hn
    rw [cntW_s, tknC_s, ih (by omega), (hr.2.1 n (by omega)).2.1]
    by_cases c : h n = h w ∧ B (126 + 4 * n + 1) / 2 ^ t % 2 = 1
    · rw [if_pos (pB_t.mpr ⟨⟨c.1, h24⟩, c.2⟩), if_pos ⟨c.1, ht, c.2⟩]
    · rw [if_neg (fun z => c ⟨(pB_t.mp z).1.1, (pB_t.mp z).2⟩), if_neg (fun z => c ⟨z.1, z.2.2⟩)]; rfl
theorem can_PF {n4 : Nat} {c4 my B h : Nat → Nat} (hw : WB B) (hr : WN n4 c4 my B) : canP B h ↔ PF c4 my h n4 := by
  obtain ⟨m4, r4, rm⟩ := id hr
  have h8 := hw.1.1
  constructor
  · intro hc v hv h24
    have hwv := hw.2.2.2.2.2.2.1 v (by omega)
    have h0 : 0 < B 0 := by
      rcases Nat.eq_zero_or_pos (B 0) with z | z
      · rw [z] at hwv; have := hwv.2.2.1; omega
      · exact z
    refine ⟨fun o ho z => ?_, fun t ht hb => ?_⟩
    · have a := (hc v (by omega) 0 h0).1 o (by omega)
      rw [(r4 o (by omega)).1, (r4 v hv).1] at z
      exact a ⟨⟨z.1, h24⟩, by omega, z.2⟩
    · rw [(r4 v hv).2.1] at hb
      have ht0 : t < B 0 := tb_lt hwv.2.2.1 ((tb _ _).mp hb.2)
      have a := (hc v (by omega) t ht0).2
      have key : ∀ d, v + 1 + d ≤ n4 → tknC c4 h t (h v) v + 1 ≤ cntW B h v t (v + 1 + d) := by
        intro d
        induction d with
        | zero =>
          intro hd
          rw [show v + 1 + 0 = v + 1 from rfl, cntW_s, if_pos (pB_t.mpr ⟨⟨rfl, h24⟩, hb.2⟩), tkn_cnt hr h24 (by omega) v (by omega)]
          exact Nat.le_refl _
        | succ d ih =>
          intro hd
          have i := ih (by omega)
          rw [show v + 1 + (d + 1) = (v + 1 + d) + 1 from rfl, cntW_s]; omega
      have k := key (n4 - (v + 1)) (by omega)
      rw [show v + 1 + (n4 - (v + 1)) = n4 from by omega, m4] at k
      rw [rm t ht0]; omega
  · intro hp w hw9 t ht
    have fit : ∀ v, v < n4 → h v < 24 → fitsC c4 my h v (h v) := hp
    refine ⟨fun v hv => ?_, ?_⟩
    · rintro ⟨⟨z1, z2⟩, z3, z4⟩
      rcases Nat.lt_or_gt_of_ne z3 with q | q
      · refine (fit w (by omega) z2).1 v q ⟨z1, ?_⟩
        rw [(r4 v (by omega)).1, (r4 w (by omega)).1]; exact z4
      · refine (fit v (by omega) (by omega)).1 w q ⟨z1.symm, ?_⟩
        rw [(r4 v (by omega)).1, (r4 w (by omega)).1]; exact z4.symm
    · have key : ∀ n, n ≤ n4 → cntW B h w t n ≤ mayM B t := by
        intro n
        induction n with
        | zero => intro _; exact Nat.zero_le _
        | succ n ih =>
          intro hn
          rw [cntW_s]
          by_cases c : bothM h n w ∧ B (126 + 4 * n + 1) / 2 ^ t % 2 = 1
          · rw [if_pos (pB_t.mpr c)]
            obtain ⟨⟨c1, c2⟩, c3⟩ := c
            have f := (fit n (by omega) (by omega)).2 t (by omega) ⟨by omega, by rw [(r4 n (by omega)).2.1]; exact c3⟩
            rw [rm t ht, c1] at f
            rw [tkn_cnt hr c2 (by omega) n (by omega)]
            exact f
          · rw [if_neg (fun z => c (pB_t.mp z))]; exact ih (by omega)
      rw [← m4]; exact key n4 (Nat.le_refl _)
/-- codes under a node -/
theorem D_low {B : Nat → Nat} {N j P r v : Nat} (hv : v + j < N) (hr : r < Wl B N j) : pnD B N (P * Wl B N j + r) v = pnD B N (P * Wl B N j) v := by
  unfold pnD
  obtain ⟨X, e⟩ := Wl_add B N j (N - 1 - v - j)
  rw [show j + (N - 1 - v - j) = N - 1 - v from by omega] at e
  have hp := Wl_pos B N j
  rw [e, ← Nat.div_div_eq_div_mul, ← Nat.div_div_eq_div_mul, Nat.mul_comm P, Nat.mul_add_div hp, Nat.div_eq_of_lt hr, Nat.add_zero, Nat.mul_div_cancel_left _ hp]
theorem D_at {B : Nat → Nat} {N w P i r : Nat} (hw : w < N) (hi : i < eachS B w) (hr : r < Wl B N (N - 1 - w)) : pnD B N ((P * eachS B w + i) * Wl B N (N - 1 - w) + r) w = if i = eachS B w - 1 then 24 else B (126 + 4 * w + 2) + i := by
  unfold pnD hourC
  have hp := Wl_pos B N (N - 1 - w)
  rw [Nat.mul_comm (P * eachS B w + i), Nat.mul_add_div hp, Nat.div_eq_of_lt hr, Nat.add_zero, Nat.mul_comm P, Nat.mul_add_mod, Nat.mod_eq_of_lt hi]
theorem M_low {B : Nat → Nat} {N w c s : Nat} {h : Nat → Nat} (hw : w ≤ N) (e : ∀ v, v < w → h v = pnD B N c v) (hs : s = cntN (fun v => decide (h v < 24)) w) : s ≤ pnM B N c ∧ pnM B N c ≤ s + (N - w) := by
  have e1 : cntN (fun v => decide (h v < 24)) w = cntN (fun v => decide (pnD B N c v < 24)) w := cntN_congr w (fun v hv => by rw [e v hv])
  have key : ∀ d, w + d ≤ N → cntN (fun v => decide (pnD B N c v < 24)) w ≤ cntN (fun v => decide (pnD B N c v < 24)) (w + d) ∧ cntN (fun v => decide (pnD B N c v < 24)) (w + d) ≤ cntN (fun v => decide (pnD B N c v < 24)) w + d := by
    intro d
    induction d with
    | zero => intro _; exact ⟨Nat.le_refl _, Nat.le_refl _⟩
    | succ d ih =>
      intro hd
      have i := ih (by omega)
      rw [show w + (d + 1) = (w + d) + 1 from rfl, cntN_s]
      split <;> omega
  have k := key (N - w) (by omega)
  rw [show w + (N - w) = N from by omega] at k
  unfold pnM; omega
