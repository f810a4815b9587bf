/-! PLAN: the walk in depth goes through the codes in their order -/
theorem selF_eqb {C : Nat → Prop} {M : Nat → Nat} {D : Nat → Nat → Nat} {c0 N : Nat} {x y : Nat × (Nat → Nat)} (e : x.1 = y.1) (e2 : EqB N x.2 y.2) : ∀ n, EqB N (selF C M D c0 n x).2 (selF C M D c0 n y).2 := by
  intro n
  induction n with
  | zero => exact e2
  | succ n ih =>
    rw [selF_s, selF_s, selF_fst e n]
    split
    · exact fun _ _ => rfl
    · exact ih
noncomputable def SFp (B : Nat → Nat) (N : Nat) : Nat → Nat → Nat × (Nat → Nat) → Nat × (Nat → Nat) := selF (fun c => canP B (pnD B N c)) (pnM B N) (pnD B N)
theorem SFp_add (B : Nat → Nat) (N c0 n m : Nat) (x : Nat × (Nat → Nat)) : SFp B N c0 (n + m) x = SFp B N (c0 + n) m (SFp B N c0 n x) := selF_add c0 n x m
theorem chsS_0 {n4 k w s : Nat} {c4 my : Nat → Nat} {x : (Nat → Nat) × (Nat → Nat) × Nat} (h : s + (n4 - w) + 1 ≤ x.2.2) : chsS n4 c4 my (k + 1) w s x = x := if_pos h
theorem chsS_1 {n4 k w s : Nat} {c4 my : Nat → Nat} {x : (Nat → Nat) × (Nat → Nat) × Nat} (h : ¬ s + (n4 - w) + 1 ≤ x.2.2) (h2 : n4 - w ≤ 0) : chsS n4 c4 my (k + 1) w s x = (x.1, cpyN x.1 x.2.1 5, s + 1) := (if_neg h).trans (if_pos h2)
theorem chsS_2 {n4 k w s : Nat} {c4 my : Nat → Nat} {x : (Nat → Nat) × (Nat → Nat) × Nat} (h : ¬ s + (n4 - w) + 1 ≤ x.2.2) (h2 : ¬ n4 - w ≤ 0) : chsS n4 c4 my (k + 1) w s x = chsS n4 c4 my k (w + 1) s (updN (chI n4 c4 my k w s x (c4 (w * 4 + 3) + 1 - c4 (w * 4 + 2))).1 w 24, (chI n4 c4 my k w s x (c4 (w * 4 + 3) + 1 - c4 (w * 4 + 2))).2.1, (chI n4 c4 my k w s x (c4 (w * 4 + 3) + 1 - c4 (w * 4 + 2))).2.2) := (if_neg h).trans (if_neg h2)
theorem chI_y {n4 k w s i : Nat} {c4 my : Nat → Nat} {x : (Nat → Nat) × (Nat → Nat) × Nat} (h : fitsC c4 my (chI n4 c4 my k w s x i).1 w (c4 (w * 4 + 2) + i)) : chI n4 c4 my k w s x (i + 1) = chsS n4 c4 my k (w + 1) (s + 1) (updN (chI n4 c4 my k w s x i).1 w (c4 (w * 4 + 2) + i), (chI n4 c4 my k w s x i).2.1, (chI n4 c4 my k w s x i).2.2) := (chI_s n4 c4 my k w s x i).trans (if_pos (pB_t.mpr h))
theorem chI_n {n4 k w s i : Nat} {c4 my : Nat → Nat} {x : (Nat → Nat) × (Nat → Nat) × Nat} (h : ¬ fitsC c4 my (chI n4 c4 my k w s x i).1 w (c4 (w * 4 + 2) + i)) : chI n4 c4 my k w s x (i + 1) = chI n4 c4 my k w s x i := (chI_s n4 c4 my k w s x i).trans (if_neg (fun z => h (pB_t.mp z)))
theorem upd_low {h h2 : Nat → Nat} {w v x : Nat} (hv : v < w) (e : h2 v = h v) : updN h2 w x v = h v := (updN_n _ _ (by omega)).trans e
theorem chs_sel {n4 : Nat} {c4 my B : Nat → Nat} (hw : WB B) (hr : WN n4 c4 my B) : ∀ k w s h b mo P, w ≤ n4 → n4 < w + k → (∀ v, v < w → h v = pnD B n4 (P * Wl B n4 (n4 - w)) v) → PF c4 my h w → s = cntN (fun v => decide (h v < 24)) w →
    (chsS n4 c4 my k w s (h, b, mo)).2.2 = (SFp B n4 (P * Wl B n4 (n4 - w)) (Wl B n4 (n4 - w)) (mo, b)).1 ∧ EqB n4 (chsS n4 c4 my k w s (h, b, mo)).2.1 (SFp B n4 (P * Wl B n4 (n4 - w)) (Wl B n4 (n4 - w)) (mo, b)).2 ∧ ∀ v, v < w → (chsS n4 c4 my k w s (h, b, mo)).1 v = h v := by
  obtain ⟨m4, r4, rm⟩ := id hr
  have h5 := hw.1.2.2.2.2.1
  intro k
  induction k with
  | zero => intro w s h b mo P h1 h2; omega
  | succ k ih =>
    intro w s h b mo P hwn hk hD hPF hs
    -- codes of this node
    have hDc : ∀ r, r < Wl B n4 (n4 - w) → ∀ v, v < w → h v = pnD B n4 (P * Wl B n4 (n4 - w) + r) v := fun r hr9 v hv => by rw [D_low (by omega) hr9]; exact hD v hv
    by_cases hpr : s + (n4 - w) + 1 ≤ mo
    · rw [chsS_0 hpr]
      have e : SFp B n4 (P * Wl B n4 (n4 - w)) (Wl B n4 (n4 - w)) (mo, b) = (mo, b) := by
        refine selF_none _ (fun c h1 h2 z => ?_)
        have hm := M_low (B := B) hwn (c := c) (by have e9 := hDc (c - P * Wl B n4 (n4 - w)) (by omega); rw [show P * Wl B n4 (n4 - w) + (c - P * Wl B n4 (n4 - w)) = c from by omega] at e9; exact e9) hs
        have z1 : mo < pnM B n4 c + 1 := z.1
        omega
      rw [e]; exact ⟨rfl, fun _ _ => rfl, fun _ _ => rfl⟩
    · by_cases hl : n4 - w ≤ 0
      · have ew : w = n4 := by omega
        subst ew
        rw [chsS_1 hpr hl]
        rw [Nat.sub_self] at hD hDc ⊢
        have hm := M_low (B := B) hwn hD hs
        have hc : canP B (pnD B w (P * Wl B w 0)) := (can_PF hw hr).mpr (PF_congr hD hPF)
        have e : SFp B w (P * Wl B w 0) (Wl B w 0) (mo, b) = (pnM B w (P * Wl B w 0) + 1, pnD B w (P * Wl B w 0)) := selF_one (by show mo < _; omega) hc
        rw [e]
        refine ⟨by dsimp only; omega, fun v hv => ?_, fun _ _ => rfl⟩
        show cpyN h b 5 v = _
        unfold cpyN
        rw [if_pos (by omega)]; exact hD v hv
      · have hlt : w < n4 := by omega
        have hvw := hw.2.2.2.2.2.2.1 w (by omega)
        obtain ⟨-, -, ra, rb⟩ := r4 w hlt
        have hE : eachS B w = B (126 + 4 * w + 3) - B (126 + 4 * w + 2) + 2 := rfl
        have eW : Wl B n4 (n4 - w) = Wl B n4 (n4 - (w + 1)) * eachS B w := by rw [show n4 - w = (n4 - (w + 1)) + 1 from by omega, Wl_s, show n4 - 1 - (n4 - (w + 1)) = w from by omega]
        have eL : n4 - 1 - w = n4 - (w + 1) := by omega
        have hLp := Wl_pos B n4 (n4 - (w + 1))
        obtain ⟨L, hLe⟩ : ∃ z, z = Wl B n4 (n4 - (w + 1)) := ⟨_, rfl⟩
        rw [← hLe] at eW hLp
        have eP : ∀ i, (P * eachS B w + i) * L = P * Wl B n4 (n4 - w) + i * L := fun i => by
          rw [eW, Nat.add_mul, Nat.mul_assoc, Nat.mul_comm (eachS B w) L]
        have hiL : ∀ i, i < eachS B w → i * L + L ≤ Wl B n4 (n4 - w) := fun i hi => by
          rw [eW, ← Nat.succ_mul, Nat.mul_comm L]; exact Nat.mul_le_mul_right L hi
        rw [chsS_2 hpr hl, ra, rb, show B (126 + 4 * w + 3) + 1 - B (126 + 4 * w + 2) = eachS B w - 1 from by omega]
        -- the hours
        have inner : ∀ i, i ≤ eachS B w - 1 → (chI n4 c4 my k w s (h, b, mo) i).2.2 = (SFp B n4 (P * Wl B n4 (n4 - w)) (i * L) (mo, b)).1 ∧ EqB n4 (chI n4 c4 my k w s (h, b, mo) i).2.1 (SFp B n4 (P * Wl B n4 (n4 - w)) (i * L) (mo, b)).2 ∧ ∀ v, v < w → (chI n4 c4 my k w s (h, b, mo) i).1 v = h v := by
          intro i
          induction i with
          | zero => intro _; rw [Nat.zero_mul]; exact ⟨rfl, fun _ _ => rfl, fun _ _ => rfl⟩
          | succ i ii =>
            intro hi
            obtain ⟨i1, i2, i3⟩ := ii (by omega)
            have hil := hiL i (by omega)
            have eS : SFp B n4 (P * Wl B n4 (n4 - w)) ((i + 1) * L) (mo, b) = SFp B n4 ((P * eachS B w + i) * L) L (SFp B n4 (P * Wl B n4 (n4 - w)) (i * L) (mo, b)) := by
              rw [Nat.succ_mul, SFp_add, eP]
            by_cases hf : fitsC c4 my (chI n4 c4 my k w s (h, b, mo) i).1 w (c4 (w * 4 + 2) + i)
            · rw [chI_y hf, ra]
              rw [ra] at hf
              have g := ih (w + 1) (s + 1) (updN (chI n4 c4 my k w s (h, b, mo) i).1 w (B (126 + 4 * w + 2) + i)) (chI n4 c4 my k w s (h, b, mo) i).2.1 (chI n4 c4 my k w s (h, b, mo) i).2.2 (P * eachS B w + i) (by omega) (by omega) (fun v hv => ?_) ?_ ?_
              · rw [← hLe] at g
                rw [eS]
                refine ⟨g.1.trans (selF_fst (by exact i1) L), fun v hv => (g.2.1 v hv).trans (selF_eqb (by exact i1) i2 L v hv), fun v hv => (g.2.2 v (by omega)).trans (upd_low hv (i3 v hv))⟩
              · rcases Nat.lt_succ_iff_lt_or_eq.mp hv with z | z
                · rw [upd_low z (i3 v z), ← hLe, eP]; exact hDc _ (by omega) v z
                · rw [z, updN_s]
                  have d := D_at (B := B) (N := n4) (P := P) (i := i) (r := 0) hlt (by omega) (Wl_pos _ _ _)
                  rw [if_neg (by omega), Nat.add_zero, eL] at d
                  exact d.symm
              · intro v hv h24
                rcases Nat.lt_succ_iff_lt_or_eq.mp hv with z | z
                · rw [upd_low z (i3 v z)] at h24 ⊢
                  exact fits_congr (fun o ho => (upd_low (by omega) (i3 o (by omega))).symm) (hPF v z h24)
                · subst z; rw [updN_s]
                  exact fits_congr (fun o ho => (updN_n _ _ (by omega)).symm) hf
              · rw [cntN_s, updN_s, if_pos (decide_eq_true (by omega))]
                exact congrArg (· + 1) (hs.trans <| cntN_congr w (fun v hv => by rw [upd_low hv (i3 v hv)]))
            · rw [chI_n hf, eS]
              have e : SFp B n4 ((P * eachS B w + i) * L) L (SFp B n4 (P * Wl B n4 (n4 - w)) (i * L) (mo, b)) = SFp B n4 (P * Wl B n4 (n4 - w)) (i * L) (mo, b) := by
                refine selF_none _ (fun c h1 h2 z => hf ?_)
                have hc : PF c4 my (pnD B n4 c) n4 := (can_PF hw hr).mp z.2
                rw [eP] at h1 h2
                have d := D_at (B := B) (N := n4) (P := P) (i := i) (r := c - (P * Wl B n4 (n4 - w) + i * L)) hlt (by omega) (by rw [eL, ← hLe]; omega)
                rw [eL, ← hLe, eP, show P * Wl B n4 (n4 - w) + i * L + (c - (P * Wl B n4 (n4 - w) + i * L)) = c from by omega, if_neg (by omega)] at d
                have f := hc w hlt (by omega)
                rw [d] at f
                rw [ra]
                refine fits_congr (fun o ho => ?_) f
                have e9 := hDc (c - P * Wl B n4 (n4 - w)) (by omega) o ho
                rw [show P * Wl B n4 (n4 - w) + (c - P * Wl B n4 (n4 - w)) = c from by omega] at e9
                rw [i3 o ho]; exact e9.symm
              rw [e]; exact ⟨i1, i2, i3⟩
        obtain ⟨i1, i2, i3⟩ := inner (eachS B w - 1) (Nat.le_refl _)
        have hil := hiL (eachS B w - 1) (by omega)
        have eS : SFp B n4 (P * Wl B n4 (n4 - w)) (Wl B n4 (n4 - w)) (mo, b) = SFp B n4 ((P * eachS B w + (eachS B w - 1)) * L) L (SFp B n4 (P * Wl B n4 (n4 - w)) ((eachS B w - 1) * L) (mo, b)) := by
          have e9 : Wl B n4 (n4 - w) = (eachS B w - 1) * L + L := by rw [← Nat.succ_mul, eW, Nat.mul_comm, show (eachS B w - 1).succ = eachS B w from by omega]
          rw [eP]
          conv => lhs; arg 4; rw [e9]
          exact SFp_add _ _ _ _ _ _
        have g := ih (w + 1) s (updN (chI n4 c4 my k w s (h, b, mo) (eachS B w - 1)).1 w 24) (chI n4 c4 my k w s (h, b, mo) (eachS B w - 1)).2.1 (chI n4 c4 my k w s (h, b, mo) (eachS B w - 1)).2.2 (P * eachS B w + (eachS B w - 1)) (by omega) (by omega) (fun v hv => ?_) ?_ ?_
        · rw [← hLe] at g
          rw [eS]
          refine ⟨g.1.trans (selF_fst (by exact i1) L), fun v hv => (g.2.1 v hv).trans (selF_eqb (by exact i1) i2 L v hv), fun v hv => (g.2.2 v (by omega)).trans (upd_low hv (i3 v hv))⟩
        · rcases Nat.lt_succ_iff_lt_or_eq.mp hv with z | z
          · rw [upd_low z (i3 v z), ← hLe, eP]; exact hDc _ (by omega) v z
          · rw [z, updN_s]
            have d := D_at (B := B) (N := n4) (P := P) (i := eachS B w - 1) (r := 0) hlt (by omega) (Wl_pos _ _ _)
            rw [if_pos rfl, Nat.add_zero, eL] at d
            exact d.symm
        · intro v hv h24
          rcases Nat.lt_succ_iff_lt_or_eq.mp hv with z | z
          · rw [upd_low z (i3 v z)] at h24 ⊢
            exact fits_congr (fun o ho => (upd_low (by omega) (i3 o (by omega))).symm) (hPF v z h24)
          · subst z; rw [updN_s] at h24; omega
        · rw [cntN_s, updN_s, if_neg (by decide)]
          exact hs.trans <| cntN_congr w (fun v hv => by rw [upd_low hv (i3 v hv)])
/-- the class's plan is the model's -/
theorem most_eq {n4 : Nat} {c4 my B : Nat → Nat} (hw : WB B) (hr : WN n4 c4 my B) (h b be hh : Nat → Nat) : (chsS n4 c4 my 6 0 0 (h, b, 0)).2.2 = (plS B be hh).1 ∧ EqB n4 (chsS n4 c4 my 6 0 0 (h, b, 0)).2.1 (plS B be hh).2.1 := by
  have h5 := hw.1.2.2.2.2.1
  have m4 := hr.1
  have c := chs_sel hw hr 6 0 0 h b 0 0 (Nat.zero_le _) (by omega) (fun v hv => absurd hv (Nat.not_lt_zero _)) (fun v hv => absurd hv (Nat.not_lt_zero _)) rfl
  rw [Nat.sub_zero, Nat.zero_mul] at c
  have t := plT_sel (B := B) (be := be) (h := hh) (waysS B (B 4))
  have ew : waysS B (B 4) = Wl B (B 4) (B 4) := by
    have e := ways_W B (B 4) (B 4) (Nat.le_refl _)
    rw [Nat.sub_self] at e
    exact (Nat.mul_one _).symm.trans e
  rw [m4] at c ⊢
  unfold plS
  rw [ew] at t ⊢
  -- the first found is the first, whatever stood in best
  refine ⟨c.1.trans ((selF_fst (x := (0, b)) (y := (0, be)) rfl _).trans t.1.symm), fun v hv => ?_⟩
  have k1 := c.2.1 v hv
  have k2 := t.2 v hv
  rw [k1, k2]
  have same : ∀ n, (∃ i, i < n ∧ canP B (pnD B (B 4) i)) → (SFp B (B 4) 0 n (0, b)).2 = (SFp B (B 4) 0 n (0, be)).2 := by
    intro n
    induction n with
    | zero => rintro ⟨i, h1, -⟩; omega
    | succ n ihn =>
      rintro ⟨i, h1, h2⟩
      show (selF _ _ _ 0 (n + 1) (0, b)).2 = (selF _ _ _ 0 (n + 1) (0, be)).2
      rw [selF_s, selF_s, selF_fst (x := (0, b)) (y := (0, be)) rfl n]
      by_cases cc : (selF (fun c => canP B (pnD B (B 4) c)) (pnM B (B 4)) (pnD B (B 4)) 0 n (0, be)).1 < pnM B (B 4) (0 + n) + 1 ∧ canP B (pnD B (B 4) (0 + n))
      · rw [if_pos (pB_t.mpr cc), if_pos (pB_t.mpr cc)]
      · rw [if_neg (fun z => cc (pB_t.mp z)), if_neg (fun z => cc (pB_t.mp z))]
        refine ihn ?_
        rcases Nat.lt_succ_iff_lt_or_eq.mp h1 with z | z
        · exact ⟨i, z, h2⟩
        · subst z
          have hC : canP B (pnD B (B 4) (0 + i)) := by rw [Nat.zero_add]; exact h2
          have hz : ¬ (selF (fun c => canP B (pnD B (B 4) c)) (pnM B (B 4)) (pnD B (B 4)) 0 i (0, be)).1 < pnM B (B 4) (0 + i) + 1 := fun q => cc ⟨q, hC⟩
          -- something was found ahead of it
          apply Classical.byContradiction
          intro hno
          have e0 : selF (fun c => canP B (pnD B (B 4) c)) (pnM B (B 4)) (pnD B (B 4)) 0 i (0, be) = (0, be) := selF_none i (fun c h3 h4 h5 => hno ⟨c, by omega, h5.2⟩)
          rw [e0] at hz; exact hz (by show 0 < _; omega)
  refine congrFun (same _ ⟨Wl B (B 4) (B 4) - 1, by have := Wl_pos B (B 4) (B 4); omega, ?_⟩) v
  -- all none: that can be
  refine (can_PF hw hr).mpr (fun w hw8 h24 => ?_)
  have hw9 : w < B 4 := by omega
  have hall : pnD B (B 4) (Wl B (B 4) (B 4) - 1) w = 24 := by
    unfold pnD hourC
    refine if_pos ?_
    obtain ⟨X, e⟩ := Wl_add B (B 4) (B 4 - 1 - w + 1) (B 4 - (B 4 - 1 - w + 1))
    rw [show B 4 - 1 - w + 1 + (B 4 - (B 4 - 1 - w + 1)) = B 4 from by omega, Wl_s, show B 4 - 1 - (B 4 - 1 - w) = w from by omega] at e
    have hp := Wl_pos B (B 4) (B 4 - 1 - w)
    have hE : 2 ≤ eachS B w := by unfold eachS; omega
    have hX : 0 < X := by
      rcases Nat.eq_zero_or_pos X with z | z
      · rw [z, Nat.mul_zero] at e; have := Wl_pos B (B 4) (B 4); omega
      · exact z
    obtain ⟨Y, rfl⟩ : ∃ z, X = z + 1 := ⟨X - 1, by omega⟩
    have e2 : Wl B (B 4) (B 4) - 1 = Wl B (B 4) (B 4 - 1 - w) * (eachS B w * Y + (eachS B w - 1)) + (Wl B (B 4) (B 4 - 1 - w) - 1) := by
      have e3 : Wl B (B 4) (B 4) = Wl B (B 4) (B 4 - 1 - w) * (eachS B w * Y + (eachS B w - 1)) + Wl B (B 4) (B 4 - 1 - w) := by
        rw [e, Nat.mul_assoc, ← Nat.mul_succ]
        refine congrArg _ ?_
        rw [Nat.mul_add, Nat.mul_one]; omega
      omega
    rw [e2, Nat.mul_add_div hp, Nat.div_eq_of_lt (by omega), Nat.add_zero, Nat.mul_add_mod, Nat.mod_eq_of_lt (by omega)]
  omega
