/-! DEAL: the model's codes -/
def dgD (e code p : Nat) : Nat := gL e code (4 - p) % e
theorem gH_D {e code : Nat} {g : Nat → Nat} : ∀ i, i ≤ 5 → ∀ p, p < 5 → gH e code g i p = if 5 - i ≤ p then dgD e code p else g p := by
  intro i
  induction i with
  | zero => intro _ p hp; rw [if_neg (by omega)]; rfl
  | succ i ih =>
    intro hi p hp
    rw [gH_s]
    by_cases z : p = 4 - i
    · rw [z, updN_s, if_pos (by omega)]; unfold dgD; rw [show 4 - (4 - i) = i from by omega]
    · rw [updN_n _ _ z, ih (by omega) p hp]
      by_cases c : 5 - i ≤ p
      · rw [if_pos c, if_pos (by omega)]
      · rw [if_neg c, if_neg (by omega)]
theorem gS_v {B : Nat → Nat} {e code : Nat} : ∀ i, i ≤ 5 → vS B (dgD e code) (5 - i) + gS B e code i = vS B (dgD e code) 5 := by
  intro i
  induction i with
  | zero => intro _; rfl
  | succ i ih =>
    intro hi
    rw [← ih (by omega), gS_s, show 5 - i = (5 - (i + 1)) + 1 from by omega, vS_s]
    have e1 : vT B (dgD e code) (5 - (i + 1)) = if 0 < gL e code i % e then B (156 + 8 * (4 - i) + gL e code i % e - 1) else 0 := by
      unfold vT dgD
      rw [show 4 - (5 - (i + 1)) = i from by omega, show 5 - (i + 1) = 4 - i from by omega]
    rw [e1]; omega
theorem gS_V (B : Nat → Nat) (e code : Nat) : gS B e code 5 = vS B (dgD e code) 5 := by
  have h := gS_v (B := B) (e := e) (code := code) 5 (Nat.le_refl _)
  have h0 : vS B (dgD e code) (5 - 5) = 0 := rfl
  omega
theorem feas_congr {B d d2 : Nat → Nat} (e : ∀ p, p < 5 → d p = d2 p) : allB (fitsM B d) (B 0) ↔ feas B d2 := by
  constructor
  · intro h t ht
    have := h t ht
    unfold fitsM at this
    rw [← cntE_congr 5 e]; exact this
  · intro h t ht
    unfold fitsM
    rw [cntE_congr 5 e]; exact h t ht
theorem dlT_sel {B go ge : Nat → Nat} : ∀ n, (dlT B go ge n).1 = (selF (fun c => feas B (dgD (B 0 + 1) c)) (fun c => vS B (dgD (B 0 + 1) c) 5) (dgD (B 0 + 1)) 0 n (0, go)).1 ∧ ∀ p, p < 5 → (dlT B go ge n).2.1 p = (selF (fun c => feas B (dgD (B 0 + 1) c)) (fun c => vS B (dgD (B 0 + 1) c) 5) (dgD (B 0 + 1)) 0 n (0, go)).2 p := by
  intro n
  induction n with
  | zero => exact ⟨rfl, fun _ _ => rfl⟩
  | succ n ih =>
    have ed : ∀ p, p < 5 → gH (B 0 + 1) n (dlT B go ge n).2.2 5 p = dgD (B 0 + 1) n p := fun p hp => by
      rw [gH_D 5 (Nat.le_refl _) p hp, if_pos (by omega)]
    have ec := feas_congr (B := B) ed
    rw [dlT_s, selF_s, Nat.zero_add]
    dsimp only
    rw [← ih.1, gS_V]
    by_cases c : (dlT B go ge n).1 < vS B (dgD (B 0 + 1) n) 5 + 1 ∧ feas B (dgD (B 0 + 1) n)
    · rw [if_pos (pB_t.mpr ⟨c.1, ec.mpr c.2⟩), if_pos (pB_t.mpr c)]
      refine ⟨rfl, fun p hp => ?_⟩
      show cpTo _ 0 _ 5 p = _
      unfold cpTo
      rw [if_pos (by omega), Nat.sub_zero]; exact ed p hp
    · rw [if_neg (fun z => c ⟨(pB_t.mp z).1, ec.mp (pB_t.mp z).2⟩), if_neg (fun z => c (pB_t.mp z))]
      exact ih
/-- the first of the most -/
theorem selF_first {C : Nat → Prop} {M : Nat → Nat} {D : Nat → Nat → Nat} {go : Nat → Nat} : ∀ n, (selF C M D 0 n (0, go) = (0, go) ∧ ∀ c, c < n → ¬ C c) ∨ ∃ c, c < n ∧ C c ∧ selF C M D 0 n (0, go) = (M c + 1, D c) ∧ (∀ c2, c2 < n → C c2 → M c2 ≤ M c) ∧ ∀ c2, c2 < c → C c2 → M c2 < M c := by
  intro n
  induction n with
  | zero => exact Or.inl ⟨rfl, fun c hc => absurd hc (Nat.not_lt_zero _)⟩
  | succ n ih =>
    rw [selF_s, Nat.zero_add]
    rcases ih with ⟨e, h⟩ | ⟨c, hc, c1, e, c2, c3⟩
    · rw [e]
      by_cases z : C n
      · right
        refine ⟨n, by omega, z, if_pos (pB_t.mpr ⟨Nat.succ_pos _, z⟩), fun c2 h2 h3 => ?_, fun c2 h2 h3 => absurd h3 (h c2 h2)⟩
        rcases Nat.lt_succ_iff_lt_or_eq.mp h2 with y | y
        · exact absurd h3 (h c2 y)
        · rw [y]; exact Nat.le_refl _
      · left
        refine ⟨if_neg (fun y => z (pB_t.mp y).2), fun c hc => ?_⟩
        rcases Nat.lt_succ_iff_lt_or_eq.mp hc with y | y
        · exact h c y
        · rw [y]; exact z
    · right
      rw [e]
      by_cases z : M c + 1 < M n + 1 ∧ C n
      · refine ⟨n, by omega, z.2, if_pos (pB_t.mpr z), fun c4 h2 h3 => ?_, fun c4 h2 h3 => ?_⟩
        · rcases Nat.lt_succ_iff_lt_or_eq.mp h2 with y | y
          · have := c2 c4 y h3; omega
          · rw [y]; exact Nat.le_refl _
        · have := c2 c4 h2 h3; omega
      · refine ⟨c, by omega, c1, if_neg (fun y => z (pB_t.mp y)), fun c4 h2 h3 => ?_, c3⟩
        rcases Nat.lt_succ_iff_lt_or_eq.mp h2 with y | y
        · exact c2 c4 y h3
        · rcases Nat.lt_or_ge (M c) (M c4) with w | w
          · exact absurd ⟨by rw [← y]; omega, y ▸ h3⟩ z
          · exact w
theorem cdD_top {e : Nat} {d : Nat → Nat} (hd : ∀ p, p < 5 → d p < e) : ∀ n, n ≤ 5 → cdD e d n < pw5 e n := by
  intro n
  induction n with
  | zero => intro _; show 0 < 1; decide
  | succ n ih =>
    intro hn
    have h1 := ih (by omega)
    have h2 := hd n (by omega)
    rw [cdD_s, show pw5 e (n + 1) = pw5 e n * e from rfl]
    have h3 : (cdD e d n + 1) * e ≤ pw5 e n * e := Nat.mul_le_mul_right e h1
    rw [Nat.add_mul, Nat.one_mul] at h3
    omega
theorem gL_D {e code : Nat} (h : gL e code 5 = 0) : ∀ n, n ≤ 5 → cdD e (dgD e code) n = gL e code (5 - n) := by
  intro n
  induction n with
  | zero => intro _; exact h.symm
  | succ n ih =>
    intro hn
    rw [cdD_s, ih (by omega), show 5 - n = (4 - n) + 1 from by omega, gL_s, show 5 - (n + 1) = 4 - n from by omega]
    unfold dgD
    rw [Nat.mul_comm]; exact Nat.div_add_mod _ _
theorem gL_0 {e code : Nat} (h : code < e * e * e * e * e) : gL e code 5 = 0 := by
  show code / e / e / e / e / e = 0
  rw [Nat.div_div_eq_div_mul, Nat.div_div_eq_div_mul, Nat.div_div_eq_div_mul, Nat.div_div_eq_div_mul]
  exact Nat.div_eq_of_lt (by rw [show e * (e * (e * (e * e))) = e * e * e * e * e from by simp only [Nat.mul_assoc]]; exact h)
theorem D_cd {e : Nat} {d : Nat → Nat} (hd : ∀ p, p < 5 → d p < e) : ∀ p, p < 5 → dgD e (cdD e d 5) p = d p := by
  have key : ∀ i, i ≤ 5 → gL e (cdD e d 5) i = cdD e d (5 - i) := by
    intro i
    induction i with
    | zero => intro _; rfl
    | succ i ih =>
      intro hi
      have h2 := hd (4 - i) (by omega)
      rw [gL_s, ih (by omega), show 5 - i = (4 - i) + 1 from by omega, cdD_s, show 5 - (i + 1) = 4 - i from by omega, Nat.mul_comm, Nat.mul_add_div (by omega), Nat.div_eq_of_lt h2]; rfl
  intro p hp
  unfold dgD
  rw [key (4 - p) (by omega), show 5 - (4 - p) = p + 1 from by omega, cdD_s, Nat.mul_comm, Nat.mul_add_mod, Nat.mod_eq_of_lt (hd p hp)]
theorem gotS_dg (x : Nat) : gotS (if x = 8 then 0 else x + 1) = x := by
  unfold gotS
  by_cases z : x = 8
  · rw [if_pos z, if_pos rfl, z]
  · rw [if_neg z, if_neg (by omega)]; omega
theorem leftS_v {n0 : Nat} {c0 lf : Nat → Nat} : ∀ n t, t < n → leftS n0 c0 lf n t = mayS n0 c0 t := by
  intro n
  induction n with
  | zero => intro t ht; exact absurd ht (Nat.not_lt_zero _)
  | succ n ih =>
    intro t ht
    rw [leftS_s]
    by_cases z : t = n
    · rw [z, updN_s]
    · rw [updN_n _ _ z]; exact ih t (by omega)
theorem hopS_v {n0 : Nat} {wt hp : Nat → Nat} : ∀ n, n ≤ 5 → hopS n0 wt hp n 5 = 0 ∧ ∀ i, i < n → hopS n0 wt hp n (4 - i) = hopS n0 wt hp n (4 - i + 1) + drS n0 wt (4 - i) 8 := by
  intro n
  induction n with
  | zero => intro _; exact ⟨updN_s hp 5 0, fun i hi => absurd hi (Nat.not_lt_zero _)⟩
  | succ n ih =>
    intro hn
    obtain ⟨h1, h2⟩ := ih (by omega)
    rw [hopS_s]
    refine ⟨(updN_n _ _ (by omega)).trans h1, fun i hi => ?_⟩
    by_cases z : i = n
    · subst z; rw [updN_s, updN_n _ _ (by omega)]
    · rw [updN_n _ _ (by omega), updN_n _ _ (by omega)]; exact h2 i (by omega)
theorem drS_ge {n0 : Nat} {wt : Nat → Nat} {p : Nat} : ∀ n t, t < n → wS n0 wt p t ≤ drS n0 wt p n := by
  intro n
  induction n with
  | zero => intro t ht; exact absurd ht (Nat.not_lt_zero _)
  | succ n ih =>
    intro t ht
    rw [drS_s]
    rcases Nat.lt_succ_iff_lt_or_eq.mp ht with z | z
    · exact Nat.le_trans (ih t z) (Nat.le_max_left _ _)
    · rw [z]; exact Nat.le_max_right _ _
theorem HP_of {n0 : Nat} {c0 wt B hp : Nat → Nat} (hw : WB B) (hr : WD n0 c0 wt B) : HP B (hopS n0 wt hp 5) := by
  obtain ⟨h1, h2⟩ := hopS_v (n0 := n0) (wt := wt) (hp := hp) 5 (Nat.le_refl _)
  have h8 := hw.1.1
  intro d hd
  have key : ∀ i, i ≤ 5 → vS B d 5 ≤ vS B d (5 - i) + hopS n0 wt hp 5 (5 - i) := by
    intro i
    induction i with
    | zero => intro _; exact Nat.le_add_right _ _
    | succ i ih =>
      intro hi
      have a := ih (by omega)
      have b := h2 i (by omega)
      rw [show 5 - i = (4 - i) + 1 from by omega, vS_s B d (4 - i)] at a
      rw [show 5 - (i + 1) = 4 - i from by omega, b]
      have c : vT B d (4 - i) ≤ drS n0 wt (4 - i) 8 := by
        unfold vT
        split
        · rename_i z
          have dd := hd (4 - i) (by omega)
          have e := hr.2.2 (4 - i) (d (4 - i) - 1) (by omega)
          rw [if_pos (by omega), show 156 + 8 * (4 - i) + (d (4 - i) - 1) = 156 + 8 * (4 - i) + d (4 - i) - 1 from by omega] at e
          rw [← e]; exact drS_ge 8 _ (by omega)
        · exact Nat.zero_le _
      omega
  intro q hq
  have := key (5 - q) (by omega)
  rw [show 5 - (5 - q) = q from by omega] at this; exact this
theorem WD_of {n0 : Nat} {c0 : Nat → Nat} {n1 : Nat} {c1 : Nat → Nat} {n2 : Nat} {c2 : Nat → Nat} {n3 : Nat} {c3 : Nat → Nat} {n4 : Nat} {c4 : Nat → Nat} {n5 : Nat} {c5 hs wf wt B : Nat → Nat} (hR : Rep n0 c0 n1 c1 n2 c2 n3 c3 n4 c4 n5 c5 hs wf wt B) (hw : WB B) : WD n0 c0 wt B := by
  have m0 : n0 = B 0 := hR.1.1
  have h8 := hw.1.1
  refine ⟨m0, fun t ht => eq_mayS hR hw ht, fun p t hp => ?_⟩
  unfold wS
  by_cases c : t < B 0
  · rw [if_pos ⟨hp, by omega⟩, hR.2.2.2.2.2.2.2.2.2 p t hp (by omega)]
  · rw [if_neg (fun z => c (by omega)), if_neg c]
theorem eq_deal {n0 : Nat} {c0 : Nat → Nat} {n1 : Nat} {c1 : Nat → Nat} {n2 : Nat} {c2 : Nat → Nat} {n3 : Nat} {c3 : Nat → Nat} {n4 : Nat} {c4 : Nat → Nat} {n5 : Nat} {c5 hs wf wt B : Nat → Nat} (hR : Rep n0 c0 n1 c1 n2 c2 n3 c3 n4 c4 n5 c5 hs wf wt B) (hw : WB B) {lf hp gt go ge g9 : Nat → Nat} {mo9 : Nat} (hm : mo9 = raiS n0 wt (hopS n0 wt hp 5) 6 0 0 (leftS n0 c0 lf 8) 0) (hf : ∃ f, (f, g9) = stlS n0 wt (hopS n0 wt hp 5) mo9 6 0 0 (leftS n0 c0 lf 8) gt) : (dlS B go ge).1 = mo9 + 1 ∧ ∀ p, p < 5 → gotS ((dlS B go ge).2.1 p) = g9 p := by
  have hr := WD_of hR hw
  have hh := HP_of (hp := hp) hw hr
  have h8 := hw.1.1
  have hl : ∀ pre, LF B pre (leftS n0 c0 lf 8) 0 := fun pre t ht => by
    rw [leftS_v 8 t (by omega)]; exact hr.2.1 t (by have := hr.1; omega)
  obtain ⟨-, -, ub, at9⟩ := raise_abc hw hr hh 6 0 0 (leftS n0 c0 lf 8) 0 (fun _ => 0) (Nat.zero_le _) (by omega) rfl (hl _) (fun q hq => absurd hq (Nat.not_lt_zero _))
  rw [← hm] at ub at9
  have ex0 : ∀ pre d, ext pre d 0 := fun pre d q hq => absurd hq (Nat.not_lt_zero _)
  obtain ⟨z1, z2, z3⟩ := zed_ok (B := B) (pre := fun _ => 0) (lf := leftS n0 c0 lf 8) (p := 0) (by omega) (fun q hq => absurd hq (Nat.not_lt_zero _)) (hl _)
  have at8 : ∃ d, dig B d ∧ feas B d ∧ vS B d 5 = mo9 := by
    rcases at9 with z | ⟨d, a, b, -, c⟩
    · exact ⟨_, z1, z2, z3.trans z.symm⟩
    · exact ⟨d, a, b, c⟩
  obtain ⟨f, hf⟩ := hf
  obtain ⟨s1, -, s3, s4⟩ := stl_lex (mo := mo9) hw hr hh 6 0 0 (leftS n0 c0 lf 8) gt (dgE gt) (Nat.zero_le _) (by omega) rfl (hl _) (fun q hq => absurd hq (Nat.not_lt_zero _)) (fun q hq => absurd hq (Nat.not_lt_zero _))
  rw [← hf] at s1 s3 s4
  have f1 : f = 1 := by
    rcases s1 with z | z
    · obtain ⟨d, a, b, c⟩ := at8
      exact absurd c (s4 z d a b (ex0 _ _))
    · exact z
  obtain ⟨o1, o2, o3, o4⟩ := s3 f1
  have o1' : ∀ p, p < 5 → dgE g9 p < B 0 + 1 := o1
  have hN : cdD (B 0 + 1) (dgE g9) 5 < (B 0 + 1) * (B 0 + 1) * (B 0 + 1) * (B 0 + 1) * (B 0 + 1) := by
    have := cdD_top o1' 5 (Nat.le_refl _)
    rw [pw5_5] at this; exact this
  have ecd := D_cd o1'
  have fe : feas B (dgD (B 0 + 1) (cdD (B 0 + 1) (dgE g9) 5)) := fun t ht => by rw [cntE_congr 5 ecd]; exact o2 t ht
  have ve : vS B (dgD (B 0 + 1) (cdD (B 0 + 1) (dgE g9) 5)) 5 = mo9 := (vS_congr 5 ecd).trans o3
  obtain ⟨t1, t2⟩ := dlT_sel (B := B) (go := go) (ge := ge) ((B 0 + 1) * (B 0 + 1) * (B 0 + 1) * (B 0 + 1) * (B 0 + 1))
  rcases selF_first (C := fun c => feas B (dgD (B 0 + 1) c)) (M := fun c => vS B (dgD (B 0 + 1) c) 5) (D := dgD (B 0 + 1)) (go := go) ((B 0 + 1) * (B 0 + 1) * (B 0 + 1) * (B 0 + 1) * (B 0 + 1)) with ⟨-, no⟩ | ⟨c, hc, c1, e, c2, c3⟩
  · exact absurd fe (no _ hN)
  · have dc : dig B (dgD (B 0 + 1) c) := fun p _ => Nat.mod_lt _ (Nat.succ_pos _)
    have a1 := ub _ dc c1 (ex0 _ _)
    have a2 := c2 _ hN fe
    rw [ve] at a2
    have a3 : vS B (dgD (B 0 + 1) c) 5 = mo9 := by omega
    have a4 := o4 _ dc c1 (ex0 _ _) a3
    rw [show cdD (B 0 + 1) (dgD (B 0 + 1) c) 5 = c from gL_D (gL_0 hc) 5 (Nat.le_refl _)] at a4
    have a5 : cdD (B 0 + 1) (dgE g9) 5 = c := by
      rcases Nat.lt_or_ge (cdD (B 0 + 1) (dgE g9) 5) c with z | z
      · have := c3 _ z fe
        rw [ve, a3] at this; omega
      · exact Nat.le_antisymm a4 z
    refine ⟨?_, fun p hp => ?_⟩
    · show (dlT B go ge _).1 = _
      rw [t1, e, ← a3]
    · show gotS ((dlT B go ge _).2.1 p) = _
      rw [t2 p hp, e]
      show gotS (dgD (B 0 + 1) c p) = _
      rw [← a5, ecd p hp]
      exact gotS_dg (g9 p)
