/-! DEAL: alike -/
def vT (B d : Nat → Nat) (p : Nat) : Nat := if 0 < d p then B (156 + 8 * p + d p - 1) else 0
def vS (B d : Nat → Nat) (n : Nat) : Nat := it (fun p a => a + vT B d p) n 0
theorem vS_s (B d : Nat → Nat) (n : Nat) : vS B d (n + 1) = vS B d n + vT B d n := rfl
theorem vT_congr {B d d2 : Nat → Nat} {p : Nat} (e : d p = d2 p) : vT B d p = vT B d2 p := by unfold vT; rw [e]
theorem vS_congr {B d d2 : Nat → Nat} : ∀ n, (∀ p, p < n → d p = d2 p) → vS B d n = vS B d2 n := by
  intro n
  induction n with
  | zero => intro _; rfl
  | succ n ih => intro e; rw [vS_s, vS_s, ih (fun p hp => e p (by omega)), vT_congr (e n (by omega))]
theorem cntE_s (h : Nat → Nat) (x n : Nat) : cntE h x (n + 1) = cntE h x n + if h n = x then 1 else 0 := rfl
theorem cntE_congr {d d2 : Nat → Nat} {x : Nat} : ∀ n, (∀ p, p < n → d p = d2 p) → cntE d x n = cntE d2 x n := by
  intro n
  induction n with
  | zero => intro _; rfl
  | succ n ih => intro e; rw [cntE_s, cntE_s, ih (fun p hp => e p (by omega)), e n (by omega)]
theorem cntE_mono (d : Nat → Nat) (x n : Nat) : ∀ k, cntE d x n ≤ cntE d x (n + k) := by
  intro k
  induction k with
  | zero => exact Nat.le_refl _
  | succ k ih => rw [show n + (k + 1) = (n + k) + 1 from rfl, cntE_s]; omega
def feas (B d : Nat → Nat) : Prop := ∀ t, t < B 0 → cntE d (t + 1) 5 ≤ mayM B t
def dig (B d : Nat → Nat) : Prop := ∀ p, p < 5 → d p < B 0 + 1
def ext (pre d : Nat → Nat) (p : Nat) : Prop := ∀ q, q < p → d q = pre q
/-- what is worth, alike -/
def WD (n0 : Nat) (c0 wt B : Nat → Nat) : Prop := n0 = B 0 ∧ (∀ t, t < n0 → mayS n0 c0 t = mayM B t) ∧ ∀ p t, p < 5 → wS n0 wt p t = if t < B 0 then B (156 + 8 * p + t) else 0
def LF (B pre lf : Nat → Nat) (p : Nat) : Prop := ∀ t, t < B 0 → lf t + cntE pre (t + 1) p = mayM B t
def HP (B hp : Nat → Nat) : Prop := ∀ d, dig B d → ∀ q, q ≤ 5 → vS B d 5 ≤ vS B d q + hp q
/-- all behind are none -/
def zed (pre : Nat → Nat) (p : Nat) : Nat → Nat := fun q => if q < p then pre q else 0
theorem zed_ext (pre : Nat → Nat) (p : Nat) : ext pre (zed pre p) p := fun _ hq => if_pos hq
theorem zed_v {B pre : Nat → Nat} {p : Nat} : ∀ k, vS B (zed pre p) (p + k) = vS B pre p := by
  intro k
  induction k with
  | zero => exact vS_congr p (fun q hq => if_pos hq)
  | succ k ih =>
    rw [show p + (k + 1) = (p + k) + 1 from rfl, vS_s, ih]
    have e : zed pre p (p + k) = 0 := if_neg (by omega)
    unfold vT; rw [e]; rfl
theorem zed_c {pre : Nat → Nat} {p t : Nat} : ∀ k, cntE (zed pre p) (t + 1) (p + k) = cntE pre (t + 1) p := by
  intro k
  induction k with
  | zero => exact cntE_congr p (fun q hq => if_pos hq)
  | succ k ih =>
    rw [show p + (k + 1) = (p + k) + 1 from rfl, cntE_s, ih]
    have e : zed pre p (p + k) = 0 := if_neg (by omega)
    rw [e, if_neg (by omega)]; rfl
theorem zed_ok {B pre lf : Nat → Nat} {p : Nat} (hp : p ≤ 5) (hd : ∀ q, q < p → pre q < B 0 + 1) (hl : LF B pre lf p) : dig B (zed pre p) ∧ feas B (zed pre p) ∧ vS B (zed pre p) 5 = vS B pre p := by
  refine ⟨fun q hq => ?_, fun t ht => ?_, ?_⟩
  · unfold zed; split
    · exact hd q (by assumption)
    · omega
  · have h := zed_c (pre := pre) (p := p) (t := t) (5 - p)
    rw [show p + (5 - p) = 5 from by omega] at h
    have := hl t ht
    omega
  · have h := zed_v (B := B) (pre := pre) (p := p) (5 - p)
    rw [show p + (5 - p) = 5 from by omega] at h; exact h
theorem ext_s {pre d : Nat → Nat} {p x : Nat} (h : ext pre d p) (e : d p = x) : ext (updN pre p x) d (p + 1) := by
  intro q hq
  rcases Nat.lt_succ_iff_lt_or_eq.mp hq with z | z
  · rw [updN_n _ _ (by omega)]; exact h q z
  · subst z; rw [updN_s]; exact e
theorem ext_u {pre d : Nat → Nat} {p x : Nat} (h : ext (updN pre p x) d (p + 1)) : ext pre d p ∧ d p = x := ⟨fun q hq => by have := h q (by omega); rw [updN_n _ _ (by omega)] at this; exact this, by have := h p (by omega); rw [updN_s] at this; exact this⟩
theorem vS_u {B pre : Nat → Nat} {p x : Nat} : vS B (updN pre p x) (p + 1) = vS B pre p + if 0 < x then B (156 + 8 * p + x - 1) else 0 := by
  rw [vS_s, vS_congr (d := updN pre p x) (d2 := pre) p (fun q hq => updN_n _ _ (by omega))]
  unfold vT; rw [updN_s]
theorem LF_u0 {B pre lf : Nat → Nat} {p : Nat} (h : LF B pre lf p) : LF B (updN pre p 0) lf (p + 1) := by
  intro t ht
  rw [cntE_s, cntE_congr (d := updN pre p 0) (d2 := pre) p (fun q hq => updN_n _ _ (by omega)), updN_s, if_neg (by omega)]
  exact h t ht
theorem LF_u1 {B pre lf : Nat → Nat} {p t : Nat} (h : LF B pre lf p) (hl : 0 < lf t) : LF B (updN pre p (t + 1)) (updN lf t (lf t - 1)) (p + 1) := by
  intro u hu
  rw [cntE_s, cntE_congr (d := updN pre p (t + 1)) (d2 := pre) p (fun q hq => updN_n _ _ (by omega)), updN_s]
  have := h u hu
  by_cases e : u = t
  · subst e; rw [updN_s, if_pos rfl]; omega
  · rw [updN_n _ _ e, if_neg (by omega)]; omega
theorem full {B pre lf d : Nat → Nat} {p t : Nat} (hp : p < 5) (h : LF B pre lf p) (he : ext pre d p) (hd : d p = t + 1) (ht : t < B 0) (hl : ¬ 0 < lf t) : ¬ feas B d := by
  intro hf
  have h1 := hf t ht
  have h2 := cntE_mono d (t + 1) (p + 1) (5 - (p + 1))
  rw [show p + 1 + (5 - (p + 1)) = 5 from by omega, cntE_s, hd, if_pos rfl, cntE_congr (d := d) (d2 := pre) p he] at h2
  have h3 := h t ht
  omega
/-- a term of no worth: none says as much -/
theorem none_as {B d : Nat → Nat} {p t : Nat} (hp : p < 5) (hd : dig B d) (hf : feas B d) (e : d p = t + 1) (hw : B (156 + 8 * p + t) = 0) : dig B (updN d p 0) ∧ feas B (updN d p 0) ∧ vS B (updN d p 0) 5 = vS B d 5 := by
  refine ⟨fun q hq => ?_, fun u hu => ?_, ?_⟩
  · by_cases z : q = p
    · rw [z, updN_s]; omega
    · rw [updN_n _ _ z]; exact hd q hq
  · have key : ∀ n, cntE (updN d p 0) (u + 1) n ≤ cntE d (u + 1) n := by
      intro n
      induction n with
      | zero => exact Nat.le_refl _
      | succ n ih =>
        rw [cntE_s, cntE_s]
        by_cases z : n = p
        · have e2 : updN d p 0 n = 0 := by rw [z, updN_s]
          rw [e2, if_neg (by omega)]; omega
        · rw [updN_n _ _ z]; omega
    exact Nat.le_trans (key 5) (hf u hu)
  · have key : ∀ n, vS B (updN d p 0) n = vS B d n := by
      intro n
      induction n with
      | zero => rfl
      | succ n ih =>
        rw [vS_s, vS_s, ih]
        by_cases z : n = p
        · subst z
          have a : vT B (updN d n 0) n = 0 := by unfold vT; rw [updN_s]; rfl
          have b : vT B d n = 0 := by unfold vT; rw [e, if_pos (by omega), show 156 + 8 * n + (t + 1) - 1 = 156 + 8 * n + t from by omega]; exact hw
          rw [a, b]
        · rw [vT_congr (updN_n _ _ z)]
    exact key 5
theorem raise_abc {n0 : Nat} {c0 wt B hp : Nat → Nat} (hw : WB B) (hr : WD n0 c0 wt B) (hh : HP B hp) : ∀ k p s lf mo pre, p ≤ 5 → 5 < p + k → s = vS B pre p → LF B pre lf p → (∀ q, q < p → pre q < B 0 + 1) →
    mo ≤ raiS n0 wt hp k p s lf mo ∧ s ≤ raiS n0 wt hp k p s lf mo ∧ (∀ d, dig B d → feas B d → ext pre d p → vS B d 5 ≤ raiS n0 wt hp k p s lf mo) ∧ (raiS n0 wt hp k p s lf mo = mo ∨ ∃ d, dig B d ∧ feas B d ∧ ext pre d p ∧ vS B d 5 = raiS n0 wt hp k p s lf mo) := by
  obtain ⟨m0, -, hwS⟩ := id hr
  have h8 := hw.1.1
  intro k
  induction k with
  | zero => intro p s lf mo pre h1 h2; omega
  | succ k ih =>
    intro p s lf mo pre hp5 hk hs hl hd
    obtain ⟨zd, zf, zv⟩ := zed_ok hp5 hd hl
    have hmx1 : mo ≤ Nat.max mo s := Nat.le_max_left _ _
    have hmx2 : s ≤ Nat.max mo s := Nat.le_max_right _ _
    have hmx3 : Nat.max mo s = mo ∨ Nat.max mo s = s := by rcases Nat.le_total mo s with z | z; exact Or.inr (Nat.max_eq_right z); exact Or.inl (Nat.max_eq_left z)
    have pick : Nat.max mo s = mo ∨ ∃ d, dig B d ∧ feas B d ∧ ext pre d p ∧ vS B d 5 = Nat.max mo s := by
      rcases hmx3 with z | z
      · exact Or.inl z
      · exact Or.inr ⟨zed pre p, zd, zf, zed_ext pre p, by rw [zv, z, hs]⟩
    by_cases hend : 5 ≤ p ∨ s + hp p ≤ Nat.max mo s
    · rw [← rai_0 hend]
      refine ⟨hmx1, hmx2, fun d d1 d2 d3 => ?_, pick⟩
      have e1 : vS B d p = s := by rw [hs]; exact vS_congr p d3
      rcases hend with z | z
      · rw [show (5 : Nat) = p from by omega, e1]; exact hmx2
      · have := hh d d1 p hp5; omega
    · have h5 : ¬ 5 ≤ p := fun z => hend (Or.inl z)
      have h6 : ¬ s + hp p ≤ Nat.max mo s := fun z => hend (Or.inr z)
      have inner : ∀ t, t ≤ 8 → Nat.max mo s ≤ raiI n0 wt hp k p s lf (Nat.max mo s) t ∧ (∀ d, dig B d → feas B d → ext pre d p → ∀ u, u < t → d p = u + 1 → 0 < B (156 + 8 * p + u) → vS B d 5 ≤ raiI n0 wt hp k p s lf (Nat.max mo s) t) ∧ (raiI n0 wt hp k p s lf (Nat.max mo s) t = mo ∨ ∃ d, dig B d ∧ feas B d ∧ ext pre d p ∧ vS B d 5 = raiI n0 wt hp k p s lf (Nat.max mo s) t) := by
        intro t
        induction t with
        | zero => intro _; exact ⟨Nat.le_refl _, fun d _ _ _ u hu => absurd hu (Nat.not_lt_zero _), pick⟩
        | succ t it9 =>
          intro ht
          obtain ⟨i1, i2, i3⟩ := it9 (by omega)
          rw [raiI_s]
          have ew := hwS p t (by omega)
          by_cases c : 0 < lf t ∧ 0 < wS n0 wt p t
          · rw [if_pos c]
            have ht0 : t < B 0 := by
              rcases Nat.lt_or_ge t (B 0) with z | z
              · exact z
              · rw [if_neg (by omega)] at ew; omega
            rw [if_pos ht0] at ew
            have g := ih (p + 1) (s + wS n0 wt p t) (updN lf t (lf t - 1)) (raiI n0 wt hp k p s lf (Nat.max mo s) t) (updN pre p (t + 1)) (by omega) (by omega) (by rw [vS_u, if_pos (by omega), ew, hs, show 156 + 8 * p + (t + 1) - 1 = 156 + 8 * p + t from by omega]) (LF_u1 hl c.1) (fun q hq => by
              by_cases z : q = p
              · rw [z, updN_s]; omega
              · rw [updN_n _ _ z]; exact hd q (by omega))
            obtain ⟨g1, g2, g3, g4⟩ := g
            refine ⟨Nat.le_trans i1 g1, fun d d1 d2 d3 u hu e hpos => ?_, ?_⟩
            · rcases Nat.lt_succ_iff_lt_or_eq.mp hu with z | z
              · exact Nat.le_trans (i2 d d1 d2 d3 u z e hpos) g1
              · subst z; exact g3 d d1 d2 (ext_s d3 e)
            · rcases g4 with z | ⟨d, d1, d2, d3, d4⟩
              · rw [z]; exact i3
              · exact Or.inr ⟨d, d1, d2, (ext_u d3).1, d4⟩
          · rw [if_neg c]
            refine ⟨i1, fun d d1 d2 d3 u hu e hpos => ?_, i3⟩
            rcases Nat.lt_succ_iff_lt_or_eq.mp hu with z | z
            · exact i2 d d1 d2 d3 u z e hpos
            · subst z
              have ht0 : u < B 0 := by have := d1 p (by omega); omega
              rw [if_pos ht0] at ew
              exact absurd d2 (full (by omega) hl d3 e ht0 (fun z => c ⟨z, by omega⟩))
      obtain ⟨i1, i2, i3⟩ := inner 8 (Nat.le_refl _)
      rw [← rai_1 h5 h6 rfl]
      have g := ih (p + 1) s lf (raiI n0 wt hp k p s lf (Nat.max mo s) 8) (updN pre p 0) (by omega) (by omega) (by rw [vS_u, if_neg (by omega), hs]; rfl) (LF_u0 hl) (fun q hq => by
        by_cases z : q = p
        · rw [z, updN_s]; omega
        · rw [updN_n _ _ z]; exact hd q (by omega))
      obtain ⟨g1, g2, g3, g4⟩ := g
      refine ⟨by omega, by omega, fun d d1 d2 d3 => ?_, ?_⟩
      · rcases Nat.eq_zero_or_pos (d p) with z | z
        · exact g3 d d1 d2 (ext_s d3 z)
        · obtain ⟨u, hu⟩ : ∃ u, d p = u + 1 := ⟨d p - 1, by omega⟩
          have hu8 : u < B 0 := by have := d1 p (by omega); omega
          rcases Nat.eq_zero_or_pos (B (156 + 8 * p + u)) with y | y
          · obtain ⟨n1, n2, n3⟩ := none_as (show p < 5 by omega) d1 d2 hu y
            rw [← n3]
            exact g3 _ n1 n2 (ext_s (fun q hq => (updN_n _ _ (by omega)).trans (d3 q hq)) (updN_s _ _ _))
          · exact Nat.le_trans (i2 d d1 d2 d3 u (by omega) hu y) g1
      · rcases g4 with z | ⟨d, d1, d2, d3, d4⟩
        · rw [z]; exact i3
        · exact Or.inr ⟨d, d1, d2, (ext_u d3).1, d4⟩
/-- digits and codes -/
def cdD (e : Nat) (d : Nat → Nat) (n : Nat) : Nat := it (fun p a => a * e + d p) n 0
theorem cdD_s (e : Nat) (d : Nat → Nat) (n : Nat) : cdD e d (n + 1) = cdD e d n * e + d n := rfl
theorem cdD_congr {e : Nat} {d d2 : Nat → Nat} : ∀ n, (∀ p, p < n → d p = d2 p) → cdD e d n = cdD e d2 n := by
  intro n
  induction n with
  | zero => intro _; rfl
  | succ n ih => intro h; rw [cdD_s, cdD_s, ih (fun p hp => h p (by omega)), h n (by omega)]
theorem cdD_lt {e : Nat} {d d2 : Nat → Nat} {p : Nat} (hext : ∀ q, q < p → d q = d2 q) (hlt : d p < d2 p) (hd : ∀ q, q < 5 → d q < e) : ∀ k, p + 1 + k ≤ 5 → cdD e d (p + 1 + k) < cdD e d2 (p + 1 + k) := by
  intro k
  induction k with
  | zero => intro _; show cdD e d (p + 1) < cdD e d2 (p + 1); rw [cdD_s, cdD_s, cdD_congr p hext]; omega
  | succ k ih =>
    intro h
    have i := ih (by omega)
    have h2 := hd (p + 1 + k) (by omega)
    rw [show p + 1 + (k + 1) = (p + 1 + k) + 1 from rfl, cdD_s, cdD_s]
    have h3 : (cdD e d (p + 1 + k) + 1) * e ≤ cdD e d2 (p + 1 + k) * e := Nat.mul_le_mul_right e i
    rw [Nat.add_mul, Nat.one_mul] at h3
    omega
def dgE (g : Nat → Nat) : Nat → Nat := fun q => if g q = 8 then 0 else g q + 1
