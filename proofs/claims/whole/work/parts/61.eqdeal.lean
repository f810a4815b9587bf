/-! DEAL: the first plan of the most, alike -/
def StlO (B d0 gt : Nat → Nat) (mo p : Nat) (y : Nat × (Nat → Nat)) : Prop :=
  (y.1 = 0 ∨ y.1 = 1) ∧ (∀ q, q < p → y.2 q = gt q) ∧
  (y.1 = 1 → dig B (dgE y.2) ∧ feas B (dgE y.2) ∧ vS B (dgE y.2) 5 = mo ∧ ∀ d, dig B d → feas B d → ext d0 d p → vS B d 5 = mo → cdD (B 0 + 1) (dgE y.2) 5 ≤ cdD (B 0 + 1) d 5) ∧
  (y.1 = 0 → ∀ d, dig B d → feas B d → ext d0 d p → ¬ vS B d 5 = mo)
theorem dgE_v {g : Nat → Nat} {q x : Nat} (e : g q = x) : dgE g q = if x = 8 then 0 else x + 1 := by unfold dgE; rw [e]
theorem stl_lex {n0 : Nat} {c0 wt B hp : Nat → Nat} {mo : Nat} (hw : WB B) (hr : WD n0 c0 wt B) (hh : HP B hp) : ∀ k p s lf gt pre, p ≤ 5 → 5 < p + k → s = vS B pre p → LF B pre lf p → (∀ q, q < p → pre q < B 0 + 1) → (∀ q, q < p → dgE gt q = pre q) →
    StlO B pre gt mo p (stlS n0 wt hp mo k p s lf gt) := by
  obtain ⟨m0, -, hwS⟩ := id hr
  have h8 := hw.1.1
  intro k
  induction k with
  | zero => intro p s lf gt pre h1 h2; omega
  | succ k ih =>
    intro p s lf gt pre hp5 hk hs hl hd hg
    by_cases h5 : 5 ≤ p
    · have e5 : p = 5 := by omega
      subst e5
      rw [← stl_0 h5]
      have cg : ∀ d, ext pre d 5 → ∀ q, q < 5 → dgE gt q = d q := fun d hx q hq => (hg q hq).trans (hx q hq).symm
      refine ⟨?_, fun _ _ => rfl, fun hy => ?_, fun hy => ?_⟩
      · show (if _ then _ else _) = 0 ∨ (if _ then _ else _) = 1
        split
        · exact Or.inr rfl
        · exact Or.inl rfl
      · have esm : s = mo := by
          rcases Nat.decEq s mo with z | z
          · exact absurd ((if_neg z).symm.trans hy) (by decide)
          · exact z
        refine ⟨fun q hq => by show dgE gt q < _; rw [hg q hq]; exact hd q hq, fun t ht => ?_, ?_, fun d _ _ hx _ => ?_⟩
        · show cntE (dgE gt) (t + 1) 5 ≤ _
          rw [cntE_congr 5 hg]; have := hl t ht; omega
        · show vS B (dgE gt) 5 = mo
          rw [vS_congr 5 hg, ← hs]; exact esm
        · show cdD _ (dgE gt) 5 ≤ _
          rw [cdD_congr 5 (cg d hx)]; exact Nat.le_refl _
      · have esm : ¬ s = mo := fun z => absurd ((if_pos z).symm.trans hy) (by decide)
        intro d _ _ hx e
        rw [vS_congr 5 hx, ← hs] at e; exact esm e
    · have hp4 : p < 5 := by omega
      by_cases h6 : s + hp p < mo
      · rw [← stl_1 h5 h6]
        refine ⟨Or.inl rfl, fun _ _ => rfl, fun hy => absurd hy (by show ¬ 0 = 1; decide), fun _ d d1 d2 d3 e => ?_⟩
        have := hh d d1 p hp5
        have e1 : vS B d p = s := by rw [hs]; exact vS_congr p d3
        omega
      · have g := ih (p + 1) s lf (updN gt p 8) (updN pre p 0) (by omega) (by omega) (by rw [vS_u, if_neg (by omega), hs]; rfl) (LF_u0 hl) (fun q hq => by
          by_cases z : q = p
          · rw [z, updN_s]; omega
          · rw [updN_n _ _ z]; exact hd q (by omega)) (fun q hq => by
          by_cases z : q = p
          · rw [z, updN_s, dgE_v (updN_s _ _ _)]; rfl
          · rw [updN_n _ _ z, dgE_v (updN_n _ _ z)]; exact hg q (by omega))
        obtain ⟨y1, y2, ey⟩ : ∃ a b, stlS n0 wt hp mo k (p + 1) s lf (updN gt p 8) = (a, b) := ⟨_, _, rfl⟩
        rw [ey] at g
        obtain ⟨g1, g2, g3, g4⟩ := g
        have lowy : ∀ q, q < p → y2 q = gt q := fun q hq => (g2 q (by omega)).trans (updN_n _ _ (by omega))
        have y2p : dgE y2 p = 0 := by rw [dgE_v ((g2 p (by omega)).trans (updN_s _ _ _))]; rfl
        have aux5 : p + 1 + (5 - (p + 1)) = 5 := by omega
        rcases g1 with z1 | z1
        · have z1' : y1 = 0 := z1
          subst z1'
          have no0 : ∀ d, dig B d → feas B d → ext pre d p → d p = 0 → ¬ vS B d 5 = mo := fun d d1 d2 d3 e => g4 rfl d d1 d2 (ext_s d3 e)
          have noz : ∀ d u, dig B d → feas B d → ext pre d p → d p = u + 1 → B (156 + 8 * p + u) = 0 → ¬ vS B d 5 = mo := by
            intro d u d1 d2 d3 e y
            obtain ⟨n1, n2, n3⟩ := none_as hp4 d1 d2 e y
            rw [← n3]
            exact no0 _ n1 n2 (fun q hq => (updN_n _ _ (by omega)).trans (d3 q hq)) (updN_s _ _ _)
          have inner : ∀ t, t ≤ 8 → (((stlI n0 wt hp mo k p s lf y2 t).1 = 0 ∨ (stlI n0 wt hp mo k p s lf y2 t).1 = 1) ∧ (∀ q, q < p → (stlI n0 wt hp mo k p s lf y2 t).2 q = gt q)) ∧ ((stlI n0 wt hp mo k p s lf y2 t).1 = 1 → dig B (dgE (stlI n0 wt hp mo k p s lf y2 t).2) ∧ feas B (dgE (stlI n0 wt hp mo k p s lf y2 t).2) ∧ vS B (dgE (stlI n0 wt hp mo k p s lf y2 t).2) 5 = mo ∧ ∀ d, dig B d → feas B d → ext pre d p → vS B d 5 = mo → cdD (B 0 + 1) (dgE (stlI n0 wt hp mo k p s lf y2 t).2) 5 ≤ cdD (B 0 + 1) d 5) ∧ ((stlI n0 wt hp mo k p s lf y2 t).1 = 0 → ∀ d, dig B d → feas B d → ext pre d p → vS B d 5 = mo → ∀ u, u < t → ¬ d p = u + 1) := by
            intro t
            induction t with
            | zero => intro _; exact ⟨⟨Or.inl rfl, lowy⟩, fun h => absurd h (by show ¬ 0 = 1; decide), fun _ d _ _ _ _ u hu => absurd hu (Nat.not_lt_zero _)⟩
            | succ t it9 =>
              intro ht
              have i0 := it9 (by omega)
              rw [stlI_s]
              obtain ⟨w1, w2, ew⟩ : ∃ a b, stlI n0 wt hp mo k p s lf y2 t = (a, b) := ⟨_, _, rfl⟩
              rw [ew] at i0 ⊢
              obtain ⟨⟨b1, b2⟩, b3, b4⟩ := i0
              dsimp only at b1 b2 b3 b4 ⊢
              rcases b1 with z | z
              · subst z
                rw [if_neg (by decide)]
                have ews := hwS p t hp4
                by_cases c : 0 < lf t ∧ 0 < wS n0 wt p t
                · rw [if_pos c]
                  have ht0 : t < B 0 := by
                    rcases Nat.lt_or_ge t (B 0) with z | z
                    · exact z
                    · rw [if_neg (by omega)] at ews; omega
                  rw [if_pos ht0] at ews
                  have g := ih (p + 1) (s + wS n0 wt p t) (updN lf t (lf t - 1)) (updN w2 p t) (updN pre p (t + 1)) (by omega) (by omega) (by rw [vS_u, if_pos (by omega), ews, hs, show 156 + 8 * p + (t + 1) - 1 = 156 + 8 * p + t from by omega]) (LF_u1 hl c.1) (fun q hq => by
                    by_cases z : q = p
                    · rw [z, updN_s]; omega
                    · rw [updN_n _ _ z]; exact hd q (by omega)) (fun q hq => by
                    by_cases z : q = p
                    · rw [z, updN_s, dgE_v (updN_s _ _ _)]; exact if_neg (by omega)
                    · rw [updN_n _ _ z, dgE_v ((updN_n _ _ z).trans (b2 q (by omega)))]; exact hg q (by omega))
                  obtain ⟨r1, r2, er⟩ : ∃ a b, stlS n0 wt hp mo k (p + 1) (s + wS n0 wt p t) (updN lf t (lf t - 1)) (updN w2 p t) = (a, b) := ⟨_, _, rfl⟩
                  rw [er] at g ⊢
                  obtain ⟨q1, q2, q3, q4⟩ := g
                  dsimp only at q1 q2 q3 q4 ⊢
                  have lowr : ∀ q, q < p → r2 q = gt q := fun q hq => ((q2 q (by omega)).trans (updN_n _ _ (by omega))).trans (b2 q hq)
                  refine ⟨⟨q1, lowr⟩, fun h1 => ?_, fun h0 => ?_⟩
                  · obtain ⟨o1, o2, o3, o4⟩ := q3 h1
                    refine ⟨o1, o2, o3, fun d d1 d2 d3 e => ?_⟩
                    have r2p : dgE r2 p = t + 1 := by rw [dgE_v ((q2 p (by omega)).trans (updN_s _ _ _))]; exact if_neg (by omega)
                    rcases Nat.eq_zero_or_pos (d p) with z | z
                    · exact absurd e (no0 d d1 d2 d3 z)
                    · have z0 := b4 rfl d d1 d2 d3 e (d p - 1)
                      rcases Nat.lt_trichotomy (d p) (t + 1) with y | y | y
                      · exact absurd (show d p = d p - 1 + 1 by omega) (z0 (by omega))
                      · exact o4 d d1 d2 (ext_s d3 y) e
                      · have := cdD_lt (e := B 0 + 1) (d := dgE r2) (d2 := d) (p := p) (fun q hq => (dgE_v (lowr q hq)).trans (by rw [d3 q hq, ← hg q hq]; rfl)) (by omega) o1 (5 - (p + 1)) (by omega)
                        rw [aux5] at this; omega
                  · intro d d1 d2 d3 e u hu eu
                    rcases Nat.lt_succ_iff_lt_or_eq.mp hu with z | z
                    · exact b4 rfl d d1 d2 d3 e u z eu
                    · subst z; exact q4 h0 d d1 d2 (ext_s d3 eu) e
                · rw [if_neg c]
                  refine ⟨⟨Or.inl rfl, b2⟩, fun h => absurd h (by show ¬ 0 = 1; decide), fun _ d d1 d2 d3 e u hu eu => ?_⟩
                  rcases Nat.lt_succ_iff_lt_or_eq.mp hu with z | z
                  · exact b4 rfl d d1 d2 d3 e u z eu
                  · subst z
                    have ht0 : u < B 0 := by have := d1 p hp4; omega
                    rw [if_pos ht0] at ews
                    rcases Nat.eq_zero_or_pos (B (156 + 8 * p + u)) with y | y
                    · exact noz d u d1 d2 d3 eu y e
                    · exact absurd d2 (full hp4 hl d3 eu ht0 (fun z => c ⟨z, by omega⟩))
              · subst z
                rw [if_pos rfl]
                exact ⟨⟨Or.inr rfl, b2⟩, b3, fun h => absurd h (by show ¬ 1 = 0; decide)⟩
          obtain ⟨⟨j1, j2⟩, j3, j4⟩ := inner 8 (Nat.le_refl _)
          rw [← stl_3 h5 h6 ey.symm rfl]
          refine ⟨j1, j2, j3, fun h d d1 d2 d3 e => ?_⟩
          rcases Nat.eq_zero_or_pos (d p) with z | z
          · exact no0 d d1 d2 d3 z e
          · have := d1 p hp4
            exact j4 h d d1 d2 d3 e (d p - 1) (by omega) (by omega)
        · have z1' : y1 = 1 := z1
          subst z1'
          rw [← stl_2 h5 h6 ey.symm]
          obtain ⟨o1, o2, o3, o4⟩ := g3 rfl
          refine ⟨Or.inr rfl, lowy, fun _ => ⟨o1, o2, o3, fun d d1 d2 d3 e => ?_⟩, fun h => absurd h (by show ¬ 1 = 0; decide)⟩
          rcases Nat.eq_zero_or_pos (d p) with z | z
          · exact o4 d d1 d2 (ext_s d3 z) e
          · have := cdD_lt (e := B 0 + 1) (d := dgE y2) (d2 := d) (p := p) (fun q hq => (dgE_v (lowy q hq)).trans (by rw [d3 q hq, ← hg q hq]; rfl)) (by omega) o1 (5 - (p + 1)) (by omega)
            rw [aux5] at this
            exact Nat.le_of_lt this
