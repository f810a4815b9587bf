/-! what the class answers is what the model answers: the plain calls -/
theorem td_bad (rf : Nat → Int32) : tdS rf (-2) = bump 0 rf 0 := by
  unfold tdS bump; rw [if_pos rfl, if_pos rfl]
theorem td_no (rf : Nat → Int32) : tdS rf (-3) = bump 0 rf 1 := by
  unfold tdS bump; rw [if_neg (by decide), if_pos rfl, if_pos rfl]
theorem td_full (rf : Nat → Int32) : tdS rf (-4) = bump 0 rf 2 := by
  unfold tdS bump; rw [if_neg (by decide), if_neg (by decide), if_pos rfl, if_pos rfl]
theorem td_ok (rf : Nat → Int32) {X : Int} (h : 0 ≤ X) : tdS rf X = rf := by
  unfold tdS; rw [if_neg (by omega), if_neg (by omega), if_neg (by omega)]
theorem td_n (rf : Nat → Int32) {n : Nat} (h : n < 2 ^ 31) : tdS rf (nI n).toInt = rf := td_ok rf (by rw [nI_toInt h]; omega)
theorem td_add (rf : Nat → Int32) (ok : Bool) {n lim : Nat} (h : n < 2 ^ 31) : tdS rf (okR ok n lim).toInt = rfS ok n lim 0 rf := by
  unfold okR rfS
  split
  · split
    · exact td_n rf h
    · exact td_full rf
  · exact td_bad rf
theorem cntN_zero {p : Nat → Bool} : ∀ n, cntN p n = 0 ↔ ∀ k, k < n → p k = false := by
  intro n
  induction n with
  | zero => exact ⟨fun _ k hk => absurd hk (Nat.not_lt_zero _), fun _ => rfl⟩
  | succ n ih =>
    rw [cntN_s]
    constructor
    · intro h k hk
      have h1 : cntN p n = 0 := by omega
      rcases Nat.lt_succ_iff_lt_or_eq.mp hk with z | z
      · exact ih.mp h1 k z
      · subst z
        by_cases e : p k = true
        · rw [if_pos e] at h; omega
        · exact Bool.eq_false_iff.mpr e
    · intro h
      rw [ih.mpr (fun k hk => h k (by omega)), h n (by omega)]; rfl
theorem bitsN_lt9 (p : Nat → Bool) {n : Nat} (h : n ≤ 8) : bitsN p n < 256 := Nat.lt_of_lt_of_le (bitsN_lt p n) (p256 h).2
theorem eq_mayS {n0 : Nat} {c0 : Nat → Nat} {n1 : Nat} {c1 : Nat → Nat} {n2 : Nat} {c2 : Nat → Nat} {n3 : Nat} {c3 : Nat → Nat} {n4 : Nat} {c4 : Nat → Nat} {n5 : Nat} {c5 hs wf wt : Nat → Nat} {B : Nat → Nat} {t : Nat}  (hR : Rep n0 c0 n1 c1 n2 c2 n3 c3 n4 c4 n5 c5 hs wf wt B) (hw : WB B) (ht : t < n0) : mayS n0 c0 t = mayM B t := by
  obtain ⟨⟨m0, m1, m2, m3, m4, m5⟩, ⟨hb0, hb1, hb2, hb3, hb4, hb5, hbh, hbw, hbt⟩, r0, r1, r2, r3, r4, r5, rp, rw9⟩ := id hR
  obtain ⟨⟨hn0, hn1, hn2, hn3, hn4, hn5⟩, hbB, hv0, hv1, hv2, hv3, hv4, hv5, hv6, hv7⟩ := id hw
  have r := r0 t (by omega)
  unfold mayS mayM
  rw [atS_in ht (by omega), atS_in ht (by omega), r.1, r.2.1]
  by_cases e : oneB (B (8 + 3 * t)) = true
  · rw [if_pos ⟨ht, e⟩, if_pos e]
  · rw [if_neg (fun z => e z.2), if_neg e]
theorem eq_longS {n0 : Nat} {c0 : Nat → Nat} {n1 : Nat} {c1 : Nat → Nat} {n2 : Nat} {c2 : Nat → Nat} {n3 : Nat} {c3 : Nat → Nat} {n4 : Nat} {c4 : Nat → Nat} {n5 : Nat} {c5 hs wf wt : Nat → Nat} {B : Nat → Nat} {t : Nat}  (hR : Rep n0 c0 n1 c1 n2 c2 n3 c3 n4 c4 n5 c5 hs wf wt B) (hw : WB B) (ht : t < n0) : longS (atS n0 3 c0 t 0) = longS (B (8 + 3 * t)) := by
  obtain ⟨⟨m0, m1, m2, m3, m4, m5⟩, ⟨hb0, hb1, hb2, hb3, hb4, hb5, hbh, hbw, hbt⟩, r0, r1, r2, r3, r4, r5, rp, rw9⟩ := id hR
  obtain ⟨⟨hn0, hn1, hn2, hn3, hn4, hn5⟩, hbB, hv0, hv1, hv2, hv3, hv4, hv5, hv6, hv7⟩ := id hw
  rw [atS_in ht (by omega), (r0 t (by omega)).1]
theorem eq_cost {n0 : Nat} {c0 : Nat → Nat} {n1 : Nat} {c1 : Nat → Nat} {n2 : Nat} {c2 : Nat → Nat} {n3 : Nat} {c3 : Nat → Nat} {n4 : Nat} {c4 : Nat → Nat} {n5 : Nat} {c5 hs wf wt : Nat → Nat} {B : Nat → Nat} {t h : Nat}  (hR : Rep n0 c0 n1 c1 n2 c2 n3 c3 n4 c4 n5 c5 hs wf wt B) (hw : WB B) (ht : t < n0) : costS (c0 (t * 4 + 0)) (c0 (t * 4 + 2)) h = costS (B (8 + 3 * t)) (B (8 + 3 * t + 2)) h := by
  obtain ⟨⟨m0, m1, m2, m3, m4, m5⟩, ⟨hb0, hb1, hb2, hb3, hb4, hb5, hbh, hbw, hbt⟩, r0, r1, r2, r3, r4, r5, rp, rw9⟩ := id hR
  obtain ⟨⟨hn0, hn1, hn2, hn3, hn4, hn5⟩, hbB, hv0, hv1, hv2, hv3, hv4, hv5, hv6, hv7⟩ := id hw
  rw [(r0 t (by omega)).1, (r0 t (by omega)).2.2]
theorem eq_lent {n0 : Nat} {c0 : Nat → Nat} {n1 : Nat} {c1 : Nat → Nat} {n2 : Nat} {c2 : Nat → Nat} {n3 : Nat} {c3 : Nat → Nat} {n4 : Nat} {c4 : Nat → Nat} {n5 : Nat} {c5 hs wf wt : Nat → Nat} {B : Nat → Nat} {t h k : Nat}  (hR : Rep n0 c0 n1 c1 n2 c2 n3 c3 n4 c4 n5 c5 hs wf wt B) (hw : WB B) (hk : k < n1) : lentB n1 c1 t h k = havB B t h (-1) k := by
  obtain ⟨⟨m0, m1, m2, m3, m4, m5⟩, ⟨hb0, hb1, hb2, hb3, hb4, hb5, hbh, hbw, hbt⟩, r0, r1, r2, r3, r4, r5, rp, rw9⟩ := id hR
  obtain ⟨⟨hn0, hn1, hn2, hn3, hn4, hn5⟩, hbB, hv0, hv1, hv2, hv3, hv4, hv5, hv6, hv7⟩ := id hw
  have r := r1 k (by omega)
  unfold lentB havB
  exact decide_eq_decide.mpr ⟨fun z => ⟨Or.inl rfl, by omega, by omega, by omega⟩, fun z => ⟨hk, by omega, by omega, by omega⟩⟩
theorem eq_cnt {n0 : Nat} {c0 : Nat → Nat} {n1 : Nat} {c1 : Nat → Nat} {n2 : Nat} {c2 : Nat → Nat} {n3 : Nat} {c3 : Nat → Nat} {n4 : Nat} {c4 : Nat → Nat} {n5 : Nat} {c5 hs wf wt : Nat → Nat} {B : Nat → Nat} {t h n : Nat}  (hR : Rep n0 c0 n1 c1 n2 c2 n3 c3 n4 c4 n5 c5 hs wf wt B) (hw : WB B) (hn : n ≤ n1) : cntN (lentB n1 c1 t h) n = cntN (havB B t h (-1)) n := by
  obtain ⟨⟨m0, m1, m2, m3, m4, m5⟩, ⟨hb0, hb1, hb2, hb3, hb4, hb5, hbh, hbw, hbt⟩, r0, r1, r2, r3, r4, r5, rp, rw9⟩ := id hR
  obtain ⟨⟨hn0, hn1, hn2, hn3, hn4, hn5⟩, hbB, hv0, hv1, hv2, hv3, hv4, hv5, hv6, hv7⟩ := id hw
  exact cntN_congr n (fun k hk => eq_lent hR hw (by omega))
theorem eq_wrong1 {n0 : Nat} {c0 : Nat → Nat} {n1 : Nat} {c1 : Nat → Nat} {n2 : Nat} {c2 : Nat → Nat} {n3 : Nat} {c3 : Nat → Nat} {n4 : Nat} {c4 : Nat → Nat} {n5 : Nat} {c5 hs wf wt : Nat → Nat} {B : Nat → Nat} {k : Nat}  (hR : Rep n0 c0 n1 c1 n2 c2 n3 c3 n4 c4 n5 c5 hs wf wt B) (hw : WB B) (hk : k < n1) : wrongP n0 c0 n1 c1 k ↔ wrongM B k := by
  obtain ⟨⟨m0, m1, m2, m3, m4, m5⟩, ⟨hb0, hb1, hb2, hb3, hb4, hb5, hbh, hbw, hbt⟩, r0, r1, r2, r3, r4, r5, rp, rw9⟩ := id hR
  obtain ⟨⟨hn0, hn1, hn2, hn3, hn4, hn5⟩, hbB, hv0, hv1, hv2, hv3, hv4, hv5, hv6, hv7⟩ := id hw
  have r := r1 k (by omega)
  have v := hv1 k (by omega)
  have e1 : c1 (k * 4 + 1) = B (32 + 4 * k + 1) := r.2.1
  unfold wrongP wrongM goodB goodM
  rw [e1, r.2.2.1, r.2.2.2, eq_longS hR hw (by omega), eq_mayS hR hw (by omega)]
  constructor
  · intro h z
    rcases h with h | ⟨g, h1, h2, h3⟩
    · exact z.1 h
    · refine z.2 g h1 (by omega) ?_
      have e9 := eq_cnt (t := B (32 + 4 * k + 1)) (h := g) (n := k + 1) hR hw (by omega)
      rw [e9] at h3; exact h3
  · intro h
    apply Classical.byContradiction
    intro z
    refine h ⟨fun q => z (Or.inl q), fun g g1 g2 g3 => z (Or.inr ⟨g, g1, by omega, ?_⟩)⟩
    have e9 := eq_cnt (t := B (32 + 4 * k + 1)) (h := g) (n := k + 1) hR hw (by omega)
    rw [e9]; exact g3
theorem eq_wrong {n0 : Nat} {c0 : Nat → Nat} {n1 : Nat} {c1 : Nat → Nat} {n2 : Nat} {c2 : Nat → Nat} {n3 : Nat} {c3 : Nat → Nat} {n4 : Nat} {c4 : Nat → Nat} {n5 : Nat} {c5 hs wf wt : Nat → Nat} {B : Nat → Nat}  (hR : Rep n0 c0 n1 c1 n2 c2 n3 c3 n4 c4 n5 c5 hs wf wt B) (hw : WB B) : firstI (fun k => pB (wrongP n0 c0 n1 c1 k)) n1 0 = firstI (fun k => pB (wrongM B k)) (B 1) 0 := by
  obtain ⟨⟨m0, m1, m2, m3, m4, m5⟩, ⟨hb0, hb1, hb2, hb3, hb4, hb5, hbh, hbw, hbt⟩, r0, r1, r2, r3, r4, r5, rp, rw9⟩ := id hR
  obtain ⟨⟨hn0, hn1, hn2, hn3, hn4, hn5⟩, hbB, hv0, hv1, hv2, hv3, hv4, hv5, hv6, hv7⟩ := id hw
  rw [← m1]
  exact firstI_congr n1 0 (fun k _ hk => pB_c (eq_wrong1 hR hw (by omega)))
theorem eq_in {n0 : Nat} {c0 : Nat → Nat} {n1 : Nat} {c1 : Nat → Nat} {n2 : Nat} {c2 : Nat → Nat} {n3 : Nat} {c3 : Nat → Nat} {n4 : Nat} {c4 : Nat → Nat} {n5 : Nat} {c5 hs wf wt : Nat → Nat} {B : Nat → Nat} {h : Nat}  (hR : Rep n0 c0 n1 c1 n2 c2 n3 c3 n4 c4 n5 c5 hs wf wt B) (hw : WB B) : bitsN (fun t => decide (cntN (lentB n1 c1 t h) n1 < mayS n0 c0 t)) n0 = bitsN (fun t => decide (cntN (havB B t h (-1)) (B 1) < mayM B t)) (B 0) := by
  obtain ⟨⟨m0, m1, m2, m3, m4, m5⟩, ⟨hb0, hb1, hb2, hb3, hb4, hb5, hbh, hbw, hbt⟩, r0, r1, r2, r3, r4, r5, rp, rw9⟩ := id hR
  obtain ⟨⟨hn0, hn1, hn2, hn3, hn4, hn5⟩, hbB, hv0, hv1, hv2, hv3, hv4, hv5, hv6, hv7⟩ := id hw
  rw [← m0]
  refine bitsN_congr n0 (fun t ht => ?_)
  rw [eq_mayS hR hw ht, eq_cnt hR hw (Nat.le_refl _), m1]
theorem eq_bill {n0 : Nat} {c0 : Nat → Nat} {n1 : Nat} {c1 : Nat → Nat} {n2 : Nat} {c2 : Nat → Nat} {n3 : Nat} {c3 : Nat → Nat} {n4 : Nat} {c4 : Nat → Nat} {n5 : Nat} {c5 hs wf wt : Nat → Nat} {B : Nat → Nat} {p : Nat}  (hR : Rep n0 c0 n1 c1 n2 c2 n3 c3 n4 c4 n5 c5 hs wf wt B) (hw : WB B) : billS n0 c0 n1 c1 p n1 = billM B p (B 1) := by
  obtain ⟨⟨m0, m1, m2, m3, m4, m5⟩, ⟨hb0, hb1, hb2, hb3, hb4, hb5, hbh, hbw, hbt⟩, r0, r1, r2, r3, r4, r5, rp, rw9⟩ := id hR
  obtain ⟨⟨hn0, hn1, hn2, hn3, hn4, hn5⟩, hbB, hv0, hv1, hv2, hv3, hv4, hv5, hv6, hv7⟩ := id hw
  rw [← m1]
  refine it_congr n1 0 (fun k hk y => ?_)
  have r := r1 k (by omega)
  have v := hv1 k (by omega)
  have e1 : c1 (k * 4 + 1) = B (32 + 4 * k + 1) := r.2.1
  rw [r.1, e1, r.2.2.1, r.2.2.2, eq_cost hR hw (by omega)]
  by_cases e : B (32 + 4 * k) = p
  · rw [if_pos e, if_pos e]
  · rw [if_neg e, if_neg e]; rfl
theorem eq_had {n0 : Nat} {c0 : Nat → Nat} {n1 : Nat} {c1 : Nat → Nat} {n2 : Nat} {c2 : Nat → Nat} {n3 : Nat} {c3 : Nat → Nat} {n4 : Nat} {c4 : Nat → Nat} {n5 : Nat} {c5 hs wf wt : Nat → Nat} {B : Nat → Nat} {p t h : Nat}  (hR : Rep n0 c0 n1 c1 n2 c2 n3 c3 n4 c4 n5 c5 hs wf wt B) (hw : WB B) : (¬ hadP n1 c1 p t h) ↔ cntN (havB B t h ((p : Nat) : Int)) (B 1) = 0 := by
  obtain ⟨⟨m0, m1, m2, m3, m4, m5⟩, ⟨hb0, hb1, hb2, hb3, hb4, hb5, hbh, hbw, hbt⟩, r0, r1, r2, r3, r4, r5, rp, rw9⟩ := id hR
  obtain ⟨⟨hn0, hn1, hn2, hn3, hn4, hn5⟩, hbB, hv0, hv1, hv2, hv3, hv4, hv5, hv6, hv7⟩ := id hw
  rw [cntN_zero, ← m1]
  constructor
  · intro z k hk
    refine decide_eq_false (fun y => z ⟨k, hk, ?_, ?_⟩)
    · have r := r1 k (by omega); omega
    · have r := r1 k (by omega)
      exact decide_eq_true ⟨hk, by omega, by omega, by omega⟩
  · rintro z ⟨k, hk, y1, y2⟩
    have r := r1 k (by omega)
    have y3 := of_decide_eq_true y2
    exact of_decide_eq_false (z k hk) ⟨Or.inr (by omega), by omega, by omega, by omega⟩
theorem eq_judge {n0 : Nat} {c0 : Nat → Nat} {n1 : Nat} {c1 : Nat → Nat} {n2 : Nat} {c2 : Nat → Nat} {n3 : Nat} {c3 : Nat → Nat} {n4 : Nat} {c4 : Nat → Nat} {n5 : Nat} {c5 hs wf wt : Nat → Nat} {B : Nat → Nat}  (hR : Rep n0 c0 n1 c1 n2 c2 n3 c3 n4 c4 n5 c5 hs wf wt B) (hw : WB B) : firstI (fun k => pB (¬ hadP n1 c1 (c2 (k * 4 + 0)) (c2 (k * 4 + 1)) (c2 (k * 4 + 2)))) n2 0 = firstI (fun k => pB (cntN (havB B (B (72 + 3 * k + 1)) (B (72 + 3 * k + 2)) ((B (72 + 3 * k) : Nat) : Int)) (B 1) = 0)) (B 2) 0 := by
  obtain ⟨⟨m0, m1, m2, m3, m4, m5⟩, ⟨hb0, hb1, hb2, hb3, hb4, hb5, hbh, hbw, hbt⟩, r0, r1, r2, r3, r4, r5, rp, rw9⟩ := id hR
  obtain ⟨⟨hn0, hn1, hn2, hn3, hn4, hn5⟩, hbB, hv0, hv1, hv2, hv3, hv4, hv5, hv6, hv7⟩ := id hw
  rw [← m2]
  refine firstI_congr n2 0 (fun k _ hk => ?_)
  have r := r2 k (by omega)
  have e1 : c2 (k * 4 + 1) = B (72 + 3 * k + 1) := r.2.1
  rw [r.1, e1, r.2.2]
  exact pB_c (eq_had hR hw)
theorem eq_about {n0 : Nat} {c0 : Nat → Nat} {n1 : Nat} {c1 : Nat → Nat} {n2 : Nat} {c2 : Nat → Nat} {n3 : Nat} {c3 : Nat → Nat} {n4 : Nat} {c4 : Nat → Nat} {n5 : Nat} {c5 hs wf wt : Nat → Nat} {B : Nat → Nat} {x : Nat}  (hR : Rep n0 c0 n1 c1 n2 c2 n3 c3 n4 c4 n5 c5 hs wf wt B) (hw : WB B) : bitsN (withB c5 x) n5 = abS B x := by
  obtain ⟨⟨m0, m1, m2, m3, m4, m5⟩, ⟨hb0, hb1, hb2, hb3, hb4, hb5, hbh, hbw, hbt⟩, r0, r1, r2, r3, r4, r5, rp, rw9⟩ := id hR
  obtain ⟨⟨hn0, hn1, hn2, hn3, hn4, hn5⟩, hbB, hv0, hv1, hv2, hv3, hv4, hv5, hv6, hv7⟩ := id hw
  unfold abS
  rw [← m5]
  refine bitsN_congr n5 (fun k hk => ?_)
  unfold withB
  rw [(r5 k (by omega)).1]
theorem eq_used {n0 : Nat} {c0 : Nat → Nat} {n1 : Nat} {c1 : Nat → Nat} {n2 : Nat} {c2 : Nat → Nat} {n3 : Nat} {c3 : Nat → Nat} {n4 : Nat} {c4 : Nat → Nat} {n5 : Nat} {c5 hs wf wt : Nat → Nat} {B : Nat → Nat} {x : Nat}  (hR : Rep n0 c0 n1 c1 n2 c2 n3 c3 n4 c4 n5 c5 hs wf wt B) (hw : WB B) : usedS c5 x n5 = allU B x (B 5) := by
  obtain ⟨⟨m0, m1, m2, m3, m4, m5⟩, ⟨hb0, hb1, hb2, hb3, hb4, hb5, hbh, hbw, hbt⟩, r0, r1, r2, r3, r4, r5, rp, rw9⟩ := id hR
  obtain ⟨⟨hn0, hn1, hn2, hn3, hn4, hn5⟩, hbB, hv0, hv1, hv2, hv3, hv4, hv5, hv6, hv7⟩ := id hw
  rw [← m5]
  refine it_congr n5 0 (fun k hk y => ?_)
  have r := r5 k (by omega)
  rw [r.2]
  by_cases e : x / 2 ^ k % 2 = 1
  · rw [if_pos ⟨by omega, e⟩, if_pos e]
  · rw [if_neg (fun z => e z.2), if_neg e]; rfl
theorem cd_gcd : ∀ x, x < 10 → ∀ y, y < 73 → 1 ≤ x → cdS x y x = Nat.gcd x y := by decide +kernel
theorem allU_le {B : Nat → Nat} (hw : WB B) (x : Nat) : ∀ n, n ≤ B 5 → allU B x n ≤ 9 * n := by
  intro n
  induction n with
  | zero => intro _; exact Nat.le_refl _
  | succ n ih =>
    intro h
    have h1 := ih (by omega)
    have h2 := (hw.2.2.2.2.2.2.2.1 n (by omega)).2.2.2
    rw [allU_s]; split <;> omega
theorem eq_odds {n0 : Nat} {c0 : Nat → Nat} {n1 : Nat} {c1 : Nat → Nat} {n2 : Nat} {c2 : Nat → Nat} {n3 : Nat} {c3 : Nat → Nat} {n4 : Nat} {c4 : Nat → Nat} {n5 : Nat} {c5 hs wf wt : Nat → Nat} {B : Nat → Nat} {x k : Nat}  (hR : Rep n0 c0 n1 c1 n2 c2 n3 c3 n4 c4 n5 c5 hs wf wt B) (hw : WB B) (hk : k < n5) : cdS (c5 (k * 4 + 1)) (usedS c5 (bitsN (withB c5 x) n5) n5) (c5 (k * 4 + 1)) = byS B x k := by
  obtain ⟨⟨m0, m1, m2, m3, m4, m5⟩, ⟨hb0, hb1, hb2, hb3, hb4, hb5, hbh, hbw, hbt⟩, r0, r1, r2, r3, r4, r5, rp, rw9⟩ := id hR
  obtain ⟨⟨hn0, hn1, hn2, hn3, hn4, hn5⟩, hbB, hv0, hv1, hv2, hv3, hv4, hv5, hv6, hv7⟩ := id hw
  have r := r5 k (by omega)
  have v := hv5 k (by omega)
  have e := eq_used (x := bitsN (withB c5 x) n5) hR hw
  rw [e, eq_about hR hw, r.2]
  have hl := allU_le hw (abS B x) (B 5) (Nat.le_refl _)
  exact cd_gcd _ (by omega) _ (by omega) (by omega)
theorem dgR_mix {n wid off : Nat} {c B : Nat → Nat} (h : ∀ q k, q < n → k < wid → c (q * 4 + k) = B (off + wid * q + k)) (h0 : Int64) : ∀ m, m ≤ n → dgR n wid c h0 m = mixS B off h0 (wid * m) := by
  intro m
  induction m with
  | zero => intro _; rfl
  | succ m ih =>
    intro hm
    have i1 := ih (by omega)
    have key : ∀ w, w ≤ wid → dgC n wid c m (dgR n wid c h0 m) w = mixS B off h0 (wid * m + w) := by
      intro w
      induction w with
      | zero => intro _; exact i1
      | succ w iw =>
        intro hw
        have i2 := iw (by omega)
        show (nI 31).toInt64 * dgC n wid c m (dgR n wid c h0 m) w + (nI (atS n wid c m w)).toInt64 = mixS B off h0 (wid * m + w + 1)
        rw [i2, mixS_s, atS_in (by omega) (by omega), h m w (by omega) (by omega), show off + wid * m + w = off + (wid * m + w) from by omega]
    show dgC n wid c m (dgR n wid c h0 m) wid = _
    rw [key wid (Nat.le_refl _)]
    exact congrArg _ (by rw [Nat.mul_succ])
theorem dgC0_congr {f g : Nat → Nat} : ∀ n, (∀ k, k < n → f k = g k) → dgC0 f n = dgC0 g n := by
  intro n
  induction n with
  | zero => intro _; rw [dgC0_0, dgC0_0]
  | succ n ih => intro h; rw [dgC0_s, dgC0_s, ih (fun k hk => h k (by omega)), h n (by omega)]
theorem dgQ_mix {n0 p : Nat} {wt B : Nat → Nat} (h : ∀ t, t < n0 → wt (p * 8 + t) = B (156 + 8 * p + t)) (x : Int64) : ∀ n, n ≤ n0 → dgQ n0 wt p x n = mixS B (156 + 8 * p) x n := by
  intro n
  induction n with
  | zero => intro _; rw [dgQ_0, mixS_0]
  | succ n ih => intro hn; rw [dgQ_s, mixS_s, ih (by omega), h n (by omega)]
theorem cntC_F {n0 : Nat} {c0 : Nat → Nat} {n1 : Nat} {c1 : Nat → Nat} {n2 : Nat} {c2 : Nat → Nat} {n3 : Nat} {c3 : Nat → Nat} {n4 : Nat} {c4 : Nat → Nat} {n5 : Nat} {c5 hs wf wt : Nat → Nat} {B : Nat → Nat} (hR : Rep n0 c0 n1 c1 n2 c2 n3 c3 n4 c4 n5 c5 hs wf wt B) {sz : Nat} : ∀ k, k < 7 → cntC n0 n1 n2 n3 n4 n5 sz k = cntF B sz k := by
  obtain ⟨⟨m0, m1, m2, m3, m4, m5⟩, -⟩ := hR
  intro k hk
  unfold cntC cntF
  by_cases h0 : k = 0
  · rw [if_pos h0, if_pos (by omega), h0]; exact m0
  rw [if_neg h0]
  by_cases h1 : k = 1
  · rw [if_pos h1, if_pos (by omega), h1]; exact m1
  rw [if_neg h1]
  by_cases h2 : k = 2
  · rw [if_pos h2, if_pos (by omega), h2]; exact m2
  rw [if_neg h2]
  by_cases h3 : k = 3
  · rw [if_pos h3, if_pos (by omega), h3]; exact m3
  rw [if_neg h3]
  by_cases h4 : k = 4
  · rw [if_pos h4, if_pos (by omega), h4]; exact m4
  rw [if_neg h4]
  by_cases h5 : k = 5
  · rw [if_pos h5, if_pos (by omega), h5]; exact m5
  rw [if_neg h5, if_neg (by omega)]
theorem eq_dg0 {n0 : Nat} {c0 : Nat → Nat} {n1 : Nat} {c1 : Nat → Nat} {n2 : Nat} {c2 : Nat → Nat} {n3 : Nat} {c3 : Nat → Nat} {n4 : Nat} {c4 : Nat → Nat} {n5 : Nat} {c5 hs wf wt : Nat → Nat} {B : Nat → Nat} (hR : Rep n0 c0 n1 c1 n2 c2 n3 c3 n4 c4 n5 c5 hs wf wt B) {sz : Nat} : dgC0 (cntC n0 n1 n2 n3 n4 n5 sz) 7 = dgC0 (cntF B sz) 7 := dgC0_congr 7 (cntC_F hR)
theorem dgP_m {hs wf wt B : Nat → Nat} (h1 : ∀ p, p < 5 → hs p = B (146 + p) ∧ wf p = B (151 + p)) (h2 : ∀ p t, p < 5 → t < 8 → wt (p * 8 + t) = if t < B 0 then B (156 + 8 * p + t) else 0) (h8 : B 0 ≤ 8) (z : Int64) : ∀ n, n ≤ 5 → dgP (B 0) hs wf wt z n = dgPm B z n := by
  intro n
  induction n with
  | zero => intro _; rw [dgP_0, dgPm_0]
  | succ n ih =>
    intro hn
    rw [dgP_s, dgPm_s, ih (by omega), (h1 n (by omega)).1, (h1 n (by omega)).2]
    exact dgQ_mix (fun t ht => by rw [h2 n t (by omega) (by omega), if_pos ht]) _ _ (Nat.le_refl _)
theorem eq_digest {n0 : Nat} {c0 : Nat → Nat} {n1 : Nat} {c1 : Nat → Nat} {n2 : Nat} {c2 : Nat → Nat} {n3 : Nat} {c3 : Nat → Nat} {n4 : Nat} {c4 : Nat → Nat} {n5 : Nat} {c5 hs wf wt : Nat → Nat} {B : Nat → Nat} {sz : Nat} {h : Int64}  (hR : Rep n0 c0 n1 c1 n2 c2 n3 c3 n4 c4 n5 c5 hs wf wt B) (hw : WB B) : dgN n0 c0 n1 c1 n2 c2 n3 c3 n4 c4 n5 c5 hs wf wt (dgC0 (cntC n0 n1 n2 n3 n4 n5 sz) 7) = mixS B 196 (dgPm B (mixS B 126 (mixS B 102 (mixS B 72 (mixS B 32 (mixS B 8 (dgC0 (cntF B sz) 7) (3 * B 0)) (4 * B 1)) (3 * B 2)) (3 * B 3)) (4 * B 4)) 5) (2 * B 5) := by
  obtain ⟨⟨m0, m1, m2, m3, m4, m5⟩, ⟨hb0, hb1, hb2, hb3, hb4, hb5, hbh, hbw, hbt⟩, r0, r1, r2, r3, r4, r5, rp, rw9⟩ := id hR
  obtain ⟨⟨hn0, hn1, hn2, hn3, hn4, hn5⟩, hbB, hv0, hv1, hv2, hv3, hv4, hv5, hv6, hv7⟩ := id hw
  have e0 := eq_dg0 (sz := sz) hR
  unfold dgN
  rw [e0]
  rw [dgR_mix (B := B) (off := 8) (fun q k hq hk => by have := r0 q (by omega); rcases (show k = 0 ∨ k = 1 ∨ k = 2 by omega) with rfl | rfl | rfl; exact this.1; exact this.2.1; exact this.2.2) _ n0 (Nat.le_refl _)]
  rw [dgR_mix (B := B) (off := 32) (fun q k hq hk => by have := r1 q (by omega); rcases (show k = 0 ∨ k = 1 ∨ k = 2 ∨ k = 3 by omega) with rfl | rfl | rfl | rfl; exact this.1; exact this.2.1; exact this.2.2.1; exact this.2.2.2) _ n1 (Nat.le_refl _)]
  rw [dgR_mix (B := B) (off := 72) (fun q k hq hk => by have := r2 q (by omega); rcases (show k = 0 ∨ k = 1 ∨ k = 2 by omega) with rfl | rfl | rfl; exact this.1; exact this.2.1; exact this.2.2) _ n2 (Nat.le_refl _)]
  rw [dgR_mix (B := B) (off := 102) (fun q k hq hk => by have := r3 q (by omega); rcases (show k = 0 ∨ k = 1 ∨ k = 2 by omega) with rfl | rfl | rfl; exact this.1; exact this.2.1; exact this.2.2) _ n3 (Nat.le_refl _)]
  rw [dgR_mix (B := B) (off := 126) (fun q k hq hk => by have := r4 q (by omega); rcases (show k = 0 ∨ k = 1 ∨ k = 2 ∨ k = 3 by omega) with rfl | rfl | rfl | rfl; exact this.1; exact this.2.1; exact this.2.2.1; exact this.2.2.2) _ n4 (Nat.le_refl _)]
  rw [dgR_mix (B := B) (off := 196) (fun q k hq hk => by have := r5 q (by omega); rcases (show k = 0 ∨ k = 1 by omega) with rfl | rfl; exact this.1; exact this.2) _ n5 (Nat.le_refl _)]
  rw [m0, m1, m2, m3, m4, m5]
  rw [dgP_m rp rw9 hn0 _ 5 (Nat.le_refl _)]
