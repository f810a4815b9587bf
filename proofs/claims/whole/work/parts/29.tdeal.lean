/-! the class: DEAL -/
def wS (n0 : Nat) (wt : Nat → Nat) (p t : Nat) : Nat := if p < 5 ∧ t < n0 then wt (p * 8 + t) else 0
def drS (n0 : Nat) (wt : Nat → Nat) (p n : Nat) : Nat := it (fun t a => Nat.max a (wS n0 wt p t)) n 0
theorem drS_s (n0 : Nat) (wt : Nat → Nat) (p n : Nat) : drS n0 wt p (n + 1) = Nat.max (drS n0 wt p n) (wS n0 wt p n) := rfl
theorem wS_lt {n0 : Nat} {wt : Nat → Nat} (h : ∀ j, wt j < 1048576) (p t : Nat) : wS n0 wt p t < 1048576 := by unfold wS; split; exact h _; omega
theorem drS_lt {n0 : Nat} {wt : Nat → Nat} (h : ∀ j, wt j < 1048576) (p n : Nat) : drS n0 wt p n < 1048576 := by
  induction n with
  | zero => exact (by decide : 0 < 1048576)
  | succ n ih => rw [drS_s]; exact Nat.max_lt.mpr ⟨ih, wS_lt h p n⟩
def raiS (n0 : Nat) (wt hp : Nat → Nat) : Nat → Nat → Nat → (Nat → Nat) → Nat → Nat
  | 0, _, _, _, mo => mo
  | k + 1, p, s, lf, mo => if 5 ≤ p then Nat.max mo s else if s + hp p ≤ Nat.max mo s then Nat.max mo s else
      raiS n0 wt hp k (p + 1) s lf (it (fun t m => if 0 < lf t ∧ 0 < wS n0 wt p t then raiS n0 wt hp k (p + 1) (s + wS n0 wt p t) (updN lf t (lf t - 1)) m else m) 8 (Nat.max mo s))
def raiI (n0 : Nat) (wt hp : Nat → Nat) (k p s : Nat) (lf : Nat → Nat) (mo n : Nat) : Nat := it (fun t m => if 0 < lf t ∧ 0 < wS n0 wt p t then raiS n0 wt hp k (p + 1) (s + wS n0 wt p t) (updN lf t (lf t - 1)) m else m) n mo
theorem raiI_s (n0 : Nat) (wt hp : Nat → Nat) (k p s : Nat) (lf : Nat → Nat) (mo n : Nat) : raiI n0 wt hp k p s lf mo (n + 1) = if 0 < lf n ∧ 0 < wS n0 wt p n then raiS n0 wt hp k (p + 1) (s + wS n0 wt p n) (updN lf n (lf n - 1)) (raiI n0 wt hp k p s lf mo n) else raiI n0 wt hp k p s lf mo n := rfl
theorem rai_0 {n0 k p s mo : Nat} {wt hp lf : Nat → Nat} (h : 5 ≤ p ∨ s + hp p ≤ Nat.max mo s) : Nat.max mo s = raiS n0 wt hp (k + 1) p s lf mo := by
  show _ = (if _ then _ else _)
  by_cases h5 : 5 ≤ p
  · rw [if_pos h5]
  · rw [if_neg h5, if_pos (by omega)]
theorem rai_1 {n0 k p s mo y : Nat} {wt hp lf : Nat → Nat} (h5 : ¬ 5 ≤ p) (h6 : ¬ s + hp p ≤ Nat.max mo s) (e : y = raiS n0 wt hp k (p + 1) s lf (raiI n0 wt hp k p s lf (Nat.max mo s) 8)) : y = raiS n0 wt hp (k + 1) p s lf mo := by
  show _ = (if _ then _ else _)
  rw [if_neg h5, if_neg h6]; exact e
theorem updN_rest {g : Nat → Nat} {k : Nat} (h : 0 < g k) : updN (updN g k (g k - 1)) k (g k - 1 + 1) = g := by
  funext j
  simp only [updN]
  split
  · rename_i h2; rw [h2]; omega
  · rfl
def stlS (n0 : Nat) (wt hp : Nat → Nat) (mo : Nat) : Nat → Nat → Nat → (Nat → Nat) → (Nat → Nat) → Nat × (Nat → Nat)
  | 0, _, _, _, gt => (0, gt)
  | k + 1, p, s, lf, gt => if 5 ≤ p then ((if s = mo then 1 else 0), gt) else if s + hp p < mo then (0, gt) else
      (fun (y : Nat × (Nat → Nat)) => if y.1 = 1 then (1, y.2) else it (fun t z => if z.1 = 1 then z else if 0 < lf t ∧ 0 < wS n0 wt p t then stlS n0 wt hp mo k (p + 1) (s + wS n0 wt p t) (updN lf t (lf t - 1)) (updN z.2 p t) else z) 8 (0, y.2)) (stlS n0 wt hp mo k (p + 1) s lf (updN gt p 8))
def stlI (n0 : Nat) (wt hp : Nat → Nat) (mo k p s : Nat) (lf g0 : Nat → Nat) (n : Nat) : Nat × (Nat → Nat) := it (fun t z => if z.1 = 1 then z else if 0 < lf t ∧ 0 < wS n0 wt p t then stlS n0 wt hp mo k (p + 1) (s + wS n0 wt p t) (updN lf t (lf t - 1)) (updN z.2 p t) else z) n (0, g0)
theorem stlI_s (n0 : Nat) (wt hp : Nat → Nat) (mo k p s : Nat) (lf g0 : Nat → Nat) (n : Nat) : stlI n0 wt hp mo k p s lf g0 (n + 1) = (fun (z : Nat × (Nat → Nat)) => if z.1 = 1 then z else if 0 < lf n ∧ 0 < wS n0 wt p n then stlS n0 wt hp mo k (p + 1) (s + wS n0 wt p n) (updN lf n (lf n - 1)) (updN z.2 p n) else z) (stlI n0 wt hp mo k p s lf g0 n) := rfl
theorem stlI_1 {n0 mo k p s n : Nat} {wt hp lf g0 g2 : Nat → Nat} {y : Nat × (Nat → Nat)} (e : (0, g2) = stlI n0 wt hp mo k p s lf g0 n) (h : 0 < lf n ∧ 0 < wS n0 wt p n) (ey : y = stlS n0 wt hp mo k (p + 1) (s + wS n0 wt p n) (updN lf n (lf n - 1)) (updN g2 p n)) : y = stlI n0 wt hp mo k p s lf g0 (n + 1) := by
  rw [stlI_s, ← e]
  dsimp only
  rw [if_neg (by decide), if_pos h]; exact ey
theorem stlI_2 {n0 mo k p s n : Nat} {wt hp lf g0 g2 : Nat → Nat} (e : (0, g2) = stlI n0 wt hp mo k p s lf g0 n) (h : ¬ (0 < lf n ∧ 0 < wS n0 wt p n)) : (0, g2) = stlI n0 wt hp mo k p s lf g0 (n + 1) := by
  rw [stlI_s, ← e]
  dsimp only
  rw [if_neg (by decide), if_neg h]
theorem stlI_stay {n0 mo k p s n : Nat} {wt hp lf g0 g2 : Nat → Nat} (e : (1, g2) = stlI n0 wt hp mo k p s lf g0 n) : ∀ j, (1, g2) = stlI n0 wt hp mo k p s lf g0 (n + j) := by
  intro j
  induction j with
  | zero => exact e
  | succ j ih => rw [← Nat.add_assoc, stlI_s, ← ih]; rfl
theorem stl_0 {n0 mo k p s : Nat} {wt hp lf gt : Nat → Nat} (h : 5 ≤ p) : ((if s = mo then 1 else 0), gt) = stlS n0 wt hp mo (k + 1) p s lf gt := (if_pos h).symm
theorem stl_1 {n0 mo k p s : Nat} {wt hp lf gt : Nat → Nat} (h : ¬ 5 ≤ p) (h2 : s + hp p < mo) : (0, gt) = stlS n0 wt hp mo (k + 1) p s lf gt := by
  show _ = (if _ then _ else _)
  rw [if_neg h, if_pos h2]
theorem stl_2 {n0 mo k p s : Nat} {wt hp lf gt g1 : Nat → Nat} (h : ¬ 5 ≤ p) (h2 : ¬ s + hp p < mo) (e : (1, g1) = stlS n0 wt hp mo k (p + 1) s lf (updN gt p 8)) : (1, g1) = stlS n0 wt hp mo (k + 1) p s lf gt := by
  show _ = (if _ then _ else _)
  rw [if_neg h, if_neg h2, ← e]
  rfl
theorem stl_3 {n0 mo k p s : Nat} {wt hp lf gt g1 : Nat → Nat} {y : Nat × (Nat → Nat)} (h : ¬ 5 ≤ p) (h2 : ¬ s + hp p < mo) (e : (0, g1) = stlS n0 wt hp mo k (p + 1) s lf (updN gt p 8)) (ey : y = stlI n0 wt hp mo k p s lf g1 8) : y = stlS n0 wt hp mo (k + 1) p s lf gt := by
  show _ = (if _ then _ else _)
  rw [if_neg h, if_neg h2, ← e]
  dsimp only
  rw [if_neg (by decide)]; exact ey

set_option maxHeartbeats 4000000 in
set_option maxRecDepth 100000 in
theorem c_X1_dearest (l : Launch) (G : va_G) (tA : Nat → ClassId) (a : Nat → Nat) (n0 : Nat) (c0 : Nat → Nat) (n1 : Nat) (c1 : Nat → Nat) (n2 : Nat) (c2 : Nat → Nat) (n3 : Nat) (c3 : Nat → Nat) (n4 : Nat) (c4 : Nat → Nat) (n5 : Nat) (c5 : Nat → Nat) (hs : Nat → Nat) (wf : Nat → Nat) (wt : Nat → Nat) (p : Nat) (hCW : CW n0 c0 n1 c1 n2 c2 n3 c3 n4 c4 n5 c5 hs wf wt) (hp : p < 1048576) : CtI l yX1_dearest wsX1_dearest ({ frames := 2, cells := 0, slots := 0, locals := 43 }) G tA [.ref (a 0), .int (nI p)] ([(a 0, .inr (0, [.ref (a 1), .ref (a 2), .ref (a 3), .ref (a 4), .ref (a 5), .ref (a 6), .ref (a 7), .ref (a 8), .ref (a 9)])), (a 1, .inr (2, [.ref (a 10), .int (nI 8), .int (nI 3), .int (nI n0)])), (a 10, .inl (tA 0, 40, .inl (nF c0))), (a 2, .inr (2, [.ref (a 11), .int (nI 10), .int (nI 4), .int (nI n1)])), (a 11, .inl (tA 0, 40, .inl (nF c1))), (a 3, .inr (2, [.ref (a 12), .int (nI 10), .int (nI 3), .int (nI n2)])), (a 12, .inl (tA 0, 40, .inl (nF c2))), (a 4, .inr (2, [.ref (a 13), .int (nI 8), .int (nI 3), .int (nI n3)])), (a 13, .inl (tA 0, 40, .inl (nF c3))), (a 5, .inr (2, [.ref (a 14), .int (nI 5), .int (nI 4), .int (nI n4)])), (a 14, .inl (tA 0, 40, .inl (nF c4))), (a 6, .inr (2, [.ref (a 15), .int (nI 8), .int (nI 2), .int (nI n5)])), (a 15, .inl (tA 0, 40, .inl (nF c5))), (a 7, .inl (tA 0, 5, .inl (nF hs))), (a 8, .inl (tA 0, 5, .inl (nF wf))), (a 9, .inl (tA 0, 40, .inl (nF wt)))]) (fun (r : Int32) (_ : Unit) => r = nI (drS n0 wt p 8) ∧ drS n0 wt p 8 < 1048576) (fun (_ : Unit) => [(a 0, .inr (0, [.ref (a 1), .ref (a 2), .ref (a 3), .ref (a 4), .ref (a 5), .ref (a 6), .ref (a 7), .ref (a 8), .ref (a 9)])), (a 1, .inr (2, [.ref (a 10), .int (nI 8), .int (nI 3), .int (nI n0)])), (a 10, .inl (tA 0, 40, .inl (nF c0))), (a 2, .inr (2, [.ref (a 11), .int (nI 10), .int (nI 4), .int (nI n1)])), (a 11, .inl (tA 0, 40, .inl (nF c1))), (a 3, .inr (2, [.ref (a 12), .int (nI 10), .int (nI 3), .int (nI n2)])), (a 12, .inl (tA 0, 40, .inl (nF c2))), (a 4, .inr (2, [.ref (a 13), .int (nI 8), .int (nI 3), .int (nI n3)])), (a 13, .inl (tA 0, 40, .inl (nF c3))), (a 5, .inr (2, [.ref (a 14), .int (nI 5), .int (nI 4), .int (nI n4)])), (a 14, .inl (tA 0, 40, .inl (nF c4))), (a 6, .inr (2, [.ref (a 15), .int (nI 8), .int (nI 2), .int (nI n5)])), (a 15, .inl (tA 0, 40, .inl (nF c5))), (a 7, .inl (tA 0, 5, .inl (nF hs))), (a 8, .inl (tA 0, 5, .inl (nF wf))), (a 9, .inl (tA 0, 40, .inl (nF wt)))]) 0 0 := by
  refine enterI (cc := cX1_dearest) (maxL := 4) (ret := (some .int)) (by decide) rfl (Nat.le_of_ble_eq_true rfl) ?_
  intro p0 e0 s m args below meth c0_ A ls hx hb hml hr hts hown hlocks hin hKK hA hP hD hl hS
  have hown : s.vm.findClass RX1 = some m.cls := hown
  have hl : lv_has ls 4 [(0, .ref (a 0)), (1, .int (nI p))] := hl
  have f51 := hts (Cond.methodLink RX1 51 Lib.Math.max.name) (List.mem_of_getElem? (i := 1) rfl)
  obtain ⟨⟨hn0, hn1, hn2, hn3, hn4, hn5⟩, ⟨hb0, hb1, hb2, hb3, hb4, hb5, hbh, hbw, hbt⟩, hv0, hv1, hv2, hv3, hv4, hv5, hv6, hv7⟩ := id hCW
  refine lv_iconst (v := nI 0) hx hb dX1_dearest_0 (by decide) ?_
  refine lv_istore_n (lv' := [(2, .int (nI 0)), (0, .ref (a 0)), (1, .int (nI p))]) hx hb dX1_dearest_1 rfl hl (by decide) rfl (fun ls hl => ?_)
  refine lv_iconst (v := nI 0) hx hb dX1_dearest_2 (by decide) ?_
  refine lv_istore_n (lv' := [(3, .int (nI 0)), (2, .int (nI 0)), (0, .ref (a 0)), (1, .int (nI p))]) hx hb dX1_dearest_3 rfl hl (by decide) rfl (fun ls hl => ?_)
  refine wloop (σ := (Nat) × (Nat)) (fun | (t, q) => 8 - t) (fun | (t, q) => (t ≤ 8) ∧ (q = drS n0 wt p t) ∧ (q < 1048576)) (fun | (t, q) => [(3, .int (nI t)), (2, .int (nI q)), (0, .ref (a 0)), (1, .int (nI p))]) (fun | (t, q) => [(a 0, .inr (0, [.ref (a 1), .ref (a 2), .ref (a 3), .ref (a 4), .ref (a 5), .ref (a 6), .ref (a 7), .ref (a 8), .ref (a 9)])), (a 1, .inr (2, [.ref (a 10), .int (nI 8), .int (nI 3), .int (nI n0)])), (a 10, .inl (tA 0, 40, .inl (nF c0))), (a 2, .inr (2, [.ref (a 11), .int (nI 10), .int (nI 4), .int (nI n1)])), (a 11, .inl (tA 0, 40, .inl (nF c1))), (a 3, .inr (2, [.ref (a 12), .int (nI 10), .int (nI 3), .int (nI n2)])), (a 12, .inl (tA 0, 40, .inl (nF c2))), (a 4, .inr (2, [.ref (a 13), .int (nI 8), .int (nI 3), .int (nI n3)])), (a 13, .inl (tA 0, 40, .inl (nF c3))), (a 5, .inr (2, [.ref (a 14), .int (nI 5), .int (nI 4), .int (nI n4)])), (a 14, .inl (tA 0, 40, .inl (nF c4))), (a 6, .inr (2, [.ref (a 15), .int (nI 8), .int (nI 2), .int (nI n5)])), (a 15, .inl (tA 0, 40, .inl (nF c5))), (a 7, .inl (tA 0, 5, .inl (nF hs))), (a 8, .inl (tA 0, 5, .inl (nF wf))), (a 9, .inl (tA 0, 40, .inl (nF wt)))]) (0, 0) ⟨(show 0 ≤ 8 from by omega), (show 0 = drS n0 wt p 0 from rfl), (show 0 < 1048576 from by omega)⟩ (lv_sub hl [0, 1, 2, 3] rfl) hP hD hS ?_
  rintro ⟨t, q⟩ ⟨ht, hq, hq2⟩ ih_1 ls H locs hl hP hD hS
  have hl : lv_has ls 4 [(3, .int (nI t)), (2, .int (nI q)), (0, .ref (a 0)), (1, .int (nI p))] := hl
  have hP : va_P G vwCl [(a 0, .inr (0, [.ref (a 1), .ref (a 2), .ref (a 3), .ref (a 4), .ref (a 5), .ref (a 6), .ref (a 7), .ref (a 8), .ref (a 9)])), (a 1, .inr (2, [.ref (a 10), .int (nI 8), .int (nI 3), .int (nI n0)])), (a 10, .inl (tA 0, 40, .inl (nF c0))), (a 2, .inr (2, [.ref (a 11), .int (nI 10), .int (nI 4), .int (nI n1)])), (a 11, .inl (tA 0, 40, .inl (nF c1))), (a 3, .inr (2, [.ref (a 12), .int (nI 10), .int (nI 3), .int (nI n2)])), (a 12, .inl (tA 0, 40, .inl (nF c2))), (a 4, .inr (2, [.ref (a 13), .int (nI 8), .int (nI 3), .int (nI n3)])), (a 13, .inl (tA 0, 40, .inl (nF c3))), (a 5, .inr (2, [.ref (a 14), .int (nI 5), .int (nI 4), .int (nI n4)])), (a 14, .inl (tA 0, 40, .inl (nF c4))), (a 6, .inr (2, [.ref (a 15), .int (nI 8), .int (nI 2), .int (nI n5)])), (a 15, .inl (tA 0, 40, .inl (nF c5))), (a 7, .inl (tA 0, 5, .inl (nF hs))), (a 8, .inl (tA 0, 5, .inl (nF wf))), (a 9, .inl (tA 0, 40, .inl (nF wt)))] H := hP
  have hD : va_D A [(a 0, .inr (0, [.ref (a 1), .ref (a 2), .ref (a 3), .ref (a 4), .ref (a 5), .ref (a 6), .ref (a 7), .ref (a 8), .ref (a 9)])), (a 1, .inr (2, [.ref (a 10), .int (nI 8), .int (nI 3), .int (nI n0)])), (a 10, .inl (tA 0, 40, .inl (nF c0))), (a 2, .inr (2, [.ref (a 11), .int (nI 10), .int (nI 4), .int (nI n1)])), (a 11, .inl (tA 0, 40, .inl (nF c1))), (a 3, .inr (2, [.ref (a 12), .int (nI 10), .int (nI 3), .int (nI n2)])), (a 12, .inl (tA 0, 40, .inl (nF c2))), (a 4, .inr (2, [.ref (a 13), .int (nI 8), .int (nI 3), .int (nI n3)])), (a 13, .inl (tA 0, 40, .inl (nF c3))), (a 5, .inr (2, [.ref (a 14), .int (nI 5), .int (nI 4), .int (nI n4)])), (a 14, .inl (tA 0, 40, .inl (nF c4))), (a 6, .inr (2, [.ref (a 15), .int (nI 8), .int (nI 2), .int (nI n5)])), (a 15, .inl (tA 0, 40, .inl (nF c5))), (a 7, .inl (tA 0, 5, .inl (nF hs))), (a 8, .inl (tA 0, 5, .inl (nF wf))), (a 9, .inl (tA 0, 40, .inl (nF wt)))] := hD
  have ht : t ≤ 8 := ht
  have hq : q = drS n0 wt p t := hq
  have hq2 : q < 1048576 := hq2
  refine lv_iload_n hx hb dX1_dearest_4 rfl (lv_at hl 0 rfl) ?_
  refine lv_bipush (v := nI 8) hx hb dX1_dearest_5 (by decide +kernel) ?_
  refine nv_icmp_ge (tgt := 27) (by omega) (by omega) hx hb dX1_dearest_7 (by decide) (fun c_2 => ?_) (fun c_2 => ?_)
  · refine lv_iload_n hx hb dX1_dearest_27 rfl (lv_at hl 1 rfl) ?_
    exact retI hx hb hr hlocks hS hP hD () (rfl) (⟨congrArg nI (show (q : Nat) = drS n0 wt p 8 from by rw [hq, show t = 8 from by omega]), drS_lt hbt _ _⟩) dX1_dearest_28
  · refine lv_iload_n hx hb dX1_dearest_10 rfl (lv_at hl 1 rfl) ?_
    refine lv_aload_n hx hb dX1_dearest_11 rfl (lv_at hl 2 rfl) ?_
    refine lv_iload_n hx hb dX1_dearest_12 rfl (lv_at hl 3 rfl) ?_
    refine lv_iload_n hx hb dX1_dearest_13 rfl (lv_at hl 0 rfl) ?_
    refine roI hP hD hS hA [0, 1, 2, 3, 4, 5, 6, 7, 8, 9, 10, 11, 12, 13, 14, 15] rfl (runV (As := [.int (nI p), .int (nI t)]) (rest := [.int (nI q)]) (isC := [0, 1, 2, 3, 4, 5, 6, 7, 8, 9, 10, 11, 12, 13, 14, 15]) ⟨hx, hb, hml, hown, hts⟩ hKK hP hD rfl (by decide) (c_X0_worthOf l G tA a n0 c0 n1 c1 n2 c2 n3 c3 n4 c4 n5 c5 hs wf wt p t (hCW) (by first | assumption | omega) (by first | assumption | omega) _) (cwV 2 hts gX1_dearest_X0_worthOf rfl rfl rfl (by decide +kernel) ⟨Nat.le_of_ble_eq_true rfl, Nat.le_of_ble_eq_true rfl⟩) rfl rfl rfl rfl hl.1 rfl (lv_room (Nat.le_of_ble_eq_true rfl)) dX1_dearest_14 ⟨Nat.le_of_ble_eq_true rfl, Nat.le_of_ble_eq_true rfl⟩) (fun _ => rfl) (fun r_3 u_4 H locs q_5 hP hS => ?_)
    obtain ⟨rfl, e_6⟩ := q_5
    have e_6 : (if p < 5 ∧ t < n0 then wt (p * 8 + t) else 0) < 1048576 := e_6
    refine nv_top (y := wS n0 wt p t) rfl ?_
    have w_7 := wS_lt (n0 := n0) hbt p t
    refine nv_max hx hb (by rw [hml]; exact hl.1.symm) hown f51 (hts (.static Lib.Math.max.name) (List.mem_of_getElem? (i := 2) rfl)) (hts (.initialized "java/lang/Math") (List.mem_of_getElem? (i := 3) rfl)) (hts (.code Lib.Math.max.name Lib.Math.max.code 2 (some .int)) (List.mem_of_getElem? (i := 4) rfl)) (Nat.le_of_ble_eq_true rfl) (Nat.le_of_ble_eq_true rfl) (Nat.le_of_ble_eq_true rfl) (Nat.le_of_ble_eq_true rfl) (by omega) (by omega) dX1_dearest_17 ?_
    refine nv_top (y := drS n0 wt p (t + 1)) (congrArg nI (by rw [drS_s, ← hq])) ?_
    refine lv_istore_n (lv' := [(2, .int (nI (drS n0 wt p (t + 1)))), (3, .int (nI t)), (0, .ref (a 0)), (1, .int (nI p))]) hx hb dX1_dearest_20 rfl hl (by decide) rfl (fun ls hl => ?_)
    refine lv_iinc (v := (nI (t + 1))) (lv' := [(3, .int (nI (t + 1))), (2, .int (nI (drS n0 wt p (t + 1)))), (0, .ref (a 0)), (1, .int (nI p))]) hx hb dX1_dearest_21 hl (k := 1) rfl (nI_add t 1) (by decide) rfl (fun ls hl => ?_)
    refine lv_goto (tgt := 4) hx hb dX1_dearest_24 (by decide) ?_
    exact ih_1 (t + 1, drS n0 wt p (t + 1)) (show 8 - (t + 1) < 8 - t from by omega) ⟨(show (t + 1) ≤ 8 from by omega), (show (drS n0 wt p (t + 1)) = drS n0 wt p (t + 1) from rfl), (show (drS n0 wt p (t + 1)) < 1048576 from drS_lt hbt _ _)⟩ _ _ _ (lv_sub hl [0, 1, 2, 3] rfl) hP hD hS

set_option maxHeartbeats 4000000 in
set_option maxRecDepth 100000 in
theorem c_X1_isLeft (l : Launch) (G : va_G) (tA : Nat → ClassId) (d : Nat → Nat) (lf : Nat → Nat) (gt : Nat → Nat) (hp : Nat → Nat) (mo : Nat) (a : Nat → Nat) (n0 : Nat) (c0 : Nat → Nat) (n1 : Nat) (c1 : Nat → Nat) (n2 : Nat) (c2 : Nat → Nat) (n3 : Nat) (c3 : Nat → Nat) (n4 : Nat) (c4 : Nat → Nat) (n5 : Nat) (c5 : Nat → Nat) (hs : Nat → Nat) (wf : Nat → Nat) (wt : Nat → Nat) (p : Nat) (t : Nat) (hCW : CW n0 c0 n1 c1 n2 c2 n3 c3 n4 c4 n5 c5 hs wf wt) (hbl : ∀ j, lf j < 1048576) (hbp : ∀ j, hp j < 8388608) (hmo : mo ≤ 8388608) (hp5 : p < 1048576) (ht : t < 8) : CtI l yX1_isLeft wsX1_isLeft ({ frames := 2, cells := 0, slots := 0, locals := 43 }) G tA [.ref (d 0), .ref (a 0), .int (nI p), .int (nI t)] ([(d 0, .inr (1, [.ref (d 1), .ref (d 2), .ref (d 3), .int (nI mo)])), (d 1, .inl (tA 0, 8, .inl (nF lf))), (d 2, .inl (tA 0, 5, .inl (nF gt))), (d 3, .inl (tA 0, 6, .inl (nF hp))), (a 0, .inr (0, [.ref (a 1), .ref (a 2), .ref (a 3), .ref (a 4), .ref (a 5), .ref (a 6), .ref (a 7), .ref (a 8), .ref (a 9)])), (a 1, .inr (2, [.ref (a 10), .int (nI 8), .int (nI 3), .int (nI n0)])), (a 10, .inl (tA 0, 40, .inl (nF c0))), (a 2, .inr (2, [.ref (a 11), .int (nI 10), .int (nI 4), .int (nI n1)])), (a 11, .inl (tA 0, 40, .inl (nF c1))), (a 3, .inr (2, [.ref (a 12), .int (nI 10), .int (nI 3), .int (nI n2)])), (a 12, .inl (tA 0, 40, .inl (nF c2))), (a 4, .inr (2, [.ref (a 13), .int (nI 8), .int (nI 3), .int (nI n3)])), (a 13, .inl (tA 0, 40, .inl (nF c3))), (a 5, .inr (2, [.ref (a 14), .int (nI 5), .int (nI 4), .int (nI n4)])), (a 14, .inl (tA 0, 40, .inl (nF c4))), (a 6, .inr (2, [.ref (a 15), .int (nI 8), .int (nI 2), .int (nI n5)])), (a 15, .inl (tA 0, 40, .inl (nF c5))), (a 7, .inl (tA 0, 5, .inl (nF hs))), (a 8, .inl (tA 0, 5, .inl (nF wf))), (a 9, .inl (tA 0, 40, .inl (nF wt)))]) (fun (r : Int32) (_ : Unit) => ((r = nI 1 ∧ (0 < lf t ∧ 0 < wS n0 wt p t)) ∨ (r = nI 0 ∧ ¬ (0 < lf t ∧ 0 < wS n0 wt p t)))) (fun (_ : Unit) => [(d 0, .inr (1, [.ref (d 1), .ref (d 2), .ref (d 3), .int (nI mo)])), (d 1, .inl (tA 0, 8, .inl (nF lf))), (d 2, .inl (tA 0, 5, .inl (nF gt))), (d 3, .inl (tA 0, 6, .inl (nF hp))), (a 0, .inr (0, [.ref (a 1), .ref (a 2), .ref (a 3), .ref (a 4), .ref (a 5), .ref (a 6), .ref (a 7), .ref (a 8), .ref (a 9)])), (a 1, .inr (2, [.ref (a 10), .int (nI 8), .int (nI 3), .int (nI n0)])), (a 10, .inl (tA 0, 40, .inl (nF c0))), (a 2, .inr (2, [.ref (a 11), .int (nI 10), .int (nI 4), .int (nI n1)])), (a 11, .inl (tA 0, 40, .inl (nF c1))), (a 3, .inr (2, [.ref (a 12), .int (nI 10), .int (nI 3), .int (nI n2)])), (a 12, .inl (tA 0, 40, .inl (nF c2))), (a 4, .inr (2, [.ref (a 13), .int (nI 8), .int (nI 3), .int (nI n3)])), (a 13, .inl (tA 0, 40, .inl (nF c3))), (a 5, .inr (2, [.ref (a 14), .int (nI 5), .int (nI 4), .int (nI n4)])), (a 14, .inl (tA 0, 40, .inl (nF c4))), (a 6, .inr (2, [.ref (a 15), .int (nI 8), .int (nI 2), .int (nI n5)])), (a 15, .inl (tA 0, 40, .inl (nF c5))), (a 7, .inl (tA 0, 5, .inl (nF hs))), (a 8, .inl (tA 0, 5, .inl (nF wf))), (a 9, .inl (tA 0, 40, .inl (nF wt)))]) 0 0 := by
  refine enterI (cc := cX1_isLeft) (maxL := 4) (ret := (some .boolean)) (by decide) rfl (Nat.le_of_ble_eq_true rfl) ?_
  intro p0 e0 s m args below meth c0_ A ls hx hb hml hr hts hown hlocks hin hKK hA hP hD hl hS
  have hown : s.vm.findClass RX1 = some m.cls := hown
  have hl : lv_has ls 4 [(0, .ref (d 0)), (1, .ref (a 0)), (2, .int (nI p)), (3, .int (nI t))] := hl
  have f9 := hts (Cond.fieldLink RX1 9 "LentTerms$Deal" "left" "[I") (List.mem_of_getElem? (i := 1) rfl)
  have iX1 : ∀ w ∈ wsX10, w ∈ wsX1_isLeft := by decide +kernel
  obtain ⟨⟨hn0, hn1, hn2, hn3, hn4, hn5⟩, ⟨hb0, hb1, hb2, hb3, hb4, hb5, hbh, hbw, hbt⟩, hv0, hv1, hv2, hv3, hv4, hv5, hv6, hv7⟩ := id hCW
  refine lv_aload_n hx hb dX1_isLeft_0 rfl (lv_at hl 0 rfl) ?_
  refine va_get (D := G) (ci := 1) (C := RX1) (T := TX1) (N := 4) hx hb hts iX1 hown hKK.1 hP 0 rfl rfl 0 (by decide) f9 (fun _ h9 => h9) rfl dX1_isLeft_1 ?_
  refine lv_iload_n hx hb dX1_isLeft_4 rfl (lv_at hl 3 rfl) ?_
  refine nv_iald (i := t) hx hb hKK.1 hP 1 0 rfl rfl (by omega) (by decide) dX1_isLeft_5 ?_
  have b_1 := hbl t
  refine nv_if_le (tgt := 22) (by omega) hx hb dX1_isLeft_6 (by decide) (fun c_2 => ?_) (fun c_2 => ?_)
  · refine lv_iconst (v := nI 0) hx hb dX1_isLeft_22 (by decide) ?_
    exact retZ (ty := .boolean) hx hb hr rfl hlocks hS hP hD () (rfl) (Or.inr ⟨rfl, by omega⟩) dX1_isLeft_23
  · refine lv_aload_n hx hb dX1_isLeft_9 rfl (lv_at hl 1 rfl) ?_
    refine lv_iload_n hx hb dX1_isLeft_10 rfl (lv_at hl 2 rfl) ?_
    refine lv_iload_n hx hb dX1_isLeft_11 rfl (lv_at hl 3 rfl) ?_
    refine roI hP hD hS hA [4, 5, 6, 7, 8, 9, 10, 11, 12, 13, 14, 15, 16, 17, 18, 19] rfl (runV (As := [.int (nI p), .int (nI t)]) (rest := []) (isC := [4, 5, 6, 7, 8, 9, 10, 11, 12, 13, 14, 15, 16, 17, 18, 19]) ⟨hx, hb, hml, hown, hts⟩ hKK hP hD rfl (by decide) (c_X0_worthOf l G tA a n0 c0 n1 c1 n2 c2 n3 c3 n4 c4 n5 c5 hs wf wt p t (hCW) (by first | assumption | omega) (by first | assumption | omega) _) (cwV 2 hts gX1_isLeft_X0_worthOf rfl rfl rfl (by decide +kernel) ⟨Nat.le_of_ble_eq_true rfl, Nat.le_of_ble_eq_true rfl⟩) rfl rfl rfl rfl hl.1 rfl (lv_room (Nat.le_of_ble_eq_true rfl)) dX1_isLeft_12 ⟨Nat.le_of_ble_eq_true rfl, Nat.le_of_ble_eq_true rfl⟩) (fun _ => rfl) (fun r_3 u_4 H locs q_5 hP hS => ?_)
    obtain ⟨rfl, e_6⟩ := q_5
    have e_6 : (if p < 5 ∧ t < n0 then wt (p * 8 + t) else 0) < 1048576 := e_6
    refine nv_top (y := wS n0 wt p t) rfl ?_
    have w_7 := wS_lt (n0 := n0) hbt p t
    refine nv_if_le (tgt := 22) (by omega) hx hb dX1_isLeft_15 (by decide) (fun c_8 => ?_) (fun c_8 => ?_)
    · refine lv_iconst (v := nI 0) hx hb dX1_isLeft_22 (by decide) ?_
      exact retZ (ty := .boolean) hx hb hr rfl hlocks hS hP hD () (rfl) (Or.inr ⟨rfl, by omega⟩) dX1_isLeft_23
    · refine lv_iconst (v := nI 1) hx hb dX1_isLeft_18 (by decide) ?_
      refine lv_goto (tgt := 23) hx hb dX1_isLeft_19 (by decide) ?_
      exact retZ (ty := .boolean) hx hb hr rfl hlocks hS hP hD () (rfl) (Or.inl ⟨rfl, by omega⟩) dX1_isLeft_23

set_option maxHeartbeats 4000000 in
set_option maxRecDepth 100000 in
theorem c_X1_raise (l : Launch) (G : va_G) (tA : Nat → ClassId) : ∀ (dp : Nat) (d : Nat → Nat) (lf : Nat → Nat) (gt : Nat → Nat) (hp : Nat → Nat) (mo : Nat) (a : Nat → Nat) (n0 : Nat) (c0 : Nat → Nat) (n1 : Nat) (c1 : Nat → Nat) (n2 : Nat) (c2 : Nat → Nat) (n3 : Nat) (c3 : Nat → Nat) (n4 : Nat) (c4 : Nat → Nat) (n5 : Nat) (c5 : Nat → Nat) (hs : Nat → Nat) (wf : Nat → Nat) (wt : Nat → Nat) (p : Nat) (s9 : Nat) (hCW : CW n0 c0 n1 c1 n2 c2 n3 c3 n4 c4 n5 c5 hs wf wt) (hbl : ∀ j, lf j < 1048576) (hbp : ∀ j, hp j < 8388608) (hmo : mo ≤ 8388608) (hp9 : p ≤ 5) (hd : 5 < p + dp) (hs9 : s9 ≤ 1048576 * p), CtV l yX1_raise wsX1_raise ({ frames := 12 + 1 * dp, cells := 0, slots := 0, locals := 500 + 60 * dp }) G tA [.ref (d 0), .ref (a 0), .int (nI p), .int (nI s9)] ([(d 0, .inr (1, [.ref (d 1), .ref (d 2), .ref (d 3), .int (nI mo)])), (d 1, .inl (tA 0, 8, .inl (nF lf))), (d 2, .inl (tA 0, 5, .inl (nF gt))), (d 3, .inl (tA 0, 6, .inl (nF hp))), (a 0, .inr (0, [.ref (a 1), .ref (a 2), .ref (a 3), .ref (a 4), .ref (a 5), .ref (a 6), .ref (a 7), .ref (a 8), .ref (a 9)])), (a 1, .inr (2, [.ref (a 10), .int (nI 8), .int (nI 3), .int (nI n0)])), (a 10, .inl (tA 0, 40, .inl (nF c0))), (a 2, .inr (2, [.ref (a 11), .int (nI 10), .int (nI 4), .int (nI n1)])), (a 11, .inl (tA 0, 40, .inl (nF c1))), (a 3, .inr (2, [.ref (a 12), .int (nI 10), .int (nI 3), .int (nI n2)])), (a 12, .inl (tA 0, 40, .inl (nF c2))), (a 4, .inr (2, [.ref (a 13), .int (nI 8), .int (nI 3), .int (nI n3)])), (a 13, .inl (tA 0, 40, .inl (nF c3))), (a 5, .inr (2, [.ref (a 14), .int (nI 5), .int (nI 4), .int (nI n4)])), (a 14, .inl (tA 0, 40, .inl (nF c4))), (a 6, .inr (2, [.ref (a 15), .int (nI 8), .int (nI 2), .int (nI n5)])), (a 15, .inl (tA 0, 40, .inl (nF c5))), (a 7, .inl (tA 0, 5, .inl (nF hs))), (a 8, .inl (tA 0, 5, .inl (nF wf))), (a 9, .inl (tA 0, 40, .inl (nF wt)))]) (fun (u : (Nat)) => u = raiS n0 wt hp dp p s9 lf mo ∧ u ≤ 8388608) (fun (u : (Nat)) => [(d 0, .inr (1, [.ref (d 1), .ref (d 2), .ref (d 3), .int (nI u)])), (d 1, .inl (tA 0, 8, .inl (nF lf))), (d 2, .inl (tA 0, 5, .inl (nF gt))), (d 3, .inl (tA 0, 6, .inl (nF hp))), (a 0, .inr (0, [.ref (a 1), .ref (a 2), .ref (a 3), .ref (a 4), .ref (a 5), .ref (a 6), .ref (a 7), .ref (a 8), .ref (a 9)])), (a 1, .inr (2, [.ref (a 10), .int (nI 8), .int (nI 3), .int (nI n0)])), (a 10, .inl (tA 0, 40, .inl (nF c0))), (a 2, .inr (2, [.ref (a 11), .int (nI 10), .int (nI 4), .int (nI n1)])), (a 11, .inl (tA 0, 40, .inl (nF c1))), (a 3, .inr (2, [.ref (a 12), .int (nI 10), .int (nI 3), .int (nI n2)])), (a 12, .inl (tA 0, 40, .inl (nF c2))), (a 4, .inr (2, [.ref (a 13), .int (nI 8), .int (nI 3), .int (nI n3)])), (a 13, .inl (tA 0, 40, .inl (nF c3))), (a 5, .inr (2, [.ref (a 14), .int (nI 5), .int (nI 4), .int (nI n4)])), (a 14, .inl (tA 0, 40, .inl (nF c4))), (a 6, .inr (2, [.ref (a 15), .int (nI 8), .int (nI 2), .int (nI n5)])), (a 15, .inl (tA 0, 40, .inl (nF c5))), (a 7, .inl (tA 0, 5, .inl (nF hs))), (a 8, .inl (tA 0, 5, .inl (nF wf))), (a 9, .inl (tA 0, 40, .inl (nF wt)))]) 0 0 := by
  intro dp
  induction dp with
  | zero => intro d lf gt hp mo a n0 c0 n1 c1 n2 c2 n3 c3 n4 c4 n5 c5 hs wf wt p s9 hCW hbl hbp hmo hp9 hd hs9; exfalso; omega
  | succ dp ih =>
  intro d lf gt hp mo a n0 c0 n1 c1 n2 c2 n3 c3 n4 c4 n5 c5 hs wf wt p s9 hCW hbl hbp hmo hp9 hd hs9
  refine enterV (cc := cX1_raise) (maxL := 5) (ret := none) (by decide) rfl (Nat.le_of_ble_eq_true rfl) ?_
  intro p0 e0 s m args below meth c0_ A ls hx hb hml hr hts hown hlocks hin hKK hA hP hD hl hS
  have hown : s.vm.findClass RX1 = some m.cls := hown
  have hl : lv_has ls 5 [(0, .ref (d 0)), (1, .ref (a 0)), (2, .int (nI p)), (3, .int (nI s9))] := hl
  have f21 := hts (Cond.fieldLink RX1 21 "LentTerms$Deal" "most" "I") (List.mem_of_getElem? (i := 1) rfl)
  have iX1 : ∀ w ∈ wsX10, w ∈ wsX1_raise := by decide +kernel
  have f51 := hts (Cond.methodLink RX1 51 Lib.Math.max.name) (List.mem_of_getElem? (i := 2) rfl)
  have f18 := hts (Cond.fieldLink RX1 18 "LentTerms$Deal" "hope" "[I") (List.mem_of_getElem? (i := 6) rfl)
  have f9 := hts (Cond.fieldLink RX1 9 "LentTerms$Deal" "left" "[I") (List.mem_of_getElem? (i := 7) rfl)
  obtain ⟨⟨hn0, hn1, hn2, hn3, hn4, hn5⟩, ⟨hb0, hb1, hb2, hb3, hb4, hb5, hbh, hbw, hbt⟩, hv0, hv1, hv2, hv3, hv4, hv5, hv6, hv7⟩ := id hCW
  refine lv_aload_n hx hb dX1_raise_0 rfl (lv_at hl 0 rfl) ?_
  refine lv_aload_n hx hb dX1_raise_1 rfl (lv_at hl 0 rfl) ?_
  refine va_get (D := G) (ci := 1) (C := RX1) (T := TX1) (N := 4) hx hb hts iX1 hown hKK.1 hP 0 rfl rfl 3 (by decide) f21 (fun _ h9 => h9) rfl dX1_raise_2 ?_
  refine lv_iload_n hx hb dX1_raise_5 rfl (lv_at hl 3 rfl) ?_
  refine nv_max hx hb (by rw [hml]; exact hl.1.symm) hown f51 (hts (.static Lib.Math.max.name) (List.mem_of_getElem? (i := 3) rfl)) (hts (.initialized "java/lang/Math") (List.mem_of_getElem? (i := 4) rfl)) (hts (.code Lib.Math.max.name Lib.Math.max.code 2 (some .int)) (List.mem_of_getElem? (i := 5) rfl)) (by first | (dsimp only; omega) | (simp only [List.map_cons, List.map_nil, List.sum_cons, List.sum_nil, Value.category]; omega)) (by first | (dsimp only; omega) | (simp only [List.map_cons, List.map_nil, List.sum_cons, List.sum_nil, Value.category]; omega)) (Nat.le_of_ble_eq_true rfl) (Nat.le_of_ble_eq_true rfl) (by omega) (by omega) dX1_raise_6 ?_
  have hm1 : Nat.max mo s9 ≤ 8388608 := Nat.max_le.mpr ⟨hmo, by omega⟩
  refine nv_put (D := G) (ci := 1) (v := .int (nI (Nat.max mo s9))) (ty := (tyX1 3)) (C := RX1) (T := TX1) (N := 4) hx hb hts iX1 tyX1 tyX1_ok nmX1 hown hKK.1 hP hD hS 0 rfl rfl 3 (by decide) f21 (fun _ h9 => h9) rfl (by decide +kernel) rfl rfl (Nat.le_of_ble_eq_true rfl) dX1_raise_9 [(d 0, .inr (1, [.ref (d 1), .ref (d 2), .ref (d 3), .int (nI (Nat.max mo s9))])), (d 1, .inl (tA 0, 8, .inl (nF lf))), (d 2, .inl (tA 0, 5, .inl (nF gt))), (d 3, .inl (tA 0, 6, .inl (nF hp))), (a 0, .inr (0, [.ref (a 1), .ref (a 2), .ref (a 3), .ref (a 4), .ref (a 5), .ref (a 6), .ref (a 7), .ref (a 8), .ref (a 9)])), (a 1, .inr (2, [.ref (a 10), .int (nI 8), .int (nI 3), .int (nI n0)])), (a 10, .inl (tA 0, 40, .inl (nF c0))), (a 2, .inr (2, [.ref (a 11), .int (nI 10), .int (nI 4), .int (nI n1)])), (a 11, .inl (tA 0, 40, .inl (nF c1))), (a 3, .inr (2, [.ref (a 12), .int (nI 10), .int (nI 3), .int (nI n2)])), (a 12, .inl (tA 0, 40, .inl (nF c2))), (a 4, .inr (2, [.ref (a 13), .int (nI 8), .int (nI 3), .int (nI n3)])), (a 13, .inl (tA 0, 40, .inl (nF c3))), (a 5, .inr (2, [.ref (a 14), .int (nI 5), .int (nI 4), .int (nI n4)])), (a 14, .inl (tA 0, 40, .inl (nF c4))), (a 6, .inr (2, [.ref (a 15), .int (nI 8), .int (nI 2), .int (nI n5)])), (a 15, .inl (tA 0, 40, .inl (nF c5))), (a 7, .inl (tA 0, 5, .inl (nF hs))), (a 8, .inl (tA 0, 5, .inl (nF wf))), (a 9, .inl (tA 0, 40, .inl (nF wt)))] rfl (fun H locs hP hD hS => ?_)
  refine lv_iload_n hx hb dX1_raise_12 rfl (lv_at hl 2 rfl) ?_
  refine nv_if_lt (tgt := 36) (by omega) hx hb dX1_raise_13 (by decide) ?_
  refine lv_iload_n hx hb dX1_raise_16 rfl (lv_at hl 2 rfl) ?_
  refine lv_iconst (v := nI 5) hx hb dX1_raise_17 (by decide) ?_
  refine nv_icmp_ge (tgt := 36) (by omega) (by omega) hx hb dX1_raise_18 (by decide) (fun c_2 => ?_) (fun c_2 => ?_)
  · exact retV hx hb hr hlocks hS hP hD (Nat.max mo s9) (rfl) (⟨rai_0 (by omega), hm1⟩) dX1_raise_36
  · refine lv_iload_n hx hb dX1_raise_21 rfl (lv_at hl 3 rfl) ?_
    refine lv_aload_n hx hb dX1_raise_22 rfl (lv_at hl 0 rfl) ?_
    refine va_get (D := G) (ci := 1) (C := RX1) (T := TX1) (N := 4) hx hb hts iX1 hown hKK.1 hP 0 rfl rfl 2 (by decide) f18 (fun _ h9 => h9) rfl dX1_raise_23 ?_
    have hpp := hbp p
    refine lv_iload_n hx hb dX1_raise_26 rfl (lv_at hl 2 rfl) ?_
    refine nv_iald (i := p) hx hb hKK.1 hP 3 0 rfl rfl (by omega) (by decide) dX1_raise_27 ?_
    have b_3 := hbp p
    refine nv_iadd hx hb dX1_raise_28 ?_
    refine lv_aload_n hx hb dX1_raise_29 rfl (lv_at hl 0 rfl) ?_
    refine va_get (D := G) (ci := 1) (C := RX1) (T := TX1) (N := 4) hx hb hts iX1 hown hKK.1 hP 0 rfl rfl 3 (by decide) f21 (fun _ h9 => h9) rfl dX1_raise_30 ?_
    refine nv_icmp_gt (tgt := 37) (by omega) (by omega) hx hb dX1_raise_33 (by decide) (fun c_4 => ?_) (fun c_4 => ?_)
    · refine lv_iconst (v := nI 0) hx hb dX1_raise_37 (by decide) ?_
      refine lv_istore (lv' := [(4, .int (nI 0)), (0, .ref (d 0)), (1, .ref (a 0)), (2, .int (nI p)), (3, .int (nI s9))]) hx hb dX1_raise_38 hl (by decide) rfl (fun ls hl => ?_)
      refine wloop (σ := (Nat) × (Nat)) (fun | (t, m2) => 8 - t) (fun | (t, m2) => (t ≤ 8) ∧ (m2 = raiI n0 wt hp dp p s9 lf (Nat.max mo s9) t) ∧ (m2 ≤ 8388608)) (fun | (t, m2) => [(4, .int (nI t)), (0, .ref (d 0)), (1, .ref (a 0)), (2, .int (nI p)), (3, .int (nI s9))]) (fun | (t, m2) => [(d 0, .inr (1, [.ref (d 1), .ref (d 2), .ref (d 3), .int (nI m2)])), (d 1, .inl (tA 0, 8, .inl (nF lf))), (d 2, .inl (tA 0, 5, .inl (nF gt))), (d 3, .inl (tA 0, 6, .inl (nF hp))), (a 0, .inr (0, [.ref (a 1), .ref (a 2), .ref (a 3), .ref (a 4), .ref (a 5), .ref (a 6), .ref (a 7), .ref (a 8), .ref (a 9)])), (a 1, .inr (2, [.ref (a 10), .int (nI 8), .int (nI 3), .int (nI n0)])), (a 10, .inl (tA 0, 40, .inl (nF c0))), (a 2, .inr (2, [.ref (a 11), .int (nI 10), .int (nI 4), .int (nI n1)])), (a 11, .inl (tA 0, 40, .inl (nF c1))), (a 3, .inr (2, [.ref (a 12), .int (nI 10), .int (nI 3), .int (nI n2)])), (a 12, .inl (tA 0, 40, .inl (nF c2))), (a 4, .inr (2, [.ref (a 13), .int (nI 8), .int (nI 3), .int (nI n3)])), (a 13, .inl (tA 0, 40, .inl (nF c3))), (a 5, .inr (2, [.ref (a 14), .int (nI 5), .int (nI 4), .int (nI n4)])), (a 14, .inl (tA 0, 40, .inl (nF c4))), (a 6, .inr (2, [.ref (a 15), .int (nI 8), .int (nI 2), .int (nI n5)])), (a 15, .inl (tA 0, 40, .inl (nF c5))), (a 7, .inl (tA 0, 5, .inl (nF hs))), (a 8, .inl (tA 0, 5, .inl (nF wf))), (a 9, .inl (tA 0, 40, .inl (nF wt)))]) (0, Nat.max mo s9) ⟨(show 0 ≤ 8 from by omega), (show (Nat.max mo s9) = raiI n0 wt hp dp p s9 lf (Nat.max mo s9) 0 from rfl), (show (Nat.max mo s9) ≤ 8388608 from hm1)⟩ (lv_sub hl [0, 1, 2, 3, 4] rfl) hP hD hS ?_
      rintro ⟨t, m2⟩ ⟨ht, hra, hm2⟩ ih_5 ls H locs hl hP hD hS
      have hl : lv_has ls 5 [(4, .int (nI t)), (0, .ref (d 0)), (1, .ref (a 0)), (2, .int (nI p)), (3, .int (nI s9))] := hl
      have hP : va_P G vwCl [(d 0, .inr (1, [.ref (d 1), .ref (d 2), .ref (d 3), .int (nI m2)])), (d 1, .inl (tA 0, 8, .inl (nF lf))), (d 2, .inl (tA 0, 5, .inl (nF gt))), (d 3, .inl (tA 0, 6, .inl (nF hp))), (a 0, .inr (0, [.ref (a 1), .ref (a 2), .ref (a 3), .ref (a 4), .ref (a 5), .ref (a 6), .ref (a 7), .ref (a 8), .ref (a 9)])), (a 1, .inr (2, [.ref (a 10), .int (nI 8), .int (nI 3), .int (nI n0)])), (a 10, .inl (tA 0, 40, .inl (nF c0))), (a 2, .inr (2, [.ref (a 11), .int (nI 10), .int (nI 4), .int (nI n1)])), (a 11, .inl (tA 0, 40, .inl (nF c1))), (a 3, .inr (2, [.ref (a 12), .int (nI 10), .int (nI 3), .int (nI n2)])), (a 12, .inl (tA 0, 40, .inl (nF c2))), (a 4, .inr (2, [.ref (a 13), .int (nI 8), .int (nI 3), .int (nI n3)])), (a 13, .inl (tA 0, 40, .inl (nF c3))), (a 5, .inr (2, [.ref (a 14), .int (nI 5), .int (nI 4), .int (nI n4)])), (a 14, .inl (tA 0, 40, .inl (nF c4))), (a 6, .inr (2, [.ref (a 15), .int (nI 8), .int (nI 2), .int (nI n5)])), (a 15, .inl (tA 0, 40, .inl (nF c5))), (a 7, .inl (tA 0, 5, .inl (nF hs))), (a 8, .inl (tA 0, 5, .inl (nF wf))), (a 9, .inl (tA 0, 40, .inl (nF wt)))] H := hP
      have hD : va_D A [(d 0, .inr (1, [.ref (d 1), .ref (d 2), .ref (d 3), .int (nI m2)])), (d 1, .inl (tA 0, 8, .inl (nF lf))), (d 2, .inl (tA 0, 5, .inl (nF gt))), (d 3, .inl (tA 0, 6, .inl (nF hp))), (a 0, .inr (0, [.ref (a 1), .ref (a 2), .ref (a 3), .ref (a 4), .ref (a 5), .ref (a 6), .ref (a 7), .ref (a 8), .ref (a 9)])), (a 1, .inr (2, [.ref (a 10), .int (nI 8), .int (nI 3), .int (nI n0)])), (a 10, .inl (tA 0, 40, .inl (nF c0))), (a 2, .inr (2, [.ref (a 11), .int (nI 10), .int (nI 4), .int (nI n1)])), (a 11, .inl (tA 0, 40, .inl (nF c1))), (a 3, .inr (2, [.ref (a 12), .int (nI 10), .int (nI 3), .int (nI n2)])), (a 12, .inl (tA 0, 40, .inl (nF c2))), (a 4, .inr (2, [.ref (a 13), .int (nI 8), .int (nI 3), .int (nI n3)])), (a 13, .inl (tA 0, 40, .inl (nF c3))), (a 5, .inr (2, [.ref (a 14), .int (nI 5), .int (nI 4), .int (nI n4)])), (a 14, .inl (tA 0, 40, .inl (nF c4))), (a 6, .inr (2, [.ref (a 15), .int (nI 8), .int (nI 2), .int (nI n5)])), (a 15, .inl (tA 0, 40, .inl (nF c5))), (a 7, .inl (tA 0, 5, .inl (nF hs))), (a 8, .inl (tA 0, 5, .inl (nF wf))), (a 9, .inl (tA 0, 40, .inl (nF wt)))] := hD
      have ht : t ≤ 8 := ht
      have hra : m2 = raiI n0 wt hp dp p s9 lf (Nat.max mo s9) t := hra
      have hm2 : m2 ≤ 8388608 := hm2
      refine lv_iload hx hb dX1_raise_40 (lv_at hl 0 rfl) ?_
      refine lv_bipush (v := nI 8) hx hb dX1_raise_42 (by decide +kernel) ?_
      refine nv_icmp_ge (tgt := 103) (by omega) (by omega) hx hb dX1_raise_44 (by decide) (fun c_6 => ?_) (fun c_6 => ?_)
      · have ht8 : t = 8 := by omega
        rw [ht8] at hra
        refine lv_aload_n hx hb dX1_raise_103 rfl (lv_at hl 1 rfl) ?_
        refine lv_aload_n hx hb dX1_raise_104 rfl (lv_at hl 2 rfl) ?_
        refine lv_iload_n hx hb dX1_raise_105 rfl (lv_at hl 3 rfl) ?_
        refine lv_iconst (v := nI 1) hx hb dX1_raise_106 (by decide) ?_
        refine nv_iadd hx hb dX1_raise_107 ?_
        refine lv_iload_n hx hb dX1_raise_108 rfl (lv_at hl 4 rfl) ?_
        refine rwAV hP hD hS hA (runS (As := [.ref (d 0), .ref (a 0), .int (nI (p + 1)), .int (nI s9)]) (rest := []) (isC := [0, 1, 2, 3, 4, 5, 6, 7, 8, 9, 10, 11, 12, 13, 14, 15, 16, 17, 18, 19]) ⟨hx, hb, hml, hown, hts⟩ hKK hP hD rfl (by decide) (ih d lf gt hp m2 a n0 c0 n1 c1 n2 c2 n3 c3 n4 c4 n5 c5 hs wf wt (p + 1) s9 (hCW) (by assumption) (hbp) (by assumption) (by first | assumption | omega) (by omega) (by omega) _) (va_cwS 4 hts gX1_raise_X1_raise rfl rfl rfl (by decide +kernel) ⟨by dsimp only; omega, by dsimp only; omega⟩) rfl rfl hl.1 rfl (lv_room (Nat.le_of_ble_eq_true rfl)) dX1_raise_109 ⟨Nat.le_refl 0, Nat.le_refl 0⟩) (fun _ => by simp only [List.map_cons, List.map_nil]) (fun u_8 H locs q_9 hP hD hS => ?_)
        obtain ⟨mo9_10, rfl⟩ : ∃ z, z = u_8 := ⟨_, rfl⟩
        have hP : va_P G vwCl [(d 0, .inr (1, [.ref (d 1), .ref (d 2), .ref (d 3), .int (nI mo9_10)])), (d 1, .inl (tA 0, 8, .inl (nF lf))), (d 2, .inl (tA 0, 5, .inl (nF gt))), (d 3, .inl (tA 0, 6, .inl (nF hp))), (a 0, .inr (0, [.ref (a 1), .ref (a 2), .ref (a 3), .ref (a 4), .ref (a 5), .ref (a 6), .ref (a 7), .ref (a 8), .ref (a 9)])), (a 1, .inr (2, [.ref (a 10), .int (nI 8), .int (nI 3), .int (nI n0)])), (a 10, .inl (tA 0, 40, .inl (nF c0))), (a 2, .inr (2, [.ref (a 11), .int (nI 10), .int (nI 4), .int (nI n1)])), (a 11, .inl (tA 0, 40, .inl (nF c1))), (a 3, .inr (2, [.ref (a 12), .int (nI 10), .int (nI 3), .int (nI n2)])), (a 12, .inl (tA 0, 40, .inl (nF c2))), (a 4, .inr (2, [.ref (a 13), .int (nI 8), .int (nI 3), .int (nI n3)])), (a 13, .inl (tA 0, 40, .inl (nF c3))), (a 5, .inr (2, [.ref (a 14), .int (nI 5), .int (nI 4), .int (nI n4)])), (a 14, .inl (tA 0, 40, .inl (nF c4))), (a 6, .inr (2, [.ref (a 15), .int (nI 8), .int (nI 2), .int (nI n5)])), (a 15, .inl (tA 0, 40, .inl (nF c5))), (a 7, .inl (tA 0, 5, .inl (nF hs))), (a 8, .inl (tA 0, 5, .inl (nF wf))), (a 9, .inl (tA 0, 40, .inl (nF wt)))] H := hP
        have hD : va_D A [(d 0, .inr (1, [.ref (d 1), .ref (d 2), .ref (d 3), .int (nI mo9_10)])), (d 1, .inl (tA 0, 8, .inl (nF lf))), (d 2, .inl (tA 0, 5, .inl (nF gt))), (d 3, .inl (tA 0, 6, .inl (nF hp))), (a 0, .inr (0, [.ref (a 1), .ref (a 2), .ref (a 3), .ref (a 4), .ref (a 5), .ref (a 6), .ref (a 7), .ref (a 8), .ref (a 9)])), (a 1, .inr (2, [.ref (a 10), .int (nI 8), .int (nI 3), .int (nI n0)])), (a 10, .inl (tA 0, 40, .inl (nF c0))), (a 2, .inr (2, [.ref (a 11), .int (nI 10), .int (nI 4), .int (nI n1)])), (a 11, .inl (tA 0, 40, .inl (nF c1))), (a 3, .inr (2, [.ref (a 12), .int (nI 10), .int (nI 3), .int (nI n2)])), (a 12, .inl (tA 0, 40, .inl (nF c2))), (a 4, .inr (2, [.ref (a 13), .int (nI 8), .int (nI 3), .int (nI n3)])), (a 13, .inl (tA 0, 40, .inl (nF c3))), (a 5, .inr (2, [.ref (a 14), .int (nI 5), .int (nI 4), .int (nI n4)])), (a 14, .inl (tA 0, 40, .inl (nF c4))), (a 6, .inr (2, [.ref (a 15), .int (nI 8), .int (nI 2), .int (nI n5)])), (a 15, .inl (tA 0, 40, .inl (nF c5))), (a 7, .inl (tA 0, 5, .inl (nF hs))), (a 8, .inl (tA 0, 5, .inl (nF wf))), (a 9, .inl (tA 0, 40, .inl (nF wt)))] := hD
        obtain ⟨e_11, e_12⟩ := q_9
        have e_11 : mo9_10 = raiS n0 wt hp dp (p + 1) s9 lf m2 := e_11
        have e_12 : mo9_10 ≤ 8388608 := e_12
        exact retV hx hb hr hlocks hS hP hD (mo9_10) (rfl) (⟨rai_1 (by omega) (by omega) (by rw [← hra]; assumption), by assumption⟩) dX1_raise_112
      · refine lv_aload_n hx hb dX1_raise_47 rfl (lv_at hl 1 rfl) ?_
        refine lv_aload_n hx hb dX1_raise_48 rfl (lv_at hl 2 rfl) ?_
        refine lv_iload_n hx hb dX1_raise_49 rfl (lv_at hl 3 rfl) ?_
        refine lv_iload hx hb dX1_raise_50 (lv_at hl 0 rfl) ?_
        refine roI hP hD hS hA [0, 1, 2, 3, 4, 5, 6, 7, 8, 9, 10, 11, 12, 13, 14, 15, 16, 17, 18, 19] rfl (runV (As := [.ref (a 0), .int (nI p), .int (nI t)]) (rest := []) (isC := [0, 1, 2, 3, 4, 5, 6, 7, 8, 9, 10, 11, 12, 13, 14, 15, 16, 17, 18, 19]) ⟨hx, hb, hml, hown, hts⟩ hKK hP hD rfl (by decide) (c_X1_isLeft l G tA d lf gt hp m2 a n0 c0 n1 c1 n2 c2 n3 c3 n4 c4 n5 c5 hs wf wt p t (hCW) (by assumption) (hbp) (by assumption) (by first | assumption | omega) (by first | assumption | omega) _) (cwV 3 hts gX1_raise_X1_isLeft rfl rfl rfl (by decide +kernel) ⟨by dsimp only; omega, by dsimp only; omega⟩) rfl rfl rfl rfl hl.1 rfl (lv_room (Nat.le_of_ble_eq_true rfl)) dX1_raise_52 ⟨Nat.le_refl 0, Nat.le_refl 0⟩) (fun _ => rfl) (fun r_13 u_14 H locs q_15 hP hS => ?_)
        rcases q_15 with ⟨rfl, p_16⟩ | ⟨rfl, p_16⟩
        · have p_16 : 0 < lf t ∧ 0 < wS n0 wt p t := p_16
          refine nv_if_eq (tgt := 97) (by omega) hx hb dX1_raise_55 (by decide) (fun h => absurd h (by omega)) (fun _ => ?_)
          refine lv_aload_n hx hb dX1_raise_58 rfl (lv_at hl 1 rfl) ?_
          refine va_get (D := G) (ci := 1) (C := RX1) (T := TX1) (N := 4) hx hb hts iX1 hown hKK.1 hP 0 rfl rfl 0 (by decide) f9 (fun _ h9 => h9) rfl dX1_raise_59 ?_
          refine lv_iload hx hb dX1_raise_62 (lv_at hl 0 rfl) ?_
          refine lv_dup2_11 hx hb dX1_raise_64 rfl rfl ?_
          refine nv_iald (i := t) hx hb hKK.1 hP 1 0 rfl rfl (by omega) (by decide) dX1_raise_65 ?_
          have b_18 := hbl t
          refine lv_iconst (v := nI 1) hx hb dX1_raise_66 (by decide) ?_
          refine nv_isub (show 1 ≤ lf t from by omega) hx hb dX1_raise_67 ?_
          refine nv_iast (i := t) hx hb hKK.1 hP hD hS 1 0 rfl rfl (by omega) (by decide) dX1_raise_68 [(d 0, .inr (1, [.ref (d 1), .ref (d 2), .ref (d 3), .int (nI m2)])), (d 1, .inl (tA 0, 8, .inl (nF (updN lf t ((lf t) - 1))))), (d 2, .inl (tA 0, 5, .inl (nF gt))), (d 3, .inl (tA 0, 6, .inl (nF hp))), (a 0, .inr (0, [.ref (a 1), .ref (a 2), .ref (a 3), .ref (a 4), .ref (a 5), .ref (a 6), .ref (a 7), .ref (a 8), .ref (a 9)])), (a 1, .inr (2, [.ref (a 10), .int (nI 8), .int (nI 3), .int (nI n0)])), (a 10, .inl (tA 0, 40, .inl (nF c0))), (a 2, .inr (2, [.ref (a 11), .int (nI 10), .int (nI 4), .int (nI n1)])), (a 11, .inl (tA 0, 40, .inl (nF c1))), (a 3, .inr (2, [.ref (a 12), .int (nI 10), .int (nI 3), .int (nI n2)])), (a 12, .inl (tA 0, 40, .inl (nF c2))), (a 4, .inr (2, [.ref (a 13), .int (nI 8), .int (nI 3), .int (nI n3)])), (a 13, .inl (tA 0, 40, .inl (nF c3))), (a 5, .inr (2, [.ref (a 14), .int (nI 5), .int (nI 4), .int (nI n4)])), (a 14, .inl (tA 0, 40, .inl (nF c4))), (a 6, .inr (2, [.ref (a 15), .int (nI 8), .int (nI 2), .int (nI n5)])), (a 15, .inl (tA 0, 40, .inl (nF c5))), (a 7, .inl (tA 0, 5, .inl (nF hs))), (a 8, .inl (tA 0, 5, .inl (nF wf))), (a 9, .inl (tA 0, 40, .inl (nF wt)))] rfl (fun H locs hP hD hS => ?_)
          have B_19 := updN_lt hbl t (show (lf t) - 1 < 1048576 from by omega)
          have hblu : ∀ j, updN lf t (lf t - 1) j < 1048576 := updN_lt hbl _ (by have := hbl t; omega)
          refine lv_aload_n hx hb dX1_raise_69 rfl (lv_at hl 1 rfl) ?_
          refine lv_aload_n hx hb dX1_raise_70 rfl (lv_at hl 2 rfl) ?_
          refine lv_iload_n hx hb dX1_raise_71 rfl (lv_at hl 3 rfl) ?_
          refine lv_iconst (v := nI 1) hx hb dX1_raise_72 (by decide) ?_
          refine nv_iadd hx hb dX1_raise_73 ?_
          refine lv_iload_n hx hb dX1_raise_74 rfl (lv_at hl 4 rfl) ?_
          refine lv_aload_n hx hb dX1_raise_75 rfl (lv_at hl 2 rfl) ?_
          refine lv_iload_n hx hb dX1_raise_76 rfl (lv_at hl 3 rfl) ?_
          refine lv_iload hx hb dX1_raise_77 (lv_at hl 0 rfl) ?_
          refine roI hP hD hS hA [4, 5, 6, 7, 8, 9, 10, 11, 12, 13, 14, 15, 16, 17, 18, 19] rfl (runV (As := [.int (nI p), .int (nI t)]) (rest := [.int (nI s9), .int (nI (p + 1)), .ref (a 0), .ref (d 0)]) (isC := [4, 5, 6, 7, 8, 9, 10, 11, 12, 13, 14, 15, 16, 17, 18, 19]) ⟨hx, hb, hml, hown, hts⟩ hKK hP hD rfl (by decide) (c_X0_worthOf l G tA a n0 c0 n1 c1 n2 c2 n3 c3 n4 c4 n5 c5 hs wf wt p t (hCW) (by first | assumption | omega) (by first | assumption | omega) _) (cwV 2 hts gX1_raise_X0_worthOf rfl rfl rfl (by decide +kernel) ⟨by dsimp only; omega, by dsimp only; omega⟩) rfl rfl rfl rfl hl.1 rfl (lv_room (Nat.le_of_ble_eq_true rfl)) dX1_raise_79 ⟨Nat.le_refl 0, Nat.le_refl 0⟩) (fun _ => rfl) (fun r_20 u_21 H locs q_22 hP hS => ?_)
          obtain ⟨rfl, e_23⟩ := q_22
          have e_23 : (if p < 5 ∧ t < n0 then wt (p * 8 + t) else 0) < 1048576 := e_23
          refine nv_top (y := wS n0 wt p t) rfl ?_
          have w_24 := wS_lt (n0 := n0) hbt p t
          refine nv_iadd hx hb dX1_raise_82 ?_
          refine rwAV hP hD hS hA (runS (As := [.ref (d 0), .ref (a 0), .int (nI (p + 1)), .int (nI (s9 + (wS n0 wt p t)))]) (rest := []) (isC := [0, 1, 2, 3, 4, 5, 6, 7, 8, 9, 10, 11, 12, 13, 14, 15, 16, 17, 18, 19]) ⟨hx, hb, hml, hown, hts⟩ hKK hP hD rfl (by decide) (ih d (updN lf t ((lf t) - 1)) gt hp m2 a n0 c0 n1 c1 n2 c2 n3 c3 n4 c4 n5 c5 hs wf wt (p + 1) (s9 + (wS n0 wt p t)) (hCW) (by assumption) (hbp) (by assumption) (by first | assumption | omega) (by omega) (by omega) _) (va_cwS 4 hts gX1_raise_X1_raise rfl rfl rfl (by decide +kernel) ⟨by dsimp only; omega, by dsimp only; omega⟩) rfl rfl hl.1 rfl (lv_room (Nat.le_of_ble_eq_true rfl)) dX1_raise_83 ⟨Nat.le_refl 0, Nat.le_refl 0⟩) (fun _ => by simp only [List.map_cons, List.map_nil]) (fun u_26 H locs q_27 hP hD hS => ?_)
          obtain ⟨mo9_28, rfl⟩ : ∃ z, z = u_26 := ⟨_, rfl⟩
          have hP : va_P G vwCl [(d 0, .inr (1, [.ref (d 1), .ref (d 2), .ref (d 3), .int (nI mo9_28)])), (d 1, .inl (tA 0, 8, .inl (nF (updN lf t ((lf t) - 1))))), (d 2, .inl (tA 0, 5, .inl (nF gt))), (d 3, .inl (tA 0, 6, .inl (nF hp))), (a 0, .inr (0, [.ref (a 1), .ref (a 2), .ref (a 3), .ref (a 4), .ref (a 5), .ref (a 6), .ref (a 7), .ref (a 8), .ref (a 9)])), (a 1, .inr (2, [.ref (a 10), .int (nI 8), .int (nI 3), .int (nI n0)])), (a 10, .inl (tA 0, 40, .inl (nF c0))), (a 2, .inr (2, [.ref (a 11), .int (nI 10), .int (nI 4), .int (nI n1)])), (a 11, .inl (tA 0, 40, .inl (nF c1))), (a 3, .inr (2, [.ref (a 12), .int (nI 10), .int (nI 3), .int (nI n2)])), (a 12, .inl (tA 0, 40, .inl (nF c2))), (a 4, .inr (2, [.ref (a 13), .int (nI 8), .int (nI 3), .int (nI n3)])), (a 13, .inl (tA 0, 40, .inl (nF c3))), (a 5, .inr (2, [.ref (a 14), .int (nI 5), .int (nI 4), .int (nI n4)])), (a 14, .inl (tA 0, 40, .inl (nF c4))), (a 6, .inr (2, [.ref (a 15), .int (nI 8), .int (nI 2), .int (nI n5)])), (a 15, .inl (tA 0, 40, .inl (nF c5))), (a 7, .inl (tA 0, 5, .inl (nF hs))), (a 8, .inl (tA 0, 5, .inl (nF wf))), (a 9, .inl (tA 0, 40, .inl (nF wt)))] H := hP
          have hD : va_D A [(d 0, .inr (1, [.ref (d 1), .ref (d 2), .ref (d 3), .int (nI mo9_28)])), (d 1, .inl (tA 0, 8, .inl (nF (updN lf t ((lf t) - 1))))), (d 2, .inl (tA 0, 5, .inl (nF gt))), (d 3, .inl (tA 0, 6, .inl (nF hp))), (a 0, .inr (0, [.ref (a 1), .ref (a 2), .ref (a 3), .ref (a 4), .ref (a 5), .ref (a 6), .ref (a 7), .ref (a 8), .ref (a 9)])), (a 1, .inr (2, [.ref (a 10), .int (nI 8), .int (nI 3), .int (nI n0)])), (a 10, .inl (tA 0, 40, .inl (nF c0))), (a 2, .inr (2, [.ref (a 11), .int (nI 10), .int (nI 4), .int (nI n1)])), (a 11, .inl (tA 0, 40, .inl (nF c1))), (a 3, .inr (2, [.ref (a 12), .int (nI 10), .int (nI 3), .int (nI n2)])), (a 12, .inl (tA 0, 40, .inl (nF c2))), (a 4, .inr (2, [.ref (a 13), .int (nI 8), .int (nI 3), .int (nI n3)])), (a 13, .inl (tA 0, 40, .inl (nF c3))), (a 5, .inr (2, [.ref (a 14), .int (nI 5), .int (nI 4), .int (nI n4)])), (a 14, .inl (tA 0, 40, .inl (nF c4))), (a 6, .inr (2, [.ref (a 15), .int (nI 8), .int (nI 2), .int (nI n5)])), (a 15, .inl (tA 0, 40, .inl (nF c5))), (a 7, .inl (tA 0, 5, .inl (nF hs))), (a 8, .inl (tA 0, 5, .inl (nF wf))), (a 9, .inl (tA 0, 40, .inl (nF wt)))] := hD
          obtain ⟨e_29, e_30⟩ := q_27
          have e_29 : mo9_28 = raiS n0 wt hp dp (p + 1) (s9 + (wS n0 wt p t)) (updN lf t ((lf t) - 1)) m2 := e_29
          have e_30 : mo9_28 ≤ 8388608 := e_30
          refine lv_aload_n hx hb dX1_raise_86 rfl (lv_at hl 1 rfl) ?_
          refine va_get (D := G) (ci := 1) (C := RX1) (T := TX1) (N := 4) hx hb hts iX1 hown hKK.1 hP 0 rfl rfl 0 (by decide) f9 (fun _ h9 => h9) rfl dX1_raise_87 ?_
          refine lv_iload hx hb dX1_raise_90 (lv_at hl 0 rfl) ?_
          refine lv_dup2_11 hx hb dX1_raise_92 rfl rfl ?_
          refine nv_iald (i := t) hx hb hKK.1 hP 1 0 rfl rfl (by omega) (by decide) dX1_raise_93 ?_
          refine nv_top (y := lf t - 1) (congrArg nI (updN_s _ _ _)) ?_
          refine lv_iconst (v := nI 1) hx hb dX1_raise_94 (by decide) ?_
          refine nv_iadd hx hb dX1_raise_95 ?_
          refine nv_iast (i := t) hx hb hKK.1 hP hD hS 1 0 rfl rfl (by omega) (by decide) dX1_raise_96 [(d 0, .inr (1, [.ref (d 1), .ref (d 2), .ref (d 3), .int (nI mo9_28)])), (d 1, .inl (tA 0, 8, .inl (nF (updN (updN lf t ((lf t) - 1)) t ((lf t - 1) + 1))))), (d 2, .inl (tA 0, 5, .inl (nF gt))), (d 3, .inl (tA 0, 6, .inl (nF hp))), (a 0, .inr (0, [.ref (a 1), .ref (a 2), .ref (a 3), .ref (a 4), .ref (a 5), .ref (a 6), .ref (a 7), .ref (a 8), .ref (a 9)])), (a 1, .inr (2, [.ref (a 10), .int (nI 8), .int (nI 3), .int (nI n0)])), (a 10, .inl (tA 0, 40, .inl (nF c0))), (a 2, .inr (2, [.ref (a 11), .int (nI 10), .int (nI 4), .int (nI n1)])), (a 11, .inl (tA 0, 40, .inl (nF c1))), (a 3, .inr (2, [.ref (a 12), .int (nI 10), .int (nI 3), .int (nI n2)])), (a 12, .inl (tA 0, 40, .inl (nF c2))), (a 4, .inr (2, [.ref (a 13), .int (nI 8), .int (nI 3), .int (nI n3)])), (a 13, .inl (tA 0, 40, .inl (nF c3))), (a 5, .inr (2, [.ref (a 14), .int (nI 5), .int (nI 4), .int (nI n4)])), (a 14, .inl (tA 0, 40, .inl (nF c4))), (a 6, .inr (2, [.ref (a 15), .int (nI 8), .int (nI 2), .int (nI n5)])), (a 15, .inl (tA 0, 40, .inl (nF c5))), (a 7, .inl (tA 0, 5, .inl (nF hs))), (a 8, .inl (tA 0, 5, .inl (nF wf))), (a 9, .inl (tA 0, 40, .inl (nF wt)))] rfl (fun H locs hP hD hS => ?_)
          have eL : updN (updN lf t ((lf t) - 1)) t ((lf t - 1) + 1) = lf := updN_rest (by omega)
          rw [eL] at hP hD
          refine lv_iinc (v := (nI (t + 1))) (lv' := [(4, .int (nI (t + 1))), (0, .ref (d 0)), (1, .ref (a 0)), (2, .int (nI p)), (3, .int (nI s9))]) hx hb dX1_raise_97 hl (k := 0) rfl (nI_add t 1) (by decide) rfl (fun ls hl => ?_)
          refine lv_goto (tgt := 40) hx hb dX1_raise_100 (by decide) ?_
          exact ih_5 (t + 1, mo9_28) (show 8 - (t + 1) < 8 - t from by omega) ⟨(show (t + 1) ≤ 8 from by omega), (show mo9_28 = raiI n0 wt hp dp p s9 lf (Nat.max mo s9) (t + 1) from by rw [raiI_s, ← hra]; first | (rw [if_pos (by assumption)]; assumption) | rw [if_neg (by assumption)]), (show mo9_28 ≤ 8388608 from by assumption)⟩ _ _ _ (lv_sub hl [0, 1, 2, 3, 4] rfl) hP hD hS
        · have p_16 : ¬ (0 < lf t ∧ 0 < wS n0 wt p t) := p_16
          refine nv_if_eq (tgt := 97) (by omega) hx hb dX1_raise_55 (by decide) (fun _ => ?_) (fun h => absurd h (by omega))
          refine lv_iinc (v := (nI (t + 1))) (lv' := [(4, .int (nI (t + 1))), (0, .ref (d 0)), (1, .ref (a 0)), (2, .int (nI p)), (3, .int (nI s9))]) hx hb dX1_raise_97 hl (k := 0) rfl (nI_add t 1) (by decide) rfl (fun ls hl => ?_)
          refine lv_goto (tgt := 40) hx hb dX1_raise_100 (by decide) ?_
          exact ih_5 (t + 1, m2) (show 8 - (t + 1) < 8 - t from by omega) ⟨(show (t + 1) ≤ 8 from by omega), (show m2 = raiI n0 wt hp dp p s9 lf (Nat.max mo s9) (t + 1) from by rw [raiI_s, ← hra]; first | (rw [if_pos (by assumption)]; assumption) | rw [if_neg (by assumption)]), (show m2 ≤ 8388608 from by assumption)⟩ _ _ _ (lv_sub hl [0, 1, 2, 3, 4] rfl) hP hD hS
    · exact retV hx hb hr hlocks hS hP hD (Nat.max mo s9) (rfl) (⟨rai_0 (by omega), hm1⟩) dX1_raise_36

set_option maxHeartbeats 4000000 in
set_option maxRecDepth 100000 in
theorem c_X1_settle (l : Launch) (G : va_G) (tA : Nat → ClassId) : ∀ (dp : Nat) (d : Nat → Nat) (lf : Nat → Nat) (gt : Nat → Nat) (hp : Nat → Nat) (mo : Nat) (a : Nat → Nat) (n0 : Nat) (c0 : Nat → Nat) (n1 : Nat) (c1 : Nat → Nat) (n2 : Nat) (c2 : Nat → Nat) (n3 : Nat) (c3 : Nat → Nat) (n4 : Nat) (c4 : Nat → Nat) (n5 : Nat) (c5 : Nat → Nat) (hs : Nat → Nat) (wf : Nat → Nat) (wt : Nat → Nat) (p : Nat) (s9 : Nat) (hCW : CW n0 c0 n1 c1 n2 c2 n3 c3 n4 c4 n5 c5 hs wf wt) (hbl : ∀ j, lf j < 1048576) (hbp : ∀ j, hp j < 8388608) (hmo : mo ≤ 8388608) (hp9 : p ≤ 5) (hd : 5 < p + dp) (hs9 : s9 ≤ 1048576 * p) (hbg : ∀ j, gt j < 1048576), CtI l yX1_settle wsX1_settle ({ frames := 12 + 1 * dp, cells := 0, slots := 0, locals := 500 + 60 * dp }) G tA [.ref (d 0), .ref (a 0), .int (nI p), .int (nI s9)] ([(d 0, .inr (1, [.ref (d 1), .ref (d 2), .ref (d 3), .int (nI mo)])), (d 1, .inl (tA 0, 8, .inl (nF lf))), (d 2, .inl (tA 0, 5, .inl (nF gt))), (d 3, .inl (tA 0, 6, .inl (nF hp))), (a 0, .inr (0, [.ref (a 1), .ref (a 2), .ref (a 3), .ref (a 4), .ref (a 5), .ref (a 6), .ref (a 7), .ref (a 8), .ref (a 9)])), (a 1, .inr (2, [.ref (a 10), .int (nI 8), .int (nI 3), .int (nI n0)])), (a 10, .inl (tA 0, 40, .inl (nF c0))), (a 2, .inr (2, [.ref (a 11), .int (nI 10), .int (nI 4), .int (nI n1)])), (a 11, .inl (tA 0, 40, .inl (nF c1))), (a 3, .inr (2, [.ref (a 12), .int (nI 10), .int (nI 3), .int (nI n2)])), (a 12, .inl (tA 0, 40, .inl (nF c2))), (a 4, .inr (2, [.ref (a 13), .int (nI 8), .int (nI 3), .int (nI n3)])), (a 13, .inl (tA 0, 40, .inl (nF c3))), (a 5, .inr (2, [.ref (a 14), .int (nI 5), .int (nI 4), .int (nI n4)])), (a 14, .inl (tA 0, 40, .inl (nF c4))), (a 6, .inr (2, [.ref (a 15), .int (nI 8), .int (nI 2), .int (nI n5)])), (a 15, .inl (tA 0, 40, .inl (nF c5))), (a 7, .inl (tA 0, 5, .inl (nF hs))), (a 8, .inl (tA 0, 5, .inl (nF wf))), (a 9, .inl (tA 0, 40, .inl (nF wt)))]) (fun (r : Int32) (u : (Nat) × (Nat → Nat)) => ((r = nI 1 ∧ (u.1 = 1)) ∨ (r = nI 0 ∧ ¬ (u.1 = 1))) ∧ (u.1, u.2) = stlS n0 wt hp mo dp p s9 lf gt ∧ u.1 < 2 ∧ (∀ j, u.2 j < 1048576)) (fun (u : (Nat) × (Nat → Nat)) => [(d 0, .inr (1, [.ref (d 1), .ref (d 2), .ref (d 3), .int (nI mo)])), (d 1, .inl (tA 0, 8, .inl (nF lf))), (d 2, .inl (tA 0, 5, .inl (nF u.2))), (d 3, .inl (tA 0, 6, .inl (nF hp))), (a 0, .inr (0, [.ref (a 1), .ref (a 2), .ref (a 3), .ref (a 4), .ref (a 5), .ref (a 6), .ref (a 7), .ref (a 8), .ref (a 9)])), (a 1, .inr (2, [.ref (a 10), .int (nI 8), .int (nI 3), .int (nI n0)])), (a 10, .inl (tA 0, 40, .inl (nF c0))), (a 2, .inr (2, [.ref (a 11), .int (nI 10), .int (nI 4), .int (nI n1)])), (a 11, .inl (tA 0, 40, .inl (nF c1))), (a 3, .inr (2, [.ref (a 12), .int (nI 10), .int (nI 3), .int (nI n2)])), (a 12, .inl (tA 0, 40, .inl (nF c2))), (a 4, .inr (2, [.ref (a 13), .int (nI 8), .int (nI 3), .int (nI n3)])), (a 13, .inl (tA 0, 40, .inl (nF c3))), (a 5, .inr (2, [.ref (a 14), .int (nI 5), .int (nI 4), .int (nI n4)])), (a 14, .inl (tA 0, 40, .inl (nF c4))), (a 6, .inr (2, [.ref (a 15), .int (nI 8), .int (nI 2), .int (nI n5)])), (a 15, .inl (tA 0, 40, .inl (nF c5))), (a 7, .inl (tA 0, 5, .inl (nF hs))), (a 8, .inl (tA 0, 5, .inl (nF wf))), (a 9, .inl (tA 0, 40, .inl (nF wt)))]) 0 0 := by
  intro dp
  induction dp with
  | zero => intro d lf gt hp mo a n0 c0 n1 c1 n2 c2 n3 c3 n4 c4 n5 c5 hs wf wt p s9 hCW hbl hbp hmo hp9 hd hs9 hbg; exfalso; omega
  | succ dp ih =>
  intro d lf gt hp mo a n0 c0 n1 c1 n2 c2 n3 c3 n4 c4 n5 c5 hs wf wt p s9 hCW hbl hbp hmo hp9 hd hs9 hbg
  refine enterI (cc := cX1_settle) (maxL := 6) (ret := (some .boolean)) (by decide) rfl (Nat.le_of_ble_eq_true rfl) ?_
  intro p0 e0 s m args below meth c0_ A ls hx hb hml hr hts hown hlocks hin hKK hA hP hD hl hS
  have hown : s.vm.findClass RX1 = some m.cls := hown
  have hl : lv_has ls 6 [(0, .ref (d 0)), (1, .ref (a 0)), (2, .int (nI p)), (3, .int (nI s9))] := hl
  have f18 := hts (Cond.fieldLink RX1 18 "LentTerms$Deal" "hope" "[I") (List.mem_of_getElem? (i := 2) rfl)
  have iX1 : ∀ w ∈ wsX10, w ∈ wsX1_settle := by decide +kernel
  have f21 := hts (Cond.fieldLink RX1 21 "LentTerms$Deal" "most" "I") (List.mem_of_getElem? (i := 1) rfl)
  have f15 := hts (Cond.fieldLink RX1 15 "LentTerms$Deal" "gets" "[I") (List.mem_of_getElem? (i := 3) rfl)
  have f9 := hts (Cond.fieldLink RX1 9 "LentTerms$Deal" "left" "[I") (List.mem_of_getElem? (i := 4) rfl)
  obtain ⟨⟨hn0, hn1, hn2, hn3, hn4, hn5⟩, ⟨hb0, hb1, hb2, hb3, hb4, hb5, hbh, hbw, hbt⟩, hv0, hv1, hv2, hv3, hv4, hv5, hv6, hv7⟩ := id hCW
  refine lv_iload_n hx hb dX1_settle_0 rfl (lv_at hl 2 rfl) ?_
  refine nv_if_lt (tgt := 9) (by omega) hx hb dX1_settle_1 (by decide) ?_
  refine lv_iload_n hx hb dX1_settle_4 rfl (lv_at hl 2 rfl) ?_
  refine lv_iconst (v := nI 5) hx hb dX1_settle_5 (by decide) ?_
  refine nv_icmp_lt (tgt := 23) (by omega) (by omega) hx hb dX1_settle_6 (by decide) (fun c_2 => ?_) (fun c_2 => ?_)
  · refine lv_iload_n hx hb dX1_settle_23 rfl (lv_at hl 3 rfl) ?_
    refine lv_aload_n hx hb dX1_settle_24 rfl (lv_at hl 0 rfl) ?_
    refine va_get (D := G) (ci := 1) (C := RX1) (T := TX1) (N := 4) hx hb hts iX1 hown hKK.1 hP 0 rfl rfl 2 (by decide) f18 (fun _ h9 => h9) rfl dX1_settle_25 ?_
    refine lv_iload_n hx hb dX1_settle_28 rfl (lv_at hl 2 rfl) ?_
    refine nv_iald (i := p) hx hb hKK.1 hP 3 0 rfl rfl (by omega) (by decide) dX1_settle_29 ?_
    have b_3 := hbp p
    refine nv_iadd hx hb dX1_settle_30 ?_
    refine lv_aload_n hx hb dX1_settle_31 rfl (lv_at hl 0 rfl) ?_
    refine va_get (D := G) (ci := 1) (C := RX1) (T := TX1) (N := 4) hx hb hts iX1 hown hKK.1 hP 0 rfl rfl 3 (by decide) f21 (fun _ h9 => h9) rfl dX1_settle_32 ?_
    refine nv_icmp_ge (tgt := 40) (by omega) (by omega) hx hb dX1_settle_35 (by decide) (fun c_4 => ?_) (fun c_4 => ?_)
    · refine lv_aload_n hx hb dX1_settle_40 rfl (lv_at hl 0 rfl) ?_
      refine va_get (D := G) (ci := 1) (C := RX1) (T := TX1) (N := 4) hx hb hts iX1 hown hKK.1 hP 0 rfl rfl 1 (by decide) f15 (fun _ h9 => h9) rfl dX1_settle_41 ?_
      refine lv_iload_n hx hb dX1_settle_44 rfl (lv_at hl 2 rfl) ?_
      refine lv_bipush (v := nI 8) hx hb dX1_settle_45 (by decide +kernel) ?_
      refine nv_iast (i := p) hx hb hKK.1 hP hD hS 2 0 rfl rfl (by omega) (by decide) dX1_settle_47 [(d 0, .inr (1, [.ref (d 1), .ref (d 2), .ref (d 3), .int (nI mo)])), (d 1, .inl (tA 0, 8, .inl (nF lf))), (d 2, .inl (tA 0, 5, .inl (nF (updN gt p 8)))), (d 3, .inl (tA 0, 6, .inl (nF hp))), (a 0, .inr (0, [.ref (a 1), .ref (a 2), .ref (a 3), .ref (a 4), .ref (a 5), .ref (a 6), .ref (a 7), .ref (a 8), .ref (a 9)])), (a 1, .inr (2, [.ref (a 10), .int (nI 8), .int (nI 3), .int (nI n0)])), (a 10, .inl (tA 0, 40, .inl (nF c0))), (a 2, .inr (2, [.ref (a 11), .int (nI 10), .int (nI 4), .int (nI n1)])), (a 11, .inl (tA 0, 40, .inl (nF c1))), (a 3, .inr (2, [.ref (a 12), .int (nI 10), .int (nI 3), .int (nI n2)])), (a 12, .inl (tA 0, 40, .inl (nF c2))), (a 4, .inr (2, [.ref (a 13), .int (nI 8), .int (nI 3), .int (nI n3)])), (a 13, .inl (tA 0, 40, .inl (nF c3))), (a 5, .inr (2, [.ref (a 14), .int (nI 5), .int (nI 4), .int (nI n4)])), (a 14, .inl (tA 0, 40, .inl (nF c4))), (a 6, .inr (2, [.ref (a 15), .int (nI 8), .int (nI 2), .int (nI n5)])), (a 15, .inl (tA 0, 40, .inl (nF c5))), (a 7, .inl (tA 0, 5, .inl (nF hs))), (a 8, .inl (tA 0, 5, .inl (nF wf))), (a 9, .inl (tA 0, 40, .inl (nF wt)))] rfl (fun H locs hP hD hS => ?_)
      have hbgu : ∀ j, updN gt p 8 j < 1048576 := updN_lt hbg _ (by omega)
      refine lv_aload_n hx hb dX1_settle_48 rfl (lv_at hl 0 rfl) ?_
      refine lv_aload_n hx hb dX1_settle_49 rfl (lv_at hl 1 rfl) ?_
      refine lv_iload_n hx hb dX1_settle_50 rfl (lv_at hl 2 rfl) ?_
      refine lv_iconst (v := nI 1) hx hb dX1_settle_51 (by decide) ?_
      refine nv_iadd hx hb dX1_settle_52 ?_
      refine lv_iload_n hx hb dX1_settle_53 rfl (lv_at hl 3 rfl) ?_
      refine rwAI hP hD hS hA (runS (As := [.ref (d 0), .ref (a 0), .int (nI (p + 1)), .int (nI s9)]) (rest := []) (isC := [0, 1, 2, 3, 4, 5, 6, 7, 8, 9, 10, 11, 12, 13, 14, 15, 16, 17, 18, 19]) ⟨hx, hb, hml, hown, hts⟩ hKK hP hD rfl (by decide) (ih d lf (updN gt p 8) hp mo a n0 c0 n1 c1 n2 c2 n3 c3 n4 c4 n5 c5 hs wf wt (p + 1) s9 (hCW) (by assumption) (hbp) (by assumption) (by first | assumption | omega) (by omega) (by omega) (by assumption) _) (va_cwS 4 hts gX1_settle_X1_settle rfl rfl rfl (by decide +kernel) ⟨by dsimp only; omega, by dsimp only; omega⟩) rfl rfl hl.1 rfl (lv_room (Nat.le_of_ble_eq_true rfl)) dX1_settle_54 ⟨Nat.le_refl 0, Nat.le_refl 0⟩) (fun _ => by simp only [List.map_cons, List.map_nil]) (fun r_5 u_6 H locs q_7 hP hD hS => ?_)
      obtain ⟨fy, g1⟩ := u_6
      have hP : va_P G vwCl [(d 0, .inr (1, [.ref (d 1), .ref (d 2), .ref (d 3), .int (nI mo)])), (d 1, .inl (tA 0, 8, .inl (nF lf))), (d 2, .inl (tA 0, 5, .inl (nF g1))), (d 3, .inl (tA 0, 6, .inl (nF hp))), (a 0, .inr (0, [.ref (a 1), .ref (a 2), .ref (a 3), .ref (a 4), .ref (a 5), .ref (a 6), .ref (a 7), .ref (a 8), .ref (a 9)])), (a 1, .inr (2, [.ref (a 10), .int (nI 8), .int (nI 3), .int (nI n0)])), (a 10, .inl (tA 0, 40, .inl (nF c0))), (a 2, .inr (2, [.ref (a 11), .int (nI 10), .int (nI 4), .int (nI n1)])), (a 11, .inl (tA 0, 40, .inl (nF c1))), (a 3, .inr (2, [.ref (a 12), .int (nI 10), .int (nI 3), .int (nI n2)])), (a 12, .inl (tA 0, 40, .inl (nF c2))), (a 4, .inr (2, [.ref (a 13), .int (nI 8), .int (nI 3), .int (nI n3)])), (a 13, .inl (tA 0, 40, .inl (nF c3))), (a 5, .inr (2, [.ref (a 14), .int (nI 5), .int (nI 4), .int (nI n4)])), (a 14, .inl (tA 0, 40, .inl (nF c4))), (a 6, .inr (2, [.ref (a 15), .int (nI 8), .int (nI 2), .int (nI n5)])), (a 15, .inl (tA 0, 40, .inl (nF c5))), (a 7, .inl (tA 0, 5, .inl (nF hs))), (a 8, .inl (tA 0, 5, .inl (nF wf))), (a 9, .inl (tA 0, 40, .inl (nF wt)))] H := hP
      have hD : va_D A [(d 0, .inr (1, [.ref (d 1), .ref (d 2), .ref (d 3), .int (nI mo)])), (d 1, .inl (tA 0, 8, .inl (nF lf))), (d 2, .inl (tA 0, 5, .inl (nF g1))), (d 3, .inl (tA 0, 6, .inl (nF hp))), (a 0, .inr (0, [.ref (a 1), .ref (a 2), .ref (a 3), .ref (a 4), .ref (a 5), .ref (a 6), .ref (a 7), .ref (a 8), .ref (a 9)])), (a 1, .inr (2, [.ref (a 10), .int (nI 8), .int (nI 3), .int (nI n0)])), (a 10, .inl (tA 0, 40, .inl (nF c0))), (a 2, .inr (2, [.ref (a 11), .int (nI 10), .int (nI 4), .int (nI n1)])), (a 11, .inl (tA 0, 40, .inl (nF c1))), (a 3, .inr (2, [.ref (a 12), .int (nI 10), .int (nI 3), .int (nI n2)])), (a 12, .inl (tA 0, 40, .inl (nF c2))), (a 4, .inr (2, [.ref (a 13), .int (nI 8), .int (nI 3), .int (nI n3)])), (a 13, .inl (tA 0, 40, .inl (nF c3))), (a 5, .inr (2, [.ref (a 14), .int (nI 5), .int (nI 4), .int (nI n4)])), (a 14, .inl (tA 0, 40, .inl (nF c4))), (a 6, .inr (2, [.ref (a 15), .int (nI 8), .int (nI 2), .int (nI n5)])), (a 15, .inl (tA 0, 40, .inl (nF c5))), (a 7, .inl (tA 0, 5, .inl (nF hs))), (a 8, .inl (tA 0, 5, .inl (nF wf))), (a 9, .inl (tA 0, 40, .inl (nF wt)))] := hD
      obtain ⟨q_7, hst1, e_8, e_9⟩ := q_7
      have hst1 : (fy, g1) = stlS n0 wt hp mo dp (p + 1) s9 lf (updN gt p 8) := hst1
      have e_8 : fy < 2 := e_8
      have e_9 : ∀ j, g1 j < 1048576 := e_9
      rcases q_7 with ⟨rfl, p_10⟩ | ⟨rfl, p_10⟩
      · have p_10 : fy = 1 := p_10
        refine nv_if_eq (tgt := 62) (by omega) hx hb dX1_settle_57 (by decide) (fun h => absurd h (by omega)) (fun _ => ?_)
        refine lv_iconst (v := nI 1) hx hb dX1_settle_60 (by decide) ?_
        have hz : (1, g1) = stlS n0 wt hp mo (dp + 1) p s9 lf gt := stl_2 (by omega) (by omega) (by (have e0 : fy = 1 := (by omega)); rw [e0] at hst1; exact hst1)
        exact retZ (ty := .boolean) hx hb hr rfl hlocks hS hP hD (1, g1) (rfl) (⟨Or.inl ⟨rfl, by rfl⟩, ⟨hz, by show 1 < 2; omega, by assumption⟩⟩) dX1_settle_61
      · have p_10 : ¬ (fy = 1) := p_10
        refine nv_if_eq (tgt := 62) (by omega) hx hb dX1_settle_57 (by decide) (fun _ => ?_) (fun h => absurd h (by omega))
        have hst0 : (0, g1) = stlS n0 wt hp mo dp (p + 1) s9 lf (updN gt p 8) := by (have e0 : fy = 0 := (by omega)); rw [e0] at hst1; exact hst1
        refine lv_iconst (v := nI 0) hx hb dX1_settle_62 (by decide) ?_
        refine lv_istore (lv' := [(4, .int (nI 0)), (0, .ref (d 0)), (1, .ref (a 0)), (2, .int (nI p)), (3, .int (nI s9))]) hx hb dX1_settle_63 hl (by decide) rfl (fun ls hl => ?_)
        refine wloop (σ := (Nat) × (Nat → Nat)) (fun | (t, g2) => 8 - t) (fun | (t, g2) => (t ≤ 8) ∧ ((0, g2) = stlI n0 wt hp mo dp p s9 lf g1 t) ∧ (∀ j, g2 j < 1048576)) (fun | (t, g2) => [(4, .int (nI t)), (0, .ref (d 0)), (1, .ref (a 0)), (2, .int (nI p)), (3, .int (nI s9))]) (fun | (t, g2) => [(d 0, .inr (1, [.ref (d 1), .ref (d 2), .ref (d 3), .int (nI mo)])), (d 1, .inl (tA 0, 8, .inl (nF lf))), (d 2, .inl (tA 0, 5, .inl (nF g2))), (d 3, .inl (tA 0, 6, .inl (nF hp))), (a 0, .inr (0, [.ref (a 1), .ref (a 2), .ref (a 3), .ref (a 4), .ref (a 5), .ref (a 6), .ref (a 7), .ref (a 8), .ref (a 9)])), (a 1, .inr (2, [.ref (a 10), .int (nI 8), .int (nI 3), .int (nI n0)])), (a 10, .inl (tA 0, 40, .inl (nF c0))), (a 2, .inr (2, [.ref (a 11), .int (nI 10), .int (nI 4), .int (nI n1)])), (a 11, .inl (tA 0, 40, .inl (nF c1))), (a 3, .inr (2, [.ref (a 12), .int (nI 10), .int (nI 3), .int (nI n2)])), (a 12, .inl (tA 0, 40, .inl (nF c2))), (a 4, .inr (2, [.ref (a 13), .int (nI 8), .int (nI 3), .int (nI n3)])), (a 13, .inl (tA 0, 40, .inl (nF c3))), (a 5, .inr (2, [.ref (a 14), .int (nI 5), .int (nI 4), .int (nI n4)])), (a 14, .inl (tA 0, 40, .inl (nF c4))), (a 6, .inr (2, [.ref (a 15), .int (nI 8), .int (nI 2), .int (nI n5)])), (a 15, .inl (tA 0, 40, .inl (nF c5))), (a 7, .inl (tA 0, 5, .inl (nF hs))), (a 8, .inl (tA 0, 5, .inl (nF wf))), (a 9, .inl (tA 0, 40, .inl (nF wt)))]) (0, g1) ⟨(show 0 ≤ 8 from by omega), (show (0, g1) = stlI n0 wt hp mo dp p s9 lf g1 0 from rfl), (show ∀ j, g1 j < 1048576 from by assumption)⟩ (lv_sub hl [0, 1, 2, 3, 4] rfl) hP hD hS ?_
        rintro ⟨t, g2⟩ ⟨ht, hra, hbg2⟩ ih_13 ls H locs hl hP hD hS
        have hl : lv_has ls 6 [(4, .int (nI t)), (0, .ref (d 0)), (1, .ref (a 0)), (2, .int (nI p)), (3, .int (nI s9))] := hl
        have hP : va_P G vwCl [(d 0, .inr (1, [.ref (d 1), .ref (d 2), .ref (d 3), .int (nI mo)])), (d 1, .inl (tA 0, 8, .inl (nF lf))), (d 2, .inl (tA 0, 5, .inl (nF g2))), (d 3, .inl (tA 0, 6, .inl (nF hp))), (a 0, .inr (0, [.ref (a 1), .ref (a 2), .ref (a 3), .ref (a 4), .ref (a 5), .ref (a 6), .ref (a 7), .ref (a 8), .ref (a 9)])), (a 1, .inr (2, [.ref (a 10), .int (nI 8), .int (nI 3), .int (nI n0)])), (a 10, .inl (tA 0, 40, .inl (nF c0))), (a 2, .inr (2, [.ref (a 11), .int (nI 10), .int (nI 4), .int (nI n1)])), (a 11, .inl (tA 0, 40, .inl (nF c1))), (a 3, .inr (2, [.ref (a 12), .int (nI 10), .int (nI 3), .int (nI n2)])), (a 12, .inl (tA 0, 40, .inl (nF c2))), (a 4, .inr (2, [.ref (a 13), .int (nI 8), .int (nI 3), .int (nI n3)])), (a 13, .inl (tA 0, 40, .inl (nF c3))), (a 5, .inr (2, [.ref (a 14), .int (nI 5), .int (nI 4), .int (nI n4)])), (a 14, .inl (tA 0, 40, .inl (nF c4))), (a 6, .inr (2, [.ref (a 15), .int (nI 8), .int (nI 2), .int (nI n5)])), (a 15, .inl (tA 0, 40, .inl (nF c5))), (a 7, .inl (tA 0, 5, .inl (nF hs))), (a 8, .inl (tA 0, 5, .inl (nF wf))), (a 9, .inl (tA 0, 40, .inl (nF wt)))] H := hP
        have hD : va_D A [(d 0, .inr (1, [.ref (d 1), .ref (d 2), .ref (d 3), .int (nI mo)])), (d 1, .inl (tA 0, 8, .inl (nF lf))), (d 2, .inl (tA 0, 5, .inl (nF g2))), (d 3, .inl (tA 0, 6, .inl (nF hp))), (a 0, .inr (0, [.ref (a 1), .ref (a 2), .ref (a 3), .ref (a 4), .ref (a 5), .ref (a 6), .ref (a 7), .ref (a 8), .ref (a 9)])), (a 1, .inr (2, [.ref (a 10), .int (nI 8), .int (nI 3), .int (nI n0)])), (a 10, .inl (tA 0, 40, .inl (nF c0))), (a 2, .inr (2, [.ref (a 11), .int (nI 10), .int (nI 4), .int (nI n1)])), (a 11, .inl (tA 0, 40, .inl (nF c1))), (a 3, .inr (2, [.ref (a 12), .int (nI 10), .int (nI 3), .int (nI n2)])), (a 12, .inl (tA 0, 40, .inl (nF c2))), (a 4, .inr (2, [.ref (a 13), .int (nI 8), .int (nI 3), .int (nI n3)])), (a 13, .inl (tA 0, 40, .inl (nF c3))), (a 5, .inr (2, [.ref (a 14), .int (nI 5), .int (nI 4), .int (nI n4)])), (a 14, .inl (tA 0, 40, .inl (nF c4))), (a 6, .inr (2, [.ref (a 15), .int (nI 8), .int (nI 2), .int (nI n5)])), (a 15, .inl (tA 0, 40, .inl (nF c5))), (a 7, .inl (tA 0, 5, .inl (nF hs))), (a 8, .inl (tA 0, 5, .inl (nF wf))), (a 9, .inl (tA 0, 40, .inl (nF wt)))] := hD
        have ht : t ≤ 8 := ht
        have hra : (0, g2) = stlI n0 wt hp mo dp p s9 lf g1 t := hra
        have hbg2 : ∀ j, g2 j < 1048576 := hbg2
        refine lv_iload hx hb dX1_settle_65 (lv_at hl 0 rfl) ?_
        refine lv_bipush (v := nI 8) hx hb dX1_settle_67 (by decide +kernel) ?_
        refine nv_icmp_ge (tgt := 145) (by omega) (by omega) hx hb dX1_settle_69 (by decide) (fun c_14 => ?_) (fun c_14 => ?_)
        · refine lv_iconst (v := nI 0) hx hb dX1_settle_145 (by decide) ?_
          have hz : (0, g2) = stlS n0 wt hp mo (dp + 1) p s9 lf gt := stl_3 (by omega) (by omega) hst0 (by rw [show 8 = t from (by omega)]; exact hra)
          exact retZ (ty := .boolean) hx hb hr rfl hlocks hS hP hD (0, g2) (rfl) (⟨Or.inr ⟨rfl, by show ¬ ((0 : Nat) = 1); omega⟩, ⟨hz, by show 0 < 2; omega, by assumption⟩⟩) dX1_settle_146
        · refine lv_aload_n hx hb dX1_settle_72 rfl (lv_at hl 1 rfl) ?_
          refine lv_aload_n hx hb dX1_settle_73 rfl (lv_at hl 2 rfl) ?_
          refine lv_iload_n hx hb dX1_settle_74 rfl (lv_at hl 3 rfl) ?_
          refine lv_iload hx hb dX1_settle_75 (lv_at hl 0 rfl) ?_
          refine roI hP hD hS hA [0, 1, 2, 3, 4, 5, 6, 7, 8, 9, 10, 11, 12, 13, 14, 15, 16, 17, 18, 19] rfl (runV (As := [.ref (a 0), .int (nI p), .int (nI t)]) (rest := []) (isC := [0, 1, 2, 3, 4, 5, 6, 7, 8, 9, 10, 11, 12, 13, 14, 15, 16, 17, 18, 19]) ⟨hx, hb, hml, hown, hts⟩ hKK hP hD rfl (by decide) (c_X1_isLeft l G tA d lf g2 hp mo a n0 c0 n1 c1 n2 c2 n3 c3 n4 c4 n5 c5 hs wf wt p t (hCW) (by assumption) (hbp) (by assumption) (by first | assumption | omega) (by first | assumption | omega) _) (cwV 3 hts gX1_settle_X1_isLeft rfl rfl rfl (by decide +kernel) ⟨by dsimp only; omega, by dsimp only; omega⟩) rfl rfl rfl rfl hl.1 rfl (lv_room (Nat.le_of_ble_eq_true rfl)) dX1_settle_77 ⟨Nat.le_refl 0, Nat.le_refl 0⟩) (fun _ => rfl) (fun r_15 u_16 H locs q_17 hP hS => ?_)
          rcases q_17 with ⟨rfl, p_18⟩ | ⟨rfl, p_18⟩
          · have p_18 : 0 < lf t ∧ 0 < wS n0 wt p t := p_18
            refine nv_if_eq (tgt := 139) (by omega) hx hb dX1_settle_80 (by decide) (fun h => absurd h (by omega)) (fun _ => ?_)
            refine lv_aload_n hx hb dX1_settle_83 rfl (lv_at hl 1 rfl) ?_
            refine va_get (D := G) (ci := 1) (C := RX1) (T := TX1) (N := 4) hx hb hts iX1 hown hKK.1 hP 0 rfl rfl 1 (by decide) f15 (fun _ h9 => h9) rfl dX1_settle_84 ?_
            refine lv_iload_n hx hb dX1_settle_87 rfl (lv_at hl 3 rfl) ?_
            refine lv_iload hx hb dX1_settle_88 (lv_at hl 0 rfl) ?_
            refine nv_iast (i := p) hx hb hKK.1 hP hD hS 2 0 rfl rfl (by omega) (by decide) dX1_settle_90 [(d 0, .inr (1, [.ref (d 1), .ref (d 2), .ref (d 3), .int (nI mo)])), (d 1, .inl (tA 0, 8, .inl (nF lf))), (d 2, .inl (tA 0, 5, .inl (nF (updN g2 p t)))), (d 3, .inl (tA 0, 6, .inl (nF hp))), (a 0, .inr (0, [.ref (a 1), .ref (a 2), .ref (a 3), .ref (a 4), .ref (a 5), .ref (a 6), .ref (a 7), .ref (a 8), .ref (a 9)])), (a 1, .inr (2, [.ref (a 10), .int (nI 8), .int (nI 3), .int (nI n0)])), (a 10, .inl (tA 0, 40, .inl (nF c0))), (a 2, .inr (2, [.ref (a 11), .int (nI 10), .int (nI 4), .int (nI n1)])), (a 11, .inl (tA 0, 40, .inl (nF c1))), (a 3, .inr (2, [.ref (a 12), .int (nI 10), .int (nI 3), .int (nI n2)])), (a 12, .inl (tA 0, 40, .inl (nF c2))), (a 4, .inr (2, [.ref (a 13), .int (nI 8), .int (nI 3), .int (nI n3)])), (a 13, .inl (tA 0, 40, .inl (nF c3))), (a 5, .inr (2, [.ref (a 14), .int (nI 5), .int (nI 4), .int (nI n4)])), (a 14, .inl (tA 0, 40, .inl (nF c4))), (a 6, .inr (2, [.ref (a 15), .int (nI 8), .int (nI 2), .int (nI n5)])), (a 15, .inl (tA 0, 40, .inl (nF c5))), (a 7, .inl (tA 0, 5, .inl (nF hs))), (a 8, .inl (tA 0, 5, .inl (nF wf))), (a 9, .inl (tA 0, 40, .inl (nF wt)))] rfl (fun H locs hP hD hS => ?_)
            refine lv_aload_n hx hb dX1_settle_91 rfl (lv_at hl 1 rfl) ?_
            refine va_get (D := G) (ci := 1) (C := RX1) (T := TX1) (N := 4) hx hb hts iX1 hown hKK.1 hP 0 rfl rfl 0 (by decide) f9 (fun _ h9 => h9) rfl dX1_settle_92 ?_
            refine lv_iload hx hb dX1_settle_95 (lv_at hl 0 rfl) ?_
            refine lv_dup2_11 hx hb dX1_settle_97 rfl rfl ?_
            refine nv_iald (i := t) hx hb hKK.1 hP 1 0 rfl rfl (by omega) (by decide) dX1_settle_98 ?_
            have b_20 := hbl t
            refine lv_iconst (v := nI 1) hx hb dX1_settle_99 (by decide) ?_
            refine nv_isub (show 1 ≤ lf t from by omega) hx hb dX1_settle_100 ?_
            refine nv_iast (i := t) hx hb hKK.1 hP hD hS 1 0 rfl rfl (by omega) (by decide) dX1_settle_101 [(d 0, .inr (1, [.ref (d 1), .ref (d 2), .ref (d 3), .int (nI mo)])), (d 1, .inl (tA 0, 8, .inl (nF (updN lf t ((lf t) - 1))))), (d 2, .inl (tA 0, 5, .inl (nF (updN g2 p t)))), (d 3, .inl (tA 0, 6, .inl (nF hp))), (a 0, .inr (0, [.ref (a 1), .ref (a 2), .ref (a 3), .ref (a 4), .ref (a 5), .ref (a 6), .ref (a 7), .ref (a 8), .ref (a 9)])), (a 1, .inr (2, [.ref (a 10), .int (nI 8), .int (nI 3), .int (nI n0)])), (a 10, .inl (tA 0, 40, .inl (nF c0))), (a 2, .inr (2, [.ref (a 11), .int (nI 10), .int (nI 4), .int (nI n1)])), (a 11, .inl (tA 0, 40, .inl (nF c1))), (a 3, .inr (2, [.ref (a 12), .int (nI 10), .int (nI 3), .int (nI n2)])), (a 12, .inl (tA 0, 40, .inl (nF c2))), (a 4, .inr (2, [.ref (a 13), .int (nI 8), .int (nI 3), .int (nI n3)])), (a 13, .inl (tA 0, 40, .inl (nF c3))), (a 5, .inr (2, [.ref (a 14), .int (nI 5), .int (nI 4), .int (nI n4)])), (a 14, .inl (tA 0, 40, .inl (nF c4))), (a 6, .inr (2, [.ref (a 15), .int (nI 8), .int (nI 2), .int (nI n5)])), (a 15, .inl (tA 0, 40, .inl (nF c5))), (a 7, .inl (tA 0, 5, .inl (nF hs))), (a 8, .inl (tA 0, 5, .inl (nF wf))), (a 9, .inl (tA 0, 40, .inl (nF wt)))] rfl (fun H locs hP hD hS => ?_)
            have B_21 := updN_lt hbl t (show (lf t) - 1 < 1048576 from by omega)
            have hblu : ∀ j, updN lf t (lf t - 1) j < 1048576 := updN_lt hbl _ (by have := hbl t; omega)
            have hbgu : ∀ j, updN g2 p t j < 1048576 := updN_lt hbg2 _ (by omega)
            refine lv_aload_n hx hb dX1_settle_102 rfl (lv_at hl 1 rfl) ?_
            refine lv_aload_n hx hb dX1_settle_103 rfl (lv_at hl 2 rfl) ?_
            refine lv_iload_n hx hb dX1_settle_104 rfl (lv_at hl 3 rfl) ?_
            refine lv_iconst (v := nI 1) hx hb dX1_settle_105 (by decide) ?_
            refine nv_iadd hx hb dX1_settle_106 ?_
            refine lv_iload_n hx hb dX1_settle_107 rfl (lv_at hl 4 rfl) ?_
            refine lv_aload_n hx hb dX1_settle_108 rfl (lv_at hl 2 rfl) ?_
            refine lv_iload_n hx hb dX1_settle_109 rfl (lv_at hl 3 rfl) ?_
            refine lv_iload hx hb dX1_settle_110 (lv_at hl 0 rfl) ?_
            refine roI hP hD hS hA [4, 5, 6, 7, 8, 9, 10, 11, 12, 13, 14, 15, 16, 17, 18, 19] rfl (runV (As := [.int (nI p), .int (nI t)]) (rest := [.int (nI s9), .int (nI (p + 1)), .ref (a 0), .ref (d 0)]) (isC := [4, 5, 6, 7, 8, 9, 10, 11, 12, 13, 14, 15, 16, 17, 18, 19]) ⟨hx, hb, hml, hown, hts⟩ hKK hP hD rfl (by decide) (c_X0_worthOf l G tA a n0 c0 n1 c1 n2 c2 n3 c3 n4 c4 n5 c5 hs wf wt p t (hCW) (by first | assumption | omega) (by first | assumption | omega) _) (cwV 2 hts gX1_settle_X0_worthOf rfl rfl rfl (by decide +kernel) ⟨by dsimp only; omega, by dsimp only; omega⟩) rfl rfl rfl rfl hl.1 rfl (lv_room (Nat.le_of_ble_eq_true rfl)) dX1_settle_112 ⟨Nat.le_refl 0, Nat.le_refl 0⟩) (fun _ => rfl) (fun r_22 u_23 H locs q_24 hP hS => ?_)
            obtain ⟨rfl, e_25⟩ := q_24
            have e_25 : (if p < 5 ∧ t < n0 then wt (p * 8 + t) else 0) < 1048576 := e_25
            refine nv_top (y := wS n0 wt p t) rfl ?_
            have w_26 := wS_lt (n0 := n0) hbt p t
            refine nv_iadd hx hb dX1_settle_115 ?_
            refine rwAI hP hD hS hA (runS (As := [.ref (d 0), .ref (a 0), .int (nI (p + 1)), .int (nI (s9 + (wS n0 wt p t)))]) (rest := []) (isC := [0, 1, 2, 3, 4, 5, 6, 7, 8, 9, 10, 11, 12, 13, 14, 15, 16, 17, 18, 19]) ⟨hx, hb, hml, hown, hts⟩ hKK hP hD rfl (by decide) (ih d (updN lf t ((lf t) - 1)) (updN g2 p t) hp mo a n0 c0 n1 c1 n2 c2 n3 c3 n4 c4 n5 c5 hs wf wt (p + 1) (s9 + (wS n0 wt p t)) (hCW) (by assumption) (hbp) (by assumption) (by first | assumption | omega) (by omega) (by omega) (by assumption) _) (va_cwS 4 hts gX1_settle_X1_settle rfl rfl rfl (by decide +kernel) ⟨by dsimp only; omega, by dsimp only; omega⟩) rfl rfl hl.1 rfl (lv_room (Nat.le_of_ble_eq_true rfl)) dX1_settle_116 ⟨Nat.le_refl 0, Nat.le_refl 0⟩) (fun _ => by simp only [List.map_cons, List.map_nil]) (fun r_27 u_28 H locs q_29 hP hD hS => ?_)
            obtain ⟨fz, g3⟩ := u_28
            have hP : va_P G vwCl [(d 0, .inr (1, [.ref (d 1), .ref (d 2), .ref (d 3), .int (nI mo)])), (d 1, .inl (tA 0, 8, .inl (nF (updN lf t ((lf t) - 1))))), (d 2, .inl (tA 0, 5, .inl (nF g3))), (d 3, .inl (tA 0, 6, .inl (nF hp))), (a 0, .inr (0, [.ref (a 1), .ref (a 2), .ref (a 3), .ref (a 4), .ref (a 5), .ref (a 6), .ref (a 7), .ref (a 8), .ref (a 9)])), (a 1, .inr (2, [.ref (a 10), .int (nI 8), .int (nI 3), .int (nI n0)])), (a 10, .inl (tA 0, 40, .inl (nF c0))), (a 2, .inr (2, [.ref (a 11), .int (nI 10), .int (nI 4), .int (nI n1)])), (a 11, .inl (tA 0, 40, .inl (nF c1))), (a 3, .inr (2, [.ref (a 12), .int (nI 10), .int (nI 3), .int (nI n2)])), (a 12, .inl (tA 0, 40, .inl (nF c2))), (a 4, .inr (2, [.ref (a 13), .int (nI 8), .int (nI 3), .int (nI n3)])), (a 13, .inl (tA 0, 40, .inl (nF c3))), (a 5, .inr (2, [.ref (a 14), .int (nI 5), .int (nI 4), .int (nI n4)])), (a 14, .inl (tA 0, 40, .inl (nF c4))), (a 6, .inr (2, [.ref (a 15), .int (nI 8), .int (nI 2), .int (nI n5)])), (a 15, .inl (tA 0, 40, .inl (nF c5))), (a 7, .inl (tA 0, 5, .inl (nF hs))), (a 8, .inl (tA 0, 5, .inl (nF wf))), (a 9, .inl (tA 0, 40, .inl (nF wt)))] H := hP
            have hD : va_D A [(d 0, .inr (1, [.ref (d 1), .ref (d 2), .ref (d 3), .int (nI mo)])), (d 1, .inl (tA 0, 8, .inl (nF (updN lf t ((lf t) - 1))))), (d 2, .inl (tA 0, 5, .inl (nF g3))), (d 3, .inl (tA 0, 6, .inl (nF hp))), (a 0, .inr (0, [.ref (a 1), .ref (a 2), .ref (a 3), .ref (a 4), .ref (a 5), .ref (a 6), .ref (a 7), .ref (a 8), .ref (a 9)])), (a 1, .inr (2, [.ref (a 10), .int (nI 8), .int (nI 3), .int (nI n0)])), (a 10, .inl (tA 0, 40, .inl (nF c0))), (a 2, .inr (2, [.ref (a 11), .int (nI 10), .int (nI 4), .int (nI n1)])), (a 11, .inl (tA 0, 40, .inl (nF c1))), (a 3, .inr (2, [.ref (a 12), .int (nI 10), .int (nI 3), .int (nI n2)])), (a 12, .inl (tA 0, 40, .inl (nF c2))), (a 4, .inr (2, [.ref (a 13), .int (nI 8), .int (nI 3), .int (nI n3)])), (a 13, .inl (tA 0, 40, .inl (nF c3))), (a 5, .inr (2, [.ref (a 14), .int (nI 5), .int (nI 4), .int (nI n4)])), (a 14, .inl (tA 0, 40, .inl (nF c4))), (a 6, .inr (2, [.ref (a 15), .int (nI 8), .int (nI 2), .int (nI n5)])), (a 15, .inl (tA 0, 40, .inl (nF c5))), (a 7, .inl (tA 0, 5, .inl (nF hs))), (a 8, .inl (tA 0, 5, .inl (nF wf))), (a 9, .inl (tA 0, 40, .inl (nF wt)))] := hD
            obtain ⟨q_29, hst2, e_30, e_31⟩ := q_29
            have hst2 : (fz, g3) = stlS n0 wt hp mo dp (p + 1) (s9 + (wS n0 wt p t)) (updN lf t ((lf t) - 1)) (updN g2 p t) := hst2
            have e_30 : fz < 2 := e_30
            have e_31 : ∀ j, g3 j < 1048576 := e_31
            rcases q_29 with ⟨rfl, p_32⟩ | ⟨rfl, p_32⟩
            · have p_32 : fz = 1 := p_32
              refine lv_istore (lv' := [(5, .int (nI 1)), (4, .int (nI t)), (0, .ref (d 0)), (1, .ref (a 0)), (2, .int (nI p)), (3, .int (nI s9))]) hx hb dX1_settle_119 hl (by decide) rfl (fun ls hl => ?_)
              refine lv_aload_n hx hb dX1_settle_121 rfl (lv_at hl 2 rfl) ?_
              refine va_get (D := G) (ci := 1) (C := RX1) (T := TX1) (N := 4) hx hb hts iX1 hown hKK.1 hP 0 rfl rfl 0 (by decide) f9 (fun _ h9 => h9) rfl dX1_settle_122 ?_
              refine lv_iload hx hb dX1_settle_125 (lv_at hl 1 rfl) ?_
              refine lv_dup2_11 hx hb dX1_settle_127 rfl rfl ?_
              refine nv_iald (i := t) hx hb hKK.1 hP 1 0 rfl rfl (by omega) (by decide) dX1_settle_128 ?_
              refine nv_top (y := lf t - 1) (congrArg nI (updN_s _ _ _)) ?_
              refine lv_iconst (v := nI 1) hx hb dX1_settle_129 (by decide) ?_
              refine nv_iadd hx hb dX1_settle_130 ?_
              refine nv_iast (i := t) hx hb hKK.1 hP hD hS 1 0 rfl rfl (by omega) (by decide) dX1_settle_131 [(d 0, .inr (1, [.ref (d 1), .ref (d 2), .ref (d 3), .int (nI mo)])), (d 1, .inl (tA 0, 8, .inl (nF (updN (updN lf t ((lf t) - 1)) t ((lf t - 1) + 1))))), (d 2, .inl (tA 0, 5, .inl (nF g3))), (d 3, .inl (tA 0, 6, .inl (nF hp))), (a 0, .inr (0, [.ref (a 1), .ref (a 2), .ref (a 3), .ref (a 4), .ref (a 5), .ref (a 6), .ref (a 7), .ref (a 8), .ref (a 9)])), (a 1, .inr (2, [.ref (a 10), .int (nI 8), .int (nI 3), .int (nI n0)])), (a 10, .inl (tA 0, 40, .inl (nF c0))), (a 2, .inr (2, [.ref (a 11), .int (nI 10), .int (nI 4), .int (nI n1)])), (a 11, .inl (tA 0, 40, .inl (nF c1))), (a 3, .inr (2, [.ref (a 12), .int (nI 10), .int (nI 3), .int (nI n2)])), (a 12, .inl (tA 0, 40, .inl (nF c2))), (a 4, .inr (2, [.ref (a 13), .int (nI 8), .int (nI 3), .int (nI n3)])), (a 13, .inl (tA 0, 40, .inl (nF c3))), (a 5, .inr (2, [.ref (a 14), .int (nI 5), .int (nI 4), .int (nI n4)])), (a 14, .inl (tA 0, 40, .inl (nF c4))), (a 6, .inr (2, [.ref (a 15), .int (nI 8), .int (nI 2), .int (nI n5)])), (a 15, .inl (tA 0, 40, .inl (nF c5))), (a 7, .inl (tA 0, 5, .inl (nF hs))), (a 8, .inl (tA 0, 5, .inl (nF wf))), (a 9, .inl (tA 0, 40, .inl (nF wt)))] rfl (fun H locs hP hD hS => ?_)
              have eL : updN (updN lf t ((lf t) - 1)) t ((lf t - 1) + 1) = lf := updN_rest (by omega)
              rw [eL] at hP hD
              refine lv_iload hx hb dX1_settle_132 (lv_at hl 0 rfl) ?_
              refine nv_if_eq (tgt := 139) (by omega) hx hb dX1_settle_134 (by decide) (fun h => absurd h (by omega)) (fun _ => ?_)
              refine lv_iconst (v := nI 1) hx hb dX1_settle_137 (by decide) ?_
              have hz : (1, g3) = stlS n0 wt hp mo (dp + 1) p s9 lf gt := stl_3 (by omega) (by omega) hst0 (by (have e0 : fz = 1 := (by omega)); rw [e0] at hst2; have h8 := stlI_stay (stlI_1 hra (by assumption) hst2) (8 - (t + 1)); rw [show t + 1 + (8 - (t + 1)) = 8 from (by omega)] at h8; exact h8)
              exact retZ (ty := .boolean) hx hb hr rfl hlocks hS hP hD (1, g3) (rfl) (⟨Or.inl ⟨rfl, by rfl⟩, ⟨hz, by show 1 < 2; omega, by assumption⟩⟩) dX1_settle_138
            · have p_32 : ¬ (fz = 1) := p_32
              refine lv_istore (lv' := [(5, .int (nI 0)), (4, .int (nI t)), (0, .ref (d 0)), (1, .ref (a 0)), (2, .int (nI p)), (3, .int (nI s9))]) hx hb dX1_settle_119 hl (by decide) rfl (fun ls hl => ?_)
              refine lv_aload_n hx hb dX1_settle_121 rfl (lv_at hl 2 rfl) ?_
              refine va_get (D := G) (ci := 1) (C := RX1) (T := TX1) (N := 4) hx hb hts iX1 hown hKK.1 hP 0 rfl rfl 0 (by decide) f9 (fun _ h9 => h9) rfl dX1_settle_122 ?_
              refine lv_iload hx hb dX1_settle_125 (lv_at hl 1 rfl) ?_
              refine lv_dup2_11 hx hb dX1_settle_127 rfl rfl ?_
              refine nv_iald (i := t) hx hb hKK.1 hP 1 0 rfl rfl (by omega) (by decide) dX1_settle_128 ?_
              refine nv_top (y := lf t - 1) (congrArg nI (updN_s _ _ _)) ?_
              refine lv_iconst (v := nI 1) hx hb dX1_settle_129 (by decide) ?_
              refine nv_iadd hx hb dX1_settle_130 ?_
              refine nv_iast (i := t) hx hb hKK.1 hP hD hS 1 0 rfl rfl (by omega) (by decide) dX1_settle_131 [(d 0, .inr (1, [.ref (d 1), .ref (d 2), .ref (d 3), .int (nI mo)])), (d 1, .inl (tA 0, 8, .inl (nF (updN (updN lf t ((lf t) - 1)) t ((lf t - 1) + 1))))), (d 2, .inl (tA 0, 5, .inl (nF g3))), (d 3, .inl (tA 0, 6, .inl (nF hp))), (a 0, .inr (0, [.ref (a 1), .ref (a 2), .ref (a 3), .ref (a 4), .ref (a 5), .ref (a 6), .ref (a 7), .ref (a 8), .ref (a 9)])), (a 1, .inr (2, [.ref (a 10), .int (nI 8), .int (nI 3), .int (nI n0)])), (a 10, .inl (tA 0, 40, .inl (nF c0))), (a 2, .inr (2, [.ref (a 11), .int (nI 10), .int (nI 4), .int (nI n1)])), (a 11, .inl (tA 0, 40, .inl (nF c1))), (a 3, .inr (2, [.ref (a 12), .int (nI 10), .int (nI 3), .int (nI n2)])), (a 12, .inl (tA 0, 40, .inl (nF c2))), (a 4, .inr (2, [.ref (a 13), .int (nI 8), .int (nI 3), .int (nI n3)])), (a 13, .inl (tA 0, 40, .inl (nF c3))), (a 5, .inr (2, [.ref (a 14), .int (nI 5), .int (nI 4), .int (nI n4)])), (a 14, .inl (tA 0, 40, .inl (nF c4))), (a 6, .inr (2, [.ref (a 15), .int (nI 8), .int (nI 2), .int (nI n5)])), (a 15, .inl (tA 0, 40, .inl (nF c5))), (a 7, .inl (tA 0, 5, .inl (nF hs))), (a 8, .inl (tA 0, 5, .inl (nF wf))), (a 9, .inl (tA 0, 40, .inl (nF wt)))] rfl (fun H locs hP hD hS => ?_)
              have eL : updN (updN lf t ((lf t) - 1)) t ((lf t - 1) + 1) = lf := updN_rest (by omega)
              rw [eL] at hP hD
              refine lv_iload hx hb dX1_settle_132 (lv_at hl 0 rfl) ?_
              refine nv_if_eq (tgt := 139) (by omega) hx hb dX1_settle_134 (by decide) (fun _ => ?_) (fun h => absurd h (by omega))
              refine lv_iinc (v := (nI (t + 1))) (lv' := [(4, .int (nI (t + 1))), (5, .int (nI 0)), (0, .ref (d 0)), (1, .ref (a 0)), (2, .int (nI p)), (3, .int (nI s9))]) hx hb dX1_settle_139 hl (k := 1) rfl (nI_add t 1) (by decide) rfl (fun ls hl => ?_)
              refine lv_goto (tgt := 65) hx hb dX1_settle_142 (by decide) ?_
              exact ih_13 (t + 1, g3) (show 8 - (t + 1) < 8 - t from by omega) ⟨(show (t + 1) ≤ 8 from by omega), (show (0, g3) = stlI n0 wt hp mo dp p s9 lf g1 (t + 1) from by first | exact stlI_2 hra (by assumption) | exact stlI_1 hra (by assumption) (by (have e0 : fz = 0 := (by omega)); rw [e0] at hst2; exact hst2)), (show ∀ j, g3 j < 1048576 from by assumption)⟩ _ _ _ (lv_sub hl [0, 2, 3, 4, 5] rfl) hP hD hS
          · have p_18 : ¬ (0 < lf t ∧ 0 < wS n0 wt p t) := p_18
            refine nv_if_eq (tgt := 139) (by omega) hx hb dX1_settle_80 (by decide) (fun _ => ?_) (fun h => absurd h (by omega))
            refine lv_iinc (v := (nI (t + 1))) (lv' := [(4, .int (nI (t + 1))), (0, .ref (d 0)), (1, .ref (a 0)), (2, .int (nI p)), (3, .int (nI s9))]) hx hb dX1_settle_139 hl (k := 0) rfl (nI_add t 1) (by decide) rfl (fun ls hl => ?_)
            refine lv_goto (tgt := 65) hx hb dX1_settle_142 (by decide) ?_
            exact ih_13 (t + 1, g2) (show 8 - (t + 1) < 8 - t from by omega) ⟨(show (t + 1) ≤ 8 from by omega), (show (0, g2) = stlI n0 wt hp mo dp p s9 lf g1 (t + 1) from by first | exact stlI_2 hra (by assumption) | exact stlI_1 hra (by assumption) (by (have e0 : fz = 0 := (by omega)); rw [e0] at hst2; exact hst2)), (show ∀ j, g2 j < 1048576 from by assumption)⟩ _ _ _ (lv_sub hl [0, 1, 2, 3, 4] rfl) hP hD hS
    · refine lv_iconst (v := nI 0) hx hb dX1_settle_38 (by decide) ?_
      have hz : (0, gt) = stlS n0 wt hp mo (dp + 1) p s9 lf gt := stl_1 (by omega) (by omega)
      exact retZ (ty := .boolean) hx hb hr rfl hlocks hS hP hD (0, gt) (rfl) (⟨Or.inr ⟨rfl, by show ¬ ((0 : Nat) = 1); omega⟩, ⟨hz, by show 0 < 2; omega, by assumption⟩⟩) dX1_settle_39
  · refine lv_iload_n hx hb dX1_settle_9 rfl (lv_at hl 3 rfl) ?_
    refine lv_aload_n hx hb dX1_settle_10 rfl (lv_at hl 0 rfl) ?_
    refine va_get (D := G) (ci := 1) (C := RX1) (T := TX1) (N := 4) hx hb hts iX1 hown hKK.1 hP 0 rfl rfl 3 (by decide) f21 (fun _ h9 => h9) rfl dX1_settle_11 ?_
    refine nv_icmp_ne (tgt := 21) (by omega) (by omega) hx hb dX1_settle_14 (by decide) (fun c_36 => ?_) (fun c_36 => ?_)
    · refine lv_iconst (v := nI 0) hx hb dX1_settle_21 (by decide) ?_
      have hz : (0, gt) = stlS n0 wt hp mo (dp + 1) p s9 lf gt := by (have hz := stl_0 (n0 := n0) (mo := mo) (k := dp) (s := s9) (wt := wt) (hp := hp) (lf := lf) (gt := gt) (show 5 ≤ p by omega)); first | (rw [if_pos (by omega)] at hz; exact hz) | (rw [if_neg (by omega)] at hz; exact hz)
      exact retZ (ty := .boolean) hx hb hr rfl hlocks hS hP hD (0, gt) (rfl) (⟨Or.inr ⟨rfl, by show ¬ ((0 : Nat) = 1); omega⟩, ⟨hz, by show 0 < 2; omega, by assumption⟩⟩) dX1_settle_22
    · refine lv_iconst (v := nI 1) hx hb dX1_settle_17 (by decide) ?_
      refine lv_goto (tgt := 22) hx hb dX1_settle_18 (by decide) ?_
      have hz : (1, gt) = stlS n0 wt hp mo (dp + 1) p s9 lf gt := by (have hz := stl_0 (n0 := n0) (mo := mo) (k := dp) (s := s9) (wt := wt) (hp := hp) (lf := lf) (gt := gt) (show 5 ≤ p by omega)); first | (rw [if_pos (by omega)] at hz; exact hz) | (rw [if_neg (by omega)] at hz; exact hz)
      exact retZ (ty := .boolean) hx hb hr rfl hlocks hS hP hD (1, gt) (rfl) (⟨Or.inl ⟨rfl, by rfl⟩, ⟨hz, by show 1 < 2; omega, by assumption⟩⟩) dX1_settle_22
