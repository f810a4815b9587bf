/-! Counter -/
def CW (n0 : Nat) (c0 : Nat → Nat) (n1 : Nat) (c1 : Nat → Nat) (n2 : Nat) (c2 : Nat → Nat) (n3 : Nat) (c3 : Nat → Nat) (n4 : Nat) (c4 : Nat → Nat) (n5 : Nat) (c5 hs wf wt : Nat → Nat) : Prop :=
  (n0 ≤ 8 ∧ n1 ≤ 10 ∧ n2 ≤ 10 ∧ n3 ≤ 8 ∧ n4 ≤ 5 ∧ n5 ≤ 8) ∧
  ((∀ j, c0 j < 1048576) ∧ (∀ j, c1 j < 1048576) ∧ (∀ j, c2 j < 1048576) ∧ (∀ j, c3 j < 1048576) ∧ (∀ j, c4 j < 1048576) ∧ (∀ j, c5 j < 1048576) ∧ (∀ j, hs j < 1048576) ∧ (∀ j, wf j < 1048576) ∧ (∀ j, wt j < 1048576)) ∧
  (∀ q, q < n0 → c0 (q * 4 + 0) < 6 ∧ 1 ≤ c0 (q * 4 + 1) ∧ c0 (q * 4 + 1) ≤ 3 ∧ c0 (q * 4 + 2) ≤ 9) ∧
  (∀ q, q < n1 → c1 (q * 4 + 0) < 5 ∧ c1 (q * 4 + 1) < n0 ∧ c1 (q * 4 + 2) ≤ c1 (q * 4 + 3) ∧ c1 (q * 4 + 3) < 24) ∧
  (∀ q, q < n2 → c2 (q * 4 + 0) < 5 ∧ c2 (q * 4 + 1) < n0 ∧ c2 (q * 4 + 2) < 24) ∧
  (∀ q, q < n3 → c3 (q * 4 + 0) < n0 ∧ c3 (q * 4 + 1) < n0 ∧ c3 (q * 4 + 2) < n0 ∧ c3 (q * 4 + 0) ≠ c3 (q * 4 + 1) ∧ c3 (q * 4 + 0) ≠ c3 (q * 4 + 2)) ∧
  (∀ q, q < n4 → c4 (q * 4 + 0) < 5 ∧ 0 < c4 (q * 4 + 1) ∧ c4 (q * 4 + 1) < 2 ^ n0 ∧ c4 (q * 4 + 2) ≤ c4 (q * 4 + 3) ∧ c4 (q * 4 + 3) < 24 ∧ c4 (q * 4 + 3) ≤ c4 (q * 4 + 2) + 5) ∧
  (∀ q, q < n5 → 0 < c5 (q * 4 + 0) ∧ c5 (q * 4 + 0) < 2 ^ n0 ∧ 1 ≤ c5 (q * 4 + 1) ∧ c5 (q * 4 + 1) ≤ 9) ∧
  (∀ q, q < 5 → hs q < 2 ^ n0 ∧ wf q < 2 ^ n0 ∧ hs q &&& wf q = 0) ∧
  (∀ q t, q < 5 → t < 8 → wt (q * 8 + t) ≤ 99 ∧ (n0 ≤ t → wt (q * 8 + t) = 0))
theorem p256 {n : Nat} (h : n ≤ 8) : 1 ≤ 2 ^ n ∧ 2 ^ n ≤ 256 := ⟨Nat.two_pow_pos n, Nat.pow_le_pow_right (by omega) h⟩
/-- a raw number is a set of the first n bits -/
theorem setI (x : Int32) {n : Nat} (h : n ≤ 8) : (x &&& (nI (2 ^ n - 1) ^^^ (-1)) = 0) ↔ (0 ≤ x.toInt ∧ x.toInt < ((2 ^ n : Nat) : Int)) := by
  have hp := p256 h
  have hm : (nI (2 ^ n - 1)).toBitVec.toNat = 2 ^ n - 1 := pk_tn (by omega)
  have e1 : x &&& (nI (2 ^ n - 1) ^^^ (-1)) = x ^^^ (x &&& nI (2 ^ n - 1)) := Int32.toBitVec_inj.mp (bv_andn _ _)
  rw [e1, pk_and x n hm]
  have hlt : x.toBitVec.toNat % 2 ^ n < 2 ^ n := Nat.mod_lt _ (by omega)
  have hx0 : x ^^^ nI (x.toBitVec.toNat % 2 ^ n) = 0 ↔ x = nI (x.toBitVec.toNat % 2 ^ n) := by
    constructor
    · intro q
      have q2 := congrArg Int32.toBitVec q
      have q3 : x.toBitVec ^^^ (nI (x.toBitVec.toNat % 2 ^ n)).toBitVec = 0#32 := q2
      exact Int32.toBitVec_inj.mp (BitVec.xor_eq_zero_iff.mp q3)
    · intro q
      apply Int32.toBitVec_inj.mp
      show x.toBitVec ^^^ (nI (x.toBitVec.toNat % 2 ^ n)).toBitVec = 0#32
      exact BitVec.xor_eq_zero_iff.mpr (congrArg Int32.toBitVec q)
  rw [hx0]
  constructor
  · intro q
    have : x.toInt = ((x.toBitVec.toNat % 2 ^ n : Nat) : Int) := by rw [q, nI_toInt (by omega)]; rw [pk_tn (by omega), Nat.mod_mod]
    omega
  · rintro ⟨q1, q2⟩
    obtain ⟨j, hj, rfl⟩ := toN q1
    rw [nI_toInt hj] at q2
    rw [pk_tn (by omega), Nat.mod_eq_of_lt (by omega)]
theorem andn_le (a b : Nat) : andn a b ≤ a := by
  have h1 : a &&& b ≤ a := Nat.and_le_left
  unfold andn
  refine Nat.le_of_testBit ?_
  intro i
  simp only [Nat.testBit_xor, Nat.testBit_and]
  cases a.testBit i <;> cases b.testBit i <;> simp
def oneB (kd : Nat) : Bool := decide (kd = 2 ∨ kd = 4 ∨ kd = 5)
def mayS (n0 : Nat) (c0 : Nat → Nat) (t : Nat) : Nat := if t < n0 ∧ oneB (atS n0 3 c0 t 0) = true then 1 else atS n0 3 c0 t 1
theorem atS_in {n wid : Nat} {c : Nat → Nat} {q k : Nat} (h1 : q < n) (h2 : k < wid) : atS n wid c q k = c (q * 4 + k) := if_pos ⟨h1, h2⟩
theorem atS_out {n wid : Nat} {c : Nat → Nat} {q k : Nat} (h1 : n ≤ q) : atS n wid c q k = 0 := if_neg (by omega)
theorem atS_lt {n wid : Nat} {c : Nat → Nat} {K : Nat} (h : ∀ j, c j < K) (q k : Nat) : atS n wid c q k < K := by unfold atS; split; exact h _; exact Nat.lt_of_le_of_lt (Nat.zero_le _) (h 0)
def lentB (n1 : Nat) (c1 : Nat → Nat) (t h : Nat) : Nat → Bool := fun k => decide (k < n1 ∧ c1 (k * 4 + 1) = t ∧ c1 (k * 4 + 2) ≤ h ∧ h ≤ c1 (k * 4 + 3))

set_option maxHeartbeats 4000000 in
set_option maxRecDepth 100000 in
theorem c_X0_allTerms (l : Launch) (G : va_G) (tA : Nat → ClassId) (a : Nat → Nat) (n0 : Nat) (c0 : Nat → Nat) (n1 : Nat) (c1 : Nat → Nat) (n2 : Nat) (c2 : Nat → Nat) (n3 : Nat) (c3 : Nat → Nat) (n4 : Nat) (c4 : Nat → Nat) (n5 : Nat) (c5 : Nat → Nat) (hs : Nat → Nat) (wf : Nat → Nat) (wt : Nat → Nat) (hCW : CW n0 c0 n1 c1 n2 c2 n3 c3 n4 c4 n5 c5 hs wf wt) : CtI l yX0_allTerms wsX0_allTerms ({ frames := 1, cells := 0, slots := 0, locals := 20 }) G tA [.ref (a 0)] ([(a 0, .inr (0, [.ref (a 1), .ref (a 2), .ref (a 3), .ref (a 4), .ref (a 5), .ref (a 6), .ref (a 7), .ref (a 8), .ref (a 9)])), (a 1, .inr (2, [.ref (a 10), .int (nI 8), .int (nI 3), .int (nI n0)])), (a 10, .inl (tA 0, 40, .inl (nF c0))), (a 2, .inr (2, [.ref (a 11), .int (nI 10), .int (nI 4), .int (nI n1)])), (a 11, .inl (tA 0, 40, .inl (nF c1))), (a 3, .inr (2, [.ref (a 12), .int (nI 10), .int (nI 3), .int (nI n2)])), (a 12, .inl (tA 0, 40, .inl (nF c2))), (a 4, .inr (2, [.ref (a 13), .int (nI 8), .int (nI 3), .int (nI n3)])), (a 13, .inl (tA 0, 40, .inl (nF c3))), (a 5, .inr (2, [.ref (a 14), .int (nI 5), .int (nI 4), .int (nI n4)])), (a 14, .inl (tA 0, 40, .inl (nF c4))), (a 6, .inr (2, [.ref (a 15), .int (nI 8), .int (nI 2), .int (nI n5)])), (a 15, .inl (tA 0, 40, .inl (nF c5))), (a 7, .inl (tA 0, 5, .inl (nF hs))), (a 8, .inl (tA 0, 5, .inl (nF wf))), (a 9, .inl (tA 0, 40, .inl (nF wt)))]) (fun (r : Int32) (_ : Unit) => r = nI (2 ^ n0 - 1)) (fun (_ : Unit) => [(a 0, .inr (0, [.ref (a 1), .ref (a 2), .ref (a 3), .ref (a 4), .ref (a 5), .ref (a 6), .ref (a 7), .ref (a 8), .ref (a 9)])), (a 1, .inr (2, [.ref (a 10), .int (nI 8), .int (nI 3), .int (nI n0)])), (a 10, .inl (tA 0, 40, .inl (nF c0))), (a 2, .inr (2, [.ref (a 11), .int (nI 10), .int (nI 4), .int (nI n1)])), (a 11, .inl (tA 0, 40, .inl (nF c1))), (a 3, .inr (2, [.ref (a 12), .int (nI 10), .int (nI 3), .int (nI n2)])), (a 12, .inl (tA 0, 40, .inl (nF c2))), (a 4, .inr (2, [.ref (a 13), .int (nI 8), .int (nI 3), .int (nI n3)])), (a 13, .inl (tA 0, 40, .inl (nF c3))), (a 5, .inr (2, [.ref (a 14), .int (nI 5), .int (nI 4), .int (nI n4)])), (a 14, .inl (tA 0, 40, .inl (nF c4))), (a 6, .inr (2, [.ref (a 15), .int (nI 8), .int (nI 2), .int (nI n5)])), (a 15, .inl (tA 0, 40, .inl (nF c5))), (a 7, .inl (tA 0, 5, .inl (nF hs))), (a 8, .inl (tA 0, 5, .inl (nF wf))), (a 9, .inl (tA 0, 40, .inl (nF wt)))]) 0 0 := by
  refine enterI (cc := cX0_allTerms) (maxL := 1) (ret := (some .int)) (by decide) rfl (Nat.le_of_ble_eq_true rfl) ?_
  intro p0 e0 s m args below meth c0_ A ls hx hb hml hr hts hown hlocks hin hKK hA hP hD hl hS
  have hown : s.vm.findClass RX0 = some m.cls := hown
  have hl : lv_has ls 1 [(0, .ref (a 0))] := hl
  have f14 := hts (Cond.fieldLink RX0 14 "LentTerms$Counter" "terms" "LLentTerms$Rows;") (List.mem_of_getElem? (i := 1) rfl)
  have iX0 : ∀ w ∈ wsX00, w ∈ wsX0_allTerms := by decide +kernel
  obtain ⟨⟨hn0, hn1, hn2, hn3, hn4, hn5⟩, ⟨hb0, hb1, hb2, hb3, hb4, hb5, hbh, hbw, hbt⟩, hv0, hv1, hv2, hv3, hv4, hv5, hv6, hv7⟩ := id hCW
  refine lv_iconst (v := nI 1) hx hb dX0_allTerms_0 (by decide) ?_
  refine lv_aload_n hx hb dX0_allTerms_1 rfl (lv_at hl 0 rfl) ?_
  refine va_get (D := G) (ci := 0) (C := RX0) (T := TX0) (N := 9) hx hb hts iX0 hown hKK.1 hP 0 rfl rfl 0 (by decide) f14 (fun _ h9 => h9) rfl dX0_allTerms_2 ?_
  refine roI hP hD hS hA [1, 2] rfl (runV (As := []) (rest := [.int (nI 1)]) (isC := [1, 2]) ⟨hx, hb, hml, hown, hts⟩ hKK hP hD rfl (by decide) (c_X4_size l G tA (a 1) (a 10) 8 3 n0 c0 _) (cwV 0 hts gX0_allTerms_X4_size rfl rfl rfl (by decide +kernel) ⟨Nat.le_of_ble_eq_true rfl, Nat.le_of_ble_eq_true rfl⟩) rfl rfl rfl rfl hl.1 rfl (lv_room (Nat.le_of_ble_eq_true rfl)) dX0_allTerms_5 ⟨Nat.le_of_ble_eq_true rfl, Nat.le_of_ble_eq_true rfl⟩) (fun _ => rfl) (fun r_1 u_2 H locs q_3 hP hS => ?_)
  subst q_3
  refine nv_shl1 (by omega) hx hb dX0_allTerms_8 ?_
  refine lv_iconst (v := nI 1) hx hb dX0_allTerms_9 (by decide) ?_
  refine nv_isub (show 1 ≤ 2 ^ n0 from Nat.two_pow_pos n0) hx hb dX0_allTerms_10 ?_
  exact retI hx hb hr hlocks hS hP hD () (rfl) (congrArg nI (show ((2 ^ n0) - 1 : Nat) = 2 ^ n0 - 1 from rfl)) dX0_allTerms_11

set_option maxHeartbeats 4000000 in
set_option maxRecDepth 100000 in
theorem c_X0_isSet (l : Launch) (G : va_G) (tA : Nat → ClassId) (a : Nat → Nat) (n0 : Nat) (c0 : Nat → Nat) (n1 : Nat) (c1 : Nat → Nat) (n2 : Nat) (c2 : Nat → Nat) (n3 : Nat) (c3 : Nat → Nat) (n4 : Nat) (c4 : Nat → Nat) (n5 : Nat) (c5 : Nat → Nat) (hs : Nat → Nat) (wf : Nat → Nat) (wt : Nat → Nat) (bits : Int32) (BITS : Int) (hCW : CW n0 c0 n1 c1 n2 c2 n3 c3 n4 c4 n5 c5 hs wf wt) (hbits : bits.toInt = BITS) : CtI l yX0_isSet wsX0_isSet ({ frames := 2, cells := 0, slots := 0, locals := 40 }) G tA [.ref (a 0), .int bits] ([(a 0, .inr (0, [.ref (a 1), .ref (a 2), .ref (a 3), .ref (a 4), .ref (a 5), .ref (a 6), .ref (a 7), .ref (a 8), .ref (a 9)])), (a 1, .inr (2, [.ref (a 10), .int (nI 8), .int (nI 3), .int (nI n0)])), (a 10, .inl (tA 0, 40, .inl (nF c0))), (a 2, .inr (2, [.ref (a 11), .int (nI 10), .int (nI 4), .int (nI n1)])), (a 11, .inl (tA 0, 40, .inl (nF c1))), (a 3, .inr (2, [.ref (a 12), .int (nI 10), .int (nI 3), .int (nI n2)])), (a 12, .inl (tA 0, 40, .inl (nF c2))), (a 4, .inr (2, [.ref (a 13), .int (nI 8), .int (nI 3), .int (nI n3)])), (a 13, .inl (tA 0, 40, .inl (nF c3))), (a 5, .inr (2, [.ref (a 14), .int (nI 5), .int (nI 4), .int (nI n4)])), (a 14, .inl (tA 0, 40, .inl (nF c4))), (a 6, .inr (2, [.ref (a 15), .int (nI 8), .int (nI 2), .int (nI n5)])), (a 15, .inl (tA 0, 40, .inl (nF c5))), (a 7, .inl (tA 0, 5, .inl (nF hs))), (a 8, .inl (tA 0, 5, .inl (nF wf))), (a 9, .inl (tA 0, 40, .inl (nF wt)))]) (fun (r : Int32) (_ : Unit) => ((r = nI 1 ∧ (0 ≤ BITS ∧ BITS < ((2 ^ n0 : Nat) : Int))) ∨ (r = nI 0 ∧ ¬ (0 ≤ BITS ∧ BITS < ((2 ^ n0 : Nat) : Int))))) (fun (_ : Unit) => [(a 0, .inr (0, [.ref (a 1), .ref (a 2), .ref (a 3), .ref (a 4), .ref (a 5), .ref (a 6), .ref (a 7), .ref (a 8), .ref (a 9)])), (a 1, .inr (2, [.ref (a 10), .int (nI 8), .int (nI 3), .int (nI n0)])), (a 10, .inl (tA 0, 40, .inl (nF c0))), (a 2, .inr (2, [.ref (a 11), .int (nI 10), .int (nI 4), .int (nI n1)])), (a 11, .inl (tA 0, 40, .inl (nF c1))), (a 3, .inr (2, [.ref (a 12), .int (nI 10), .int (nI 3), .int (nI n2)])), (a 12, .inl (tA 0, 40, .inl (nF c2))), (a 4, .inr (2, [.ref (a 13), .int (nI 8), .int (nI 3), .int (nI n3)])), (a 13, .inl (tA 0, 40, .inl (nF c3))), (a 5, .inr (2, [.ref (a 14), .int (nI 5), .int (nI 4), .int (nI n4)])), (a 14, .inl (tA 0, 40, .inl (nF c4))), (a 6, .inr (2, [.ref (a 15), .int (nI 8), .int (nI 2), .int (nI n5)])), (a 15, .inl (tA 0, 40, .inl (nF c5))), (a 7, .inl (tA 0, 5, .inl (nF hs))), (a 8, .inl (tA 0, 5, .inl (nF wf))), (a 9, .inl (tA 0, 40, .inl (nF wt)))]) 0 0 := by
  refine enterI (cc := cX0_isSet) (maxL := 2) (ret := (some .boolean)) (by decide) rfl (Nat.le_of_ble_eq_true rfl) ?_
  intro p0 e0 s m args below meth c0_ A ls hx hb hml hr hts hown hlocks hin hKK hA hP hD hl hS
  have hown : s.vm.findClass RX0 = some m.cls := hown
  have hl : lv_has ls 2 [(0, .ref (a 0)), (1, .int bits)] := hl
  obtain ⟨⟨hn0, hn1, hn2, hn3, hn4, hn5⟩, ⟨hb0, hb1, hb2, hb3, hb4, hb5, hbh, hbw, hbt⟩, hv0, hv1, hv2, hv3, hv4, hv5, hv6, hv7⟩ := id hCW
  refine lv_iload_n hx hb dX0_isSet_0 rfl (lv_at hl 1 rfl) ?_
  refine lv_aload_n hx hb dX0_isSet_1 rfl (lv_at hl 0 rfl) ?_
  refine roI hP hD hS hA [0, 1, 2, 3, 4, 5, 6, 7, 8, 9, 10, 11, 12, 13, 14, 15] rfl (runV (As := []) (rest := [.int bits]) (isC := [0, 1, 2, 3, 4, 5, 6, 7, 8, 9, 10, 11, 12, 13, 14, 15]) ⟨hx, hb, hml, hown, hts⟩ hKK hP hD rfl (by decide) (c_X0_allTerms l G tA a n0 c0 n1 c1 n2 c2 n3 c3 n4 c4 n5 c5 hs wf wt (hCW) _) (cwV 0 hts gX0_isSet_X0_allTerms rfl rfl rfl (by decide +kernel) ⟨Nat.le_of_ble_eq_true rfl, Nat.le_of_ble_eq_true rfl⟩) rfl rfl rfl rfl hl.1 rfl (lv_room (Nat.le_of_ble_eq_true rfl)) dX0_isSet_2 ⟨Nat.le_of_ble_eq_true rfl, Nat.le_of_ble_eq_true rfl⟩) (fun _ => rfl) (fun r_1 u_2 H locs q_3 hP hS => ?_)
  subst q_3
  refine lv_iconst (v := (-1)) hx hb dX0_isSet_5 (by decide) ?_
  refine lv_ixor hx hb dX0_isSet_6 ?_
  refine lv_iand hx hb dX0_isSet_7 ?_
  refine lv_if_ne (tgt := 15) hx hb dX0_isSet_8 (by decide) (fun c_4 => ?_) (fun c_4 => ?_)
  · have c_4 : ¬ (0 ≤ bits.toInt ∧ bits.toInt < ((2 ^ n0 : Nat) : Int)) := fun q => c_4 ((setI bits hn0).mpr q)
    refine lv_iconst (v := nI 0) hx hb dX0_isSet_15 (by decide) ?_
    exact retZ (ty := .boolean) hx hb hr rfl hlocks hS hP hD () (rfl) (Or.inr ⟨rfl, by rw [← hbits]; assumption⟩) dX0_isSet_16
  · have c_4 : 0 ≤ bits.toInt ∧ bits.toInt < ((2 ^ n0 : Nat) : Int) := (setI bits hn0).mp c_4
    refine lv_iconst (v := nI 1) hx hb dX0_isSet_11 (by decide) ?_
    refine lv_goto (tgt := 16) hx hb dX0_isSet_12 (by decide) ?_
    exact retZ (ty := .boolean) hx hb hr rfl hlocks hS hP hD () (rfl) (Or.inl ⟨rfl, by rw [← hbits]; assumption⟩) dX0_isSet_16

set_option maxHeartbeats 4000000 in
set_option maxRecDepth 100000 in
theorem c_X0_isMatter (l : Launch) (G : va_G) (tA : Nat → ClassId) (a : Nat → Nat) (n0 : Nat) (c0 : Nat → Nat) (n1 : Nat) (c1 : Nat → Nat) (n2 : Nat) (c2 : Nat → Nat) (n3 : Nat) (c3 : Nat → Nat) (n4 : Nat) (c4 : Nat → Nat) (n5 : Nat) (c5 : Nat → Nat) (hs : Nat → Nat) (wf : Nat → Nat) (wt : Nat → Nat) (bits : Int32) (BITS : Int) (hCW : CW n0 c0 n1 c1 n2 c2 n3 c3 n4 c4 n5 c5 hs wf wt) (hbits : bits.toInt = BITS) : CtI l yX0_isMatter wsX0_isMatter ({ frames := 1, cells := 0, slots := 0, locals := 20 }) G tA [.ref (a 0), .int bits] ([(a 0, .inr (0, [.ref (a 1), .ref (a 2), .ref (a 3), .ref (a 4), .ref (a 5), .ref (a 6), .ref (a 7), .ref (a 8), .ref (a 9)])), (a 1, .inr (2, [.ref (a 10), .int (nI 8), .int (nI 3), .int (nI n0)])), (a 10, .inl (tA 0, 40, .inl (nF c0))), (a 2, .inr (2, [.ref (a 11), .int (nI 10), .int (nI 4), .int (nI n1)])), (a 11, .inl (tA 0, 40, .inl (nF c1))), (a 3, .inr (2, [.ref (a 12), .int (nI 10), .int (nI 3), .int (nI n2)])), (a 12, .inl (tA 0, 40, .inl (nF c2))), (a 4, .inr (2, [.ref (a 13), .int (nI 8), .int (nI 3), .int (nI n3)])), (a 13, .inl (tA 0, 40, .inl (nF c3))), (a 5, .inr (2, [.ref (a 14), .int (nI 5), .int (nI 4), .int (nI n4)])), (a 14, .inl (tA 0, 40, .inl (nF c4))), (a 6, .inr (2, [.ref (a 15), .int (nI 8), .int (nI 2), .int (nI n5)])), (a 15, .inl (tA 0, 40, .inl (nF c5))), (a 7, .inl (tA 0, 5, .inl (nF hs))), (a 8, .inl (tA 0, 5, .inl (nF wf))), (a 9, .inl (tA 0, 40, .inl (nF wt)))]) (fun (r : Int32) (_ : Unit) => ((r = nI 1 ∧ (0 ≤ BITS ∧ BITS < ((2 ^ n5 : Nat) : Int))) ∨ (r = nI 0 ∧ ¬ (0 ≤ BITS ∧ BITS < ((2 ^ n5 : Nat) : Int))))) (fun (_ : Unit) => [(a 0, .inr (0, [.ref (a 1), .ref (a 2), .ref (a 3), .ref (a 4), .ref (a 5), .ref (a 6), .ref (a 7), .ref (a 8), .ref (a 9)])), (a 1, .inr (2, [.ref (a 10), .int (nI 8), .int (nI 3), .int (nI n0)])), (a 10, .inl (tA 0, 40, .inl (nF c0))), (a 2, .inr (2, [.ref (a 11), .int (nI 10), .int (nI 4), .int (nI n1)])), (a 11, .inl (tA 0, 40, .inl (nF c1))), (a 3, .inr (2, [.ref (a 12), .int (nI 10), .int (nI 3), .int (nI n2)])), (a 12, .inl (tA 0, 40, .inl (nF c2))), (a 4, .inr (2, [.ref (a 13), .int (nI 8), .int (nI 3), .int (nI n3)])), (a 13, .inl (tA 0, 40, .inl (nF c3))), (a 5, .inr (2, [.ref (a 14), .int (nI 5), .int (nI 4), .int (nI n4)])), (a 14, .inl (tA 0, 40, .inl (nF c4))), (a 6, .inr (2, [.ref (a 15), .int (nI 8), .int (nI 2), .int (nI n5)])), (a 15, .inl (tA 0, 40, .inl (nF c5))), (a 7, .inl (tA 0, 5, .inl (nF hs))), (a 8, .inl (tA 0, 5, .inl (nF wf))), (a 9, .inl (tA 0, 40, .inl (nF wt)))]) 0 0 := by
  refine enterI (cc := cX0_isMatter) (maxL := 2) (ret := (some .boolean)) (by decide) rfl (Nat.le_of_ble_eq_true rfl) ?_
  intro p0 e0 s m args below meth c0_ A ls hx hb hml hr hts hown hlocks hin hKK hA hP hD hl hS
  have hown : s.vm.findClass RX0 = some m.cls := hown
  have hl : lv_has ls 2 [(0, .ref (a 0)), (1, .int bits)] := hl
  have f32 := hts (Cond.fieldLink RX0 32 "LentTerms$Counter" "sayings" "LLentTerms$Rows;") (List.mem_of_getElem? (i := 1) rfl)
  have iX0 : ∀ w ∈ wsX00, w ∈ wsX0_isMatter := by decide +kernel
  obtain ⟨⟨hn0, hn1, hn2, hn3, hn4, hn5⟩, ⟨hb0, hb1, hb2, hb3, hb4, hb5, hbh, hbw, hbt⟩, hv0, hv1, hv2, hv3, hv4, hv5, hv6, hv7⟩ := id hCW
  refine lv_iload_n hx hb dX0_isMatter_0 rfl (lv_at hl 1 rfl) ?_
  refine lv_iconst (v := nI 1) hx hb dX0_isMatter_1 (by decide) ?_
  refine lv_aload_n hx hb dX0_isMatter_2 rfl (lv_at hl 0 rfl) ?_
  refine va_get (D := G) (ci := 0) (C := RX0) (T := TX0) (N := 9) hx hb hts iX0 hown hKK.1 hP 0 rfl rfl 5 (by decide) f32 (fun _ h9 => h9) rfl dX0_isMatter_3 ?_
  refine roI hP hD hS hA [11, 12] rfl (runV (As := []) (rest := [.int (nI 1), .int bits]) (isC := [11, 12]) ⟨hx, hb, hml, hown, hts⟩ hKK hP hD rfl (by decide) (c_X4_size l G tA (a 6) (a 15) 8 2 n5 c5 _) (cwV 0 hts gX0_isMatter_X4_size rfl rfl rfl (by decide +kernel) ⟨Nat.le_of_ble_eq_true rfl, Nat.le_of_ble_eq_true rfl⟩) rfl rfl rfl rfl hl.1 rfl (lv_room (Nat.le_of_ble_eq_true rfl)) dX0_isMatter_6 ⟨Nat.le_of_ble_eq_true rfl, Nat.le_of_ble_eq_true rfl⟩) (fun _ => rfl) (fun r_1 u_2 H locs q_3 hP hS => ?_)
  subst q_3
  refine nv_shl1 (by omega) hx hb dX0_isMatter_9 ?_
  refine lv_iconst (v := nI 1) hx hb dX0_isMatter_10 (by decide) ?_
  refine nv_isub (show 1 ≤ 2 ^ n5 from Nat.two_pow_pos n5) hx hb dX0_isMatter_11 ?_
  refine lv_iconst (v := (-1)) hx hb dX0_isMatter_12 (by decide) ?_
  refine lv_ixor hx hb dX0_isMatter_13 ?_
  refine lv_iand hx hb dX0_isMatter_14 ?_
  refine lv_if_ne (tgt := 22) hx hb dX0_isMatter_15 (by decide) (fun c_4 => ?_) (fun c_4 => ?_)
  · have c_4 : ¬ (0 ≤ bits.toInt ∧ bits.toInt < ((2 ^ n5 : Nat) : Int)) := fun q => c_4 ((setI bits hn5).mpr q)
    refine lv_iconst (v := nI 0) hx hb dX0_isMatter_22 (by decide) ?_
    exact retZ (ty := .boolean) hx hb hr rfl hlocks hS hP hD () (rfl) (Or.inr ⟨rfl, by rw [← hbits]; assumption⟩) dX0_isMatter_23
  · have c_4 : 0 ≤ bits.toInt ∧ bits.toInt < ((2 ^ n5 : Nat) : Int) := (setI bits hn5).mp c_4
    refine lv_iconst (v := nI 1) hx hb dX0_isMatter_18 (by decide) ?_
    refine lv_goto (tgt := 23) hx hb dX0_isMatter_19 (by decide) ?_
    exact retZ (ty := .boolean) hx hb hr rfl hlocks hS hP hD () (rfl) (Or.inl ⟨rfl, by rw [← hbits]; assumption⟩) dX0_isMatter_23

set_option maxHeartbeats 4000000 in
set_option maxRecDepth 100000 in
theorem c_X8_isPerson (l : Launch) (G : va_G) (tA : Nat → ClassId) (v : Int32) (V : Int) (hv : v.toInt = V) : CtI l yX8_isPerson wsX8_isPerson ({ frames := 0, cells := 0, slots := 0, locals := 0 }) G tA [.int v] ([]) (fun (r : Int32) (_ : Unit) => ((r = nI 1 ∧ (0 ≤ V ∧ V < 5)) ∨ (r = nI 0 ∧ ¬ (0 ≤ V ∧ V < 5)))) (fun (_ : Unit) => []) 0 0 := by
  refine enterI (cc := cX8_isPerson) (maxL := 1) (ret := (some .boolean)) (by decide) rfl (Nat.le_of_ble_eq_true rfl) ?_
  intro p0 e0 s m args below meth c0_ A ls hx hb hml hr hts hown hlocks hin hKK hA hP hD hl hS
  have hown : s.vm.findClass RX8 = some m.cls := hown
  have hl : lv_has ls 1 [(0, .int v)] := hl
  refine lv_iload_n hx hb dX8_isPerson_0 rfl (lv_at hl 0 rfl) ?_
  refine zv_if_lt (tgt := 13) (X := V) hv hx hb dX8_isPerson_1 (by decide) (fun c_1 => ?_) (fun c_1 => ?_)
  · refine lv_iconst (v := nI 0) hx hb dX8_isPerson_13 (by decide) ?_
    exact retZ (ty := .boolean) hx hb hr rfl hlocks hS hP hD () (rfl) (Or.inr ⟨rfl, by omega⟩) dX8_isPerson_14
  · refine lv_iload_n hx hb dX8_isPerson_4 rfl (lv_at hl 0 rfl) ?_
    refine lv_iconst (v := nI 5) hx hb dX8_isPerson_5 (by decide) ?_
    refine zv_icmp_ge (tgt := 13) (X := V) (Y := (5 : Int)) hv rfl hx hb dX8_isPerson_6 (by decide) (fun c_2 => ?_) (fun c_2 => ?_)
    · refine lv_iconst (v := nI 0) hx hb dX8_isPerson_13 (by decide) ?_
      exact retZ (ty := .boolean) hx hb hr rfl hlocks hS hP hD () (rfl) (Or.inr ⟨rfl, by omega⟩) dX8_isPerson_14
    · refine lv_iconst (v := nI 1) hx hb dX8_isPerson_9 (by decide) ?_
      refine lv_goto (tgt := 14) hx hb dX8_isPerson_10 (by decide) ?_
      exact retZ (ty := .boolean) hx hb hr rfl hlocks hS hP hD () (rfl) (Or.inl ⟨rfl, by omega⟩) dX8_isPerson_14

set_option maxHeartbeats 4000000 in
set_option maxRecDepth 100000 in
theorem c_X8_isHour (l : Launch) (G : va_G) (tA : Nat → ClassId) (v : Int32) (V : Int) (hv : v.toInt = V) : CtI l yX8_isHour wsX8_isHour ({ frames := 0, cells := 0, slots := 0, locals := 0 }) G tA [.int v] ([]) (fun (r : Int32) (_ : Unit) => ((r = nI 1 ∧ (0 ≤ V ∧ V < 24)) ∨ (r = nI 0 ∧ ¬ (0 ≤ V ∧ V < 24)))) (fun (_ : Unit) => []) 0 0 := by
  refine enterI (cc := cX8_isHour) (maxL := 1) (ret := (some .boolean)) (by decide) rfl (Nat.le_of_ble_eq_true rfl) ?_
  intro p0 e0 s m args below meth c0_ A ls hx hb hml hr hts hown hlocks hin hKK hA hP hD hl hS
  have hown : s.vm.findClass RX8 = some m.cls := hown
  have hl : lv_has ls 1 [(0, .int v)] := hl
  refine lv_iload_n hx hb dX8_isHour_0 rfl (lv_at hl 0 rfl) ?_
  refine zv_if_lt (tgt := 14) (X := V) hv hx hb dX8_isHour_1 (by decide) (fun c_1 => ?_) (fun c_1 => ?_)
  · refine lv_iconst (v := nI 0) hx hb dX8_isHour_14 (by decide) ?_
    exact retZ (ty := .boolean) hx hb hr rfl hlocks hS hP hD () (rfl) (Or.inr ⟨rfl, by omega⟩) dX8_isHour_15
  · refine lv_iload_n hx hb dX8_isHour_4 rfl (lv_at hl 0 rfl) ?_
    refine lv_bipush (v := nI 24) hx hb dX8_isHour_5 (by decide +kernel) ?_
    refine zv_icmp_ge (tgt := 14) (X := V) (Y := (24 : Int)) hv rfl hx hb dX8_isHour_7 (by decide) (fun c_2 => ?_) (fun c_2 => ?_)
    · refine lv_iconst (v := nI 0) hx hb dX8_isHour_14 (by decide) ?_
      exact retZ (ty := .boolean) hx hb hr rfl hlocks hS hP hD () (rfl) (Or.inr ⟨rfl, by omega⟩) dX8_isHour_15
    · refine lv_iconst (v := nI 1) hx hb dX8_isHour_10 (by decide) ?_
      refine lv_goto (tgt := 15) hx hb dX8_isHour_11 (by decide) ?_
      exact retZ (ty := .boolean) hx hb hr rfl hlocks hS hP hD () (rfl) (Or.inl ⟨rfl, by omega⟩) dX8_isHour_15

set_option maxHeartbeats 4000000 in
set_option maxRecDepth 100000 in
theorem c_X8_isImage (l : Launch) (G : va_G) (tA : Nat → ClassId) (v : Int32) (V : Int) (hv : v.toInt = V) : CtI l yX8_isImage wsX8_isImage ({ frames := 0, cells := 0, slots := 0, locals := 0 }) G tA [.int v] ([]) (fun (r : Int32) (_ : Unit) => ((r = nI 1 ∧ (0 ≤ V ∧ V < 2)) ∨ (r = nI 0 ∧ ¬ (0 ≤ V ∧ V < 2)))) (fun (_ : Unit) => []) 0 0 := by
  refine enterI (cc := cX8_isImage) (maxL := 1) (ret := (some .boolean)) (by decide) rfl (Nat.le_of_ble_eq_true rfl) ?_
  intro p0 e0 s m args below meth c0_ A ls hx hb hml hr hts hown hlocks hin hKK hA hP hD hl hS
  have hown : s.vm.findClass RX8 = some m.cls := hown
  have hl : lv_has ls 1 [(0, .int v)] := hl
  refine lv_iload_n hx hb dX8_isImage_0 rfl (lv_at hl 0 rfl) ?_
  refine zv_if_lt (tgt := 13) (X := V) hv hx hb dX8_isImage_1 (by decide) (fun c_1 => ?_) (fun c_1 => ?_)
  · refine lv_iconst (v := nI 0) hx hb dX8_isImage_13 (by decide) ?_
    exact retZ (ty := .boolean) hx hb hr rfl hlocks hS hP hD () (rfl) (Or.inr ⟨rfl, by omega⟩) dX8_isImage_14
  · refine lv_iload_n hx hb dX8_isImage_4 rfl (lv_at hl 0 rfl) ?_
    refine lv_iconst (v := nI 2) hx hb dX8_isImage_5 (by decide) ?_
    refine zv_icmp_ge (tgt := 13) (X := V) (Y := (2 : Int)) hv rfl hx hb dX8_isImage_6 (by decide) (fun c_2 => ?_) (fun c_2 => ?_)
    · refine lv_iconst (v := nI 0) hx hb dX8_isImage_13 (by decide) ?_
      exact retZ (ty := .boolean) hx hb hr rfl hlocks hS hP hD () (rfl) (Or.inr ⟨rfl, by omega⟩) dX8_isImage_14
    · refine lv_iconst (v := nI 1) hx hb dX8_isImage_9 (by decide) ?_
      refine lv_goto (tgt := 14) hx hb dX8_isImage_10 (by decide) ?_
      exact retZ (ty := .boolean) hx hb hr rfl hlocks hS hP hD () (rfl) (Or.inl ⟨rfl, by omega⟩) dX8_isImage_14

set_option maxHeartbeats 4000000 in
set_option maxRecDepth 100000 in
theorem c_X8_hasBit (l : Launch) (G : va_G) (tA : Nat → ClassId) (bits : Nat) (j : Nat) (hbits : bits < 1048576) (hj : j < 1048576) : CtI l yX8_hasBit wsX8_hasBit ({ frames := 0, cells := 0, slots := 0, locals := 0 }) G tA [.int (nI bits), .int (nI j)] ([]) (fun (r : Int32) (_ : Unit) => ((r = nI 1 ∧ (j < 32 ∧ bits / 2 ^ j % 2 = 1)) ∨ (r = nI 0 ∧ ¬ (j < 32 ∧ bits / 2 ^ j % 2 = 1)))) (fun (_ : Unit) => []) 0 0 := by
  refine enterI (cc := cX8_hasBit) (maxL := 2) (ret := (some .boolean)) (by decide) rfl (Nat.le_of_ble_eq_true rfl) ?_
  intro p0 e0 s m args below meth c0_ A ls hx hb hml hr hts hown hlocks hin hKK hA hP hD hl hS
  have hown : s.vm.findClass RX8 = some m.cls := hown
  have hl : lv_has ls 2 [(0, .int (nI bits)), (1, .int (nI j))] := hl
  refine lv_iload_n hx hb dX8_hasBit_0 rfl (lv_at hl 1 rfl) ?_
  refine nv_if_lt (tgt := 23) (by omega) hx hb dX8_hasBit_1 (by decide) ?_
  refine lv_iload_n hx hb dX8_hasBit_4 rfl (lv_at hl 1 rfl) ?_
  refine lv_bipush (v := nI 32) hx hb dX8_hasBit_5 (by decide +kernel) ?_
  refine nv_icmp_ge (tgt := 23) (by omega) (by omega) hx hb dX8_hasBit_7 (by decide) (fun c_2 => ?_) (fun c_2 => ?_)
  · refine lv_iconst (v := nI 0) hx hb dX8_hasBit_23 (by decide) ?_
    exact retZ (ty := .boolean) hx hb hr rfl hlocks hS hP hD () (rfl) (Or.inr ⟨rfl, by omega⟩) dX8_hasBit_24
  · refine lv_iload_n hx hb dX8_hasBit_10 rfl (lv_at hl 0 rfl) ?_
    refine lv_iload_n hx hb dX8_hasBit_11 rfl (lv_at hl 1 rfl) ?_
    refine nv_ishr (by omega) (by omega) hx hb dX8_hasBit_12 ?_
    refine lv_iconst (v := nI 1) hx hb dX8_hasBit_13 (by decide) ?_
    refine nv_iand1 hx hb dX8_hasBit_14 ?_
    refine lv_iconst (v := nI 1) hx hb dX8_hasBit_15 (by decide) ?_
    refine nv_icmp_ne (tgt := 23) (by omega) (by omega) hx hb dX8_hasBit_16 (by decide) (fun c_3 => ?_) (fun c_3 => ?_)
    · refine lv_iconst (v := nI 0) hx hb dX8_hasBit_23 (by decide) ?_
      exact retZ (ty := .boolean) hx hb hr rfl hlocks hS hP hD () (rfl) (Or.inr ⟨rfl, by omega⟩) dX8_hasBit_24
    · refine lv_iconst (v := nI 1) hx hb dX8_hasBit_19 (by decide) ?_
      refine lv_goto (tgt := 24) hx hb dX8_hasBit_20 (by decide) ?_
      exact retZ (ty := .boolean) hx hb hr rfl hlocks hS hP hD () (rfl) (Or.inl ⟨rfl, by omega⟩) dX8_hasBit_24

set_option maxHeartbeats 4000000 in
set_option maxRecDepth 100000 in
theorem c_X0_worthOf (l : Launch) (G : va_G) (tA : Nat → ClassId) (a : Nat → Nat) (n0 : Nat) (c0 : Nat → Nat) (n1 : Nat) (c1 : Nat → Nat) (n2 : Nat) (c2 : Nat → Nat) (n3 : Nat) (c3 : Nat → Nat) (n4 : Nat) (c4 : Nat → Nat) (n5 : Nat) (c5 : Nat → Nat) (hs : Nat → Nat) (wf : Nat → Nat) (wt : Nat → Nat) (pp : Nat) (t : Nat) (hCW : CW n0 c0 n1 c1 n2 c2 n3 c3 n4 c4 n5 c5 hs wf wt) (hpp : pp < 1048576) (ht : t < 1048576) : CtI l yX0_worthOf wsX0_worthOf ({ frames := 1, cells := 0, slots := 0, locals := 21 }) G tA [.ref (a 0), .int (nI pp), .int (nI t)] ([(a 0, .inr (0, [.ref (a 1), .ref (a 2), .ref (a 3), .ref (a 4), .ref (a 5), .ref (a 6), .ref (a 7), .ref (a 8), .ref (a 9)])), (a 1, .inr (2, [.ref (a 10), .int (nI 8), .int (nI 3), .int (nI n0)])), (a 10, .inl (tA 0, 40, .inl (nF c0))), (a 2, .inr (2, [.ref (a 11), .int (nI 10), .int (nI 4), .int (nI n1)])), (a 11, .inl (tA 0, 40, .inl (nF c1))), (a 3, .inr (2, [.ref (a 12), .int (nI 10), .int (nI 3), .int (nI n2)])), (a 12, .inl (tA 0, 40, .inl (nF c2))), (a 4, .inr (2, [.ref (a 13), .int (nI 8), .int (nI 3), .int (nI n3)])), (a 13, .inl (tA 0, 40, .inl (nF c3))), (a 5, .inr (2, [.ref (a 14), .int (nI 5), .int (nI 4), .int (nI n4)])), (a 14, .inl (tA 0, 40, .inl (nF c4))), (a 6, .inr (2, [.ref (a 15), .int (nI 8), .int (nI 2), .int (nI n5)])), (a 15, .inl (tA 0, 40, .inl (nF c5))), (a 7, .inl (tA 0, 5, .inl (nF hs))), (a 8, .inl (tA 0, 5, .inl (nF wf))), (a 9, .inl (tA 0, 40, .inl (nF wt)))]) (fun (r : Int32) (_ : Unit) => r = nI (if pp < 5 ∧ t < n0 then wt (pp * 8 + t) else 0) ∧ ((if pp < 5 ∧ t < n0 then wt (pp * 8 + t) else 0) < 1048576)) (fun (_ : Unit) => [(a 0, .inr (0, [.ref (a 1), .ref (a 2), .ref (a 3), .ref (a 4), .ref (a 5), .ref (a 6), .ref (a 7), .ref (a 8), .ref (a 9)])), (a 1, .inr (2, [.ref (a 10), .int (nI 8), .int (nI 3), .int (nI n0)])), (a 10, .inl (tA 0, 40, .inl (nF c0))), (a 2, .inr (2, [.ref (a 11), .int (nI 10), .int (nI 4), .int (nI n1)])), (a 11, .inl (tA 0, 40, .inl (nF c1))), (a 3, .inr (2, [.ref (a 12), .int (nI 10), .int (nI 3), .int (nI n2)])), (a 12, .inl (tA 0, 40, .inl (nF c2))), (a 4, .inr (2, [.ref (a 13), .int (nI 8), .int (nI 3), .int (nI n3)])), (a 13, .inl (tA 0, 40, .inl (nF c3))), (a 5, .inr (2, [.ref (a 14), .int (nI 5), .int (nI 4), .int (nI n4)])), (a 14, .inl (tA 0, 40, .inl (nF c4))), (a 6, .inr (2, [.ref (a 15), .int (nI 8), .int (nI 2), .int (nI n5)])), (a 15, .inl (tA 0, 40, .inl (nF c5))), (a 7, .inl (tA 0, 5, .inl (nF hs))), (a 8, .inl (tA 0, 5, .inl (nF wf))), (a 9, .inl (tA 0, 40, .inl (nF wt)))]) 0 0 := by
  refine enterI (cc := cX0_worthOf) (maxL := 3) (ret := (some .int)) (by decide) rfl (Nat.le_of_ble_eq_true rfl) ?_
  intro p0 e0 s m args below meth c0_ A ls hx hb hml hr hts hown hlocks hin hKK hA hP hD hl hS
  have hown : s.vm.findClass RX0 = some m.cls := hown
  have hl : lv_has ls 3 [(0, .ref (a 0)), (1, .int (nI pp)), (2, .int (nI t))] := hl
  have n85 : (Cond.methodLinkNest "LentTerms$Counter" 85 ⟨"LentTerms", "isPerson", "(I)Z"⟩ "LentTerms").before args s = true := hKK.nest 17 rfl
  have f14 := hts (Cond.fieldLink RX0 14 "LentTerms$Counter" "terms" "LLentTerms$Rows;") (List.mem_of_getElem? (i := 1) rfl)
  have iX0 : ∀ w ∈ wsX00, w ∈ wsX0_worthOf := by decide +kernel
  have f42 := hts (Cond.fieldLink RX0 42 "LentTerms$Counter" "worth" "[I") (List.mem_of_getElem? (i := 2) rfl)
  obtain ⟨⟨hn0, hn1, hn2, hn3, hn4, hn5⟩, ⟨hb0, hb1, hb2, hb3, hb4, hb5, hbh, hbw, hbt⟩, hv0, hv1, hv2, hv3, hv4, hv5, hv6, hv7⟩ := id hCW
  refine lv_iload_n hx hb dX0_worthOf_0 rfl (lv_at hl 1 rfl) ?_
  refine roI hP hD hS hA [] rfl (runSN (As := [.int (nI pp)]) (rest := []) (isC := []) ⟨hx, hb, hml, hown, hts⟩ hKK hP hD rfl (by decide) (c_X8_isPerson l G tA (nI pp) ((pp : Nat) : Int) (nI_toIntC (by omega)) _) ⟨va_cnB 1 hts gX0_worthOf_X8_isPerson_n85 rfl rfl rfl (va_Nw.of rfl n85) (hts (.initialized RX8) (List.mem_of_getElem? (i := 4) rfl)) (by decide +kernel) ⟨Nat.le_of_ble_eq_true rfl, Nat.le_of_ble_eq_true rfl⟩, (hts (Cond.static yX8_isPerson) (List.mem_of_getElem? (i := 3) rfl)), trivial⟩ rfl rfl hl.1 rfl (lv_room (Nat.le_of_ble_eq_true rfl)) dX0_worthOf_1 ⟨Nat.le_of_ble_eq_true rfl, Nat.le_of_ble_eq_true rfl⟩) (fun _ => rfl) (fun r_1 u_2 H locs q_3 hP hS => ?_)
  rcases q_3 with ⟨rfl, p_4⟩ | ⟨rfl, p_4⟩
  · have p_4 : 0 ≤ ((pp : Nat) : Int) ∧ ((pp : Nat) : Int) < 5 := p_4
    refine nv_if_eq (tgt := 32) (by omega) hx hb dX0_worthOf_4 (by decide) (fun h => absurd h (by omega)) (fun _ => ?_)
    refine lv_aload_n hx hb dX0_worthOf_7 rfl (lv_at hl 0 rfl) ?_
    refine va_get (D := G) (ci := 0) (C := RX0) (T := TX0) (N := 9) hx hb hts iX0 hown hKK.1 hP 0 rfl rfl 0 (by decide) f14 (fun _ h9 => h9) rfl dX0_worthOf_8 ?_
    refine lv_iload_n hx hb dX0_worthOf_11 rfl (lv_at hl 2 rfl) ?_
    refine roI hP hD hS hA [1, 2] rfl (runV (As := [.int (nI t)]) (rest := []) (isC := [1, 2]) ⟨hx, hb, hml, hown, hts⟩ hKK hP hD rfl (by decide) (c_X4_holds l G tA (a 1) (a 10) 8 3 n0 c0 (nI t) ((t : Nat) : Int) (nI_toIntC (by omega)) (by omega) _) (cwV 1 hts gX0_worthOf_X4_holds rfl rfl rfl (by decide +kernel) ⟨Nat.le_of_ble_eq_true rfl, Nat.le_of_ble_eq_true rfl⟩) rfl rfl rfl rfl hl.1 rfl (lv_room (Nat.le_of_ble_eq_true rfl)) dX0_worthOf_12 ⟨Nat.le_of_ble_eq_true rfl, Nat.le_of_ble_eq_true rfl⟩) (fun _ => rfl) (fun r_6 u_7 H locs q_8 hP hS => ?_)
    rcases q_8 with ⟨rfl, p_9⟩ | ⟨rfl, p_9⟩
    · have p_9 : 0 ≤ ((t : Nat) : Int) ∧ ((t : Nat) : Int) < (n0 : Int) := p_9
      refine nv_if_eq (tgt := 32) (by omega) hx hb dX0_worthOf_15 (by decide) (fun h => absurd h (by omega)) (fun _ => ?_)
      refine lv_aload_n hx hb dX0_worthOf_18 rfl (lv_at hl 0 rfl) ?_
      refine va_get (D := G) (ci := 0) (C := RX0) (T := TX0) (N := 9) hx hb hts iX0 hown hKK.1 hP 0 rfl rfl 8 (by decide) f42 (fun _ h9 => h9) rfl dX0_worthOf_19 ?_
      refine lv_iload_n hx hb dX0_worthOf_22 rfl (lv_at hl 1 rfl) ?_
      refine lv_bipush (v := nI 8) hx hb dX0_worthOf_23 (by decide +kernel) ?_
      refine nv_imul hx hb dX0_worthOf_25 ?_
      refine lv_iload_n hx hb dX0_worthOf_26 rfl (lv_at hl 2 rfl) ?_
      refine nv_iadd hx hb dX0_worthOf_27 ?_
      refine nv_iald (i := (pp * 8) + t) hx hb hKK.1 hP 15 0 rfl rfl (by omega) (by decide) dX0_worthOf_28 ?_
      have b_11 := hbt ((pp * 8) + t)
      refine lv_goto (tgt := 33) hx hb dX0_worthOf_29 (by decide) ?_
      exact retI hx hb hr hlocks hS hP hD () (rfl) (⟨congrArg nI (show (wt ((pp * 8) + t) : Nat) = (if pp < 5 ∧ t < n0 then wt (pp * 8 + t) else 0) from by split <;> first | rfl | omega), by split; exact hbt _; omega⟩) dX0_worthOf_33
    · have p_9 : ¬ (0 ≤ ((t : Nat) : Int) ∧ ((t : Nat) : Int) < (n0 : Int)) := p_9
      refine nv_if_eq (tgt := 32) (by omega) hx hb dX0_worthOf_15 (by decide) (fun _ => ?_) (fun h => absurd h (by omega))
      refine lv_iconst (v := nI 0) hx hb dX0_worthOf_32 (by decide) ?_
      exact retI hx hb hr hlocks hS hP hD () (rfl) (⟨congrArg nI (show (0 : Nat) = (if pp < 5 ∧ t < n0 then wt (pp * 8 + t) else 0) from by split <;> first | rfl | omega), by split; exact hbt _; omega⟩) dX0_worthOf_33
  · have p_4 : ¬ (0 ≤ ((pp : Nat) : Int) ∧ ((pp : Nat) : Int) < 5) := p_4
    refine nv_if_eq (tgt := 32) (by omega) hx hb dX0_worthOf_4 (by decide) (fun _ => ?_) (fun h => absurd h (by omega))
    refine lv_iconst (v := nI 0) hx hb dX0_worthOf_32 (by decide) ?_
    exact retI hx hb hr hlocks hS hP hD () (rfl) (⟨congrArg nI (show (0 : Nat) = (if pp < 5 ∧ t < n0 then wt (pp * 8 + t) else 0) from by split <;> first | rfl | omega), by split; exact hbt _; omega⟩) dX0_worthOf_33

set_option maxHeartbeats 4000000 in
set_option maxRecDepth 100000 in
theorem c_X0_hasNow (l : Launch) (G : va_G) (tA : Nat → ClassId) (a : Nat → Nat) (n0 : Nat) (c0 : Nat → Nat) (n1 : Nat) (c1 : Nat → Nat) (n2 : Nat) (c2 : Nat → Nat) (n3 : Nat) (c3 : Nat → Nat) (n4 : Nat) (c4 : Nat → Nat) (n5 : Nat) (c5 : Nat → Nat) (hs : Nat → Nat) (wf : Nat → Nat) (wt : Nat → Nat) (pp : Nat) (hCW : CW n0 c0 n1 c1 n2 c2 n3 c3 n4 c4 n5 c5 hs wf wt) (hpp : pp < 1048576) : CtI l yX0_hasNow wsX0_hasNow ({ frames := 1, cells := 0, slots := 0, locals := 20 }) G tA [.ref (a 0), .int (nI pp)] ([(a 0, .inr (0, [.ref (a 1), .ref (a 2), .ref (a 3), .ref (a 4), .ref (a 5), .ref (a 6), .ref (a 7), .ref (a 8), .ref (a 9)])), (a 1, .inr (2, [.ref (a 10), .int (nI 8), .int (nI 3), .int (nI n0)])), (a 10, .inl (tA 0, 40, .inl (nF c0))), (a 2, .inr (2, [.ref (a 11), .int (nI 10), .int (nI 4), .int (nI n1)])), (a 11, .inl (tA 0, 40, .inl (nF c1))), (a 3, .inr (2, [.ref (a 12), .int (nI 10), .int (nI 3), .int (nI n2)])), (a 12, .inl (tA 0, 40, .inl (nF c2))), (a 4, .inr (2, [.ref (a 13), .int (nI 8), .int (nI 3), .int (nI n3)])), (a 13, .inl (tA 0, 40, .inl (nF c3))), (a 5, .inr (2, [.ref (a 14), .int (nI 5), .int (nI 4), .int (nI n4)])), (a 14, .inl (tA 0, 40, .inl (nF c4))), (a 6, .inr (2, [.ref (a 15), .int (nI 8), .int (nI 2), .int (nI n5)])), (a 15, .inl (tA 0, 40, .inl (nF c5))), (a 7, .inl (tA 0, 5, .inl (nF hs))), (a 8, .inl (tA 0, 5, .inl (nF wf))), (a 9, .inl (tA 0, 40, .inl (nF wt)))]) (fun (r : Int32) (_ : Unit) => r = nI (if pp < 5 then hs pp else 0) ∧ (if pp < 5 then hs pp else 0) < 1048576) (fun (_ : Unit) => [(a 0, .inr (0, [.ref (a 1), .ref (a 2), .ref (a 3), .ref (a 4), .ref (a 5), .ref (a 6), .ref (a 7), .ref (a 8), .ref (a 9)])), (a 1, .inr (2, [.ref (a 10), .int (nI 8), .int (nI 3), .int (nI n0)])), (a 10, .inl (tA 0, 40, .inl (nF c0))), (a 2, .inr (2, [.ref (a 11), .int (nI 10), .int (nI 4), .int (nI n1)])), (a 11, .inl (tA 0, 40, .inl (nF c1))), (a 3, .inr (2, [.ref (a 12), .int (nI 10), .int (nI 3), .int (nI n2)])), (a 12, .inl (tA 0, 40, .inl (nF c2))), (a 4, .inr (2, [.ref (a 13), .int (nI 8), .int (nI 3), .int (nI n3)])), (a 13, .inl (tA 0, 40, .inl (nF c3))), (a 5, .inr (2, [.ref (a 14), .int (nI 5), .int (nI 4), .int (nI n4)])), (a 14, .inl (tA 0, 40, .inl (nF c4))), (a 6, .inr (2, [.ref (a 15), .int (nI 8), .int (nI 2), .int (nI n5)])), (a 15, .inl (tA 0, 40, .inl (nF c5))), (a 7, .inl (tA 0, 5, .inl (nF hs))), (a 8, .inl (tA 0, 5, .inl (nF wf))), (a 9, .inl (tA 0, 40, .inl (nF wt)))]) 0 0 := by
  refine enterI (cc := cX0_hasNow) (maxL := 2) (ret := (some .int)) (by decide) rfl (Nat.le_of_ble_eq_true rfl) ?_
  intro p0 e0 s m args below meth c0_ A ls hx hb hml hr hts hown hlocks hin hKK hA hP hD hl hS
  have hown : s.vm.findClass RX0 = some m.cls := hown
  have hl : lv_has ls 2 [(0, .ref (a 0)), (1, .int (nI pp))] := hl
  have n85 : (Cond.methodLinkNest "LentTerms$Counter" 85 ⟨"LentTerms", "isPerson", "(I)Z"⟩ "LentTerms").before args s = true := hKK.nest 17 rfl
  have f35 := hts (Cond.fieldLink RX0 35 "LentTerms$Counter" "has" "[I") (List.mem_of_getElem? (i := 1) rfl)
  have iX0 : ∀ w ∈ wsX00, w ∈ wsX0_hasNow := by decide +kernel
  obtain ⟨⟨hn0, hn1, hn2, hn3, hn4, hn5⟩, ⟨hb0, hb1, hb2, hb3, hb4, hb5, hbh, hbw, hbt⟩, hv0, hv1, hv2, hv3, hv4, hv5, hv6, hv7⟩ := id hCW
  refine lv_iload_n hx hb dX0_hasNow_0 rfl (lv_at hl 1 rfl) ?_
  refine roI hP hD hS hA [] rfl (runSN (As := [.int (nI pp)]) (rest := []) (isC := []) ⟨hx, hb, hml, hown, hts⟩ hKK hP hD rfl (by decide) (c_X8_isPerson l G tA (nI pp) ((pp : Nat) : Int) (nI_toIntC (by omega)) _) ⟨va_cnB 1 hts gX0_hasNow_X8_isPerson_n85 rfl rfl rfl (va_Nw.of rfl n85) (hts (.initialized RX8) (List.mem_of_getElem? (i := 3) rfl)) (by decide +kernel) ⟨Nat.le_of_ble_eq_true rfl, Nat.le_of_ble_eq_true rfl⟩, (hts (Cond.static yX8_isPerson) (List.mem_of_getElem? (i := 2) rfl)), trivial⟩ rfl rfl hl.1 rfl (lv_room (Nat.le_of_ble_eq_true rfl)) dX0_hasNow_1 ⟨Nat.le_of_ble_eq_true rfl, Nat.le_of_ble_eq_true rfl⟩) (fun _ => rfl) (fun r_1 u_2 H locs q_3 hP hS => ?_)
  rcases q_3 with ⟨rfl, p_4⟩ | ⟨rfl, p_4⟩
  · have p_4 : 0 ≤ ((pp : Nat) : Int) ∧ ((pp : Nat) : Int) < 5 := p_4
    refine nv_if_eq (tgt := 16) (by omega) hx hb dX0_hasNow_4 (by decide) (fun h => absurd h (by omega)) (fun _ => ?_)
    refine lv_aload_n hx hb dX0_hasNow_7 rfl (lv_at hl 0 rfl) ?_
    refine va_get (D := G) (ci := 0) (C := RX0) (T := TX0) (N := 9) hx hb hts iX0 hown hKK.1 hP 0 rfl rfl 6 (by decide) f35 (fun _ h9 => h9) rfl dX0_hasNow_8 ?_
    refine lv_iload_n hx hb dX0_hasNow_11 rfl (lv_at hl 1 rfl) ?_
    refine nv_iald (i := pp) hx hb hKK.1 hP 13 0 rfl rfl (by omega) (by decide) dX0_hasNow_12 ?_
    have b_6 := hbh pp
    refine lv_goto (tgt := 17) hx hb dX0_hasNow_13 (by decide) ?_
    exact retI hx hb hr hlocks hS hP hD () (rfl) (⟨congrArg nI (show (hs pp : Nat) = (if pp < 5 then hs pp else 0) from by split <;> first | rfl | omega), by split; exact hbh _; omega⟩) dX0_hasNow_17
  · have p_4 : ¬ (0 ≤ ((pp : Nat) : Int) ∧ ((pp : Nat) : Int) < 5) := p_4
    refine nv_if_eq (tgt := 16) (by omega) hx hb dX0_hasNow_4 (by decide) (fun _ => ?_) (fun h => absurd h (by omega))
    refine lv_iconst (v := nI 0) hx hb dX0_hasNow_16 (by decide) ?_
    exact retI hx hb hr hlocks hS hP hD () (rfl) (⟨congrArg nI (show (0 : Nat) = (if pp < 5 then hs pp else 0) from by split <;> first | rfl | omega), by split; exact hbh _; omega⟩) dX0_hasNow_17

set_option maxHeartbeats 4000000 in
set_option maxRecDepth 100000 in
theorem c_X0_waitsNow (l : Launch) (G : va_G) (tA : Nat → ClassId) (a : Nat → Nat) (n0 : Nat) (c0 : Nat → Nat) (n1 : Nat) (c1 : Nat → Nat) (n2 : Nat) (c2 : Nat → Nat) (n3 : Nat) (c3 : Nat → Nat) (n4 : Nat) (c4 : Nat → Nat) (n5 : Nat) (c5 : Nat → Nat) (hs : Nat → Nat) (wf : Nat → Nat) (wt : Nat → Nat) (pp : Nat) (hCW : CW n0 c0 n1 c1 n2 c2 n3 c3 n4 c4 n5 c5 hs wf wt) (hpp : pp < 1048576) : CtI l yX0_waitsNow wsX0_waitsNow ({ frames := 1, cells := 0, slots := 0, locals := 20 }) G tA [.ref (a 0), .int (nI pp)] ([(a 0, .inr (0, [.ref (a 1), .ref (a 2), .ref (a 3), .ref (a 4), .ref (a 5), .ref (a 6), .ref (a 7), .ref (a 8), .ref (a 9)])), (a 1, .inr (2, [.ref (a 10), .int (nI 8), .int (nI 3), .int (nI n0)])), (a 10, .inl (tA 0, 40, .inl (nF c0))), (a 2, .inr (2, [.ref (a 11), .int (nI 10), .int (nI 4), .int (nI n1)])), (a 11, .inl (tA 0, 40, .inl (nF c1))), (a 3, .inr (2, [.ref (a 12), .int (nI 10), .int (nI 3), .int (nI n2)])), (a 12, .inl (tA 0, 40, .inl (nF c2))), (a 4, .inr (2, [.ref (a 13), .int (nI 8), .int (nI 3), .int (nI n3)])), (a 13, .inl (tA 0, 40, .inl (nF c3))), (a 5, .inr (2, [.ref (a 14), .int (nI 5), .int (nI 4), .int (nI n4)])), (a 14, .inl (tA 0, 40, .inl (nF c4))), (a 6, .inr (2, [.ref (a 15), .int (nI 8), .int (nI 2), .int (nI n5)])), (a 15, .inl (tA 0, 40, .inl (nF c5))), (a 7, .inl (tA 0, 5, .inl (nF hs))), (a 8, .inl (tA 0, 5, .inl (nF wf))), (a 9, .inl (tA 0, 40, .inl (nF wt)))]) (fun (r : Int32) (_ : Unit) => r = nI (if pp < 5 then wf pp else 0) ∧ (if pp < 5 then wf pp else 0) < 1048576) (fun (_ : Unit) => [(a 0, .inr (0, [.ref (a 1), .ref (a 2), .ref (a 3), .ref (a 4), .ref (a 5), .ref (a 6), .ref (a 7), .ref (a 8), .ref (a 9)])), (a 1, .inr (2, [.ref (a 10), .int (nI 8), .int (nI 3), .int (nI n0)])), (a 10, .inl (tA 0, 40, .inl (nF c0))), (a 2, .inr (2, [.ref (a 11), .int (nI 10), .int (nI 4), .int (nI n1)])), (a 11, .inl (tA 0, 40, .inl (nF c1))), (a 3, .inr (2, [.ref (a 12), .int (nI 10), .int (nI 3), .int (nI n2)])), (a 12, .inl (tA 0, 40, .inl (nF c2))), (a 4, .inr (2, [.ref (a 13), .int (nI 8), .int (nI 3), .int (nI n3)])), (a 13, .inl (tA 0, 40, .inl (nF c3))), (a 5, .inr (2, [.ref (a 14), .int (nI 5), .int (nI 4), .int (nI n4)])), (a 14, .inl (tA 0, 40, .inl (nF c4))), (a 6, .inr (2, [.ref (a 15), .int (nI 8), .int (nI 2), .int (nI n5)])), (a 15, .inl (tA 0, 40, .inl (nF c5))), (a 7, .inl (tA 0, 5, .inl (nF hs))), (a 8, .inl (tA 0, 5, .inl (nF wf))), (a 9, .inl (tA 0, 40, .inl (nF wt)))]) 0 0 := by
  refine enterI (cc := cX0_waitsNow) (maxL := 2) (ret := (some .int)) (by decide) rfl (Nat.le_of_ble_eq_true rfl) ?_
  intro p0 e0 s m args below meth c0_ A ls hx hb hml hr hts hown hlocks hin hKK hA hP hD hl hS
  have hown : s.vm.findClass RX0 = some m.cls := hown
  have hl : lv_has ls 2 [(0, .ref (a 0)), (1, .int (nI pp))] := hl
  have n85 : (Cond.methodLinkNest "LentTerms$Counter" 85 ⟨"LentTerms", "isPerson", "(I)Z"⟩ "LentTerms").before args s = true := hKK.nest 17 rfl
  have f39 := hts (Cond.fieldLink RX0 39 "LentTerms$Counter" "waitsFor" "[I") (List.mem_of_getElem? (i := 1) rfl)
  have iX0 : ∀ w ∈ wsX00, w ∈ wsX0_waitsNow := by decide +kernel
  obtain ⟨⟨hn0, hn1, hn2, hn3, hn4, hn5⟩, ⟨hb0, hb1, hb2, hb3, hb4, hb5, hbh, hbw, hbt⟩, hv0, hv1, hv2, hv3, hv4, hv5, hv6, hv7⟩ := id hCW
  refine lv_iload_n hx hb dX0_waitsNow_0 rfl (lv_at hl 1 rfl) ?_
  refine roI hP hD hS hA [] rfl (runSN (As := [.int (nI pp)]) (rest := []) (isC := []) ⟨hx, hb, hml, hown, hts⟩ hKK hP hD rfl (by decide) (c_X8_isPerson l G tA (nI pp) ((pp : Nat) : Int) (nI_toIntC (by omega)) _) ⟨va_cnB 1 hts gX0_waitsNow_X8_isPerson_n85 rfl rfl rfl (va_Nw.of rfl n85) (hts (.initialized RX8) (List.mem_of_getElem? (i := 3) rfl)) (by decide +kernel) ⟨Nat.le_of_ble_eq_true rfl, Nat.le_of_ble_eq_true rfl⟩, (hts (Cond.static yX8_isPerson) (List.mem_of_getElem? (i := 2) rfl)), trivial⟩ rfl rfl hl.1 rfl (lv_room (Nat.le_of_ble_eq_true rfl)) dX0_waitsNow_1 ⟨Nat.le_of_ble_eq_true rfl, Nat.le_of_ble_eq_true rfl⟩) (fun _ => rfl) (fun r_1 u_2 H locs q_3 hP hS => ?_)
  rcases q_3 with ⟨rfl, p_4⟩ | ⟨rfl, p_4⟩
  · have p_4 : 0 ≤ ((pp : Nat) : Int) ∧ ((pp : Nat) : Int) < 5 := p_4
    refine nv_if_eq (tgt := 16) (by omega) hx hb dX0_waitsNow_4 (by decide) (fun h => absurd h (by omega)) (fun _ => ?_)
    refine lv_aload_n hx hb dX0_waitsNow_7 rfl (lv_at hl 0 rfl) ?_
    refine va_get (D := G) (ci := 0) (C := RX0) (T := TX0) (N := 9) hx hb hts iX0 hown hKK.1 hP 0 rfl rfl 7 (by decide) f39 (fun _ h9 => h9) rfl dX0_waitsNow_8 ?_
    refine lv_iload_n hx hb dX0_waitsNow_11 rfl (lv_at hl 1 rfl) ?_
    refine nv_iald (i := pp) hx hb hKK.1 hP 14 0 rfl rfl (by omega) (by decide) dX0_waitsNow_12 ?_
    have b_6 := hbw pp
    refine lv_goto (tgt := 17) hx hb dX0_waitsNow_13 (by decide) ?_
    exact retI hx hb hr hlocks hS hP hD () (rfl) (⟨congrArg nI (show (wf pp : Nat) = (if pp < 5 then wf pp else 0) from by split <;> first | rfl | omega), by split; exact hbw _; omega⟩) dX0_waitsNow_17
  · have p_4 : ¬ (0 ≤ ((pp : Nat) : Int) ∧ ((pp : Nat) : Int) < 5) := p_4
    refine nv_if_eq (tgt := 16) (by omega) hx hb dX0_waitsNow_4 (by decide) (fun _ => ?_) (fun h => absurd h (by omega))
    refine lv_iconst (v := nI 0) hx hb dX0_waitsNow_16 (by decide) ?_
    exact retI hx hb hr hlocks hS hP hD () (rfl) (⟨congrArg nI (show (0 : Nat) = (if pp < 5 then wf pp else 0) from by split <;> first | rfl | omega), by split; exact hbw _; omega⟩) dX0_waitsNow_17

set_option maxHeartbeats 4000000 in
set_option maxRecDepth 100000 in
theorem c_X0_isOneAtATime (l : Launch) (G : va_G) (tA : Nat → ClassId) (a : Nat → Nat) (n0 : Nat) (c0 : Nat → Nat) (n1 : Nat) (c1 : Nat → Nat) (n2 : Nat) (c2 : Nat → Nat) (n3 : Nat) (c3 : Nat → Nat) (n4 : Nat) (c4 : Nat → Nat) (n5 : Nat) (c5 : Nat → Nat) (hs : Nat → Nat) (wf : Nat → Nat) (wt : Nat → Nat) (t : Nat) (hCW : CW n0 c0 n1 c1 n2 c2 n3 c3 n4 c4 n5 c5 hs wf wt) (ht : t < 1048576) : CtI l yX0_isOneAtATime wsX0_isOneAtATime ({ frames := 1, cells := 0, slots := 0, locals := 23 }) G tA [.ref (a 0), .int (nI t)] ([(a 0, .inr (0, [.ref (a 1), .ref (a 2), .ref (a 3), .ref (a 4), .ref (a 5), .ref (a 6), .ref (a 7), .ref (a 8), .ref (a 9)])), (a 1, .inr (2, [.ref (a 10), .int (nI 8), .int (nI 3), .int (nI n0)])), (a 10, .inl (tA 0, 40, .inl (nF c0))), (a 2, .inr (2, [.ref (a 11), .int (nI 10), .int (nI 4), .int (nI n1)])), (a 11, .inl (tA 0, 40, .inl (nF c1))), (a 3, .inr (2, [.ref (a 12), .int (nI 10), .int (nI 3), .int (nI n2)])), (a 12, .inl (tA 0, 40, .inl (nF c2))), (a 4, .inr (2, [.ref (a 13), .int (nI 8), .int (nI 3), .int (nI n3)])), (a 13, .inl (tA 0, 40, .inl (nF c3))), (a 5, .inr (2, [.ref (a 14), .int (nI 5), .int (nI 4), .int (nI n4)])), (a 14, .inl (tA 0, 40, .inl (nF c4))), (a 6, .inr (2, [.ref (a 15), .int (nI 8), .int (nI 2), .int (nI n5)])), (a 15, .inl (tA 0, 40, .inl (nF c5))), (a 7, .inl (tA 0, 5, .inl (nF hs))), (a 8, .inl (tA 0, 5, .inl (nF wf))), (a 9, .inl (tA 0, 40, .inl (nF wt)))]) (fun (r : Int32) (_ : Unit) => ((r = nI 1 ∧ (oneB (atS n0 3 c0 t 0) = true)) ∨ (r = nI 0 ∧ ¬ (oneB (atS n0 3 c0 t 0) = true)))) (fun (_ : Unit) => [(a 0, .inr (0, [.ref (a 1), .ref (a 2), .ref (a 3), .ref (a 4), .ref (a 5), .ref (a 6), .ref (a 7), .ref (a 8), .ref (a 9)])), (a 1, .inr (2, [.ref (a 10), .int (nI 8), .int (nI 3), .int (nI n0)])), (a 10, .inl (tA 0, 40, .inl (nF c0))), (a 2, .inr (2, [.ref (a 11), .int (nI 10), .int (nI 4), .int (nI n1)])), (a 11, .inl (tA 0, 40, .inl (nF c1))), (a 3, .inr (2, [.ref (a 12), .int (nI 10), .int (nI 3), .int (nI n2)])), (a 12, .inl (tA 0, 40, .inl (nF c2))), (a 4, .inr (2, [.ref (a 13), .int (nI 8), .int (nI 3), .int (nI n3)])), (a 13, .inl (tA 0, 40, .inl (nF c3))), (a 5, .inr (2, [.ref (a 14), .int (nI 5), .int (nI 4), .int (nI n4)])), (a 14, .inl (tA 0, 40, .inl (nF c4))), (a 6, .inr (2, [.ref (a 15), .int (nI 8), .int (nI 2), .int (nI n5)])), (a 15, .inl (tA 0, 40, .inl (nF c5))), (a 7, .inl (tA 0, 5, .inl (nF hs))), (a 8, .inl (tA 0, 5, .inl (nF wf))), (a 9, .inl (tA 0, 40, .inl (nF wt)))]) 0 0 := by
  refine enterI (cc := cX0_isOneAtATime) (maxL := 2) (ret := (some .boolean)) (by decide) rfl (Nat.le_of_ble_eq_true rfl) ?_
  intro p0 e0 s m args below meth c0_ A ls hx hb hml hr hts hown hlocks hin hKK hA hP hD hl hS
  have hown : s.vm.findClass RX0 = some m.cls := hown
  have hl : lv_has ls 2 [(0, .ref (a 0)), (1, .int (nI t))] := hl
  have f14 := hts (Cond.fieldLink RX0 14 "LentTerms$Counter" "terms" "LLentTerms$Rows;") (List.mem_of_getElem? (i := 1) rfl)
  have iX0 : ∀ w ∈ wsX00, w ∈ wsX0_isOneAtATime := by decide +kernel
  obtain ⟨⟨hn0, hn1, hn2, hn3, hn4, hn5⟩, ⟨hb0, hb1, hb2, hb3, hb4, hb5, hbh, hbw, hbt⟩, hv0, hv1, hv2, hv3, hv4, hv5, hv6, hv7⟩ := id hCW
  refine lv_aload_n hx hb dX0_isOneAtATime_0 rfl (lv_at hl 0 rfl) ?_
  refine va_get (D := G) (ci := 0) (C := RX0) (T := TX0) (N := 9) hx hb hts iX0 hown hKK.1 hP 0 rfl rfl 0 (by decide) f14 (fun _ h9 => h9) rfl dX0_isOneAtATime_1 ?_
  refine lv_iload_n hx hb dX0_isOneAtATime_4 rfl (lv_at hl 1 rfl) ?_
  refine lv_iconst (v := nI 0) hx hb dX0_isOneAtATime_5 (by decide) ?_
  refine roI hP hD hS hA [1, 2] rfl (runV (As := [.int (nI t), .int (nI 0)]) (rest := []) (isC := [1, 2]) ⟨hx, hb, hml, hown, hts⟩ hKK hP hD rfl (by decide) (c_X4_at l G tA (a 1) (a 10) 8 3 n0 c0 t 0 (by omega) (by omega) (by omega) (by omega) _) (cwV 2 hts gX0_isOneAtATime_X4_at rfl rfl rfl (by decide +kernel) ⟨Nat.le_of_ble_eq_true rfl, Nat.le_of_ble_eq_true rfl⟩) rfl rfl rfl rfl hl.1 rfl (lv_room (Nat.le_of_ble_eq_true rfl)) dX0_isOneAtATime_6 ⟨Nat.le_of_ble_eq_true rfl, Nat.le_of_ble_eq_true rfl⟩) (fun _ => rfl) (fun r_1 u_2 H locs q_3 hP hS => ?_)
  subst q_3
  refine roI hP hD hS hA [] rfl (runS (As := [.int (nI (atS n0 3 c0 t 0))]) (rest := []) (isC := []) ⟨hx, hb, hml, hown, hts⟩ hKK hP hD rfl (by decide) (c_X2_isOneAtATime l G tA (atS n0 3 c0 t 0) (atS_lt hb0 t 0) _) (va_cwS 1 hts gX0_isOneAtATime_X2_isOneAtATime rfl rfl rfl (by decide +kernel) ⟨Nat.le_of_ble_eq_true rfl, Nat.le_of_ble_eq_true rfl⟩) rfl rfl hl.1 rfl (lv_room (Nat.le_of_ble_eq_true rfl)) dX0_isOneAtATime_9 ⟨Nat.le_of_ble_eq_true rfl, Nat.le_of_ble_eq_true rfl⟩) (fun _ => rfl) (fun r_4 u_5 H locs q_6 hP hS => ?_)
  rcases q_6 with ⟨rfl, p_7⟩ | ⟨rfl, p_7⟩
  · have p_7 : (atS n0 3 c0 t 0) = 2 ∨ (atS n0 3 c0 t 0) = 4 ∨ (atS n0 3 c0 t 0) = 5 := p_7
    exact retZ (ty := .boolean) hx hb hr rfl hlocks hS hP hD () (rfl) (Or.inl ⟨rfl, by simp only [oneB, decide_eq_true_eq]; assumption⟩) dX0_isOneAtATime_12
  · have p_7 : ¬ ((atS n0 3 c0 t 0) = 2 ∨ (atS n0 3 c0 t 0) = 4 ∨ (atS n0 3 c0 t 0) = 5) := p_7
    exact retZ (ty := .boolean) hx hb hr rfl hlocks hS hP hD () (rfl) (Or.inr ⟨rfl, by simp only [oneB, decide_eq_true_eq]; assumption⟩) dX0_isOneAtATime_12

theorem mayS_le {n0 : Nat} {c0 : Nat → Nat} (h : ∀ q, q < n0 → c0 (q * 4 + 0) < 6 ∧ 1 ≤ c0 (q * 4 + 1) ∧ c0 (q * 4 + 1) ≤ 3 ∧ c0 (q * 4 + 2) ≤ 9) (t : Nat) : mayS n0 c0 t ≤ 3 := by
  unfold mayS
  split
  · omega
  · unfold atS; split
    · rename_i h2; exact (h t h2.1).2.2.1
    · omega

set_option maxHeartbeats 4000000 in
set_option maxRecDepth 100000 in
theorem c_X0_mayHave (l : Launch) (G : va_G) (tA : Nat → ClassId) (a : Nat → Nat) (n0 : Nat) (c0 : Nat → Nat) (n1 : Nat) (c1 : Nat → Nat) (n2 : Nat) (c2 : Nat → Nat) (n3 : Nat) (c3 : Nat → Nat) (n4 : Nat) (c4 : Nat → Nat) (n5 : Nat) (c5 : Nat → Nat) (hs : Nat → Nat) (wf : Nat → Nat) (wt : Nat → Nat) (t : Nat) (hCW : CW n0 c0 n1 c1 n2 c2 n3 c3 n4 c4 n5 c5 hs wf wt) (ht : t < 1048576) : CtI l yX0_mayHave wsX0_mayHave ({ frames := 2, cells := 0, slots := 0, locals := 44 }) G tA [.ref (a 0), .int (nI t)] ([(a 0, .inr (0, [.ref (a 1), .ref (a 2), .ref (a 3), .ref (a 4), .ref (a 5), .ref (a 6), .ref (a 7), .ref (a 8), .ref (a 9)])), (a 1, .inr (2, [.ref (a 10), .int (nI 8), .int (nI 3), .int (nI n0)])), (a 10, .inl (tA 0, 40, .inl (nF c0))), (a 2, .inr (2, [.ref (a 11), .int (nI 10), .int (nI 4), .int (nI n1)])), (a 11, .inl (tA 0, 40, .inl (nF c1))), (a 3, .inr (2, [.ref (a 12), .int (nI 10), .int (nI 3), .int (nI n2)])), (a 12, .inl (tA 0, 40, .inl (nF c2))), (a 4, .inr (2, [.ref (a 13), .int (nI 8), .int (nI 3), .int (nI n3)])), (a 13, .inl (tA 0, 40, .inl (nF c3))), (a 5, .inr (2, [.ref (a 14), .int (nI 5), .int (nI 4), .int (nI n4)])), (a 14, .inl (tA 0, 40, .inl (nF c4))), (a 6, .inr (2, [.ref (a 15), .int (nI 8), .int (nI 2), .int (nI n5)])), (a 15, .inl (tA 0, 40, .inl (nF c5))), (a 7, .inl (tA 0, 5, .inl (nF hs))), (a 8, .inl (tA 0, 5, .inl (nF wf))), (a 9, .inl (tA 0, 40, .inl (nF wt)))]) (fun (r : Int32) (_ : Unit) => r = nI (mayS n0 c0 t) ∧ mayS n0 c0 t ≤ 3) (fun (_ : Unit) => [(a 0, .inr (0, [.ref (a 1), .ref (a 2), .ref (a 3), .ref (a 4), .ref (a 5), .ref (a 6), .ref (a 7), .ref (a 8), .ref (a 9)])), (a 1, .inr (2, [.ref (a 10), .int (nI 8), .int (nI 3), .int (nI n0)])), (a 10, .inl (tA 0, 40, .inl (nF c0))), (a 2, .inr (2, [.ref (a 11), .int (nI 10), .int (nI 4), .int (nI n1)])), (a 11, .inl (tA 0, 40, .inl (nF c1))), (a 3, .inr (2, [.ref (a 12), .int (nI 10), .int (nI 3), .int (nI n2)])), (a 12, .inl (tA 0, 40, .inl (nF c2))), (a 4, .inr (2, [.ref (a 13), .int (nI 8), .int (nI 3), .int (nI n3)])), (a 13, .inl (tA 0, 40, .inl (nF c3))), (a 5, .inr (2, [.ref (a 14), .int (nI 5), .int (nI 4), .int (nI n4)])), (a 14, .inl (tA 0, 40, .inl (nF c4))), (a 6, .inr (2, [.ref (a 15), .int (nI 8), .int (nI 2), .int (nI n5)])), (a 15, .inl (tA 0, 40, .inl (nF c5))), (a 7, .inl (tA 0, 5, .inl (nF hs))), (a 8, .inl (tA 0, 5, .inl (nF wf))), (a 9, .inl (tA 0, 40, .inl (nF wt)))]) 0 0 := by
  refine enterI (cc := cX0_mayHave) (maxL := 2) (ret := (some .int)) (by decide) rfl (Nat.le_of_ble_eq_true rfl) ?_
  intro p0 e0 s m args below meth c0_ A ls hx hb hml hr hts hown hlocks hin hKK hA hP hD hl hS
  have hown : s.vm.findClass RX0 = some m.cls := hown
  have hl : lv_has ls 2 [(0, .ref (a 0)), (1, .int (nI t))] := hl
  have f14 := hts (Cond.fieldLink RX0 14 "LentTerms$Counter" "terms" "LLentTerms$Rows;") (List.mem_of_getElem? (i := 1) rfl)
  have iX0 : ∀ w ∈ wsX00, w ∈ wsX0_mayHave := by decide +kernel
  obtain ⟨⟨hn0, hn1, hn2, hn3, hn4, hn5⟩, ⟨hb0, hb1, hb2, hb3, hb4, hb5, hbh, hbw, hbt⟩, hv0, hv1, hv2, hv3, hv4, hv5, hv6, hv7⟩ := id hCW
  refine lv_aload_n hx hb dX0_mayHave_0 rfl (lv_at hl 0 rfl) ?_
  refine va_get (D := G) (ci := 0) (C := RX0) (T := TX0) (N := 9) hx hb hts iX0 hown hKK.1 hP 0 rfl rfl 0 (by decide) f14 (fun _ h9 => h9) rfl dX0_mayHave_1 ?_
  refine lv_iload_n hx hb dX0_mayHave_4 rfl (lv_at hl 1 rfl) ?_
  refine roI hP hD hS hA [1, 2] rfl (runV (As := [.int (nI t)]) (rest := []) (isC := [1, 2]) ⟨hx, hb, hml, hown, hts⟩ hKK hP hD rfl (by decide) (c_X4_holds l G tA (a 1) (a 10) 8 3 n0 c0 (nI t) ((t : Nat) : Int) (nI_toIntC (by omega)) (by omega) _) (cwV 1 hts gX0_mayHave_X4_holds rfl rfl rfl (by decide +kernel) ⟨Nat.le_of_ble_eq_true rfl, Nat.le_of_ble_eq_true rfl⟩) rfl rfl rfl rfl hl.1 rfl (lv_room (Nat.le_of_ble_eq_true rfl)) dX0_mayHave_5 ⟨Nat.le_of_ble_eq_true rfl, Nat.le_of_ble_eq_true rfl⟩) (fun _ => rfl) (fun r_1 u_2 H locs q_3 hP hS => ?_)
  rcases q_3 with ⟨rfl, p_4⟩ | ⟨rfl, p_4⟩
  · have p_4 : 0 ≤ ((t : Nat) : Int) ∧ ((t : Nat) : Int) < (n0 : Int) := p_4
    refine nv_if_eq (tgt := 23) (by omega) hx hb dX0_mayHave_8 (by decide) (fun h => absurd h (by omega)) (fun _ => ?_)
    refine lv_aload_n hx hb dX0_mayHave_11 rfl (lv_at hl 0 rfl) ?_
    refine lv_iload_n hx hb dX0_mayHave_12 rfl (lv_at hl 1 rfl) ?_
    refine roI hP hD hS hA [0, 1, 2, 3, 4, 5, 6, 7, 8, 9, 10, 11, 12, 13, 14, 15] rfl (runV (As := [.int (nI t)]) (rest := []) (isC := [0, 1, 2, 3, 4, 5, 6, 7, 8, 9, 10, 11, 12, 13, 14, 15]) ⟨hx, hb, hml, hown, hts⟩ hKK hP hD rfl (by decide) (c_X0_isOneAtATime l G tA a n0 c0 n1 c1 n2 c2 n3 c3 n4 c4 n5 c5 hs wf wt t (hCW) (by first | assumption | omega) _) (cwV 1 hts gX0_mayHave_X0_isOneAtATime rfl rfl rfl (by decide +kernel) ⟨Nat.le_of_ble_eq_true rfl, Nat.le_of_ble_eq_true rfl⟩) rfl rfl rfl rfl hl.1 rfl (lv_room (Nat.le_of_ble_eq_true rfl)) dX0_mayHave_13 ⟨Nat.le_of_ble_eq_true rfl, Nat.le_of_ble_eq_true rfl⟩) (fun _ => rfl) (fun r_6 u_7 H locs q_8 hP hS => ?_)
    rcases q_8 with ⟨rfl, p_9⟩ | ⟨rfl, p_9⟩
    · have p_9 : oneB (atS n0 3 c0 t 0) = true := p_9
      refine nv_if_eq (tgt := 23) (by omega) hx hb dX0_mayHave_16 (by decide) (fun h => absurd h (by omega)) (fun _ => ?_)
      refine lv_iconst (v := nI 1) hx hb dX0_mayHave_19 (by decide) ?_
      refine lv_goto (tgt := 32) hx hb dX0_mayHave_20 (by decide) ?_
      exact retI hx hb hr hlocks hS hP hD () (rfl) (⟨congrArg nI (show (1 : Nat) = mayS n0 c0 t from by unfold mayS; first | rw [if_pos ⟨by omega, by assumption⟩] | rw [if_neg (by omega)] | rw [if_neg (fun q => by have := q.2; contradiction)]), mayS_le hv0 t⟩) dX0_mayHave_32
    · have p_9 : ¬ (oneB (atS n0 3 c0 t 0) = true) := p_9
      refine nv_if_eq (tgt := 23) (by omega) hx hb dX0_mayHave_16 (by decide) (fun _ => ?_) (fun h => absurd h (by omega))
      refine lv_aload_n hx hb dX0_mayHave_23 rfl (lv_at hl 0 rfl) ?_
      refine va_get (D := G) (ci := 0) (C := RX0) (T := TX0) (N := 9) hx hb hts iX0 hown hKK.1 hP 0 rfl rfl 0 (by decide) f14 (fun _ h9 => h9) rfl dX0_mayHave_24 ?_
      refine lv_iload_n hx hb dX0_mayHave_27 rfl (lv_at hl 1 rfl) ?_
      refine lv_iconst (v := nI 1) hx hb dX0_mayHave_28 (by decide) ?_
      refine roI hP hD hS hA [1, 2] rfl (runV (As := [.int (nI t), .int (nI 1)]) (rest := []) (isC := [1, 2]) ⟨hx, hb, hml, hown, hts⟩ hKK hP hD rfl (by decide) (c_X4_at l G tA (a 1) (a 10) 8 3 n0 c0 t 1 (by omega) (by omega) (by omega) (by omega) _) (cwV 2 hts gX0_mayHave_X4_at rfl rfl rfl (by decide +kernel) ⟨Nat.le_of_ble_eq_true rfl, Nat.le_of_ble_eq_true rfl⟩) rfl rfl rfl rfl hl.1 rfl (lv_room (Nat.le_of_ble_eq_true rfl)) dX0_mayHave_29 ⟨Nat.le_of_ble_eq_true rfl, Nat.le_of_ble_eq_true rfl⟩) (fun _ => rfl) (fun r_12 u_13 H locs q_14 hP hS => ?_)
      subst q_14
      exact retI hx hb hr hlocks hS hP hD () (rfl) (⟨congrArg nI (show (atS n0 3 c0 t 1 : Nat) = mayS n0 c0 t from by unfold mayS; first | rw [if_pos ⟨by omega, by assumption⟩] | rw [if_neg (by omega)] | rw [if_neg (fun q => by have := q.2; contradiction)]), mayS_le hv0 t⟩) dX0_mayHave_32
  · have p_4 : ¬ (0 ≤ ((t : Nat) : Int) ∧ ((t : Nat) : Int) < (n0 : Int)) := p_4
    refine nv_if_eq (tgt := 23) (by omega) hx hb dX0_mayHave_8 (by decide) (fun _ => ?_) (fun h => absurd h (by omega))
    refine lv_aload_n hx hb dX0_mayHave_23 rfl (lv_at hl 0 rfl) ?_
    refine va_get (D := G) (ci := 0) (C := RX0) (T := TX0) (N := 9) hx hb hts iX0 hown hKK.1 hP 0 rfl rfl 0 (by decide) f14 (fun _ h9 => h9) rfl dX0_mayHave_24 ?_
    refine lv_iload_n hx hb dX0_mayHave_27 rfl (lv_at hl 1 rfl) ?_
    refine lv_iconst (v := nI 1) hx hb dX0_mayHave_28 (by decide) ?_
    refine roI hP hD hS hA [1, 2] rfl (runV (As := [.int (nI t), .int (nI 1)]) (rest := []) (isC := [1, 2]) ⟨hx, hb, hml, hown, hts⟩ hKK hP hD rfl (by decide) (c_X4_at l G tA (a 1) (a 10) 8 3 n0 c0 t 1 (by omega) (by omega) (by omega) (by omega) _) (cwV 2 hts gX0_mayHave_X4_at rfl rfl rfl (by decide +kernel) ⟨Nat.le_of_ble_eq_true rfl, Nat.le_of_ble_eq_true rfl⟩) rfl rfl rfl rfl hl.1 rfl (lv_room (Nat.le_of_ble_eq_true rfl)) dX0_mayHave_29 ⟨Nat.le_of_ble_eq_true rfl, Nat.le_of_ble_eq_true rfl⟩) (fun _ => rfl) (fun r_16 u_17 H locs q_18 hP hS => ?_)
    subst q_18
    exact retI hx hb hr hlocks hS hP hD () (rfl) (⟨congrArg nI (show (atS n0 3 c0 t 1 : Nat) = mayS n0 c0 t from by unfold mayS; first | rw [if_pos ⟨by omega, by assumption⟩] | rw [if_neg (by omega)] | rw [if_neg (fun q => by have := q.2; contradiction)]), mayS_le hv0 t⟩) dX0_mayHave_32

set_option maxHeartbeats 4000000 in
set_option maxRecDepth 100000 in
theorem c_X0_longest (l : Launch) (G : va_G) (tA : Nat → ClassId) (a : Nat → Nat) (n0 : Nat) (c0 : Nat → Nat) (n1 : Nat) (c1 : Nat → Nat) (n2 : Nat) (c2 : Nat → Nat) (n3 : Nat) (c3 : Nat → Nat) (n4 : Nat) (c4 : Nat → Nat) (n5 : Nat) (c5 : Nat → Nat) (hs : Nat → Nat) (wf : Nat → Nat) (wt : Nat → Nat) (t : Nat) (hCW : CW n0 c0 n1 c1 n2 c2 n3 c3 n4 c4 n5 c5 hs wf wt) (ht : t < 1048576) : CtI l yX0_longest wsX0_longest ({ frames := 1, cells := 0, slots := 0, locals := 23 }) G tA [.ref (a 0), .int (nI t)] ([(a 0, .inr (0, [.ref (a 1), .ref (a 2), .ref (a 3), .ref (a 4), .ref (a 5), .ref (a 6), .ref (a 7), .ref (a 8), .ref (a 9)])), (a 1, .inr (2, [.ref (a 10), .int (nI 8), .int (nI 3), .int (nI n0)])), (a 10, .inl (tA 0, 40, .inl (nF c0))), (a 2, .inr (2, [.ref (a 11), .int (nI 10), .int (nI 4), .int (nI n1)])), (a 11, .inl (tA 0, 40, .inl (nF c1))), (a 3, .inr (2, [.ref (a 12), .int (nI 10), .int (nI 3), .int (nI n2)])), (a 12, .inl (tA 0, 40, .inl (nF c2))), (a 4, .inr (2, [.ref (a 13), .int (nI 8), .int (nI 3), .int (nI n3)])), (a 13, .inl (tA 0, 40, .inl (nF c3))), (a 5, .inr (2, [.ref (a 14), .int (nI 5), .int (nI 4), .int (nI n4)])), (a 14, .inl (tA 0, 40, .inl (nF c4))), (a 6, .inr (2, [.ref (a 15), .int (nI 8), .int (nI 2), .int (nI n5)])), (a 15, .inl (tA 0, 40, .inl (nF c5))), (a 7, .inl (tA 0, 5, .inl (nF hs))), (a 8, .inl (tA 0, 5, .inl (nF wf))), (a 9, .inl (tA 0, 40, .inl (nF wt)))]) (fun (r : Int32) (_ : Unit) => r = nI (longS (atS n0 3 c0 t 0)) ∧ longS (atS n0 3 c0 t 0) ≤ 24) (fun (_ : Unit) => [(a 0, .inr (0, [.ref (a 1), .ref (a 2), .ref (a 3), .ref (a 4), .ref (a 5), .ref (a 6), .ref (a 7), .ref (a 8), .ref (a 9)])), (a 1, .inr (2, [.ref (a 10), .int (nI 8), .int (nI 3), .int (nI n0)])), (a 10, .inl (tA 0, 40, .inl (nF c0))), (a 2, .inr (2, [.ref (a 11), .int (nI 10), .int (nI 4), .int (nI n1)])), (a 11, .inl (tA 0, 40, .inl (nF c1))), (a 3, .inr (2, [.ref (a 12), .int (nI 10), .int (nI 3), .int (nI n2)])), (a 12, .inl (tA 0, 40, .inl (nF c2))), (a 4, .inr (2, [.ref (a 13), .int (nI 8), .int (nI 3), .int (nI n3)])), (a 13, .inl (tA 0, 40, .inl (nF c3))), (a 5, .inr (2, [.ref (a 14), .int (nI 5), .int (nI 4), .int (nI n4)])), (a 14, .inl (tA 0, 40, .inl (nF c4))), (a 6, .inr (2, [.ref (a 15), .int (nI 8), .int (nI 2), .int (nI n5)])), (a 15, .inl (tA 0, 40, .inl (nF c5))), (a 7, .inl (tA 0, 5, .inl (nF hs))), (a 8, .inl (tA 0, 5, .inl (nF wf))), (a 9, .inl (tA 0, 40, .inl (nF wt)))]) 0 0 := by
  refine enterI (cc := cX0_longest) (maxL := 2) (ret := (some .int)) (by decide) rfl (Nat.le_of_ble_eq_true rfl) ?_
  intro p0 e0 s m args below meth c0_ A ls hx hb hml hr hts hown hlocks hin hKK hA hP hD hl hS
  have hown : s.vm.findClass RX0 = some m.cls := hown
  have hl : lv_has ls 2 [(0, .ref (a 0)), (1, .int (nI t))] := hl
  have f14 := hts (Cond.fieldLink RX0 14 "LentTerms$Counter" "terms" "LLentTerms$Rows;") (List.mem_of_getElem? (i := 1) rfl)
  have iX0 : ∀ w ∈ wsX00, w ∈ wsX0_longest := by decide +kernel
  obtain ⟨⟨hn0, hn1, hn2, hn3, hn4, hn5⟩, ⟨hb0, hb1, hb2, hb3, hb4, hb5, hbh, hbw, hbt⟩, hv0, hv1, hv2, hv3, hv4, hv5, hv6, hv7⟩ := id hCW
  refine lv_aload_n hx hb dX0_longest_0 rfl (lv_at hl 0 rfl) ?_
  refine va_get (D := G) (ci := 0) (C := RX0) (T := TX0) (N := 9) hx hb hts iX0 hown hKK.1 hP 0 rfl rfl 0 (by decide) f14 (fun _ h9 => h9) rfl dX0_longest_1 ?_
  refine lv_iload_n hx hb dX0_longest_4 rfl (lv_at hl 1 rfl) ?_
  refine lv_iconst (v := nI 0) hx hb dX0_longest_5 (by decide) ?_
  refine roI hP hD hS hA [1, 2] rfl (runV (As := [.int (nI t), .int (nI 0)]) (rest := []) (isC := [1, 2]) ⟨hx, hb, hml, hown, hts⟩ hKK hP hD rfl (by decide) (c_X4_at l G tA (a 1) (a 10) 8 3 n0 c0 t 0 (by omega) (by omega) (by omega) (by omega) _) (cwV 2 hts gX0_longest_X4_at rfl rfl rfl (by decide +kernel) ⟨Nat.le_of_ble_eq_true rfl, Nat.le_of_ble_eq_true rfl⟩) rfl rfl rfl rfl hl.1 rfl (lv_room (Nat.le_of_ble_eq_true rfl)) dX0_longest_6 ⟨Nat.le_of_ble_eq_true rfl, Nat.le_of_ble_eq_true rfl⟩) (fun _ => rfl) (fun r_1 u_2 H locs q_3 hP hS => ?_)
  subst q_3
  refine roI hP hD hS hA [] rfl (runS (As := [.int (nI (atS n0 3 c0 t 0))]) (rest := []) (isC := []) ⟨hx, hb, hml, hown, hts⟩ hKK hP hD rfl (by decide) (c_X2_longest l G tA (atS n0 3 c0 t 0) (atS_lt hb0 t 0) _) (va_cwS 1 hts gX0_longest_X2_longest rfl rfl rfl (by decide +kernel) ⟨Nat.le_of_ble_eq_true rfl, Nat.le_of_ble_eq_true rfl⟩) rfl rfl hl.1 rfl (lv_room (Nat.le_of_ble_eq_true rfl)) dX0_longest_9 ⟨Nat.le_of_ble_eq_true rfl, Nat.le_of_ble_eq_true rfl⟩) (fun _ => rfl) (fun r_4 u_5 H locs q_6 hP hS => ?_)
  obtain ⟨rfl, e_7⟩ := q_6
  have e_7 : longS (atS n0 3 c0 t 0) ≤ 24 := e_7
  exact retI hx hb hr hlocks hS hP hD () (rfl) (⟨congrArg nI (show (longS (atS n0 3 c0 t 0) : Nat) = longS (atS n0 3 c0 t 0) from rfl), longS_le _⟩) dX0_longest_12

set_option maxHeartbeats 4000000 in
set_option maxRecDepth 100000 in
theorem c_X0_price (l : Launch) (G : va_G) (tA : Nat → ClassId) (a : Nat → Nat) (n0 : Nat) (c0 : Nat → Nat) (n1 : Nat) (c1 : Nat → Nat) (n2 : Nat) (c2 : Nat → Nat) (n3 : Nat) (c3 : Nat → Nat) (n4 : Nat) (c4 : Nat → Nat) (n5 : Nat) (c5 : Nat → Nat) (hs : Nat → Nat) (wf : Nat → Nat) (wt : Nat → Nat) (t : Nat) (h : Nat) (hCW : CW n0 c0 n1 c1 n2 c2 n3 c3 n4 c4 n5 c5 hs wf wt) (ht : t < n0) (hh : h ≤ 24) : CtI l yX0_price wsX0_price ({ frames := 2, cells := 0, slots := 0, locals := 43 }) G tA [.ref (a 0), .int (nI t), .int (nI h)] ([(a 0, .inr (0, [.ref (a 1), .ref (a 2), .ref (a 3), .ref (a 4), .ref (a 5), .ref (a 6), .ref (a 7), .ref (a 8), .ref (a 9)])), (a 1, .inr (2, [.ref (a 10), .int (nI 8), .int (nI 3), .int (nI n0)])), (a 10, .inl (tA 0, 40, .inl (nF c0))), (a 2, .inr (2, [.ref (a 11), .int (nI 10), .int (nI 4), .int (nI n1)])), (a 11, .inl (tA 0, 40, .inl (nF c1))), (a 3, .inr (2, [.ref (a 12), .int (nI 10), .int (nI 3), .int (nI n2)])), (a 12, .inl (tA 0, 40, .inl (nF c2))), (a 4, .inr (2, [.ref (a 13), .int (nI 8), .int (nI 3), .int (nI n3)])), (a 13, .inl (tA 0, 40, .inl (nF c3))), (a 5, .inr (2, [.ref (a 14), .int (nI 5), .int (nI 4), .int (nI n4)])), (a 14, .inl (tA 0, 40, .inl (nF c4))), (a 6, .inr (2, [.ref (a 15), .int (nI 8), .int (nI 2), .int (nI n5)])), (a 15, .inl (tA 0, 40, .inl (nF c5))), (a 7, .inl (tA 0, 5, .inl (nF hs))), (a 8, .inl (tA 0, 5, .inl (nF wf))), (a 9, .inl (tA 0, 40, .inl (nF wt)))]) (fun (r : Int32) (_ : Unit) => r = nI (costS (c0 (t * 4 + 0)) (c0 (t * 4 + 2)) h) ∧ costS (c0 (t * 4 + 0)) (c0 (t * 4 + 2)) h < 150994936) (fun (_ : Unit) => [(a 0, .inr (0, [.ref (a 1), .ref (a 2), .ref (a 3), .ref (a 4), .ref (a 5), .ref (a 6), .ref (a 7), .ref (a 8), .ref (a 9)])), (a 1, .inr (2, [.ref (a 10), .int (nI 8), .int (nI 3), .int (nI n0)])), (a 10, .inl (tA 0, 40, .inl (nF c0))), (a 2, .inr (2, [.ref (a 11), .int (nI 10), .int (nI 4), .int (nI n1)])), (a 11, .inl (tA 0, 40, .inl (nF c1))), (a 3, .inr (2, [.ref (a 12), .int (nI 10), .int (nI 3), .int (nI n2)])), (a 12, .inl (tA 0, 40, .inl (nF c2))), (a 4, .inr (2, [.ref (a 13), .int (nI 8), .int (nI 3), .int (nI n3)])), (a 13, .inl (tA 0, 40, .inl (nF c3))), (a 5, .inr (2, [.ref (a 14), .int (nI 5), .int (nI 4), .int (nI n4)])), (a 14, .inl (tA 0, 40, .inl (nF c4))), (a 6, .inr (2, [.ref (a 15), .int (nI 8), .int (nI 2), .int (nI n5)])), (a 15, .inl (tA 0, 40, .inl (nF c5))), (a 7, .inl (tA 0, 5, .inl (nF hs))), (a 8, .inl (tA 0, 5, .inl (nF wf))), (a 9, .inl (tA 0, 40, .inl (nF wt)))]) 0 0 := by
  refine enterI (cc := cX0_price) (maxL := 3) (ret := (some .int)) (by decide) rfl (Nat.le_of_ble_eq_true rfl) ?_
  intro p0 e0 s m args below meth c0_ A ls hx hb hml hr hts hown hlocks hin hKK hA hP hD hl hS
  have hown : s.vm.findClass RX0 = some m.cls := hown
  have hl : lv_has ls 3 [(0, .ref (a 0)), (1, .int (nI t)), (2, .int (nI h))] := hl
  have f14 := hts (Cond.fieldLink RX0 14 "LentTerms$Counter" "terms" "LLentTerms$Rows;") (List.mem_of_getElem? (i := 1) rfl)
  have iX0 : ∀ w ∈ wsX00, w ∈ wsX0_price := by decide +kernel
  obtain ⟨⟨hn0, hn1, hn2, hn3, hn4, hn5⟩, ⟨hb0, hb1, hb2, hb3, hb4, hb5, hbh, hbw, hbt⟩, hv0, hv1, hv2, hv3, hv4, hv5, hv6, hv7⟩ := id hCW
  refine lv_aload_n hx hb dX0_price_0 rfl (lv_at hl 0 rfl) ?_
  refine va_get (D := G) (ci := 0) (C := RX0) (T := TX0) (N := 9) hx hb hts iX0 hown hKK.1 hP 0 rfl rfl 0 (by decide) f14 (fun _ h9 => h9) rfl dX0_price_1 ?_
  refine lv_iload_n hx hb dX0_price_4 rfl (lv_at hl 1 rfl) ?_
  refine lv_iconst (v := nI 0) hx hb dX0_price_5 (by decide) ?_
  refine roI hP hD hS hA [1, 2] rfl (runV (As := [.int (nI t), .int (nI 0)]) (rest := []) (isC := [1, 2]) ⟨hx, hb, hml, hown, hts⟩ hKK hP hD rfl (by decide) (c_X4_at_in l G tA (a 1) (a 10) 8 3 n0 c0 t 0 (by omega) (by omega) (by omega) (by omega) (hb0) _) (cwV 2 hts gX0_price_X4_at rfl rfl rfl (by decide +kernel) ⟨Nat.le_of_ble_eq_true rfl, Nat.le_of_ble_eq_true rfl⟩) rfl rfl rfl rfl hl.1 rfl (lv_room (Nat.le_of_ble_eq_true rfl)) dX0_price_6 ⟨Nat.le_of_ble_eq_true rfl, Nat.le_of_ble_eq_true rfl⟩) (fun _ => rfl) (fun r_1 u_2 H locs q_3 hP hS => ?_)
  obtain ⟨rfl, e_4⟩ := q_3
  have e_4 : c0 (t * 4 + 0) < 1048576 := e_4
  refine lv_aload_n hx hb dX0_price_9 rfl (lv_at hl 0 rfl) ?_
  refine va_get (D := G) (ci := 0) (C := RX0) (T := TX0) (N := 9) hx hb hts iX0 hown hKK.1 hP 0 rfl rfl 0 (by decide) f14 (fun _ h9 => h9) rfl dX0_price_10 ?_
  refine lv_iload_n hx hb dX0_price_13 rfl (lv_at hl 1 rfl) ?_
  refine lv_iconst (v := nI 2) hx hb dX0_price_14 (by decide) ?_
  refine roI hP hD hS hA [1, 2] rfl (runV (As := [.int (nI t), .int (nI 2)]) (rest := [.int (nI (c0 (t * 4 + 0)))]) (isC := [1, 2]) ⟨hx, hb, hml, hown, hts⟩ hKK hP hD rfl (by decide) (c_X4_at_in l G tA (a 1) (a 10) 8 3 n0 c0 t 2 (by omega) (by omega) (by omega) (by omega) (hb0) _) (cwV 2 hts gX0_price_X4_at rfl rfl rfl (by decide +kernel) ⟨Nat.le_of_ble_eq_true rfl, Nat.le_of_ble_eq_true rfl⟩) rfl rfl rfl rfl hl.1 rfl (lv_room (Nat.le_of_ble_eq_true rfl)) dX0_price_15 ⟨Nat.le_of_ble_eq_true rfl, Nat.le_of_ble_eq_true rfl⟩) (fun _ => rfl) (fun r_5 u_6 H locs q_7 hP hS => ?_)
  obtain ⟨rfl, e_8⟩ := q_7
  have e_8 : c0 (t * 4 + 2) < 1048576 := e_8
  refine lv_iload_n hx hb dX0_price_18 rfl (lv_at hl 2 rfl) ?_
  refine roI hP hD hS hA [] rfl (runS (As := [.int (nI (c0 (t * 4 + 0))), .int (nI (c0 (t * 4 + 2))), .int (nI h)]) (rest := []) (isC := []) ⟨hx, hb, hml, hown, hts⟩ hKK hP hD rfl (by decide) (c_X2_price l G tA (c0 (t * 4 + 0)) (c0 (t * 4 + 2)) h (by first | assumption | omega) ((hv0 t ht).2.2.2) (by first | assumption | omega) _) (va_cwS 3 hts gX0_price_X2_price rfl rfl rfl (by decide +kernel) ⟨Nat.le_of_ble_eq_true rfl, Nat.le_of_ble_eq_true rfl⟩) rfl rfl hl.1 rfl (lv_room (Nat.le_of_ble_eq_true rfl)) dX0_price_19 ⟨Nat.le_of_ble_eq_true rfl, Nat.le_of_ble_eq_true rfl⟩) (fun _ => rfl) (fun r_9 u_10 H locs q_11 hP hS => ?_)
  obtain ⟨rfl, e_12⟩ := q_11
  have e_12 : costS (c0 (t * 4 + 0)) (c0 (t * 4 + 2)) h < 150994936 := e_12
  exact retI hx hb hr hlocks hS hP hD () (rfl) (⟨congrArg nI (show (costS (c0 (t * 4 + 0)) (c0 (t * 4 + 2)) h : Nat) = costS (c0 (t * 4 + 0)) (c0 (t * 4 + 2)) h from rfl), costS_lt (hv0 t ht).2.2.2 hh⟩) dX0_price_22

set_option maxHeartbeats 4000000 in
set_option maxRecDepth 100000 in
theorem c_X0_hoursOf (l : Launch) (G : va_G) (tA : Nat → ClassId) (a : Nat → Nat) (n0 : Nat) (c0 : Nat → Nat) (n1 : Nat) (c1 : Nat → Nat) (n2 : Nat) (c2 : Nat → Nat) (n3 : Nat) (c3 : Nat → Nat) (n4 : Nat) (c4 : Nat → Nat) (n5 : Nat) (c5 : Nat → Nat) (hs : Nat → Nat) (wf : Nat → Nat) (wt : Nat → Nat) (k : Nat) (hCW : CW n0 c0 n1 c1 n2 c2 n3 c3 n4 c4 n5 c5 hs wf wt) (hk1 : k < n1) : CtI l yX0_hoursOf wsX0_hoursOf ({ frames := 1, cells := 0, slots := 0, locals := 23 }) G tA [.ref (a 0), .int (nI k)] ([(a 0, .inr (0, [.ref (a 1), .ref (a 2), .ref (a 3), .ref (a 4), .ref (a 5), .ref (a 6), .ref (a 7), .ref (a 8), .ref (a 9)])), (a 1, .inr (2, [.ref (a 10), .int (nI 8), .int (nI 3), .int (nI n0)])), (a 10, .inl (tA 0, 40, .inl (nF c0))), (a 2, .inr (2, [.ref (a 11), .int (nI 10), .int (nI 4), .int (nI n1)])), (a 11, .inl (tA 0, 40, .inl (nF c1))), (a 3, .inr (2, [.ref (a 12), .int (nI 10), .int (nI 3), .int (nI n2)])), (a 12, .inl (tA 0, 40, .inl (nF c2))), (a 4, .inr (2, [.ref (a 13), .int (nI 8), .int (nI 3), .int (nI n3)])), (a 13, .inl (tA 0, 40, .inl (nF c3))), (a 5, .inr (2, [.ref (a 14), .int (nI 5), .int (nI 4), .int (nI n4)])), (a 14, .inl (tA 0, 40, .inl (nF c4))), (a 6, .inr (2, [.ref (a 15), .int (nI 8), .int (nI 2), .int (nI n5)])), (a 15, .inl (tA 0, 40, .inl (nF c5))), (a 7, .inl (tA 0, 5, .inl (nF hs))), (a 8, .inl (tA 0, 5, .inl (nF wf))), (a 9, .inl (tA 0, 40, .inl (nF wt)))]) (fun (r : Int32) (_ : Unit) => r = nI (c1 (k * 4 + 3) - c1 (k * 4 + 2) + 1) ∧ c1 (k * 4 + 3) - c1 (k * 4 + 2) + 1 ≤ 24) (fun (_ : Unit) => [(a 0, .inr (0, [.ref (a 1), .ref (a 2), .ref (a 3), .ref (a 4), .ref (a 5), .ref (a 6), .ref (a 7), .ref (a 8), .ref (a 9)])), (a 1, .inr (2, [.ref (a 10), .int (nI 8), .int (nI 3), .int (nI n0)])), (a 10, .inl (tA 0, 40, .inl (nF c0))), (a 2, .inr (2, [.ref (a 11), .int (nI 10), .int (nI 4), .int (nI n1)])), (a 11, .inl (tA 0, 40, .inl (nF c1))), (a 3, .inr (2, [.ref (a 12), .int (nI 10), .int (nI 3), .int (nI n2)])), (a 12, .inl (tA 0, 40, .inl (nF c2))), (a 4, .inr (2, [.ref (a 13), .int (nI 8), .int (nI 3), .int (nI n3)])), (a 13, .inl (tA 0, 40, .inl (nF c3))), (a 5, .inr (2, [.ref (a 14), .int (nI 5), .int (nI 4), .int (nI n4)])), (a 14, .inl (tA 0, 40, .inl (nF c4))), (a 6, .inr (2, [.ref (a 15), .int (nI 8), .int (nI 2), .int (nI n5)])), (a 15, .inl (tA 0, 40, .inl (nF c5))), (a 7, .inl (tA 0, 5, .inl (nF hs))), (a 8, .inl (tA 0, 5, .inl (nF wf))), (a 9, .inl (tA 0, 40, .inl (nF wt)))]) 0 0 := by
  refine enterI (cc := cX0_hoursOf) (maxL := 2) (ret := (some .int)) (by decide) rfl (Nat.le_of_ble_eq_true rfl) ?_
  intro p0 e0 s m args below meth c0_ A ls hx hb hml hr hts hown hlocks hin hKK hA hP hD hl hS
  have hown : s.vm.findClass RX0 = some m.cls := hown
  have hl : lv_has ls 2 [(0, .ref (a 0)), (1, .int (nI k))] := hl
  have f20 := hts (Cond.fieldLink RX0 20 "LentTerms$Counter" "loans" "LLentTerms$Rows;") (List.mem_of_getElem? (i := 1) rfl)
  have iX0 : ∀ w ∈ wsX00, w ∈ wsX0_hoursOf := by decide +kernel
  obtain ⟨⟨hn0, hn1, hn2, hn3, hn4, hn5⟩, ⟨hb0, hb1, hb2, hb3, hb4, hb5, hbh, hbw, hbt⟩, hv0, hv1, hv2, hv3, hv4, hv5, hv6, hv7⟩ := id hCW
  refine lv_aload_n hx hb dX0_hoursOf_0 rfl (lv_at hl 0 rfl) ?_
  refine va_get (D := G) (ci := 0) (C := RX0) (T := TX0) (N := 9) hx hb hts iX0 hown hKK.1 hP 0 rfl rfl 1 (by decide) f20 (fun _ h9 => h9) rfl dX0_hoursOf_1 ?_
  refine lv_iload_n hx hb dX0_hoursOf_4 rfl (lv_at hl 1 rfl) ?_
  refine lv_iconst (v := nI 3) hx hb dX0_hoursOf_5 (by decide) ?_
  refine roI hP hD hS hA [3, 4] rfl (runV (As := [.int (nI k), .int (nI 3)]) (rest := []) (isC := [3, 4]) ⟨hx, hb, hml, hown, hts⟩ hKK hP hD rfl (by decide) (c_X4_at_in l G tA (a 2) (a 11) 10 4 n1 c1 k 3 (by omega) (by omega) (by omega) (by omega) (hb1) _) (cwV 2 hts gX0_hoursOf_X4_at rfl rfl rfl (by decide +kernel) ⟨Nat.le_of_ble_eq_true rfl, Nat.le_of_ble_eq_true rfl⟩) rfl rfl rfl rfl hl.1 rfl (lv_room (Nat.le_of_ble_eq_true rfl)) dX0_hoursOf_6 ⟨Nat.le_of_ble_eq_true rfl, Nat.le_of_ble_eq_true rfl⟩) (fun _ => rfl) (fun r_1 u_2 H locs q_3 hP hS => ?_)
  obtain ⟨rfl, e_4⟩ := q_3
  have e_4 : c1 (k * 4 + 3) < 1048576 := e_4
  refine lv_aload_n hx hb dX0_hoursOf_9 rfl (lv_at hl 0 rfl) ?_
  refine va_get (D := G) (ci := 0) (C := RX0) (T := TX0) (N := 9) hx hb hts iX0 hown hKK.1 hP 0 rfl rfl 1 (by decide) f20 (fun _ h9 => h9) rfl dX0_hoursOf_10 ?_
  refine lv_iload_n hx hb dX0_hoursOf_13 rfl (lv_at hl 1 rfl) ?_
  refine lv_iconst (v := nI 2) hx hb dX0_hoursOf_14 (by decide) ?_
  refine roI hP hD hS hA [3, 4] rfl (runV (As := [.int (nI k), .int (nI 2)]) (rest := [.int (nI (c1 (k * 4 + 3)))]) (isC := [3, 4]) ⟨hx, hb, hml, hown, hts⟩ hKK hP hD rfl (by decide) (c_X4_at_in l G tA (a 2) (a 11) 10 4 n1 c1 k 2 (by omega) (by omega) (by omega) (by omega) (hb1) _) (cwV 2 hts gX0_hoursOf_X4_at rfl rfl rfl (by decide +kernel) ⟨Nat.le_of_ble_eq_true rfl, Nat.le_of_ble_eq_true rfl⟩) rfl rfl rfl rfl hl.1 rfl (lv_room (Nat.le_of_ble_eq_true rfl)) dX0_hoursOf_15 ⟨Nat.le_of_ble_eq_true rfl, Nat.le_of_ble_eq_true rfl⟩) (fun _ => rfl) (fun r_5 u_6 H locs q_7 hP hS => ?_)
  obtain ⟨rfl, e_8⟩ := q_7
  have e_8 : c1 (k * 4 + 2) < 1048576 := e_8
  refine nv_isub (show c1 (k * 4 + 2) ≤ c1 (k * 4 + 3) from (hv1 k hk1).2.2.1) hx hb dX0_hoursOf_18 ?_
  refine lv_iconst (v := nI 1) hx hb dX0_hoursOf_19 (by decide) ?_
  refine nv_iadd hx hb dX0_hoursOf_20 ?_
  exact retI hx hb hr hlocks hS hP hD () (rfl) (⟨congrArg nI (show (((c1 (k * 4 + 3)) - (c1 (k * 4 + 2))) + 1 : Nat) = c1 (k * 4 + 3) - c1 (k * 4 + 2) + 1 from rfl), by have := hv1 k hk1; omega⟩) dX0_hoursOf_21

set_option maxHeartbeats 4000000 in
set_option maxRecDepth 100000 in
theorem c_X0_isLentIn (l : Launch) (G : va_G) (tA : Nat → ClassId) (a : Nat → Nat) (n0 : Nat) (c0 : Nat → Nat) (n1 : Nat) (c1 : Nat → Nat) (n2 : Nat) (c2 : Nat → Nat) (n3 : Nat) (c3 : Nat → Nat) (n4 : Nat) (c4 : Nat → Nat) (n5 : Nat) (c5 : Nat → Nat) (hs : Nat → Nat) (wf : Nat → Nat) (wt : Nat → Nat) (k : Nat) (t : Nat) (h : Nat) (hCW : CW n0 c0 n1 c1 n2 c2 n3 c3 n4 c4 n5 c5 hs wf wt) (hk : k < 1048576) (ht : t < 1048576) (hh : h < 1048576) : CtI l yX0_isLentIn wsX0_isLentIn ({ frames := 1, cells := 0, slots := 0, locals := 23 }) G tA [.ref (a 0), .int (nI k), .int (nI t), .int (nI h)] ([(a 0, .inr (0, [.ref (a 1), .ref (a 2), .ref (a 3), .ref (a 4), .ref (a 5), .ref (a 6), .ref (a 7), .ref (a 8), .ref (a 9)])), (a 1, .inr (2, [.ref (a 10), .int (nI 8), .int (nI 3), .int (nI n0)])), (a 10, .inl (tA 0, 40, .inl (nF c0))), (a 2, .inr (2, [.ref (a 11), .int (nI 10), .int (nI 4), .int (nI n1)])), (a 11, .inl (tA 0, 40, .inl (nF c1))), (a 3, .inr (2, [.ref (a 12), .int (nI 10), .int (nI 3), .int (nI n2)])), (a 12, .inl (tA 0, 40, .inl (nF c2))), (a 4, .inr (2, [.ref (a 13), .int (nI 8), .int (nI 3), .int (nI n3)])), (a 13, .inl (tA 0, 40, .inl (nF c3))), (a 5, .inr (2, [.ref (a 14), .int (nI 5), .int (nI 4), .int (nI n4)])), (a 14, .inl (tA 0, 40, .inl (nF c4))), (a 6, .inr (2, [.ref (a 15), .int (nI 8), .int (nI 2), .int (nI n5)])), (a 15, .inl (tA 0, 40, .inl (nF c5))), (a 7, .inl (tA 0, 5, .inl (nF hs))), (a 8, .inl (tA 0, 5, .inl (nF wf))), (a 9, .inl (tA 0, 40, .inl (nF wt)))]) (fun (r : Int32) (_ : Unit) => ((r = nI 1 ∧ (lentB n1 c1 t h k = true)) ∨ (r = nI 0 ∧ ¬ (lentB n1 c1 t h k = true)))) (fun (_ : Unit) => [(a 0, .inr (0, [.ref (a 1), .ref (a 2), .ref (a 3), .ref (a 4), .ref (a 5), .ref (a 6), .ref (a 7), .ref (a 8), .ref (a 9)])), (a 1, .inr (2, [.ref (a 10), .int (nI 8), .int (nI 3), .int (nI n0)])), (a 10, .inl (tA 0, 40, .inl (nF c0))), (a 2, .inr (2, [.ref (a 11), .int (nI 10), .int (nI 4), .int (nI n1)])), (a 11, .inl (tA 0, 40, .inl (nF c1))), (a 3, .inr (2, [.ref (a 12), .int (nI 10), .int (nI 3), .int (nI n2)])), (a 12, .inl (tA 0, 40, .inl (nF c2))), (a 4, .inr (2, [.ref (a 13), .int (nI 8), .int (nI 3), .int (nI n3)])), (a 13, .inl (tA 0, 40, .inl (nF c3))), (a 5, .inr (2, [.ref (a 14), .int (nI 5), .int (nI 4), .int (nI n4)])), (a 14, .inl (tA 0, 40, .inl (nF c4))), (a 6, .inr (2, [.ref (a 15), .int (nI 8), .int (nI 2), .int (nI n5)])), (a 15, .inl (tA 0, 40, .inl (nF c5))), (a 7, .inl (tA 0, 5, .inl (nF hs))), (a 8, .inl (tA 0, 5, .inl (nF wf))), (a 9, .inl (tA 0, 40, .inl (nF wt)))]) 0 0 := by
  refine enterI (cc := cX0_isLentIn) (maxL := 4) (ret := (some .boolean)) (by decide) rfl (Nat.le_of_ble_eq_true rfl) ?_
  intro p0 e0 s m args below meth c0_ A ls hx hb hml hr hts hown hlocks hin hKK hA hP hD hl hS
  have hown : s.vm.findClass RX0 = some m.cls := hown
  have hl : lv_has ls 4 [(0, .ref (a 0)), (1, .int (nI k)), (2, .int (nI t)), (3, .int (nI h))] := hl
  have f20 := hts (Cond.fieldLink RX0 20 "LentTerms$Counter" "loans" "LLentTerms$Rows;") (List.mem_of_getElem? (i := 1) rfl)
  have iX0 : ∀ w ∈ wsX00, w ∈ wsX0_isLentIn := by decide +kernel
  obtain ⟨⟨hn0, hn1, hn2, hn3, hn4, hn5⟩, ⟨hb0, hb1, hb2, hb3, hb4, hb5, hbh, hbw, hbt⟩, hv0, hv1, hv2, hv3, hv4, hv5, hv6, hv7⟩ := id hCW
  refine lv_aload_n hx hb dX0_isLentIn_0 rfl (lv_at hl 0 rfl) ?_
  refine va_get (D := G) (ci := 0) (C := RX0) (T := TX0) (N := 9) hx hb hts iX0 hown hKK.1 hP 0 rfl rfl 1 (by decide) f20 (fun _ h9 => h9) rfl dX0_isLentIn_1 ?_
  refine lv_iload_n hx hb dX0_isLentIn_4 rfl (lv_at hl 1 rfl) ?_
  refine roI hP hD hS hA [3, 4] rfl (runV (As := [.int (nI k)]) (rest := []) (isC := [3, 4]) ⟨hx, hb, hml, hown, hts⟩ hKK hP hD rfl (by decide) (c_X4_holds l G tA (a 2) (a 11) 10 4 n1 c1 (nI k) ((k : Nat) : Int) (nI_toIntC (by omega)) (by omega) _) (cwV 1 hts gX0_isLentIn_X4_holds rfl rfl rfl (by decide +kernel) ⟨Nat.le_of_ble_eq_true rfl, Nat.le_of_ble_eq_true rfl⟩) rfl rfl rfl rfl hl.1 rfl (lv_room (Nat.le_of_ble_eq_true rfl)) dX0_isLentIn_5 ⟨Nat.le_of_ble_eq_true rfl, Nat.le_of_ble_eq_true rfl⟩) (fun _ => rfl) (fun r_1 u_2 H locs q_3 hP hS => ?_)
  rcases q_3 with ⟨rfl, p_4⟩ | ⟨rfl, p_4⟩
  · have p_4 : 0 ≤ ((k : Nat) : Int) ∧ ((k : Nat) : Int) < (n1 : Int) := p_4
    refine nv_if_eq (tgt := 54) (by omega) hx hb dX0_isLentIn_8 (by decide) (fun h => absurd h (by omega)) (fun _ => ?_)
    refine lv_aload_n hx hb dX0_isLentIn_11 rfl (lv_at hl 0 rfl) ?_
    refine va_get (D := G) (ci := 0) (C := RX0) (T := TX0) (N := 9) hx hb hts iX0 hown hKK.1 hP 0 rfl rfl 1 (by decide) f20 (fun _ h9 => h9) rfl dX0_isLentIn_12 ?_
    refine lv_iload_n hx hb dX0_isLentIn_15 rfl (lv_at hl 1 rfl) ?_
    refine lv_iconst (v := nI 1) hx hb dX0_isLentIn_16 (by decide) ?_
    refine roI hP hD hS hA [3, 4] rfl (runV (As := [.int (nI k), .int (nI 1)]) (rest := []) (isC := [3, 4]) ⟨hx, hb, hml, hown, hts⟩ hKK hP hD rfl (by decide) (c_X4_at_in l G tA (a 2) (a 11) 10 4 n1 c1 k 1 (by omega) (by omega) (by omega) (by omega) (hb1) _) (cwV 2 hts gX0_isLentIn_X4_at rfl rfl rfl (by decide +kernel) ⟨Nat.le_of_ble_eq_true rfl, Nat.le_of_ble_eq_true rfl⟩) rfl rfl rfl rfl hl.1 rfl (lv_room (Nat.le_of_ble_eq_true rfl)) dX0_isLentIn_17 ⟨Nat.le_of_ble_eq_true rfl, Nat.le_of_ble_eq_true rfl⟩) (fun _ => rfl) (fun r_6 u_7 H locs q_8 hP hS => ?_)
    obtain ⟨rfl, e_9⟩ := q_8
    have e_9 : c1 (k * 4 + 1) < 1048576 := e_9
    refine lv_iload_n hx hb dX0_isLentIn_20 rfl (lv_at hl 2 rfl) ?_
    refine nv_icmp_ne (tgt := 54) (by omega) (by omega) hx hb dX0_isLentIn_21 (by decide) (fun c_10 => ?_) (fun c_10 => ?_)
    · refine lv_iconst (v := nI 0) hx hb dX0_isLentIn_54 (by decide) ?_
      exact retZ (ty := .boolean) hx hb hr rfl hlocks hS hP hD () (rfl) (Or.inr ⟨rfl, by simp only [lentB, decide_eq_true_eq]; omega⟩) dX0_isLentIn_55
    · refine lv_aload_n hx hb dX0_isLentIn_24 rfl (lv_at hl 0 rfl) ?_
      refine va_get (D := G) (ci := 0) (C := RX0) (T := TX0) (N := 9) hx hb hts iX0 hown hKK.1 hP 0 rfl rfl 1 (by decide) f20 (fun _ h9 => h9) rfl dX0_isLentIn_25 ?_
      refine lv_iload_n hx hb dX0_isLentIn_28 rfl (lv_at hl 1 rfl) ?_
      refine lv_iconst (v := nI 2) hx hb dX0_isLentIn_29 (by decide) ?_
      refine roI hP hD hS hA [3, 4] rfl (runV (As := [.int (nI k), .int (nI 2)]) (rest := []) (isC := [3, 4]) ⟨hx, hb, hml, hown, hts⟩ hKK hP hD rfl (by decide) (c_X4_at_in l G tA (a 2) (a 11) 10 4 n1 c1 k 2 (by omega) (by omega) (by omega) (by omega) (hb1) _) (cwV 2 hts gX0_isLentIn_X4_at rfl rfl rfl (by decide +kernel) ⟨Nat.le_of_ble_eq_true rfl, Nat.le_of_ble_eq_true rfl⟩) rfl rfl rfl rfl hl.1 rfl (lv_room (Nat.le_of_ble_eq_true rfl)) dX0_isLentIn_30 ⟨Nat.le_of_ble_eq_true rfl, Nat.le_of_ble_eq_true rfl⟩) (fun _ => rfl) (fun r_11 u_12 H locs q_13 hP hS => ?_)
      obtain ⟨rfl, e_14⟩ := q_13
      have e_14 : c1 (k * 4 + 2) < 1048576 := e_14
      refine lv_iload_n hx hb dX0_isLentIn_33 rfl (lv_at hl 3 rfl) ?_
      refine nv_icmp_gt (tgt := 54) (by omega) (by omega) hx hb dX0_isLentIn_34 (by decide) (fun c_15 => ?_) (fun c_15 => ?_)
      · refine lv_iconst (v := nI 0) hx hb dX0_isLentIn_54 (by decide) ?_
        exact retZ (ty := .boolean) hx hb hr rfl hlocks hS hP hD () (rfl) (Or.inr ⟨rfl, by simp only [lentB, decide_eq_true_eq]; omega⟩) dX0_isLentIn_55
      · refine lv_iload_n hx hb dX0_isLentIn_37 rfl (lv_at hl 3 rfl) ?_
        refine lv_aload_n hx hb dX0_isLentIn_38 rfl (lv_at hl 0 rfl) ?_
        refine va_get (D := G) (ci := 0) (C := RX0) (T := TX0) (N := 9) hx hb hts iX0 hown hKK.1 hP 0 rfl rfl 1 (by decide) f20 (fun _ h9 => h9) rfl dX0_isLentIn_39 ?_
        refine lv_iload_n hx hb dX0_isLentIn_42 rfl (lv_at hl 1 rfl) ?_
        refine lv_iconst (v := nI 3) hx hb dX0_isLentIn_43 (by decide) ?_
        refine roI hP hD hS hA [3, 4] rfl (runV (As := [.int (nI k), .int (nI 3)]) (rest := [.int (nI h)]) (isC := [3, 4]) ⟨hx, hb, hml, hown, hts⟩ hKK hP hD rfl (by decide) (c_X4_at_in l G tA (a 2) (a 11) 10 4 n1 c1 k 3 (by omega) (by omega) (by omega) (by omega) (hb1) _) (cwV 2 hts gX0_isLentIn_X4_at rfl rfl rfl (by decide +kernel) ⟨Nat.le_of_ble_eq_true rfl, Nat.le_of_ble_eq_true rfl⟩) rfl rfl rfl rfl hl.1 rfl (lv_room (Nat.le_of_ble_eq_true rfl)) dX0_isLentIn_44 ⟨Nat.le_of_ble_eq_true rfl, Nat.le_of_ble_eq_true rfl⟩) (fun _ => rfl) (fun r_16 u_17 H locs q_18 hP hS => ?_)
        obtain ⟨rfl, e_19⟩ := q_18
        have e_19 : c1 (k * 4 + 3) < 1048576 := e_19
        refine nv_icmp_gt (tgt := 54) (by omega) (by omega) hx hb dX0_isLentIn_47 (by decide) (fun c_20 => ?_) (fun c_20 => ?_)
        · refine lv_iconst (v := nI 0) hx hb dX0_isLentIn_54 (by decide) ?_
          exact retZ (ty := .boolean) hx hb hr rfl hlocks hS hP hD () (rfl) (Or.inr ⟨rfl, by simp only [lentB, decide_eq_true_eq]; omega⟩) dX0_isLentIn_55
        · refine lv_iconst (v := nI 1) hx hb dX0_isLentIn_50 (by decide) ?_
          refine lv_goto (tgt := 55) hx hb dX0_isLentIn_51 (by decide) ?_
          exact retZ (ty := .boolean) hx hb hr rfl hlocks hS hP hD () (rfl) (Or.inl ⟨rfl, by simp only [lentB, decide_eq_true_eq]; omega⟩) dX0_isLentIn_55
  · have p_4 : ¬ (0 ≤ ((k : Nat) : Int) ∧ ((k : Nat) : Int) < (n1 : Int)) := p_4
    refine nv_if_eq (tgt := 54) (by omega) hx hb dX0_isLentIn_8 (by decide) (fun _ => ?_) (fun h => absurd h (by omega))
    refine lv_iconst (v := nI 0) hx hb dX0_isLentIn_54 (by decide) ?_
    exact retZ (ty := .boolean) hx hb hr rfl hlocks hS hP hD () (rfl) (Or.inr ⟨rfl, by simp only [lentB, decide_eq_true_eq]; omega⟩) dX0_isLentIn_55

set_option maxHeartbeats 4000000 in
set_option maxRecDepth 100000 in
theorem c_X0_lentIn (l : Launch) (G : va_G) (tA : Nat → ClassId) (a : Nat → Nat) (n0 : Nat) (c0 : Nat → Nat) (n1 : Nat) (c1 : Nat → Nat) (n2 : Nat) (c2 : Nat → Nat) (n3 : Nat) (c3 : Nat → Nat) (n4 : Nat) (c4 : Nat → Nat) (n5 : Nat) (c5 : Nat → Nat) (hs : Nat → Nat) (wf : Nat → Nat) (wt : Nat → Nat) (f : Nat) (t : Nat) (h : Nat) (hCW : CW n0 c0 n1 c1 n2 c2 n3 c3 n4 c4 n5 c5 hs wf wt) (hf : f < 1048576) (ht : t < 1048576) (hh : h < 1048576) : CtI l yX0_lentIn wsX0_lentIn ({ frames := 2, cells := 0, slots := 0, locals := 46 }) G tA [.ref (a 0), .int (nI f), .int (nI t), .int (nI h)] ([(a 0, .inr (0, [.ref (a 1), .ref (a 2), .ref (a 3), .ref (a 4), .ref (a 5), .ref (a 6), .ref (a 7), .ref (a 8), .ref (a 9)])), (a 1, .inr (2, [.ref (a 10), .int (nI 8), .int (nI 3), .int (nI n0)])), (a 10, .inl (tA 0, 40, .inl (nF c0))), (a 2, .inr (2, [.ref (a 11), .int (nI 10), .int (nI 4), .int (nI n1)])), (a 11, .inl (tA 0, 40, .inl (nF c1))), (a 3, .inr (2, [.ref (a 12), .int (nI 10), .int (nI 3), .int (nI n2)])), (a 12, .inl (tA 0, 40, .inl (nF c2))), (a 4, .inr (2, [.ref (a 13), .int (nI 8), .int (nI 3), .int (nI n3)])), (a 13, .inl (tA 0, 40, .inl (nF c3))), (a 5, .inr (2, [.ref (a 14), .int (nI 5), .int (nI 4), .int (nI n4)])), (a 14, .inl (tA 0, 40, .inl (nF c4))), (a 6, .inr (2, [.ref (a 15), .int (nI 8), .int (nI 2), .int (nI n5)])), (a 15, .inl (tA 0, 40, .inl (nF c5))), (a 7, .inl (tA 0, 5, .inl (nF hs))), (a 8, .inl (tA 0, 5, .inl (nF wf))), (a 9, .inl (tA 0, 40, .inl (nF wt)))]) (fun (r : Int32) (_ : Unit) => r = nI (cntN (lentB n1 c1 t h) f) ∧ cntN (lentB n1 c1 t h) f ≤ f) (fun (_ : Unit) => [(a 0, .inr (0, [.ref (a 1), .ref (a 2), .ref (a 3), .ref (a 4), .ref (a 5), .ref (a 6), .ref (a 7), .ref (a 8), .ref (a 9)])), (a 1, .inr (2, [.ref (a 10), .int (nI 8), .int (nI 3), .int (nI n0)])), (a 10, .inl (tA 0, 40, .inl (nF c0))), (a 2, .inr (2, [.ref (a 11), .int (nI 10), .int (nI 4), .int (nI n1)])), (a 11, .inl (tA 0, 40, .inl (nF c1))), (a 3, .inr (2, [.ref (a 12), .int (nI 10), .int (nI 3), .int (nI n2)])), (a 12, .inl (tA 0, 40, .inl (nF c2))), (a 4, .inr (2, [.ref (a 13), .int (nI 8), .int (nI 3), .int (nI n3)])), (a 13, .inl (tA 0, 40, .inl (nF c3))), (a 5, .inr (2, [.ref (a 14), .int (nI 5), .int (nI 4), .int (nI n4)])), (a 14, .inl (tA 0, 40, .inl (nF c4))), (a 6, .inr (2, [.ref (a 15), .int (nI 8), .int (nI 2), .int (nI n5)])), (a 15, .inl (tA 0, 40, .inl (nF c5))), (a 7, .inl (tA 0, 5, .inl (nF hs))), (a 8, .inl (tA 0, 5, .inl (nF wf))), (a 9, .inl (tA 0, 40, .inl (nF wt)))]) 0 0 := by
  refine enterI (cc := cX0_lentIn) (maxL := 6) (ret := (some .int)) (by decide) rfl (Nat.le_of_ble_eq_true rfl) ?_
  intro p0 e0 s m args below meth c0_ A ls hx hb hml hr hts hown hlocks hin hKK hA hP hD hl hS
  have hown : s.vm.findClass RX0 = some m.cls := hown
  have hl : lv_has ls 6 [(0, .ref (a 0)), (1, .int (nI f)), (2, .int (nI t)), (3, .int (nI h))] := hl
  obtain ⟨⟨hn0, hn1, hn2, hn3, hn4, hn5⟩, ⟨hb0, hb1, hb2, hb3, hb4, hb5, hbh, hbw, hbt⟩, hv0, hv1, hv2, hv3, hv4, hv5, hv6, hv7⟩ := id hCW
  refine lv_iconst (v := nI 0) hx hb dX0_lentIn_0 (by decide) ?_
  refine lv_istore (lv' := [(4, .int (nI 0)), (0, .ref (a 0)), (1, .int (nI f)), (2, .int (nI t)), (3, .int (nI h))]) hx hb dX0_lentIn_1 hl (by decide) rfl (fun ls hl => ?_)
  refine lv_iconst (v := nI 0) hx hb dX0_lentIn_3 (by decide) ?_
  refine lv_istore (lv' := [(5, .int (nI 0)), (4, .int (nI 0)), (0, .ref (a 0)), (1, .int (nI f)), (2, .int (nI t)), (3, .int (nI h))]) hx hb dX0_lentIn_4 hl (by decide) rfl (fun ls hl => ?_)
  refine wloop (σ := (Nat) × (Nat)) (fun | (i, q) => f - i) (fun | (i, q) => (i ≤ f) ∧ (q = cntN (lentB n1 c1 t h) i) ∧ (q ≤ i)) (fun | (i, q) => [(5, .int (nI i)), (4, .int (nI q)), (0, .ref (a 0)), (1, .int (nI f)), (2, .int (nI t)), (3, .int (nI h))]) (fun | (i, q) => [(a 0, .inr (0, [.ref (a 1), .ref (a 2), .ref (a 3), .ref (a 4), .ref (a 5), .ref (a 6), .ref (a 7), .ref (a 8), .ref (a 9)])), (a 1, .inr (2, [.ref (a 10), .int (nI 8), .int (nI 3), .int (nI n0)])), (a 10, .inl (tA 0, 40, .inl (nF c0))), (a 2, .inr (2, [.ref (a 11), .int (nI 10), .int (nI 4), .int (nI n1)])), (a 11, .inl (tA 0, 40, .inl (nF c1))), (a 3, .inr (2, [.ref (a 12), .int (nI 10), .int (nI 3), .int (nI n2)])), (a 12, .inl (tA 0, 40, .inl (nF c2))), (a 4, .inr (2, [.ref (a 13), .int (nI 8), .int (nI 3), .int (nI n3)])), (a 13, .inl (tA 0, 40, .inl (nF c3))), (a 5, .inr (2, [.ref (a 14), .int (nI 5), .int (nI 4), .int (nI n4)])), (a 14, .inl (tA 0, 40, .inl (nF c4))), (a 6, .inr (2, [.ref (a 15), .int (nI 8), .int (nI 2), .int (nI n5)])), (a 15, .inl (tA 0, 40, .inl (nF c5))), (a 7, .inl (tA 0, 5, .inl (nF hs))), (a 8, .inl (tA 0, 5, .inl (nF wf))), (a 9, .inl (tA 0, 40, .inl (nF wt)))]) (0, 0) ⟨(show 0 ≤ f from by omega), (show 0 = cntN (lentB n1 c1 t h) 0 from rfl), (show 0 ≤ 0 from by omega)⟩ (lv_sub hl [0, 1, 2, 3, 4, 5] rfl) hP hD hS ?_
  rintro ⟨i, q⟩ ⟨hi, hq, hq2⟩ ih_1 ls H locs hl hP hD hS
  have hl : lv_has ls 6 [(5, .int (nI i)), (4, .int (nI q)), (0, .ref (a 0)), (1, .int (nI f)), (2, .int (nI t)), (3, .int (nI h))] := hl
  have hP : va_P G vwCl [(a 0, .inr (0, [.ref (a 1), .ref (a 2), .ref (a 3), .ref (a 4), .ref (a 5), .ref (a 6), .ref (a 7), .ref (a 8), .ref (a 9)])), (a 1, .inr (2, [.ref (a 10), .int (nI 8), .int (nI 3), .int (nI n0)])), (a 10, .inl (tA 0, 40, .inl (nF c0))), (a 2, .inr (2, [.ref (a 11), .int (nI 10), .int (nI 4), .int (nI n1)])), (a 11, .inl (tA 0, 40, .inl (nF c1))), (a 3, .inr (2, [.ref (a 12), .int (nI 10), .int (nI 3), .int (nI n2)])), (a 12, .inl (tA 0, 40, .inl (nF c2))), (a 4, .inr (2, [.ref (a 13), .int (nI 8), .int (nI 3), .int (nI n3)])), (a 13, .inl (tA 0, 40, .inl (nF c3))), (a 5, .inr (2, [.ref (a 14), .int (nI 5), .int (nI 4), .int (nI n4)])), (a 14, .inl (tA 0, 40, .inl (nF c4))), (a 6, .inr (2, [.ref (a 15), .int (nI 8), .int (nI 2), .int (nI n5)])), (a 15, .inl (tA 0, 40, .inl (nF c5))), (a 7, .inl (tA 0, 5, .inl (nF hs))), (a 8, .inl (tA 0, 5, .inl (nF wf))), (a 9, .inl (tA 0, 40, .inl (nF wt)))] H := hP
  have hD : va_D A [(a 0, .inr (0, [.ref (a 1), .ref (a 2), .ref (a 3), .ref (a 4), .ref (a 5), .ref (a 6), .ref (a 7), .ref (a 8), .ref (a 9)])), (a 1, .inr (2, [.ref (a 10), .int (nI 8), .int (nI 3), .int (nI n0)])), (a 10, .inl (tA 0, 40, .inl (nF c0))), (a 2, .inr (2, [.ref (a 11), .int (nI 10), .int (nI 4), .int (nI n1)])), (a 11, .inl (tA 0, 40, .inl (nF c1))), (a 3, .inr (2, [.ref (a 12), .int (nI 10), .int (nI 3), .int (nI n2)])), (a 12, .inl (tA 0, 40, .inl (nF c2))), (a 4, .inr (2, [.ref (a 13), .int (nI 8), .int (nI 3), .int (nI n3)])), (a 13, .inl (tA 0, 40, .inl (nF c3))), (a 5, .inr (2, [.ref (a 14), .int (nI 5), .int (nI 4), .int (nI n4)])), (a 14, .inl (tA 0, 40, .inl (nF c4))), (a 6, .inr (2, [.ref (a 15), .int (nI 8), .int (nI 2), .int (nI n5)])), (a 15, .inl (tA 0, 40, .inl (nF c5))), (a 7, .inl (tA 0, 5, .inl (nF hs))), (a 8, .inl (tA 0, 5, .inl (nF wf))), (a 9, .inl (tA 0, 40, .inl (nF wt)))] := hD
  have hi : i ≤ f := hi
  have hq : q = cntN (lentB n1 c1 t h) i := hq
  have hq2 : q ≤ i := hq2
  refine lv_iload hx hb dX0_lentIn_6 (lv_at hl 0 rfl) ?_
  refine lv_iload_n hx hb dX0_lentIn_8 rfl (lv_at hl 3 rfl) ?_
  refine nv_icmp_ge (tgt := 32) (by omega) (by omega) hx hb dX0_lentIn_9 (by decide) (fun c_2 => ?_) (fun c_2 => ?_)
  · refine lv_iload hx hb dX0_lentIn_32 (lv_at hl 1 rfl) ?_
    exact retI hx hb hr hlocks hS hP hD () (rfl) (⟨congrArg nI (show (q : Nat) = cntN (lentB n1 c1 t h) f from by have e : i = f := (by omega); rw [hq, e]), cntN_le _ _⟩) dX0_lentIn_34
  · refine lv_aload_n hx hb dX0_lentIn_12 rfl (lv_at hl 2 rfl) ?_
    refine lv_iload hx hb dX0_lentIn_13 (lv_at hl 0 rfl) ?_
    refine lv_iload_n hx hb dX0_lentIn_15 rfl (lv_at hl 4 rfl) ?_
    refine lv_iload_n hx hb dX0_lentIn_16 rfl (lv_at hl 5 rfl) ?_
    refine roI hP hD hS hA [0, 1, 2, 3, 4, 5, 6, 7, 8, 9, 10, 11, 12, 13, 14, 15] rfl (runV (As := [.int (nI i), .int (nI t), .int (nI h)]) (rest := []) (isC := [0, 1, 2, 3, 4, 5, 6, 7, 8, 9, 10, 11, 12, 13, 14, 15]) ⟨hx, hb, hml, hown, hts⟩ hKK hP hD rfl (by decide) (c_X0_isLentIn l G tA a n0 c0 n1 c1 n2 c2 n3 c3 n4 c4 n5 c5 hs wf wt i t h (hCW) (by first | assumption | omega) (by first | assumption | omega) (by first | assumption | omega) _) (cwV 3 hts gX0_lentIn_X0_isLentIn rfl rfl rfl (by decide +kernel) ⟨Nat.le_of_ble_eq_true rfl, Nat.le_of_ble_eq_true rfl⟩) rfl rfl rfl rfl hl.1 rfl (lv_room (Nat.le_of_ble_eq_true rfl)) dX0_lentIn_17 ⟨Nat.le_of_ble_eq_true rfl, Nat.le_of_ble_eq_true rfl⟩) (fun _ => rfl) (fun r_3 u_4 H locs q_5 hP hS => ?_)
    rcases q_5 with ⟨rfl, p_6⟩ | ⟨rfl, p_6⟩
    · have p_6 : lentB n1 c1 t h i = true := p_6
      refine nv_if_eq (tgt := 26) (by omega) hx hb dX0_lentIn_20 (by decide) (fun h => absurd h (by omega)) (fun _ => ?_)
      refine lv_iinc (v := (nI (q + 1))) (lv' := [(4, .int (nI (q + 1))), (5, .int (nI i)), (0, .ref (a 0)), (1, .int (nI f)), (2, .int (nI t)), (3, .int (nI h))]) hx hb dX0_lentIn_23 hl (k := 1) rfl (nI_add q 1) (by decide) rfl (fun ls hl => ?_)
      refine lv_iinc (v := (nI (i + 1))) (lv' := [(5, .int (nI (i + 1))), (4, .int (nI (q + 1))), (0, .ref (a 0)), (1, .int (nI f)), (2, .int (nI t)), (3, .int (nI h))]) hx hb dX0_lentIn_26 hl (k := 1) rfl (nI_add i 1) (by decide) rfl (fun ls hl => ?_)
      refine lv_goto (tgt := 6) hx hb dX0_lentIn_29 (by decide) ?_
      exact ih_1 (i + 1, q + 1) (show f - (i + 1) < f - i from by omega) ⟨(show (i + 1) ≤ f from by omega), (show (q + 1) = cntN (lentB n1 c1 t h) (i + 1) from by rw [cntN_s, hq]; first | rw [if_pos (by assumption)] | rw [if_neg (by assumption), Nat.add_zero]), (show (q + 1) ≤ (i + 1) from by omega)⟩ _ _ _ (lv_sub hl [0, 1, 2, 3, 4, 5] rfl) hP hD hS
    · have p_6 : ¬ (lentB n1 c1 t h i = true) := p_6
      refine nv_if_eq (tgt := 26) (by omega) hx hb dX0_lentIn_20 (by decide) (fun _ => ?_) (fun h => absurd h (by omega))
      refine lv_iinc (v := (nI (i + 1))) (lv' := [(5, .int (nI (i + 1))), (4, .int (nI q)), (0, .ref (a 0)), (1, .int (nI f)), (2, .int (nI t)), (3, .int (nI h))]) hx hb dX0_lentIn_26 hl (k := 0) rfl (nI_add i 1) (by decide) rfl (fun ls hl => ?_)
      refine lv_goto (tgt := 6) hx hb dX0_lentIn_29 (by decide) ?_
      exact ih_1 (i + 1, q) (show f - (i + 1) < f - i from by omega) ⟨(show (i + 1) ≤ f from by omega), (show q = cntN (lentB n1 c1 t h) (i + 1) from by rw [cntN_s, hq]; first | rw [if_pos (by assumption)] | rw [if_neg (by assumption), Nat.add_zero]), (show q ≤ (i + 1) from by omega)⟩ _ _ _ (lv_sub hl [0, 1, 2, 3, 4, 5] rfl) hP hD hS

noncomputable def pB (P : Prop) : Bool := @decide P (Classical.propDecidable P)
theorem pB_t {P : Prop} : pB P = true ↔ P := by unfold pB; exact @decide_eq_true_iff P (Classical.propDecidable P)
theorem pB_f {P : Prop} : pB P = false ↔ ¬ P := by unfold pB; exact @decide_eq_false_iff_not P (Classical.propDecidable P)
theorem pB_c {P Q : Prop} (h : P ↔ Q) : pB P = pB Q := by rw [show P = Q from propext h]
/-- the LOAN k is wrong -/
def wrongP (n0 : Nat) (c0 : Nat → Nat) (n1 : Nat) (c1 : Nat → Nat) (k : Nat) : Prop := longS (atS n0 3 c0 (c1 (k * 4 + 1)) 0) < c1 (k * 4 + 3) - c1 (k * 4 + 2) + 1 ∨ ∃ h, c1 (k * 4 + 2) ≤ h ∧ h ≤ c1 (k * 4 + 3) ∧ mayS n0 c0 (c1 (k * 4 + 1)) < cntN (lentB n1 c1 (c1 (k * 4 + 1)) h) (k + 1)
def hadP (n1 : Nat) (c1 : Nat → Nat) (pp t h : Nat) : Prop := ∃ k, k < n1 ∧ c1 (k * 4 + 0) = pp ∧ lentB n1 c1 t h k = true
def billS (n0 : Nat) (c0 : Nat → Nat) (n1 : Nat) (c1 : Nat → Nat) (pp : Nat) (n : Nat) : Nat := it (fun k a => if c1 (k * 4 + 0) = pp then a + costS (c0 (c1 (k * 4 + 1) * 4 + 0)) (c0 (c1 (k * 4 + 1) * 4 + 2)) (c1 (k * 4 + 3) - c1 (k * 4 + 2) + 1) else a) n 0
def withB (c5 : Nat → Nat) (x : Nat) : Nat → Bool := fun k => decide (andn x (c5 (k * 4 + 0)) = 0)
def usedS (c5 : Nat → Nat) (x : Nat) (n : Nat) : Nat := it (fun k a => if k < 32 ∧ x / 2 ^ k % 2 = 1 then a + c5 (k * 4 + 1) else a) n 0
def fillN (g : Nat → Nat) (v n : Nat) : Nat → Nat := fun j => if j < n then v else g j
theorem fillN_s (g : Nat → Nat) (v n : Nat) : fillN g v (n + 1) = updN (fillN g v n) n v := by
  funext j
  simp only [fillN, updN]
  (repeat' split) <;> omega
theorem fillN_0 (g : Nat → Nat) (v : Nat) : fillN g v 0 = g := by funext j; unfold fillN; rw [if_neg (by omega)]

set_option maxHeartbeats 4000000 in
set_option maxRecDepth 100000 in
theorem c_X0_isWrong (l : Launch) (G : va_G) (tA : Nat → ClassId) (a : Nat → Nat) (n0 : Nat) (c0 : Nat → Nat) (n1 : Nat) (c1 : Nat → Nat) (n2 : Nat) (c2 : Nat → Nat) (n3 : Nat) (c3 : Nat → Nat) (n4 : Nat) (c4 : Nat → Nat) (n5 : Nat) (c5 : Nat → Nat) (hs : Nat → Nat) (wf : Nat → Nat) (wt : Nat → Nat) (k : Nat) (hCW : CW n0 c0 n1 c1 n2 c2 n3 c3 n4 c4 n5 c5 hs wf wt) (hk1 : k < n1) : CtI l yX0_isWrong wsX0_isWrong ({ frames := 3, cells := 0, slots := 0, locals := 71 }) G tA [.ref (a 0), .int (nI k)] ([(a 0, .inr (0, [.ref (a 1), .ref (a 2), .ref (a 3), .ref (a 4), .ref (a 5), .ref (a 6), .ref (a 7), .ref (a 8), .ref (a 9)])), (a 1, .inr (2, [.ref (a 10), .int (nI 8), .int (nI 3), .int (nI n0)])), (a 10, .inl (tA 0, 40, .inl (nF c0))), (a 2, .inr (2, [.ref (a 11), .int (nI 10), .int (nI 4), .int (nI n1)])), (a 11, .inl (tA 0, 40, .inl (nF c1))), (a 3, .inr (2, [.ref (a 12), .int (nI 10), .int (nI 3), .int (nI n2)])), (a 12, .inl (tA 0, 40, .inl (nF c2))), (a 4, .inr (2, [.ref (a 13), .int (nI 8), .int (nI 3), .int (nI n3)])), (a 13, .inl (tA 0, 40, .inl (nF c3))), (a 5, .inr (2, [.ref (a 14), .int (nI 5), .int (nI 4), .int (nI n4)])), (a 14, .inl (tA 0, 40, .inl (nF c4))), (a 6, .inr (2, [.ref (a 15), .int (nI 8), .int (nI 2), .int (nI n5)])), (a 15, .inl (tA 0, 40, .inl (nF c5))), (a 7, .inl (tA 0, 5, .inl (nF hs))), (a 8, .inl (tA 0, 5, .inl (nF wf))), (a 9, .inl (tA 0, 40, .inl (nF wt)))]) (fun (r : Int32) (_ : Unit) => ((r = nI 1 ∧ (wrongP n0 c0 n1 c1 k)) ∨ (r = nI 0 ∧ ¬ (wrongP n0 c0 n1 c1 k)))) (fun (_ : Unit) => [(a 0, .inr (0, [.ref (a 1), .ref (a 2), .ref (a 3), .ref (a 4), .ref (a 5), .ref (a 6), .ref (a 7), .ref (a 8), .ref (a 9)])), (a 1, .inr (2, [.ref (a 10), .int (nI 8), .int (nI 3), .int (nI n0)])), (a 10, .inl (tA 0, 40, .inl (nF c0))), (a 2, .inr (2, [.ref (a 11), .int (nI 10), .int (nI 4), .int (nI n1)])), (a 11, .inl (tA 0, 40, .inl (nF c1))), (a 3, .inr (2, [.ref (a 12), .int (nI 10), .int (nI 3), .int (nI n2)])), (a 12, .inl (tA 0, 40, .inl (nF c2))), (a 4, .inr (2, [.ref (a 13), .int (nI 8), .int (nI 3), .int (nI n3)])), (a 13, .inl (tA 0, 40, .inl (nF c3))), (a 5, .inr (2, [.ref (a 14), .int (nI 5), .int (nI 4), .int (nI n4)])), (a 14, .inl (tA 0, 40, .inl (nF c4))), (a 6, .inr (2, [.ref (a 15), .int (nI 8), .int (nI 2), .int (nI n5)])), (a 15, .inl (tA 0, 40, .inl (nF c5))), (a 7, .inl (tA 0, 5, .inl (nF hs))), (a 8, .inl (tA 0, 5, .inl (nF wf))), (a 9, .inl (tA 0, 40, .inl (nF wt)))]) 0 0 := by
  refine enterI (cc := cX0_isWrong) (maxL := 4) (ret := (some .boolean)) (by decide) rfl (Nat.le_of_ble_eq_true rfl) ?_
  intro p0 e0 s m args below meth c0_ A ls hx hb hml hr hts hown hlocks hin hKK hA hP hD hl hS
  have hown : s.vm.findClass RX0 = some m.cls := hown
  have hl : lv_has ls 4 [(0, .ref (a 0)), (1, .int (nI k))] := hl
  have f20 := hts (Cond.fieldLink RX0 20 "LentTerms$Counter" "loans" "LLentTerms$Rows;") (List.mem_of_getElem? (i := 1) rfl)
  have iX0 : ∀ w ∈ wsX00, w ∈ wsX0_isWrong := by decide +kernel
  obtain ⟨⟨hn0, hn1, hn2, hn3, hn4, hn5⟩, ⟨hb0, hb1, hb2, hb3, hb4, hb5, hbh, hbw, hbt⟩, hv0, hv1, hv2, hv3, hv4, hv5, hv6, hv7⟩ := id hCW
  refine lv_aload_n hx hb dX0_isWrong_0 rfl (lv_at hl 0 rfl) ?_
  refine va_get (D := G) (ci := 0) (C := RX0) (T := TX0) (N := 9) hx hb hts iX0 hown hKK.1 hP 0 rfl rfl 1 (by decide) f20 (fun _ h9 => h9) rfl dX0_isWrong_1 ?_
  refine lv_iload_n hx hb dX0_isWrong_4 rfl (lv_at hl 1 rfl) ?_
  refine lv_iconst (v := nI 1) hx hb dX0_isWrong_5 (by decide) ?_
  refine roI hP hD hS hA [3, 4] rfl (runV (As := [.int (nI k), .int (nI 1)]) (rest := []) (isC := [3, 4]) ⟨hx, hb, hml, hown, hts⟩ hKK hP hD rfl (by decide) (c_X4_at_in l G tA (a 2) (a 11) 10 4 n1 c1 k 1 (by omega) (by omega) (by omega) (by omega) (hb1) _) (cwV 2 hts gX0_isWrong_X4_at rfl rfl rfl (by decide +kernel) ⟨Nat.le_of_ble_eq_true rfl, Nat.le_of_ble_eq_true rfl⟩) rfl rfl rfl rfl hl.1 rfl (lv_room (Nat.le_of_ble_eq_true rfl)) dX0_isWrong_6 ⟨Nat.le_of_ble_eq_true rfl, Nat.le_of_ble_eq_true rfl⟩) (fun _ => rfl) (fun r_1 u_2 H locs q_3 hP hS => ?_)
  obtain ⟨rfl, e_4⟩ := q_3
  have e_4 : c1 (k * 4 + 1) < 1048576 := e_4
  refine lv_istore_n (lv' := [(2, .int (nI (c1 (k * 4 + 1)))), (0, .ref (a 0)), (1, .int (nI k))]) hx hb dX0_isWrong_9 rfl hl (by decide) rfl (fun ls hl => ?_)
  refine lv_aload_n hx hb dX0_isWrong_10 rfl (lv_at hl 1 rfl) ?_
  refine lv_iload_n hx hb dX0_isWrong_11 rfl (lv_at hl 2 rfl) ?_
  refine roI hP hD hS hA [0, 1, 2, 3, 4, 5, 6, 7, 8, 9, 10, 11, 12, 13, 14, 15] rfl (runV (As := [.int (nI k)]) (rest := []) (isC := [0, 1, 2, 3, 4, 5, 6, 7, 8, 9, 10, 11, 12, 13, 14, 15]) ⟨hx, hb, hml, hown, hts⟩ hKK hP hD rfl (by decide) (c_X0_hoursOf l G tA a n0 c0 n1 c1 n2 c2 n3 c3 n4 c4 n5 c5 hs wf wt k (hCW) (hk1) _) (cwV 1 hts gX0_isWrong_X0_hoursOf rfl rfl rfl (by decide +kernel) ⟨Nat.le_of_ble_eq_true rfl, Nat.le_of_ble_eq_true rfl⟩) rfl rfl rfl rfl hl.1 rfl (lv_room (Nat.le_of_ble_eq_true rfl)) dX0_isWrong_12 ⟨Nat.le_of_ble_eq_true rfl, Nat.le_of_ble_eq_true rfl⟩) (fun _ => rfl) (fun r_5 u_6 H locs q_7 hP hS => ?_)
  obtain ⟨rfl, e_8⟩ := q_7
  have e_8 : c1 (k * 4 + 3) - c1 (k * 4 + 2) + 1 ≤ 24 := e_8
  refine lv_aload_n hx hb dX0_isWrong_15 rfl (lv_at hl 1 rfl) ?_
  refine lv_iload_n hx hb dX0_isWrong_16 rfl (lv_at hl 0 rfl) ?_
  refine roI hP hD hS hA [0, 1, 2, 3, 4, 5, 6, 7, 8, 9, 10, 11, 12, 13, 14, 15] rfl (runV (As := [.int (nI (c1 (k * 4 + 1)))]) (rest := [.int (nI (c1 (k * 4 + 3) - c1 (k * 4 + 2) + 1))]) (isC := [0, 1, 2, 3, 4, 5, 6, 7, 8, 9, 10, 11, 12, 13, 14, 15]) ⟨hx, hb, hml, hown, hts⟩ hKK hP hD rfl (by decide) (c_X0_longest l G tA a n0 c0 n1 c1 n2 c2 n3 c3 n4 c4 n5 c5 hs wf wt (c1 (k * 4 + 1)) (hCW) (by first | assumption | omega) _) (cwV 1 hts gX0_isWrong_X0_longest rfl rfl rfl (by decide +kernel) ⟨Nat.le_of_ble_eq_true rfl, Nat.le_of_ble_eq_true rfl⟩) rfl rfl rfl rfl hl.1 rfl (lv_room (Nat.le_of_ble_eq_true rfl)) dX0_isWrong_17 ⟨Nat.le_of_ble_eq_true rfl, Nat.le_of_ble_eq_true rfl⟩) (fun _ => rfl) (fun r_9 u_10 H locs q_11 hP hS => ?_)
  obtain ⟨rfl, e_12⟩ := q_11
  have e_12 : longS (atS n0 3 c0 (c1 (k * 4 + 1)) 0) ≤ 24 := e_12
  refine nv_icmp_le (tgt := 25) (by omega) (by omega) hx hb dX0_isWrong_20 (by decide) (fun c_13 => ?_) (fun c_13 => ?_)
  · have hv := hv1 k hk1
    refine lv_aload_n hx hb dX0_isWrong_25 rfl (lv_at hl 1 rfl) ?_
    refine va_get (D := G) (ci := 0) (C := RX0) (T := TX0) (N := 9) hx hb hts iX0 hown hKK.1 hP 0 rfl rfl 1 (by decide) f20 (fun _ h9 => h9) rfl dX0_isWrong_26 ?_
    refine lv_iload_n hx hb dX0_isWrong_29 rfl (lv_at hl 2 rfl) ?_
    refine lv_iconst (v := nI 2) hx hb dX0_isWrong_30 (by decide) ?_
    refine roI hP hD hS hA [3, 4] rfl (runV (As := [.int (nI k), .int (nI 2)]) (rest := []) (isC := [3, 4]) ⟨hx, hb, hml, hown, hts⟩ hKK hP hD rfl (by decide) (c_X4_at_in l G tA (a 2) (a 11) 10 4 n1 c1 k 2 (by omega) (by omega) (by omega) (by omega) (hb1) _) (cwV 2 hts gX0_isWrong_X4_at rfl rfl rfl (by decide +kernel) ⟨Nat.le_of_ble_eq_true rfl, Nat.le_of_ble_eq_true rfl⟩) rfl rfl rfl rfl hl.1 rfl (lv_room (Nat.le_of_ble_eq_true rfl)) dX0_isWrong_31 ⟨Nat.le_of_ble_eq_true rfl, Nat.le_of_ble_eq_true rfl⟩) (fun _ => rfl) (fun r_14 u_15 H locs q_16 hP hS => ?_)
    obtain ⟨rfl, e_17⟩ := q_16
    have e_17 : c1 (k * 4 + 2) < 1048576 := e_17
    refine lv_istore_n (lv' := [(3, .int (nI (c1 (k * 4 + 2)))), (2, .int (nI (c1 (k * 4 + 1)))), (0, .ref (a 0)), (1, .int (nI k))]) hx hb dX0_isWrong_34 rfl hl (by decide) rfl (fun ls hl => ?_)
    refine wloop (σ := (Nat)) (fun | h => 25 - h) (fun | h => (c1 (k * 4 + 2) ≤ h ∧ h < 25) ∧ (∀ g, c1 (k * 4 + 2) ≤ g → g < h → ¬ (mayS n0 c0 (c1 (k * 4 + 1)) < cntN (lentB n1 c1 (c1 (k * 4 + 1)) g) (k + 1)))) (fun | h => [(3, .int (nI h)), (2, .int (nI (c1 (k * 4 + 1)))), (0, .ref (a 0)), (1, .int (nI k))]) (fun | h => [(a 0, .inr (0, [.ref (a 1), .ref (a 2), .ref (a 3), .ref (a 4), .ref (a 5), .ref (a 6), .ref (a 7), .ref (a 8), .ref (a 9)])), (a 1, .inr (2, [.ref (a 10), .int (nI 8), .int (nI 3), .int (nI n0)])), (a 10, .inl (tA 0, 40, .inl (nF c0))), (a 2, .inr (2, [.ref (a 11), .int (nI 10), .int (nI 4), .int (nI n1)])), (a 11, .inl (tA 0, 40, .inl (nF c1))), (a 3, .inr (2, [.ref (a 12), .int (nI 10), .int (nI 3), .int (nI n2)])), (a 12, .inl (tA 0, 40, .inl (nF c2))), (a 4, .inr (2, [.ref (a 13), .int (nI 8), .int (nI 3), .int (nI n3)])), (a 13, .inl (tA 0, 40, .inl (nF c3))), (a 5, .inr (2, [.ref (a 14), .int (nI 5), .int (nI 4), .int (nI n4)])), (a 14, .inl (tA 0, 40, .inl (nF c4))), (a 6, .inr (2, [.ref (a 15), .int (nI 8), .int (nI 2), .int (nI n5)])), (a 15, .inl (tA 0, 40, .inl (nF c5))), (a 7, .inl (tA 0, 5, .inl (nF hs))), (a 8, .inl (tA 0, 5, .inl (nF wf))), (a 9, .inl (tA 0, 40, .inl (nF wt)))]) (c1 (k * 4 + 2)) ⟨(show c1 (k * 4 + 2) ≤ (c1 (k * 4 + 2)) ∧ (c1 (k * 4 + 2)) < 25 from by omega), (show ∀ g, c1 (k * 4 + 2) ≤ g → g < (c1 (k * 4 + 2)) → ¬ (mayS n0 c0 (c1 (k * 4 + 1)) < cntN (lentB n1 c1 (c1 (k * 4 + 1)) g) (k + 1)) from by intro g q1 q2; omega)⟩ (lv_sub hl [0, 1, 2, 3] rfl) hP hD hS ?_
    rintro h ⟨h1, h2⟩ ih_18 ls H locs hl hP hD hS
    have hl : lv_has ls 4 [(3, .int (nI h)), (2, .int (nI (c1 (k * 4 + 1)))), (0, .ref (a 0)), (1, .int (nI k))] := hl
    have hP : va_P G vwCl [(a 0, .inr (0, [.ref (a 1), .ref (a 2), .ref (a 3), .ref (a 4), .ref (a 5), .ref (a 6), .ref (a 7), .ref (a 8), .ref (a 9)])), (a 1, .inr (2, [.ref (a 10), .int (nI 8), .int (nI 3), .int (nI n0)])), (a 10, .inl (tA 0, 40, .inl (nF c0))), (a 2, .inr (2, [.ref (a 11), .int (nI 10), .int (nI 4), .int (nI n1)])), (a 11, .inl (tA 0, 40, .inl (nF c1))), (a 3, .inr (2, [.ref (a 12), .int (nI 10), .int (nI 3), .int (nI n2)])), (a 12, .inl (tA 0, 40, .inl (nF c2))), (a 4, .inr (2, [.ref (a 13), .int (nI 8), .int (nI 3), .int (nI n3)])), (a 13, .inl (tA 0, 40, .inl (nF c3))), (a 5, .inr (2, [.ref (a 14), .int (nI 5), .int (nI 4), .int (nI n4)])), (a 14, .inl (tA 0, 40, .inl (nF c4))), (a 6, .inr (2, [.ref (a 15), .int (nI 8), .int (nI 2), .int (nI n5)])), (a 15, .inl (tA 0, 40, .inl (nF c5))), (a 7, .inl (tA 0, 5, .inl (nF hs))), (a 8, .inl (tA 0, 5, .inl (nF wf))), (a 9, .inl (tA 0, 40, .inl (nF wt)))] H := hP
    have hD : va_D A [(a 0, .inr (0, [.ref (a 1), .ref (a 2), .ref (a 3), .ref (a 4), .ref (a 5), .ref (a 6), .ref (a 7), .ref (a 8), .ref (a 9)])), (a 1, .inr (2, [.ref (a 10), .int (nI 8), .int (nI 3), .int (nI n0)])), (a 10, .inl (tA 0, 40, .inl (nF c0))), (a 2, .inr (2, [.ref (a 11), .int (nI 10), .int (nI 4), .int (nI n1)])), (a 11, .inl (tA 0, 40, .inl (nF c1))), (a 3, .inr (2, [.ref (a 12), .int (nI 10), .int (nI 3), .int (nI n2)])), (a 12, .inl (tA 0, 40, .inl (nF c2))), (a 4, .inr (2, [.ref (a 13), .int (nI 8), .int (nI 3), .int (nI n3)])), (a 13, .inl (tA 0, 40, .inl (nF c3))), (a 5, .inr (2, [.ref (a 14), .int (nI 5), .int (nI 4), .int (nI n4)])), (a 14, .inl (tA 0, 40, .inl (nF c4))), (a 6, .inr (2, [.ref (a 15), .int (nI 8), .int (nI 2), .int (nI n5)])), (a 15, .inl (tA 0, 40, .inl (nF c5))), (a 7, .inl (tA 0, 5, .inl (nF hs))), (a 8, .inl (tA 0, 5, .inl (nF wf))), (a 9, .inl (tA 0, 40, .inl (nF wt)))] := hD
    have h1 : c1 (k * 4 + 2) ≤ h ∧ h < 25 := h1
    have h2 : ∀ g, c1 (k * 4 + 2) ≤ g → g < h → ¬ (mayS n0 c0 (c1 (k * 4 + 1)) < cntN (lentB n1 c1 (c1 (k * 4 + 1)) g) (k + 1)) := h2
    refine lv_iload_n hx hb dX0_isWrong_35 rfl (lv_at hl 0 rfl) ?_
    refine lv_aload_n hx hb dX0_isWrong_36 rfl (lv_at hl 2 rfl) ?_
    refine va_get (D := G) (ci := 0) (C := RX0) (T := TX0) (N := 9) hx hb hts iX0 hown hKK.1 hP 0 rfl rfl 1 (by decide) f20 (fun _ h9 => h9) rfl dX0_isWrong_37 ?_
    refine lv_iload_n hx hb dX0_isWrong_40 rfl (lv_at hl 3 rfl) ?_
    refine lv_iconst (v := nI 3) hx hb dX0_isWrong_41 (by decide) ?_
    refine roI hP hD hS hA [3, 4] rfl (runV (As := [.int (nI k), .int (nI 3)]) (rest := [.int (nI h)]) (isC := [3, 4]) ⟨hx, hb, hml, hown, hts⟩ hKK hP hD rfl (by decide) (c_X4_at_in l G tA (a 2) (a 11) 10 4 n1 c1 k 3 (by omega) (by omega) (by omega) (by omega) (hb1) _) (cwV 2 hts gX0_isWrong_X4_at rfl rfl rfl (by decide +kernel) ⟨Nat.le_of_ble_eq_true rfl, Nat.le_of_ble_eq_true rfl⟩) rfl rfl rfl rfl hl.1 rfl (lv_room (Nat.le_of_ble_eq_true rfl)) dX0_isWrong_42 ⟨Nat.le_of_ble_eq_true rfl, Nat.le_of_ble_eq_true rfl⟩) (fun _ => rfl) (fun r_19 u_20 H locs q_21 hP hS => ?_)
    obtain ⟨rfl, e_22⟩ := q_21
    have e_22 : c1 (k * 4 + 3) < 1048576 := e_22
    refine nv_icmp_gt (tgt := 73) (by omega) (by omega) hx hb dX0_isWrong_45 (by decide) (fun c_23 => ?_) (fun c_23 => ?_)
    · refine lv_iconst (v := nI 0) hx hb dX0_isWrong_73 (by decide) ?_
      exact retZ (ty := .boolean) hx hb hr rfl hlocks hS hP hD () (rfl) (Or.inr ⟨rfl, by rintro (q | ⟨g, q1, q2, q3⟩); omega; exact h2 g q1 (by omega) q3⟩) dX0_isWrong_74
    · refine lv_aload_n hx hb dX0_isWrong_48 rfl (lv_at hl 2 rfl) ?_
      refine lv_iload_n hx hb dX0_isWrong_49 rfl (lv_at hl 3 rfl) ?_
      refine lv_iconst (v := nI 1) hx hb dX0_isWrong_50 (by decide) ?_
      refine nv_iadd hx hb dX0_isWrong_51 ?_
      refine lv_iload_n hx hb dX0_isWrong_52 rfl (lv_at hl 1 rfl) ?_
      refine lv_iload_n hx hb dX0_isWrong_53 rfl (lv_at hl 0 rfl) ?_
      refine roI hP hD hS hA [0, 1, 2, 3, 4, 5, 6, 7, 8, 9, 10, 11, 12, 13, 14, 15] rfl (runV (As := [.int (nI (k + 1)), .int (nI (c1 (k * 4 + 1))), .int (nI h)]) (rest := []) (isC := [0, 1, 2, 3, 4, 5, 6, 7, 8, 9, 10, 11, 12, 13, 14, 15]) ⟨hx, hb, hml, hown, hts⟩ hKK hP hD rfl (by decide) (c_X0_lentIn l G tA a n0 c0 n1 c1 n2 c2 n3 c3 n4 c4 n5 c5 hs wf wt (k + 1) (c1 (k * 4 + 1)) h (hCW) (by first | assumption | omega) (by first | assumption | omega) (by first | assumption | omega) _) (cwV 3 hts gX0_isWrong_X0_lentIn rfl rfl rfl (by decide +kernel) ⟨Nat.le_of_ble_eq_true rfl, Nat.le_of_ble_eq_true rfl⟩) rfl rfl rfl rfl hl.1 rfl (lv_room (Nat.le_of_ble_eq_true rfl)) dX0_isWrong_54 ⟨Nat.le_of_ble_eq_true rfl, Nat.le_of_ble_eq_true rfl⟩) (fun _ => rfl) (fun r_24 u_25 H locs q_26 hP hS => ?_)
      obtain ⟨rfl, e_27⟩ := q_26
      have e_27 : cntN (lentB n1 c1 (c1 (k * 4 + 1)) h) (k + 1) ≤ (k + 1) := e_27
      refine lv_aload_n hx hb dX0_isWrong_57 rfl (lv_at hl 2 rfl) ?_
      refine lv_iload_n hx hb dX0_isWrong_58 rfl (lv_at hl 1 rfl) ?_
      refine roI hP hD hS hA [0, 1, 2, 3, 4, 5, 6, 7, 8, 9, 10, 11, 12, 13, 14, 15] rfl (runV (As := [.int (nI (c1 (k * 4 + 1)))]) (rest := [.int (nI (cntN (lentB n1 c1 (c1 (k * 4 + 1)) h) (k + 1)))]) (isC := [0, 1, 2, 3, 4, 5, 6, 7, 8, 9, 10, 11, 12, 13, 14, 15]) ⟨hx, hb, hml, hown, hts⟩ hKK hP hD rfl (by decide) (c_X0_mayHave l G tA a n0 c0 n1 c1 n2 c2 n3 c3 n4 c4 n5 c5 hs wf wt (c1 (k * 4 + 1)) (hCW) (by first | assumption | omega) _) (cwV 1 hts gX0_isWrong_X0_mayHave rfl rfl rfl (by decide +kernel) ⟨Nat.le_of_ble_eq_true rfl, Nat.le_of_ble_eq_true rfl⟩) rfl rfl rfl rfl hl.1 rfl (lv_room (Nat.le_of_ble_eq_true rfl)) dX0_isWrong_59 ⟨Nat.le_of_ble_eq_true rfl, Nat.le_of_ble_eq_true rfl⟩) (fun _ => rfl) (fun r_28 u_29 H locs q_30 hP hS => ?_)
      obtain ⟨rfl, e_31⟩ := q_30
      have e_31 : mayS n0 c0 (c1 (k * 4 + 1)) ≤ 3 := e_31
      refine nv_icmp_le (tgt := 67) (by omega) (by omega) hx hb dX0_isWrong_62 (by decide) (fun c_32 => ?_) (fun c_32 => ?_)
      · refine lv_iinc (v := (nI (h + 1))) (lv' := [(3, .int (nI (h + 1))), (2, .int (nI (c1 (k * 4 + 1)))), (0, .ref (a 0)), (1, .int (nI k))]) hx hb dX0_isWrong_67 hl (k := 0) rfl (nI_add h 1) (by decide) rfl (fun ls hl => ?_)
        refine lv_goto (tgt := 35) hx hb dX0_isWrong_70 (by decide) ?_
        exact ih_18 (h + 1) (show 25 - (h + 1) < 25 - h from by omega) ⟨(show c1 (k * 4 + 2) ≤ (h + 1) ∧ (h + 1) < 25 from by omega), (show ∀ g, c1 (k * 4 + 2) ≤ g → g < (h + 1) → ¬ (mayS n0 c0 (c1 (k * 4 + 1)) < cntN (lentB n1 c1 (c1 (k * 4 + 1)) g) (k + 1)) from by intro g q1 q2; rcases Nat.lt_succ_iff_lt_or_eq.mp q2 with q3 | q3; exact h2 g q1 q3; rw [q3]; omega)⟩ _ _ _ (lv_sub hl [0, 1, 2, 3] rfl) hP hD hS
      · refine lv_iconst (v := nI 1) hx hb dX0_isWrong_65 (by decide) ?_
        exact retZ (ty := .boolean) hx hb hr rfl hlocks hS hP hD () (rfl) (Or.inl ⟨rfl, Or.inr ⟨h, by omega, by omega, by omega⟩⟩) dX0_isWrong_66
  · refine lv_iconst (v := nI 1) hx hb dX0_isWrong_23 (by decide) ?_
    exact retZ (ty := .boolean) hx hb hr rfl hlocks hS hP hD () (rfl) (Or.inl ⟨rfl, Or.inl (by omega)⟩) dX0_isWrong_24

set_option maxHeartbeats 4000000 in
set_option maxRecDepth 100000 in
theorem c_X0_firstWrongLoan (l : Launch) (G : va_G) (tA : Nat → ClassId) (a : Nat → Nat) (n0 : Nat) (c0 : Nat → Nat) (n1 : Nat) (c1 : Nat → Nat) (n2 : Nat) (c2 : Nat → Nat) (n3 : Nat) (c3 : Nat → Nat) (n4 : Nat) (c4 : Nat → Nat) (n5 : Nat) (c5 : Nat → Nat) (hs : Nat → Nat) (wf : Nat → Nat) (wt : Nat → Nat) (hCW : CW n0 c0 n1 c1 n2 c2 n3 c3 n4 c4 n5 c5 hs wf wt) : CtI l yX0_firstWrongLoan wsX0_firstWrongLoan ({ frames := 4, cells := 0, slots := 0, locals := 94 }) G tA [.ref (a 0)] ([(a 0, .inr (0, [.ref (a 1), .ref (a 2), .ref (a 3), .ref (a 4), .ref (a 5), .ref (a 6), .ref (a 7), .ref (a 8), .ref (a 9)])), (a 1, .inr (2, [.ref (a 10), .int (nI 8), .int (nI 3), .int (nI n0)])), (a 10, .inl (tA 0, 40, .inl (nF c0))), (a 2, .inr (2, [.ref (a 11), .int (nI 10), .int (nI 4), .int (nI n1)])), (a 11, .inl (tA 0, 40, .inl (nF c1))), (a 3, .inr (2, [.ref (a 12), .int (nI 10), .int (nI 3), .int (nI n2)])), (a 12, .inl (tA 0, 40, .inl (nF c2))), (a 4, .inr (2, [.ref (a 13), .int (nI 8), .int (nI 3), .int (nI n3)])), (a 13, .inl (tA 0, 40, .inl (nF c3))), (a 5, .inr (2, [.ref (a 14), .int (nI 5), .int (nI 4), .int (nI n4)])), (a 14, .inl (tA 0, 40, .inl (nF c4))), (a 6, .inr (2, [.ref (a 15), .int (nI 8), .int (nI 2), .int (nI n5)])), (a 15, .inl (tA 0, 40, .inl (nF c5))), (a 7, .inl (tA 0, 5, .inl (nF hs))), (a 8, .inl (tA 0, 5, .inl (nF wf))), (a 9, .inl (tA 0, 40, .inl (nF wt)))]) (fun (r : Int32) (_ : Unit) => r = firstI (fun k => pB (wrongP n0 c0 n1 c1 k)) n1 0) (fun (_ : Unit) => [(a 0, .inr (0, [.ref (a 1), .ref (a 2), .ref (a 3), .ref (a 4), .ref (a 5), .ref (a 6), .ref (a 7), .ref (a 8), .ref (a 9)])), (a 1, .inr (2, [.ref (a 10), .int (nI 8), .int (nI 3), .int (nI n0)])), (a 10, .inl (tA 0, 40, .inl (nF c0))), (a 2, .inr (2, [.ref (a 11), .int (nI 10), .int (nI 4), .int (nI n1)])), (a 11, .inl (tA 0, 40, .inl (nF c1))), (a 3, .inr (2, [.ref (a 12), .int (nI 10), .int (nI 3), .int (nI n2)])), (a 12, .inl (tA 0, 40, .inl (nF c2))), (a 4, .inr (2, [.ref (a 13), .int (nI 8), .int (nI 3), .int (nI n3)])), (a 13, .inl (tA 0, 40, .inl (nF c3))), (a 5, .inr (2, [.ref (a 14), .int (nI 5), .int (nI 4), .int (nI n4)])), (a 14, .inl (tA 0, 40, .inl (nF c4))), (a 6, .inr (2, [.ref (a 15), .int (nI 8), .int (nI 2), .int (nI n5)])), (a 15, .inl (tA 0, 40, .inl (nF c5))), (a 7, .inl (tA 0, 5, .inl (nF hs))), (a 8, .inl (tA 0, 5, .inl (nF wf))), (a 9, .inl (tA 0, 40, .inl (nF wt)))]) 0 0 := by
  refine enterI (cc := cX0_firstWrongLoan) (maxL := 2) (ret := (some .int)) (by decide) rfl (Nat.le_of_ble_eq_true rfl) ?_
  intro p0 e0 s m args below meth c0_ A ls hx hb hml hr hts hown hlocks hin hKK hA hP hD hl hS
  have hown : s.vm.findClass RX0 = some m.cls := hown
  have hl : lv_has ls 2 [(0, .ref (a 0))] := hl
  have f20 := hts (Cond.fieldLink RX0 20 "LentTerms$Counter" "loans" "LLentTerms$Rows;") (List.mem_of_getElem? (i := 1) rfl)
  have iX0 : ∀ w ∈ wsX00, w ∈ wsX0_firstWrongLoan := by decide +kernel
  obtain ⟨⟨hn0, hn1, hn2, hn3, hn4, hn5⟩, ⟨hb0, hb1, hb2, hb3, hb4, hb5, hbh, hbw, hbt⟩, hv0, hv1, hv2, hv3, hv4, hv5, hv6, hv7⟩ := id hCW
  refine lv_iconst (v := nI 0) hx hb dX0_firstWrongLoan_0 (by decide) ?_
  refine lv_istore_n (lv' := [(1, .int (nI 0)), (0, .ref (a 0))]) hx hb dX0_firstWrongLoan_1 rfl hl (by decide) rfl (fun ls hl => ?_)
  refine wloop (σ := (Nat)) (fun | i => n1 - i) (fun | i => (i ≤ n1) ∧ (∀ j, j < i → ¬ wrongP n0 c0 n1 c1 j)) (fun | i => [(1, .int (nI i)), (0, .ref (a 0))]) (fun | i => [(a 0, .inr (0, [.ref (a 1), .ref (a 2), .ref (a 3), .ref (a 4), .ref (a 5), .ref (a 6), .ref (a 7), .ref (a 8), .ref (a 9)])), (a 1, .inr (2, [.ref (a 10), .int (nI 8), .int (nI 3), .int (nI n0)])), (a 10, .inl (tA 0, 40, .inl (nF c0))), (a 2, .inr (2, [.ref (a 11), .int (nI 10), .int (nI 4), .int (nI n1)])), (a 11, .inl (tA 0, 40, .inl (nF c1))), (a 3, .inr (2, [.ref (a 12), .int (nI 10), .int (nI 3), .int (nI n2)])), (a 12, .inl (tA 0, 40, .inl (nF c2))), (a 4, .inr (2, [.ref (a 13), .int (nI 8), .int (nI 3), .int (nI n3)])), (a 13, .inl (tA 0, 40, .inl (nF c3))), (a 5, .inr (2, [.ref (a 14), .int (nI 5), .int (nI 4), .int (nI n4)])), (a 14, .inl (tA 0, 40, .inl (nF c4))), (a 6, .inr (2, [.ref (a 15), .int (nI 8), .int (nI 2), .int (nI n5)])), (a 15, .inl (tA 0, 40, .inl (nF c5))), (a 7, .inl (tA 0, 5, .inl (nF hs))), (a 8, .inl (tA 0, 5, .inl (nF wf))), (a 9, .inl (tA 0, 40, .inl (nF wt)))]) 0 ⟨(show 0 ≤ n1 from by omega), (show ∀ j, j < 0 → ¬ wrongP n0 c0 n1 c1 j from by intro j q; omega)⟩ (lv_sub hl [0, 1] rfl) hP hD hS ?_
  rintro i ⟨hi, hno⟩ ih_1 ls H locs hl hP hD hS
  have hl : lv_has ls 2 [(1, .int (nI i)), (0, .ref (a 0))] := hl
  have hP : va_P G vwCl [(a 0, .inr (0, [.ref (a 1), .ref (a 2), .ref (a 3), .ref (a 4), .ref (a 5), .ref (a 6), .ref (a 7), .ref (a 8), .ref (a 9)])), (a 1, .inr (2, [.ref (a 10), .int (nI 8), .int (nI 3), .int (nI n0)])), (a 10, .inl (tA 0, 40, .inl (nF c0))), (a 2, .inr (2, [.ref (a 11), .int (nI 10), .int (nI 4), .int (nI n1)])), (a 11, .inl (tA 0, 40, .inl (nF c1))), (a 3, .inr (2, [.ref (a 12), .int (nI 10), .int (nI 3), .int (nI n2)])), (a 12, .inl (tA 0, 40, .inl (nF c2))), (a 4, .inr (2, [.ref (a 13), .int (nI 8), .int (nI 3), .int (nI n3)])), (a 13, .inl (tA 0, 40, .inl (nF c3))), (a 5, .inr (2, [.ref (a 14), .int (nI 5), .int (nI 4), .int (nI n4)])), (a 14, .inl (tA 0, 40, .inl (nF c4))), (a 6, .inr (2, [.ref (a 15), .int (nI 8), .int (nI 2), .int (nI n5)])), (a 15, .inl (tA 0, 40, .inl (nF c5))), (a 7, .inl (tA 0, 5, .inl (nF hs))), (a 8, .inl (tA 0, 5, .inl (nF wf))), (a 9, .inl (tA 0, 40, .inl (nF wt)))] H := hP
  have hD : va_D A [(a 0, .inr (0, [.ref (a 1), .ref (a 2), .ref (a 3), .ref (a 4), .ref (a 5), .ref (a 6), .ref (a 7), .ref (a 8), .ref (a 9)])), (a 1, .inr (2, [.ref (a 10), .int (nI 8), .int (nI 3), .int (nI n0)])), (a 10, .inl (tA 0, 40, .inl (nF c0))), (a 2, .inr (2, [.ref (a 11), .int (nI 10), .int (nI 4), .int (nI n1)])), (a 11, .inl (tA 0, 40, .inl (nF c1))), (a 3, .inr (2, [.ref (a 12), .int (nI 10), .int (nI 3), .int (nI n2)])), (a 12, .inl (tA 0, 40, .inl (nF c2))), (a 4, .inr (2, [.ref (a 13), .int (nI 8), .int (nI 3), .int (nI n3)])), (a 13, .inl (tA 0, 40, .inl (nF c3))), (a 5, .inr (2, [.ref (a 14), .int (nI 5), .int (nI 4), .int (nI n4)])), (a 14, .inl (tA 0, 40, .inl (nF c4))), (a 6, .inr (2, [.ref (a 15), .int (nI 8), .int (nI 2), .int (nI n5)])), (a 15, .inl (tA 0, 40, .inl (nF c5))), (a 7, .inl (tA 0, 5, .inl (nF hs))), (a 8, .inl (tA 0, 5, .inl (nF wf))), (a 9, .inl (tA 0, 40, .inl (nF wt)))] := hD
  have hi : i ≤ n1 := hi
  have hno : ∀ j, j < i → ¬ wrongP n0 c0 n1 c1 j := hno
  refine lv_iload_n hx hb dX0_firstWrongLoan_2 rfl (lv_at hl 0 rfl) ?_
  refine lv_aload_n hx hb dX0_firstWrongLoan_3 rfl (lv_at hl 1 rfl) ?_
  refine va_get (D := G) (ci := 0) (C := RX0) (T := TX0) (N := 9) hx hb hts iX0 hown hKK.1 hP 0 rfl rfl 1 (by decide) f20 (fun _ h9 => h9) rfl dX0_firstWrongLoan_4 ?_
  refine roI hP hD hS hA [3, 4] rfl (runV (As := []) (rest := [.int (nI i)]) (isC := [3, 4]) ⟨hx, hb, hml, hown, hts⟩ hKK hP hD rfl (by decide) (c_X4_size l G tA (a 2) (a 11) 10 4 n1 c1 _) (cwV 0 hts gX0_firstWrongLoan_X4_size rfl rfl rfl (by decide +kernel) ⟨Nat.le_of_ble_eq_true rfl, Nat.le_of_ble_eq_true rfl⟩) rfl rfl rfl rfl hl.1 rfl (lv_room (Nat.le_of_ble_eq_true rfl)) dX0_firstWrongLoan_7 ⟨Nat.le_of_ble_eq_true rfl, Nat.le_of_ble_eq_true rfl⟩) (fun _ => rfl) (fun r_2 u_3 H locs q_4 hP hS => ?_)
  subst q_4
  refine nv_icmp_ge (tgt := 29) (by omega) (by omega) hx hb dX0_firstWrongLoan_10 (by decide) (fun c_5 => ?_) (fun c_5 => ?_)
  · refine lv_iconst (v := (-1)) hx hb dX0_firstWrongLoan_29 (by decide) ?_
    exact retI hx hb hr hlocks hS hP hD () (rfl) ((firstI_no n1 0 (fun j _ q => pB_f.mpr (hno j (by omega)))).symm) dX0_firstWrongLoan_30
  · refine lv_aload_n hx hb dX0_firstWrongLoan_13 rfl (lv_at hl 1 rfl) ?_
    refine lv_iload_n hx hb dX0_firstWrongLoan_14 rfl (lv_at hl 0 rfl) ?_
    refine roI hP hD hS hA [0, 1, 2, 3, 4, 5, 6, 7, 8, 9, 10, 11, 12, 13, 14, 15] rfl (runV (As := [.int (nI i)]) (rest := []) (isC := [0, 1, 2, 3, 4, 5, 6, 7, 8, 9, 10, 11, 12, 13, 14, 15]) ⟨hx, hb, hml, hown, hts⟩ hKK hP hD rfl (by decide) (c_X0_isWrong l G tA a n0 c0 n1 c1 n2 c2 n3 c3 n4 c4 n5 c5 hs wf wt i (hCW) (by first | assumption | omega) _) (cwV 1 hts gX0_firstWrongLoan_X0_isWrong rfl rfl rfl (by decide +kernel) ⟨Nat.le_of_ble_eq_true rfl, Nat.le_of_ble_eq_true rfl⟩) rfl rfl rfl rfl hl.1 rfl (lv_room (Nat.le_of_ble_eq_true rfl)) dX0_firstWrongLoan_15 ⟨Nat.le_of_ble_eq_true rfl, Nat.le_of_ble_eq_true rfl⟩) (fun _ => rfl) (fun r_6 u_7 H locs q_8 hP hS => ?_)
    rcases q_8 with ⟨rfl, p_9⟩ | ⟨rfl, p_9⟩
    · have p_9 : wrongP n0 c0 n1 c1 i := p_9
      refine nv_if_eq (tgt := 23) (by omega) hx hb dX0_firstWrongLoan_18 (by decide) (fun h => absurd h (by omega)) (fun _ => ?_)
      refine lv_iload_n hx hb dX0_firstWrongLoan_21 rfl (lv_at hl 0 rfl) ?_
      exact retI hx hb hr hlocks hS hP hD () (rfl) ((firstI_at n1 0 i (by omega) (by omega) (pB_t.mpr (by assumption)) (fun j _ q => pB_f.mpr (hno j q))).symm) dX0_firstWrongLoan_22
    · have p_9 : ¬ (wrongP n0 c0 n1 c1 i) := p_9
      refine nv_if_eq (tgt := 23) (by omega) hx hb dX0_firstWrongLoan_18 (by decide) (fun _ => ?_) (fun h => absurd h (by omega))
      refine lv_iinc (v := (nI (i + 1))) (lv' := [(1, .int (nI (i + 1))), (0, .ref (a 0))]) hx hb dX0_firstWrongLoan_23 hl (k := 0) rfl (nI_add i 1) (by decide) rfl (fun ls hl => ?_)
      refine lv_goto (tgt := 2) hx hb dX0_firstWrongLoan_26 (by decide) ?_
      exact ih_1 (i + 1) (show n1 - (i + 1) < n1 - i from by omega) ⟨(show (i + 1) ≤ n1 from by omega), (show ∀ j, j < (i + 1) → ¬ wrongP n0 c0 n1 c1 j from by intro j q; rcases Nat.lt_succ_iff_lt_or_eq.mp q with q3 | q3; exact hno j q3; rw [q3]; first | assumption | exact fun z => z (by assumption))⟩ _ _ _ (lv_sub hl [0, 1] rfl) hP hD hS

set_option maxHeartbeats 4000000 in
set_option maxRecDepth 100000 in
theorem c_X0_termsIn (l : Launch) (G : va_G) (tA : Nat → ClassId) (a : Nat → Nat) (n0 : Nat) (c0 : Nat → Nat) (n1 : Nat) (c1 : Nat → Nat) (n2 : Nat) (c2 : Nat → Nat) (n3 : Nat) (c3 : Nat → Nat) (n4 : Nat) (c4 : Nat → Nat) (n5 : Nat) (c5 : Nat → Nat) (hs : Nat → Nat) (wf : Nat → Nat) (wt : Nat → Nat) (h : Nat) (hCW : CW n0 c0 n1 c1 n2 c2 n3 c3 n4 c4 n5 c5 hs wf wt) (hh : h < 1048576) : CtI l yX0_termsIn wsX0_termsIn ({ frames := 3, cells := 0, slots := 0, locals := 71 }) G tA [.ref (a 0), .int (nI h)] ([(a 0, .inr (0, [.ref (a 1), .ref (a 2), .ref (a 3), .ref (a 4), .ref (a 5), .ref (a 6), .ref (a 7), .ref (a 8), .ref (a 9)])), (a 1, .inr (2, [.ref (a 10), .int (nI 8), .int (nI 3), .int (nI n0)])), (a 10, .inl (tA 0, 40, .inl (nF c0))), (a 2, .inr (2, [.ref (a 11), .int (nI 10), .int (nI 4), .int (nI n1)])), (a 11, .inl (tA 0, 40, .inl (nF c1))), (a 3, .inr (2, [.ref (a 12), .int (nI 10), .int (nI 3), .int (nI n2)])), (a 12, .inl (tA 0, 40, .inl (nF c2))), (a 4, .inr (2, [.ref (a 13), .int (nI 8), .int (nI 3), .int (nI n3)])), (a 13, .inl (tA 0, 40, .inl (nF c3))), (a 5, .inr (2, [.ref (a 14), .int (nI 5), .int (nI 4), .int (nI n4)])), (a 14, .inl (tA 0, 40, .inl (nF c4))), (a 6, .inr (2, [.ref (a 15), .int (nI 8), .int (nI 2), .int (nI n5)])), (a 15, .inl (tA 0, 40, .inl (nF c5))), (a 7, .inl (tA 0, 5, .inl (nF hs))), (a 8, .inl (tA 0, 5, .inl (nF wf))), (a 9, .inl (tA 0, 40, .inl (nF wt)))]) (fun (r : Int32) (_ : Unit) => r = nI (bitsN (fun t => decide (cntN (lentB n1 c1 t h) n1 < mayS n0 c0 t)) n0) ∧ bitsN (fun t => decide (cntN (lentB n1 c1 t h) n1 < mayS n0 c0 t)) n0 < 256) (fun (_ : Unit) => [(a 0, .inr (0, [.ref (a 1), .ref (a 2), .ref (a 3), .ref (a 4), .ref (a 5), .ref (a 6), .ref (a 7), .ref (a 8), .ref (a 9)])), (a 1, .inr (2, [.ref (a 10), .int (nI 8), .int (nI 3), .int (nI n0)])), (a 10, .inl (tA 0, 40, .inl (nF c0))), (a 2, .inr (2, [.ref (a 11), .int (nI 10), .int (nI 4), .int (nI n1)])), (a 11, .inl (tA 0, 40, .inl (nF c1))), (a 3, .inr (2, [.ref (a 12), .int (nI 10), .int (nI 3), .int (nI n2)])), (a 12, .inl (tA 0, 40, .inl (nF c2))), (a 4, .inr (2, [.ref (a 13), .int (nI 8), .int (nI 3), .int (nI n3)])), (a 13, .inl (tA 0, 40, .inl (nF c3))), (a 5, .inr (2, [.ref (a 14), .int (nI 5), .int (nI 4), .int (nI n4)])), (a 14, .inl (tA 0, 40, .inl (nF c4))), (a 6, .inr (2, [.ref (a 15), .int (nI 8), .int (nI 2), .int (nI n5)])), (a 15, .inl (tA 0, 40, .inl (nF c5))), (a 7, .inl (tA 0, 5, .inl (nF hs))), (a 8, .inl (tA 0, 5, .inl (nF wf))), (a 9, .inl (tA 0, 40, .inl (nF wt)))]) 0 0 := by
  refine enterI (cc := cX0_termsIn) (maxL := 4) (ret := (some .int)) (by decide) rfl (Nat.le_of_ble_eq_true rfl) ?_
  intro p0 e0 s m args below meth c0_ A ls hx hb hml hr hts hown hlocks hin hKK hA hP hD hl hS
  have hown : s.vm.findClass RX0 = some m.cls := hown
  have hl : lv_has ls 4 [(0, .ref (a 0)), (1, .int (nI h))] := hl
  have f14 := hts (Cond.fieldLink RX0 14 "LentTerms$Counter" "terms" "LLentTerms$Rows;") (List.mem_of_getElem? (i := 1) rfl)
  have iX0 : ∀ w ∈ wsX00, w ∈ wsX0_termsIn := by decide +kernel
  have f20 := hts (Cond.fieldLink RX0 20 "LentTerms$Counter" "loans" "LLentTerms$Rows;") (List.mem_of_getElem? (i := 2) rfl)
  obtain ⟨⟨hn0, hn1, hn2, hn3, hn4, hn5⟩, ⟨hb0, hb1, hb2, hb3, hb4, hb5, hbh, hbw, hbt⟩, hv0, hv1, hv2, hv3, hv4, hv5, hv6, hv7⟩ := id hCW
  refine lv_iconst (v := nI 0) hx hb dX0_termsIn_0 (by decide) ?_
  refine lv_istore_n (lv' := [(2, .int (nI 0)), (0, .ref (a 0)), (1, .int (nI h))]) hx hb dX0_termsIn_1 rfl hl (by decide) rfl (fun ls hl => ?_)
  refine lv_iconst (v := nI 0) hx hb dX0_termsIn_2 (by decide) ?_
  refine lv_istore_n (lv' := [(3, .int (nI 0)), (2, .int (nI 0)), (0, .ref (a 0)), (1, .int (nI h))]) hx hb dX0_termsIn_3 rfl hl (by decide) rfl (fun ls hl => ?_)
  refine wloop (σ := (Nat) × (Nat)) (fun | (i, q) => n0 - i) (fun | (i, q) => (i ≤ n0) ∧ (q = bitsN (fun t => decide (cntN (lentB n1 c1 t h) n1 < mayS n0 c0 t)) i)) (fun | (i, q) => [(3, .int (nI i)), (2, .int (nI q)), (0, .ref (a 0)), (1, .int (nI h))]) (fun | (i, q) => [(a 0, .inr (0, [.ref (a 1), .ref (a 2), .ref (a 3), .ref (a 4), .ref (a 5), .ref (a 6), .ref (a 7), .ref (a 8), .ref (a 9)])), (a 1, .inr (2, [.ref (a 10), .int (nI 8), .int (nI 3), .int (nI n0)])), (a 10, .inl (tA 0, 40, .inl (nF c0))), (a 2, .inr (2, [.ref (a 11), .int (nI 10), .int (nI 4), .int (nI n1)])), (a 11, .inl (tA 0, 40, .inl (nF c1))), (a 3, .inr (2, [.ref (a 12), .int (nI 10), .int (nI 3), .int (nI n2)])), (a 12, .inl (tA 0, 40, .inl (nF c2))), (a 4, .inr (2, [.ref (a 13), .int (nI 8), .int (nI 3), .int (nI n3)])), (a 13, .inl (tA 0, 40, .inl (nF c3))), (a 5, .inr (2, [.ref (a 14), .int (nI 5), .int (nI 4), .int (nI n4)])), (a 14, .inl (tA 0, 40, .inl (nF c4))), (a 6, .inr (2, [.ref (a 15), .int (nI 8), .int (nI 2), .int (nI n5)])), (a 15, .inl (tA 0, 40, .inl (nF c5))), (a 7, .inl (tA 0, 5, .inl (nF hs))), (a 8, .inl (tA 0, 5, .inl (nF wf))), (a 9, .inl (tA 0, 40, .inl (nF wt)))]) (0, 0) ⟨(show 0 ≤ n0 from by omega), (show 0 = bitsN (fun t => decide (cntN (lentB n1 c1 t h) n1 < mayS n0 c0 t)) 0 from rfl)⟩ (lv_sub hl [0, 1, 2, 3] rfl) hP hD hS ?_
  rintro ⟨i, q⟩ ⟨hi, hq⟩ ih_1 ls H locs hl hP hD hS
  have hl : lv_has ls 4 [(3, .int (nI i)), (2, .int (nI q)), (0, .ref (a 0)), (1, .int (nI h))] := hl
  have hP : va_P G vwCl [(a 0, .inr (0, [.ref (a 1), .ref (a 2), .ref (a 3), .ref (a 4), .ref (a 5), .ref (a 6), .ref (a 7), .ref (a 8), .ref (a 9)])), (a 1, .inr (2, [.ref (a 10), .int (nI 8), .int (nI 3), .int (nI n0)])), (a 10, .inl (tA 0, 40, .inl (nF c0))), (a 2, .inr (2, [.ref (a 11), .int (nI 10), .int (nI 4), .int (nI n1)])), (a 11, .inl (tA 0, 40, .inl (nF c1))), (a 3, .inr (2, [.ref (a 12), .int (nI 10), .int (nI 3), .int (nI n2)])), (a 12, .inl (tA 0, 40, .inl (nF c2))), (a 4, .inr (2, [.ref (a 13), .int (nI 8), .int (nI 3), .int (nI n3)])), (a 13, .inl (tA 0, 40, .inl (nF c3))), (a 5, .inr (2, [.ref (a 14), .int (nI 5), .int (nI 4), .int (nI n4)])), (a 14, .inl (tA 0, 40, .inl (nF c4))), (a 6, .inr (2, [.ref (a 15), .int (nI 8), .int (nI 2), .int (nI n5)])), (a 15, .inl (tA 0, 40, .inl (nF c5))), (a 7, .inl (tA 0, 5, .inl (nF hs))), (a 8, .inl (tA 0, 5, .inl (nF wf))), (a 9, .inl (tA 0, 40, .inl (nF wt)))] H := hP
  have hD : va_D A [(a 0, .inr (0, [.ref (a 1), .ref (a 2), .ref (a 3), .ref (a 4), .ref (a 5), .ref (a 6), .ref (a 7), .ref (a 8), .ref (a 9)])), (a 1, .inr (2, [.ref (a 10), .int (nI 8), .int (nI 3), .int (nI n0)])), (a 10, .inl (tA 0, 40, .inl (nF c0))), (a 2, .inr (2, [.ref (a 11), .int (nI 10), .int (nI 4), .int (nI n1)])), (a 11, .inl (tA 0, 40, .inl (nF c1))), (a 3, .inr (2, [.ref (a 12), .int (nI 10), .int (nI 3), .int (nI n2)])), (a 12, .inl (tA 0, 40, .inl (nF c2))), (a 4, .inr (2, [.ref (a 13), .int (nI 8), .int (nI 3), .int (nI n3)])), (a 13, .inl (tA 0, 40, .inl (nF c3))), (a 5, .inr (2, [.ref (a 14), .int (nI 5), .int (nI 4), .int (nI n4)])), (a 14, .inl (tA 0, 40, .inl (nF c4))), (a 6, .inr (2, [.ref (a 15), .int (nI 8), .int (nI 2), .int (nI n5)])), (a 15, .inl (tA 0, 40, .inl (nF c5))), (a 7, .inl (tA 0, 5, .inl (nF hs))), (a 8, .inl (tA 0, 5, .inl (nF wf))), (a 9, .inl (tA 0, 40, .inl (nF wt)))] := hD
  have hi : i ≤ n0 := hi
  have hq : q = bitsN (fun t => decide (cntN (lentB n1 c1 t h) n1 < mayS n0 c0 t)) i := hq
  refine lv_iload_n hx hb dX0_termsIn_4 rfl (lv_at hl 0 rfl) ?_
  refine lv_aload_n hx hb dX0_termsIn_5 rfl (lv_at hl 2 rfl) ?_
  refine va_get (D := G) (ci := 0) (C := RX0) (T := TX0) (N := 9) hx hb hts iX0 hown hKK.1 hP 0 rfl rfl 0 (by decide) f14 (fun _ h9 => h9) rfl dX0_termsIn_6 ?_
  refine roI hP hD hS hA [1, 2] rfl (runV (As := []) (rest := [.int (nI i)]) (isC := [1, 2]) ⟨hx, hb, hml, hown, hts⟩ hKK hP hD rfl (by decide) (c_X4_size l G tA (a 1) (a 10) 8 3 n0 c0 _) (cwV 0 hts gX0_termsIn_X4_size rfl rfl rfl (by decide +kernel) ⟨Nat.le_of_ble_eq_true rfl, Nat.le_of_ble_eq_true rfl⟩) rfl rfl rfl rfl hl.1 rfl (lv_room (Nat.le_of_ble_eq_true rfl)) dX0_termsIn_9 ⟨Nat.le_of_ble_eq_true rfl, Nat.le_of_ble_eq_true rfl⟩) (fun _ => rfl) (fun r_2 u_3 H locs q_4 hP hS => ?_)
  subst q_4
  refine nv_icmp_ge (tgt := 48) (by omega) (by omega) hx hb dX0_termsIn_12 (by decide) (fun c_5 => ?_) (fun c_5 => ?_)
  · refine lv_iload_n hx hb dX0_termsIn_48 rfl (lv_at hl 1 rfl) ?_
    exact retI hx hb hr hlocks hS hP hD () (rfl) (⟨congrArg nI (show (q : Nat) = bitsN (fun t => decide (cntN (lentB n1 c1 t h) n1 < mayS n0 c0 t)) n0 from by have e : i = n0 := (by omega); rw [hq, e]), Nat.lt_of_lt_of_le (bitsN_lt _ n0) (p256 hn0).2⟩) dX0_termsIn_49
  · refine lv_aload_n hx hb dX0_termsIn_15 rfl (lv_at hl 2 rfl) ?_
    refine lv_aload_n hx hb dX0_termsIn_16 rfl (lv_at hl 2 rfl) ?_
    refine va_get (D := G) (ci := 0) (C := RX0) (T := TX0) (N := 9) hx hb hts iX0 hown hKK.1 hP 0 rfl rfl 1 (by decide) f20 (fun _ h9 => h9) rfl dX0_termsIn_17 ?_
    refine roI hP hD hS hA [3, 4] rfl (runV (As := []) (rest := [.ref (a 0)]) (isC := [3, 4]) ⟨hx, hb, hml, hown, hts⟩ hKK hP hD rfl (by decide) (c_X4_size l G tA (a 2) (a 11) 10 4 n1 c1 _) (cwV 0 hts gX0_termsIn_X4_size rfl rfl rfl (by decide +kernel) ⟨Nat.le_of_ble_eq_true rfl, Nat.le_of_ble_eq_true rfl⟩) rfl rfl rfl rfl hl.1 rfl (lv_room (Nat.le_of_ble_eq_true rfl)) dX0_termsIn_20 ⟨Nat.le_of_ble_eq_true rfl, Nat.le_of_ble_eq_true rfl⟩) (fun _ => rfl) (fun r_6 u_7 H locs q_8 hP hS => ?_)
    subst q_8
    refine lv_iload_n hx hb dX0_termsIn_23 rfl (lv_at hl 0 rfl) ?_
    refine lv_iload_n hx hb dX0_termsIn_24 rfl (lv_at hl 3 rfl) ?_
    refine roI hP hD hS hA [0, 1, 2, 3, 4, 5, 6, 7, 8, 9, 10, 11, 12, 13, 14, 15] rfl (runV (As := [.int (nI n1), .int (nI i), .int (nI h)]) (rest := []) (isC := [0, 1, 2, 3, 4, 5, 6, 7, 8, 9, 10, 11, 12, 13, 14, 15]) ⟨hx, hb, hml, hown, hts⟩ hKK hP hD rfl (by decide) (c_X0_lentIn l G tA a n0 c0 n1 c1 n2 c2 n3 c3 n4 c4 n5 c5 hs wf wt n1 i h (hCW) (by first | assumption | omega) (by first | assumption | omega) (by first | assumption | omega) _) (cwV 3 hts gX0_termsIn_X0_lentIn rfl rfl rfl (by decide +kernel) ⟨Nat.le_of_ble_eq_true rfl, Nat.le_of_ble_eq_true rfl⟩) rfl rfl rfl rfl hl.1 rfl (lv_room (Nat.le_of_ble_eq_true rfl)) dX0_termsIn_25 ⟨Nat.le_of_ble_eq_true rfl, Nat.le_of_ble_eq_true rfl⟩) (fun _ => rfl) (fun r_9 u_10 H locs q_11 hP hS => ?_)
    obtain ⟨rfl, e_12⟩ := q_11
    have e_12 : cntN (lentB n1 c1 i h) n1 ≤ n1 := e_12
    refine lv_aload_n hx hb dX0_termsIn_28 rfl (lv_at hl 2 rfl) ?_
    refine lv_iload_n hx hb dX0_termsIn_29 rfl (lv_at hl 0 rfl) ?_
    refine roI hP hD hS hA [0, 1, 2, 3, 4, 5, 6, 7, 8, 9, 10, 11, 12, 13, 14, 15] rfl (runV (As := [.int (nI i)]) (rest := [.int (nI (cntN (lentB n1 c1 i h) n1))]) (isC := [0, 1, 2, 3, 4, 5, 6, 7, 8, 9, 10, 11, 12, 13, 14, 15]) ⟨hx, hb, hml, hown, hts⟩ hKK hP hD rfl (by decide) (c_X0_mayHave l G tA a n0 c0 n1 c1 n2 c2 n3 c3 n4 c4 n5 c5 hs wf wt i (hCW) (by first | assumption | omega) _) (cwV 1 hts gX0_termsIn_X0_mayHave rfl rfl rfl (by decide +kernel) ⟨Nat.le_of_ble_eq_true rfl, Nat.le_of_ble_eq_true rfl⟩) rfl rfl rfl rfl hl.1 rfl (lv_room (Nat.le_of_ble_eq_true rfl)) dX0_termsIn_30 ⟨Nat.le_of_ble_eq_true rfl, Nat.le_of_ble_eq_true rfl⟩) (fun _ => rfl) (fun r_13 u_14 H locs q_15 hP hS => ?_)
    obtain ⟨rfl, e_16⟩ := q_15
    have e_16 : mayS n0 c0 i ≤ 3 := e_16
    refine nv_icmp_ge (tgt := 42) (by omega) (by omega) hx hb dX0_termsIn_33 (by decide) (fun c_17 => ?_) (fun c_17 => ?_)
    · refine lv_iinc (v := (nI (i + 1))) (lv' := [(3, .int (nI (i + 1))), (2, .int (nI q)), (0, .ref (a 0)), (1, .int (nI h))]) hx hb dX0_termsIn_42 hl (k := 0) rfl (nI_add i 1) (by decide) rfl (fun ls hl => ?_)
      refine lv_goto (tgt := 4) hx hb dX0_termsIn_45 (by decide) ?_
      exact ih_1 (i + 1, q) (show n0 - (i + 1) < n0 - i from by omega) ⟨(show (i + 1) ≤ n0 from by omega), (show q = bitsN (fun t => decide (cntN (lentB n1 c1 t h) n1 < mayS n0 c0 t)) (i + 1) from by rw [bitsN_s, hq]; first | rw [if_pos (decide_eq_true (by omega))] | rw [if_neg (fun z => absurd (of_decide_eq_true z) (by omega)), Nat.or_zero] | rw [if_pos (show (fun t => decide (cntN (lentB n1 c1 t h) n1 < mayS n0 c0 t)) i = true from decide_eq_true (by omega))] | rw [if_neg (show ¬ ((fun t => decide (cntN (lentB n1 c1 t h) n1 < mayS n0 c0 t)) i = true) from fun z => absurd (of_decide_eq_true z) (by omega)), Nat.or_zero])⟩ _ _ _ (lv_sub hl [0, 1, 2, 3] rfl) hP hD hS
    · refine lv_iload_n hx hb dX0_termsIn_36 rfl (lv_at hl 1 rfl) ?_
      refine lv_iconst (v := nI 1) hx hb dX0_termsIn_37 (by decide) ?_
      refine lv_iload_n hx hb dX0_termsIn_38 rfl (lv_at hl 0 rfl) ?_
      refine nv_shl1 (by omega) hx hb dX0_termsIn_39 ?_
      refine nv_ior hx hb dX0_termsIn_40 ?_
      refine lv_istore_n (lv' := [(2, .int (nI (q ||| (2 ^ i)))), (3, .int (nI i)), (0, .ref (a 0)), (1, .int (nI h))]) hx hb dX0_termsIn_41 rfl hl (by decide) rfl (fun ls hl => ?_)
      refine lv_iinc (v := (nI (i + 1))) (lv' := [(3, .int (nI (i + 1))), (2, .int (nI (q ||| (2 ^ i)))), (0, .ref (a 0)), (1, .int (nI h))]) hx hb dX0_termsIn_42 hl (k := 1) rfl (nI_add i 1) (by decide) rfl (fun ls hl => ?_)
      refine lv_goto (tgt := 4) hx hb dX0_termsIn_45 (by decide) ?_
      exact ih_1 (i + 1, q ||| (2 ^ i)) (show n0 - (i + 1) < n0 - i from by omega) ⟨(show (i + 1) ≤ n0 from by omega), (show (q ||| (2 ^ i)) = bitsN (fun t => decide (cntN (lentB n1 c1 t h) n1 < mayS n0 c0 t)) (i + 1) from by rw [bitsN_s, hq]; first | rw [if_pos (decide_eq_true (by omega))] | rw [if_neg (fun z => absurd (of_decide_eq_true z) (by omega)), Nat.or_zero] | rw [if_pos (show (fun t => decide (cntN (lentB n1 c1 t h) n1 < mayS n0 c0 t)) i = true from decide_eq_true (by omega))] | rw [if_neg (show ¬ ((fun t => decide (cntN (lentB n1 c1 t h) n1 < mayS n0 c0 t)) i = true) from fun z => absurd (of_decide_eq_true z) (by omega)), Nat.or_zero])⟩ _ _ _ (lv_sub hl [0, 1, 2, 3] rfl) hP hD hS

set_option maxHeartbeats 4000000 in
set_option maxRecDepth 100000 in
theorem c_X0_sayingsWith (l : Launch) (G : va_G) (tA : Nat → ClassId) (a : Nat → Nat) (n0 : Nat) (c0 : Nat → Nat) (n1 : Nat) (c1 : Nat → Nat) (n2 : Nat) (c2 : Nat → Nat) (n3 : Nat) (c3 : Nat → Nat) (n4 : Nat) (c4 : Nat → Nat) (n5 : Nat) (c5 : Nat → Nat) (hs : Nat → Nat) (wf : Nat → Nat) (wt : Nat → Nat) (tk : Nat) (hCW : CW n0 c0 n1 c1 n2 c2 n3 c3 n4 c4 n5 c5 hs wf wt) (htk : tk < 1048576) : CtI l yX0_sayingsWith wsX0_sayingsWith ({ frames := 1, cells := 0, slots := 0, locals := 23 }) G tA [.ref (a 0), .int (nI tk)] ([(a 0, .inr (0, [.ref (a 1), .ref (a 2), .ref (a 3), .ref (a 4), .ref (a 5), .ref (a 6), .ref (a 7), .ref (a 8), .ref (a 9)])), (a 1, .inr (2, [.ref (a 10), .int (nI 8), .int (nI 3), .int (nI n0)])), (a 10, .inl (tA 0, 40, .inl (nF c0))), (a 2, .inr (2, [.ref (a 11), .int (nI 10), .int (nI 4), .int (nI n1)])), (a 11, .inl (tA 0, 40, .inl (nF c1))), (a 3, .inr (2, [.ref (a 12), .int (nI 10), .int (nI 3), .int (nI n2)])), (a 12, .inl (tA 0, 40, .inl (nF c2))), (a 4, .inr (2, [.ref (a 13), .int (nI 8), .int (nI 3), .int (nI n3)])), (a 13, .inl (tA 0, 40, .inl (nF c3))), (a 5, .inr (2, [.ref (a 14), .int (nI 5), .int (nI 4), .int (nI n4)])), (a 14, .inl (tA 0, 40, .inl (nF c4))), (a 6, .inr (2, [.ref (a 15), .int (nI 8), .int (nI 2), .int (nI n5)])), (a 15, .inl (tA 0, 40, .inl (nF c5))), (a 7, .inl (tA 0, 5, .inl (nF hs))), (a 8, .inl (tA 0, 5, .inl (nF wf))), (a 9, .inl (tA 0, 40, .inl (nF wt)))]) (fun (r : Int32) (_ : Unit) => r = nI (bitsN (withB c5 tk) n5) ∧ bitsN (withB c5 tk) n5 < 256) (fun (_ : Unit) => [(a 0, .inr (0, [.ref (a 1), .ref (a 2), .ref (a 3), .ref (a 4), .ref (a 5), .ref (a 6), .ref (a 7), .ref (a 8), .ref (a 9)])), (a 1, .inr (2, [.ref (a 10), .int (nI 8), .int (nI 3), .int (nI n0)])), (a 10, .inl (tA 0, 40, .inl (nF c0))), (a 2, .inr (2, [.ref (a 11), .int (nI 10), .int (nI 4), .int (nI n1)])), (a 11, .inl (tA 0, 40, .inl (nF c1))), (a 3, .inr (2, [.ref (a 12), .int (nI 10), .int (nI 3), .int (nI n2)])), (a 12, .inl (tA 0, 40, .inl (nF c2))), (a 4, .inr (2, [.ref (a 13), .int (nI 8), .int (nI 3), .int (nI n3)])), (a 13, .inl (tA 0, 40, .inl (nF c3))), (a 5, .inr (2, [.ref (a 14), .int (nI 5), .int (nI 4), .int (nI n4)])), (a 14, .inl (tA 0, 40, .inl (nF c4))), (a 6, .inr (2, [.ref (a 15), .int (nI 8), .int (nI 2), .int (nI n5)])), (a 15, .inl (tA 0, 40, .inl (nF c5))), (a 7, .inl (tA 0, 5, .inl (nF hs))), (a 8, .inl (tA 0, 5, .inl (nF wf))), (a 9, .inl (tA 0, 40, .inl (nF wt)))]) 0 0 := by
  refine enterI (cc := cX0_sayingsWith) (maxL := 4) (ret := (some .int)) (by decide) rfl (Nat.le_of_ble_eq_true rfl) ?_
  intro p0 e0 s m args below meth c0_ A ls hx hb hml hr hts hown hlocks hin hKK hA hP hD hl hS
  have hown : s.vm.findClass RX0 = some m.cls := hown
  have hl : lv_has ls 4 [(0, .ref (a 0)), (1, .int (nI tk))] := hl
  have f32 := hts (Cond.fieldLink RX0 32 "LentTerms$Counter" "sayings" "LLentTerms$Rows;") (List.mem_of_getElem? (i := 1) rfl)
  have iX0 : ∀ w ∈ wsX00, w ∈ wsX0_sayingsWith := by decide +kernel
  obtain ⟨⟨hn0, hn1, hn2, hn3, hn4, hn5⟩, ⟨hb0, hb1, hb2, hb3, hb4, hb5, hbh, hbw, hbt⟩, hv0, hv1, hv2, hv3, hv4, hv5, hv6, hv7⟩ := id hCW
  refine lv_iconst (v := nI 0) hx hb dX0_sayingsWith_0 (by decide) ?_
  refine lv_istore_n (lv' := [(2, .int (nI 0)), (0, .ref (a 0)), (1, .int (nI tk))]) hx hb dX0_sayingsWith_1 rfl hl (by decide) rfl (fun ls hl => ?_)
  refine lv_iconst (v := nI 0) hx hb dX0_sayingsWith_2 (by decide) ?_
  refine lv_istore_n (lv' := [(3, .int (nI 0)), (2, .int (nI 0)), (0, .ref (a 0)), (1, .int (nI tk))]) hx hb dX0_sayingsWith_3 rfl hl (by decide) rfl (fun ls hl => ?_)
  refine wloop (σ := (Nat) × (Nat)) (fun | (i, q) => n5 - i) (fun | (i, q) => (i ≤ n5) ∧ (q = bitsN (withB c5 tk) i)) (fun | (i, q) => [(3, .int (nI i)), (2, .int (nI q)), (0, .ref (a 0)), (1, .int (nI tk))]) (fun | (i, q) => [(a 0, .inr (0, [.ref (a 1), .ref (a 2), .ref (a 3), .ref (a 4), .ref (a 5), .ref (a 6), .ref (a 7), .ref (a 8), .ref (a 9)])), (a 1, .inr (2, [.ref (a 10), .int (nI 8), .int (nI 3), .int (nI n0)])), (a 10, .inl (tA 0, 40, .inl (nF c0))), (a 2, .inr (2, [.ref (a 11), .int (nI 10), .int (nI 4), .int (nI n1)])), (a 11, .inl (tA 0, 40, .inl (nF c1))), (a 3, .inr (2, [.ref (a 12), .int (nI 10), .int (nI 3), .int (nI n2)])), (a 12, .inl (tA 0, 40, .inl (nF c2))), (a 4, .inr (2, [.ref (a 13), .int (nI 8), .int (nI 3), .int (nI n3)])), (a 13, .inl (tA 0, 40, .inl (nF c3))), (a 5, .inr (2, [.ref (a 14), .int (nI 5), .int (nI 4), .int (nI n4)])), (a 14, .inl (tA 0, 40, .inl (nF c4))), (a 6, .inr (2, [.ref (a 15), .int (nI 8), .int (nI 2), .int (nI n5)])), (a 15, .inl (tA 0, 40, .inl (nF c5))), (a 7, .inl (tA 0, 5, .inl (nF hs))), (a 8, .inl (tA 0, 5, .inl (nF wf))), (a 9, .inl (tA 0, 40, .inl (nF wt)))]) (0, 0) ⟨(show 0 ≤ n5 from by omega), (show 0 = bitsN (withB c5 tk) 0 from rfl)⟩ (lv_sub hl [0, 1, 2, 3] rfl) hP hD hS ?_
  rintro ⟨i, q⟩ ⟨hi, hq⟩ ih_1 ls H locs hl hP hD hS
  have hl : lv_has ls 4 [(3, .int (nI i)), (2, .int (nI q)), (0, .ref (a 0)), (1, .int (nI tk))] := hl
  have hP : va_P G vwCl [(a 0, .inr (0, [.ref (a 1), .ref (a 2), .ref (a 3), .ref (a 4), .ref (a 5), .ref (a 6), .ref (a 7), .ref (a 8), .ref (a 9)])), (a 1, .inr (2, [.ref (a 10), .int (nI 8), .int (nI 3), .int (nI n0)])), (a 10, .inl (tA 0, 40, .inl (nF c0))), (a 2, .inr (2, [.ref (a 11), .int (nI 10), .int (nI 4), .int (nI n1)])), (a 11, .inl (tA 0, 40, .inl (nF c1))), (a 3, .inr (2, [.ref (a 12), .int (nI 10), .int (nI 3), .int (nI n2)])), (a 12, .inl (tA 0, 40, .inl (nF c2))), (a 4, .inr (2, [.ref (a 13), .int (nI 8), .int (nI 3), .int (nI n3)])), (a 13, .inl (tA 0, 40, .inl (nF c3))), (a 5, .inr (2, [.ref (a 14), .int (nI 5), .int (nI 4), .int (nI n4)])), (a 14, .inl (tA 0, 40, .inl (nF c4))), (a 6, .inr (2, [.ref (a 15), .int (nI 8), .int (nI 2), .int (nI n5)])), (a 15, .inl (tA 0, 40, .inl (nF c5))), (a 7, .inl (tA 0, 5, .inl (nF hs))), (a 8, .inl (tA 0, 5, .inl (nF wf))), (a 9, .inl (tA 0, 40, .inl (nF wt)))] H := hP
  have hD : va_D A [(a 0, .inr (0, [.ref (a 1), .ref (a 2), .ref (a 3), .ref (a 4), .ref (a 5), .ref (a 6), .ref (a 7), .ref (a 8), .ref (a 9)])), (a 1, .inr (2, [.ref (a 10), .int (nI 8), .int (nI 3), .int (nI n0)])), (a 10, .inl (tA 0, 40, .inl (nF c0))), (a 2, .inr (2, [.ref (a 11), .int (nI 10), .int (nI 4), .int (nI n1)])), (a 11, .inl (tA 0, 40, .inl (nF c1))), (a 3, .inr (2, [.ref (a 12), .int (nI 10), .int (nI 3), .int (nI n2)])), (a 12, .inl (tA 0, 40, .inl (nF c2))), (a 4, .inr (2, [.ref (a 13), .int (nI 8), .int (nI 3), .int (nI n3)])), (a 13, .inl (tA 0, 40, .inl (nF c3))), (a 5, .inr (2, [.ref (a 14), .int (nI 5), .int (nI 4), .int (nI n4)])), (a 14, .inl (tA 0, 40, .inl (nF c4))), (a 6, .inr (2, [.ref (a 15), .int (nI 8), .int (nI 2), .int (nI n5)])), (a 15, .inl (tA 0, 40, .inl (nF c5))), (a 7, .inl (tA 0, 5, .inl (nF hs))), (a 8, .inl (tA 0, 5, .inl (nF wf))), (a 9, .inl (tA 0, 40, .inl (nF wt)))] := hD
  have hi : i ≤ n5 := hi
  have hq : q = bitsN (withB c5 tk) i := hq
  refine lv_iload_n hx hb dX0_sayingsWith_4 rfl (lv_at hl 0 rfl) ?_
  refine lv_aload_n hx hb dX0_sayingsWith_5 rfl (lv_at hl 2 rfl) ?_
  refine va_get (D := G) (ci := 0) (C := RX0) (T := TX0) (N := 9) hx hb hts iX0 hown hKK.1 hP 0 rfl rfl 5 (by decide) f32 (fun _ h9 => h9) rfl dX0_sayingsWith_6 ?_
  refine roI hP hD hS hA [11, 12] rfl (runV (As := []) (rest := [.int (nI i)]) (isC := [11, 12]) ⟨hx, hb, hml, hown, hts⟩ hKK hP hD rfl (by decide) (c_X4_size l G tA (a 6) (a 15) 8 2 n5 c5 _) (cwV 0 hts gX0_sayingsWith_X4_size rfl rfl rfl (by decide +kernel) ⟨Nat.le_of_ble_eq_true rfl, Nat.le_of_ble_eq_true rfl⟩) rfl rfl rfl rfl hl.1 rfl (lv_room (Nat.le_of_ble_eq_true rfl)) dX0_sayingsWith_9 ⟨Nat.le_of_ble_eq_true rfl, Nat.le_of_ble_eq_true rfl⟩) (fun _ => rfl) (fun r_2 u_3 H locs q_4 hP hS => ?_)
  subst q_4
  refine nv_icmp_ge (tgt := 43) (by omega) (by omega) hx hb dX0_sayingsWith_12 (by decide) (fun c_5 => ?_) (fun c_5 => ?_)
  · refine lv_iload_n hx hb dX0_sayingsWith_43 rfl (lv_at hl 1 rfl) ?_
    exact retI hx hb hr hlocks hS hP hD () (rfl) (⟨congrArg nI (show (q : Nat) = bitsN (withB c5 tk) n5 from by have e : i = n5 := (by omega); rw [hq, e]), Nat.lt_of_lt_of_le (bitsN_lt _ n5) (p256 hn5).2⟩) dX0_sayingsWith_44
  · refine lv_iload_n hx hb dX0_sayingsWith_15 rfl (lv_at hl 3 rfl) ?_
    refine lv_aload_n hx hb dX0_sayingsWith_16 rfl (lv_at hl 2 rfl) ?_
    refine va_get (D := G) (ci := 0) (C := RX0) (T := TX0) (N := 9) hx hb hts iX0 hown hKK.1 hP 0 rfl rfl 5 (by decide) f32 (fun _ h9 => h9) rfl dX0_sayingsWith_17 ?_
    refine lv_iload_n hx hb dX0_sayingsWith_20 rfl (lv_at hl 0 rfl) ?_
    refine lv_iconst (v := nI 0) hx hb dX0_sayingsWith_21 (by decide) ?_
    refine roI hP hD hS hA [11, 12] rfl (runV (As := [.int (nI i), .int (nI 0)]) (rest := [.int (nI tk)]) (isC := [11, 12]) ⟨hx, hb, hml, hown, hts⟩ hKK hP hD rfl (by decide) (c_X4_at_in l G tA (a 6) (a 15) 8 2 n5 c5 i 0 (by omega) (by omega) (by omega) (by omega) (hb5) _) (cwV 2 hts gX0_sayingsWith_X4_at rfl rfl rfl (by decide +kernel) ⟨Nat.le_of_ble_eq_true rfl, Nat.le_of_ble_eq_true rfl⟩) rfl rfl rfl rfl hl.1 rfl (lv_room (Nat.le_of_ble_eq_true rfl)) dX0_sayingsWith_22 ⟨Nat.le_of_ble_eq_true rfl, Nat.le_of_ble_eq_true rfl⟩) (fun _ => rfl) (fun r_6 u_7 H locs q_8 hP hS => ?_)
    obtain ⟨rfl, e_9⟩ := q_8
    have e_9 : c5 (i * 4 + 0) < 1048576 := e_9
    have hand := andn_le tk (c5 (i * 4 + 0))
    refine lv_iconst (v := (-1)) hx hb dX0_sayingsWith_25 (by decide) ?_
    refine lv_ixor hx hb dX0_sayingsWith_26 ?_
    refine nv_andn hx hb dX0_sayingsWith_27 ?_
    refine nv_if_ne (tgt := 37) (by omega) hx hb dX0_sayingsWith_28 (by decide) (fun c_10 => ?_) (fun c_10 => ?_)
    · refine lv_iinc (v := (nI (i + 1))) (lv' := [(3, .int (nI (i + 1))), (2, .int (nI q)), (0, .ref (a 0)), (1, .int (nI tk))]) hx hb dX0_sayingsWith_37 hl (k := 0) rfl (nI_add i 1) (by decide) rfl (fun ls hl => ?_)
      refine lv_goto (tgt := 4) hx hb dX0_sayingsWith_40 (by decide) ?_
      exact ih_1 (i + 1, q) (show n5 - (i + 1) < n5 - i from by omega) ⟨(show (i + 1) ≤ n5 from by omega), (show q = bitsN (withB c5 tk) (i + 1) from by rw [bitsN_s, hq]; first | rw [if_pos (decide_eq_true (by omega))] | rw [if_neg (fun z => absurd (of_decide_eq_true z) (by omega)), Nat.or_zero] | rw [if_pos (show (withB c5 tk) i = true from decide_eq_true (by omega))] | rw [if_neg (show ¬ ((withB c5 tk) i = true) from fun z => absurd (of_decide_eq_true z) (by omega)), Nat.or_zero])⟩ _ _ _ (lv_sub hl [0, 1, 2, 3] rfl) hP hD hS
    · refine lv_iload_n hx hb dX0_sayingsWith_31 rfl (lv_at hl 1 rfl) ?_
      refine lv_iconst (v := nI 1) hx hb dX0_sayingsWith_32 (by decide) ?_
      refine lv_iload_n hx hb dX0_sayingsWith_33 rfl (lv_at hl 0 rfl) ?_
      refine nv_shl1 (by omega) hx hb dX0_sayingsWith_34 ?_
      refine nv_ior hx hb dX0_sayingsWith_35 ?_
      refine lv_istore_n (lv' := [(2, .int (nI (q ||| (2 ^ i)))), (3, .int (nI i)), (0, .ref (a 0)), (1, .int (nI tk))]) hx hb dX0_sayingsWith_36 rfl hl (by decide) rfl (fun ls hl => ?_)
      refine lv_iinc (v := (nI (i + 1))) (lv' := [(3, .int (nI (i + 1))), (2, .int (nI (q ||| (2 ^ i)))), (0, .ref (a 0)), (1, .int (nI tk))]) hx hb dX0_sayingsWith_37 hl (k := 1) rfl (nI_add i 1) (by decide) rfl (fun ls hl => ?_)
      refine lv_goto (tgt := 4) hx hb dX0_sayingsWith_40 (by decide) ?_
      exact ih_1 (i + 1, q ||| (2 ^ i)) (show n5 - (i + 1) < n5 - i from by omega) ⟨(show (i + 1) ≤ n5 from by omega), (show (q ||| (2 ^ i)) = bitsN (withB c5 tk) (i + 1) from by rw [bitsN_s, hq]; first | rw [if_pos (decide_eq_true (by omega))] | rw [if_neg (fun z => absurd (of_decide_eq_true z) (by omega)), Nat.or_zero] | rw [if_pos (show (withB c5 tk) i = true from decide_eq_true (by omega))] | rw [if_neg (show ¬ ((withB c5 tk) i = true) from fun z => absurd (of_decide_eq_true z) (by omega)), Nat.or_zero])⟩ _ _ _ (lv_sub hl [0, 1, 2, 3] rfl) hP hD hS

set_option maxHeartbeats 4000000 in
set_option maxRecDepth 100000 in
theorem c_X0_usedOf (l : Launch) (G : va_G) (tA : Nat → ClassId) (a : Nat → Nat) (n0 : Nat) (c0 : Nat → Nat) (n1 : Nat) (c1 : Nat → Nat) (n2 : Nat) (c2 : Nat → Nat) (n3 : Nat) (c3 : Nat → Nat) (n4 : Nat) (c4 : Nat → Nat) (n5 : Nat) (c5 : Nat → Nat) (hs : Nat → Nat) (wf : Nat → Nat) (wt : Nat → Nat) (tk : Nat) (hCW : CW n0 c0 n1 c1 n2 c2 n3 c3 n4 c4 n5 c5 hs wf wt) (htk : tk < 1048576) : CtI l yX0_usedOf wsX0_usedOf ({ frames := 1, cells := 0, slots := 0, locals := 23 }) G tA [.ref (a 0), .int (nI tk)] ([(a 0, .inr (0, [.ref (a 1), .ref (a 2), .ref (a 3), .ref (a 4), .ref (a 5), .ref (a 6), .ref (a 7), .ref (a 8), .ref (a 9)])), (a 1, .inr (2, [.ref (a 10), .int (nI 8), .int (nI 3), .int (nI n0)])), (a 10, .inl (tA 0, 40, .inl (nF c0))), (a 2, .inr (2, [.ref (a 11), .int (nI 10), .int (nI 4), .int (nI n1)])), (a 11, .inl (tA 0, 40, .inl (nF c1))), (a 3, .inr (2, [.ref (a 12), .int (nI 10), .int (nI 3), .int (nI n2)])), (a 12, .inl (tA 0, 40, .inl (nF c2))), (a 4, .inr (2, [.ref (a 13), .int (nI 8), .int (nI 3), .int (nI n3)])), (a 13, .inl (tA 0, 40, .inl (nF c3))), (a 5, .inr (2, [.ref (a 14), .int (nI 5), .int (nI 4), .int (nI n4)])), (a 14, .inl (tA 0, 40, .inl (nF c4))), (a 6, .inr (2, [.ref (a 15), .int (nI 8), .int (nI 2), .int (nI n5)])), (a 15, .inl (tA 0, 40, .inl (nF c5))), (a 7, .inl (tA 0, 5, .inl (nF hs))), (a 8, .inl (tA 0, 5, .inl (nF wf))), (a 9, .inl (tA 0, 40, .inl (nF wt)))]) (fun (r : Int32) (_ : Unit) => r = nI (usedS c5 tk n5) ∧ usedS c5 tk n5 ≤ 9 * n5) (fun (_ : Unit) => [(a 0, .inr (0, [.ref (a 1), .ref (a 2), .ref (a 3), .ref (a 4), .ref (a 5), .ref (a 6), .ref (a 7), .ref (a 8), .ref (a 9)])), (a 1, .inr (2, [.ref (a 10), .int (nI 8), .int (nI 3), .int (nI n0)])), (a 10, .inl (tA 0, 40, .inl (nF c0))), (a 2, .inr (2, [.ref (a 11), .int (nI 10), .int (nI 4), .int (nI n1)])), (a 11, .inl (tA 0, 40, .inl (nF c1))), (a 3, .inr (2, [.ref (a 12), .int (nI 10), .int (nI 3), .int (nI n2)])), (a 12, .inl (tA 0, 40, .inl (nF c2))), (a 4, .inr (2, [.ref (a 13), .int (nI 8), .int (nI 3), .int (nI n3)])), (a 13, .inl (tA 0, 40, .inl (nF c3))), (a 5, .inr (2, [.ref (a 14), .int (nI 5), .int (nI 4), .int (nI n4)])), (a 14, .inl (tA 0, 40, .inl (nF c4))), (a 6, .inr (2, [.ref (a 15), .int (nI 8), .int (nI 2), .int (nI n5)])), (a 15, .inl (tA 0, 40, .inl (nF c5))), (a 7, .inl (tA 0, 5, .inl (nF hs))), (a 8, .inl (tA 0, 5, .inl (nF wf))), (a 9, .inl (tA 0, 40, .inl (nF wt)))]) 0 0 := by
  refine enterI (cc := cX0_usedOf) (maxL := 4) (ret := (some .int)) (by decide) rfl (Nat.le_of_ble_eq_true rfl) ?_
  intro p0 e0 s m args below meth c0_ A ls hx hb hml hr hts hown hlocks hin hKK hA hP hD hl hS
  have hown : s.vm.findClass RX0 = some m.cls := hown
  have hl : lv_has ls 4 [(0, .ref (a 0)), (1, .int (nI tk))] := hl
  have f32 := hts (Cond.fieldLink RX0 32 "LentTerms$Counter" "sayings" "LLentTerms$Rows;") (List.mem_of_getElem? (i := 1) rfl)
  have iX0 : ∀ w ∈ wsX00, w ∈ wsX0_usedOf := by decide +kernel
  have n142 : (Cond.methodLinkNest "LentTerms$Counter" 142 ⟨"LentTerms", "hasBit", "(II)Z"⟩ "LentTerms").before args s = true := hKK.nest 16 rfl
  obtain ⟨⟨hn0, hn1, hn2, hn3, hn4, hn5⟩, ⟨hb0, hb1, hb2, hb3, hb4, hb5, hbh, hbw, hbt⟩, hv0, hv1, hv2, hv3, hv4, hv5, hv6, hv7⟩ := id hCW
  refine lv_iconst (v := nI 0) hx hb dX0_usedOf_0 (by decide) ?_
  refine lv_istore_n (lv' := [(2, .int (nI 0)), (0, .ref (a 0)), (1, .int (nI tk))]) hx hb dX0_usedOf_1 rfl hl (by decide) rfl (fun ls hl => ?_)
  refine lv_iconst (v := nI 0) hx hb dX0_usedOf_2 (by decide) ?_
  refine lv_istore_n (lv' := [(3, .int (nI 0)), (2, .int (nI 0)), (0, .ref (a 0)), (1, .int (nI tk))]) hx hb dX0_usedOf_3 rfl hl (by decide) rfl (fun ls hl => ?_)
  refine wloop (σ := (Nat) × (Nat)) (fun | (i, q) => n5 - i) (fun | (i, q) => (i ≤ n5) ∧ (q = usedS c5 tk i) ∧ (q ≤ 9 * i)) (fun | (i, q) => [(3, .int (nI i)), (2, .int (nI q)), (0, .ref (a 0)), (1, .int (nI tk))]) (fun | (i, q) => [(a 0, .inr (0, [.ref (a 1), .ref (a 2), .ref (a 3), .ref (a 4), .ref (a 5), .ref (a 6), .ref (a 7), .ref (a 8), .ref (a 9)])), (a 1, .inr (2, [.ref (a 10), .int (nI 8), .int (nI 3), .int (nI n0)])), (a 10, .inl (tA 0, 40, .inl (nF c0))), (a 2, .inr (2, [.ref (a 11), .int (nI 10), .int (nI 4), .int (nI n1)])), (a 11, .inl (tA 0, 40, .inl (nF c1))), (a 3, .inr (2, [.ref (a 12), .int (nI 10), .int (nI 3), .int (nI n2)])), (a 12, .inl (tA 0, 40, .inl (nF c2))), (a 4, .inr (2, [.ref (a 13), .int (nI 8), .int (nI 3), .int (nI n3)])), (a 13, .inl (tA 0, 40, .inl (nF c3))), (a 5, .inr (2, [.ref (a 14), .int (nI 5), .int (nI 4), .int (nI n4)])), (a 14, .inl (tA 0, 40, .inl (nF c4))), (a 6, .inr (2, [.ref (a 15), .int (nI 8), .int (nI 2), .int (nI n5)])), (a 15, .inl (tA 0, 40, .inl (nF c5))), (a 7, .inl (tA 0, 5, .inl (nF hs))), (a 8, .inl (tA 0, 5, .inl (nF wf))), (a 9, .inl (tA 0, 40, .inl (nF wt)))]) (0, 0) ⟨(show 0 ≤ n5 from by omega), (show 0 = usedS c5 tk 0 from rfl), (show 0 ≤ 9 * 0 from by omega)⟩ (lv_sub hl [0, 1, 2, 3] rfl) hP hD hS ?_
  rintro ⟨i, q⟩ ⟨hi, hq, hq2⟩ ih_1 ls H locs hl hP hD hS
  have hl : lv_has ls 4 [(3, .int (nI i)), (2, .int (nI q)), (0, .ref (a 0)), (1, .int (nI tk))] := hl
  have hP : va_P G vwCl [(a 0, .inr (0, [.ref (a 1), .ref (a 2), .ref (a 3), .ref (a 4), .ref (a 5), .ref (a 6), .ref (a 7), .ref (a 8), .ref (a 9)])), (a 1, .inr (2, [.ref (a 10), .int (nI 8), .int (nI 3), .int (nI n0)])), (a 10, .inl (tA 0, 40, .inl (nF c0))), (a 2, .inr (2, [.ref (a 11), .int (nI 10), .int (nI 4), .int (nI n1)])), (a 11, .inl (tA 0, 40, .inl (nF c1))), (a 3, .inr (2, [.ref (a 12), .int (nI 10), .int (nI 3), .int (nI n2)])), (a 12, .inl (tA 0, 40, .inl (nF c2))), (a 4, .inr (2, [.ref (a 13), .int (nI 8), .int (nI 3), .int (nI n3)])), (a 13, .inl (tA 0, 40, .inl (nF c3))), (a 5, .inr (2, [.ref (a 14), .int (nI 5), .int (nI 4), .int (nI n4)])), (a 14, .inl (tA 0, 40, .inl (nF c4))), (a 6, .inr (2, [.ref (a 15), .int (nI 8), .int (nI 2), .int (nI n5)])), (a 15, .inl (tA 0, 40, .inl (nF c5))), (a 7, .inl (tA 0, 5, .inl (nF hs))), (a 8, .inl (tA 0, 5, .inl (nF wf))), (a 9, .inl (tA 0, 40, .inl (nF wt)))] H := hP
  have hD : va_D A [(a 0, .inr (0, [.ref (a 1), .ref (a 2), .ref (a 3), .ref (a 4), .ref (a 5), .ref (a 6), .ref (a 7), .ref (a 8), .ref (a 9)])), (a 1, .inr (2, [.ref (a 10), .int (nI 8), .int (nI 3), .int (nI n0)])), (a 10, .inl (tA 0, 40, .inl (nF c0))), (a 2, .inr (2, [.ref (a 11), .int (nI 10), .int (nI 4), .int (nI n1)])), (a 11, .inl (tA 0, 40, .inl (nF c1))), (a 3, .inr (2, [.ref (a 12), .int (nI 10), .int (nI 3), .int (nI n2)])), (a 12, .inl (tA 0, 40, .inl (nF c2))), (a 4, .inr (2, [.ref (a 13), .int (nI 8), .int (nI 3), .int (nI n3)])), (a 13, .inl (tA 0, 40, .inl (nF c3))), (a 5, .inr (2, [.ref (a 14), .int (nI 5), .int (nI 4), .int (nI n4)])), (a 14, .inl (tA 0, 40, .inl (nF c4))), (a 6, .inr (2, [.ref (a 15), .int (nI 8), .int (nI 2), .int (nI n5)])), (a 15, .inl (tA 0, 40, .inl (nF c5))), (a 7, .inl (tA 0, 5, .inl (nF hs))), (a 8, .inl (tA 0, 5, .inl (nF wf))), (a 9, .inl (tA 0, 40, .inl (nF wt)))] := hD
  have hi : i ≤ n5 := hi
  have hq : q = usedS c5 tk i := hq
  have hq2 : q ≤ 9 * i := hq2
  refine lv_iload_n hx hb dX0_usedOf_4 rfl (lv_at hl 0 rfl) ?_
  refine lv_aload_n hx hb dX0_usedOf_5 rfl (lv_at hl 2 rfl) ?_
  refine va_get (D := G) (ci := 0) (C := RX0) (T := TX0) (N := 9) hx hb hts iX0 hown hKK.1 hP 0 rfl rfl 5 (by decide) f32 (fun _ h9 => h9) rfl dX0_usedOf_6 ?_
  refine roI hP hD hS hA [11, 12] rfl (runV (As := []) (rest := [.int (nI i)]) (isC := [11, 12]) ⟨hx, hb, hml, hown, hts⟩ hKK hP hD rfl (by decide) (c_X4_size l G tA (a 6) (a 15) 8 2 n5 c5 _) (cwV 0 hts gX0_usedOf_X4_size rfl rfl rfl (by decide +kernel) ⟨Nat.le_of_ble_eq_true rfl, Nat.le_of_ble_eq_true rfl⟩) rfl rfl rfl rfl hl.1 rfl (lv_room (Nat.le_of_ble_eq_true rfl)) dX0_usedOf_9 ⟨Nat.le_of_ble_eq_true rfl, Nat.le_of_ble_eq_true rfl⟩) (fun _ => rfl) (fun r_2 u_3 H locs q_4 hP hS => ?_)
  subst q_4
  refine nv_icmp_ge (tgt := 41) (by omega) (by omega) hx hb dX0_usedOf_12 (by decide) (fun c_5 => ?_) (fun c_5 => ?_)
  · refine lv_iload_n hx hb dX0_usedOf_41 rfl (lv_at hl 1 rfl) ?_
    exact retI hx hb hr hlocks hS hP hD () (rfl) (⟨congrArg nI (show (q : Nat) = usedS c5 tk n5 from by have e : i = n5 := (by omega); rw [hq, e]), by have e : i = n5 := (by omega); rw [← e, ← hq]; exact hq2⟩) dX0_usedOf_42
  · refine lv_iload_n hx hb dX0_usedOf_15 rfl (lv_at hl 3 rfl) ?_
    refine lv_iload_n hx hb dX0_usedOf_16 rfl (lv_at hl 0 rfl) ?_
    refine roI hP hD hS hA [] rfl (runSN (As := [.int (nI tk), .int (nI i)]) (rest := []) (isC := []) ⟨hx, hb, hml, hown, hts⟩ hKK hP hD rfl (by decide) (c_X8_hasBit l G tA tk i (by first | assumption | omega) (by first | assumption | omega) _) ⟨va_cnB 2 hts gX0_usedOf_X8_hasBit_n142 rfl rfl rfl (va_Nw.of rfl n142) (hts (.initialized RX8) (List.mem_of_getElem? (i := 9) rfl)) (by decide +kernel) ⟨Nat.le_of_ble_eq_true rfl, Nat.le_of_ble_eq_true rfl⟩, (hts (Cond.static yX8_hasBit) (List.mem_of_getElem? (i := 8) rfl)), trivial⟩ rfl rfl hl.1 rfl (lv_room (Nat.le_of_ble_eq_true rfl)) dX0_usedOf_17 ⟨Nat.le_of_ble_eq_true rfl, Nat.le_of_ble_eq_true rfl⟩) (fun _ => rfl) (fun r_6 u_7 H locs q_8 hP hS => ?_)
    rcases q_8 with ⟨rfl, p_9⟩ | ⟨rfl, p_9⟩
    · have p_9 : i < 32 ∧ tk / 2 ^ i % 2 = 1 := p_9
      refine nv_if_eq (tgt := 35) (by omega) hx hb dX0_usedOf_20 (by decide) (fun h => absurd h (by omega)) (fun _ => ?_)
      have hv := hv5 i (by omega)
      refine lv_iload_n hx hb dX0_usedOf_23 rfl (lv_at hl 1 rfl) ?_
      refine lv_aload_n hx hb dX0_usedOf_24 rfl (lv_at hl 2 rfl) ?_
      refine va_get (D := G) (ci := 0) (C := RX0) (T := TX0) (N := 9) hx hb hts iX0 hown hKK.1 hP 0 rfl rfl 5 (by decide) f32 (fun _ h9 => h9) rfl dX0_usedOf_25 ?_
      refine lv_iload_n hx hb dX0_usedOf_28 rfl (lv_at hl 0 rfl) ?_
      refine lv_iconst (v := nI 1) hx hb dX0_usedOf_29 (by decide) ?_
      refine roI hP hD hS hA [11, 12] rfl (runV (As := [.int (nI i), .int (nI 1)]) (rest := [.int (nI q)]) (isC := [11, 12]) ⟨hx, hb, hml, hown, hts⟩ hKK hP hD rfl (by decide) (c_X4_at_in l G tA (a 6) (a 15) 8 2 n5 c5 i 1 (by omega) (by omega) (by omega) (by omega) (hb5) _) (cwV 2 hts gX0_usedOf_X4_at rfl rfl rfl (by decide +kernel) ⟨Nat.le_of_ble_eq_true rfl, Nat.le_of_ble_eq_true rfl⟩) rfl rfl rfl rfl hl.1 rfl (lv_room (Nat.le_of_ble_eq_true rfl)) dX0_usedOf_30 ⟨Nat.le_of_ble_eq_true rfl, Nat.le_of_ble_eq_true rfl⟩) (fun _ => rfl) (fun r_11 u_12 H locs q_13 hP hS => ?_)
      obtain ⟨rfl, e_14⟩ := q_13
      have e_14 : c5 (i * 4 + 1) < 1048576 := e_14
      refine nv_iadd hx hb dX0_usedOf_33 ?_
      refine lv_istore_n (lv' := [(2, .int (nI (q + (c5 (i * 4 + 1))))), (3, .int (nI i)), (0, .ref (a 0)), (1, .int (nI tk))]) hx hb dX0_usedOf_34 rfl hl (by decide) rfl (fun ls hl => ?_)
      refine lv_iinc (v := (nI (i + 1))) (lv' := [(3, .int (nI (i + 1))), (2, .int (nI (q + (c5 (i * 4 + 1))))), (0, .ref (a 0)), (1, .int (nI tk))]) hx hb dX0_usedOf_35 hl (k := 1) rfl (nI_add i 1) (by decide) rfl (fun ls hl => ?_)
      refine lv_goto (tgt := 4) hx hb dX0_usedOf_38 (by decide) ?_
      exact ih_1 (i + 1, q + (c5 (i * 4 + 1))) (show n5 - (i + 1) < n5 - i from by omega) ⟨(show (i + 1) ≤ n5 from by omega), (show (q + (c5 (i * 4 + 1))) = usedS c5 tk (i + 1) from by rw [hq]; first | exact (if_pos (by assumption)).symm | exact (if_neg (by assumption)).symm), (show (q + (c5 (i * 4 + 1))) ≤ 9 * (i + 1) from by omega)⟩ _ _ _ (lv_sub hl [0, 1, 2, 3] rfl) hP hD hS
    · have p_9 : ¬ (i < 32 ∧ tk / 2 ^ i % 2 = 1) := p_9
      refine nv_if_eq (tgt := 35) (by omega) hx hb dX0_usedOf_20 (by decide) (fun _ => ?_) (fun h => absurd h (by omega))
      refine lv_iinc (v := (nI (i + 1))) (lv' := [(3, .int (nI (i + 1))), (2, .int (nI q)), (0, .ref (a 0)), (1, .int (nI tk))]) hx hb dX0_usedOf_35 hl (k := 0) rfl (nI_add i 1) (by decide) rfl (fun ls hl => ?_)
      refine lv_goto (tgt := 4) hx hb dX0_usedOf_38 (by decide) ?_
      exact ih_1 (i + 1, q) (show n5 - (i + 1) < n5 - i from by omega) ⟨(show (i + 1) ≤ n5 from by omega), (show q = usedS c5 tk (i + 1) from by rw [hq]; first | exact (if_pos (by assumption)).symm | exact (if_neg (by assumption)).symm), (show q ≤ 9 * (i + 1) from by omega)⟩ _ _ _ (lv_sub hl [0, 1, 2, 3] rfl) hP hD hS

set_option maxHeartbeats 4000000 in
set_option maxRecDepth 100000 in
theorem c_X0_billOf (l : Launch) (G : va_G) (tA : Nat → ClassId) (a : Nat → Nat) (n0 : Nat) (c0 : Nat → Nat) (n1 : Nat) (c1 : Nat → Nat) (n2 : Nat) (c2 : Nat → Nat) (n3 : Nat) (c3 : Nat → Nat) (n4 : Nat) (c4 : Nat → Nat) (n5 : Nat) (c5 : Nat → Nat) (hs : Nat → Nat) (wf : Nat → Nat) (wt : Nat → Nat) (pp : Nat) (hCW : CW n0 c0 n1 c1 n2 c2 n3 c3 n4 c4 n5 c5 hs wf wt) (hpp : pp < 1048576) : CtI l yX0_billOf wsX0_billOf ({ frames := 3, cells := 0, slots := 0, locals := 65 }) G tA [.ref (a 0), .int (nI pp)] ([(a 0, .inr (0, [.ref (a 1), .ref (a 2), .ref (a 3), .ref (a 4), .ref (a 5), .ref (a 6), .ref (a 7), .ref (a 8), .ref (a 9)])), (a 1, .inr (2, [.ref (a 10), .int (nI 8), .int (nI 3), .int (nI n0)])), (a 10, .inl (tA 0, 40, .inl (nF c0))), (a 2, .inr (2, [.ref (a 11), .int (nI 10), .int (nI 4), .int (nI n1)])), (a 11, .inl (tA 0, 40, .inl (nF c1))), (a 3, .inr (2, [.ref (a 12), .int (nI 10), .int (nI 3), .int (nI n2)])), (a 12, .inl (tA 0, 40, .inl (nF c2))), (a 4, .inr (2, [.ref (a 13), .int (nI 8), .int (nI 3), .int (nI n3)])), (a 13, .inl (tA 0, 40, .inl (nF c3))), (a 5, .inr (2, [.ref (a 14), .int (nI 5), .int (nI 4), .int (nI n4)])), (a 14, .inl (tA 0, 40, .inl (nF c4))), (a 6, .inr (2, [.ref (a 15), .int (nI 8), .int (nI 2), .int (nI n5)])), (a 15, .inl (tA 0, 40, .inl (nF c5))), (a 7, .inl (tA 0, 5, .inl (nF hs))), (a 8, .inl (tA 0, 5, .inl (nF wf))), (a 9, .inl (tA 0, 40, .inl (nF wt)))]) (fun (r : Int32) (_ : Unit) => r = nI (billS n0 c0 n1 c1 pp n1)) (fun (_ : Unit) => [(a 0, .inr (0, [.ref (a 1), .ref (a 2), .ref (a 3), .ref (a 4), .ref (a 5), .ref (a 6), .ref (a 7), .ref (a 8), .ref (a 9)])), (a 1, .inr (2, [.ref (a 10), .int (nI 8), .int (nI 3), .int (nI n0)])), (a 10, .inl (tA 0, 40, .inl (nF c0))), (a 2, .inr (2, [.ref (a 11), .int (nI 10), .int (nI 4), .int (nI n1)])), (a 11, .inl (tA 0, 40, .inl (nF c1))), (a 3, .inr (2, [.ref (a 12), .int (nI 10), .int (nI 3), .int (nI n2)])), (a 12, .inl (tA 0, 40, .inl (nF c2))), (a 4, .inr (2, [.ref (a 13), .int (nI 8), .int (nI 3), .int (nI n3)])), (a 13, .inl (tA 0, 40, .inl (nF c3))), (a 5, .inr (2, [.ref (a 14), .int (nI 5), .int (nI 4), .int (nI n4)])), (a 14, .inl (tA 0, 40, .inl (nF c4))), (a 6, .inr (2, [.ref (a 15), .int (nI 8), .int (nI 2), .int (nI n5)])), (a 15, .inl (tA 0, 40, .inl (nF c5))), (a 7, .inl (tA 0, 5, .inl (nF hs))), (a 8, .inl (tA 0, 5, .inl (nF wf))), (a 9, .inl (tA 0, 40, .inl (nF wt)))]) 0 0 := by
  refine enterI (cc := cX0_billOf) (maxL := 4) (ret := (some .int)) (by decide) rfl (Nat.le_of_ble_eq_true rfl) ?_
  intro p0 e0 s m args below meth c0_ A ls hx hb hml hr hts hown hlocks hin hKK hA hP hD hl hS
  have hown : s.vm.findClass RX0 = some m.cls := hown
  have hl : lv_has ls 4 [(0, .ref (a 0)), (1, .int (nI pp))] := hl
  have f20 := hts (Cond.fieldLink RX0 20 "LentTerms$Counter" "loans" "LLentTerms$Rows;") (List.mem_of_getElem? (i := 1) rfl)
  have iX0 : ∀ w ∈ wsX00, w ∈ wsX0_billOf := by decide +kernel
  obtain ⟨⟨hn0, hn1, hn2, hn3, hn4, hn5⟩, ⟨hb0, hb1, hb2, hb3, hb4, hb5, hbh, hbw, hbt⟩, hv0, hv1, hv2, hv3, hv4, hv5, hv6, hv7⟩ := id hCW
  refine lv_iconst (v := nI 0) hx hb dX0_billOf_0 (by decide) ?_
  refine lv_istore_n (lv' := [(2, .int (nI 0)), (0, .ref (a 0)), (1, .int (nI pp))]) hx hb dX0_billOf_1 rfl hl (by decide) rfl (fun ls hl => ?_)
  refine lv_iconst (v := nI 0) hx hb dX0_billOf_2 (by decide) ?_
  refine lv_istore_n (lv' := [(3, .int (nI 0)), (2, .int (nI 0)), (0, .ref (a 0)), (1, .int (nI pp))]) hx hb dX0_billOf_3 rfl hl (by decide) rfl (fun ls hl => ?_)
  refine wloop (σ := (Nat) × (Nat)) (fun | (i, q) => n1 - i) (fun | (i, q) => (i ≤ n1) ∧ (q = billS n0 c0 n1 c1 pp i)) (fun | (i, q) => [(3, .int (nI i)), (2, .int (nI q)), (0, .ref (a 0)), (1, .int (nI pp))]) (fun | (i, q) => [(a 0, .inr (0, [.ref (a 1), .ref (a 2), .ref (a 3), .ref (a 4), .ref (a 5), .ref (a 6), .ref (a 7), .ref (a 8), .ref (a 9)])), (a 1, .inr (2, [.ref (a 10), .int (nI 8), .int (nI 3), .int (nI n0)])), (a 10, .inl (tA 0, 40, .inl (nF c0))), (a 2, .inr (2, [.ref (a 11), .int (nI 10), .int (nI 4), .int (nI n1)])), (a 11, .inl (tA 0, 40, .inl (nF c1))), (a 3, .inr (2, [.ref (a 12), .int (nI 10), .int (nI 3), .int (nI n2)])), (a 12, .inl (tA 0, 40, .inl (nF c2))), (a 4, .inr (2, [.ref (a 13), .int (nI 8), .int (nI 3), .int (nI n3)])), (a 13, .inl (tA 0, 40, .inl (nF c3))), (a 5, .inr (2, [.ref (a 14), .int (nI 5), .int (nI 4), .int (nI n4)])), (a 14, .inl (tA 0, 40, .inl (nF c4))), (a 6, .inr (2, [.ref (a 15), .int (nI 8), .int (nI 2), .int (nI n5)])), (a 15, .inl (tA 0, 40, .inl (nF c5))), (a 7, .inl (tA 0, 5, .inl (nF hs))), (a 8, .inl (tA 0, 5, .inl (nF wf))), (a 9, .inl (tA 0, 40, .inl (nF wt)))]) (0, 0) ⟨(show 0 ≤ n1 from by omega), (show 0 = billS n0 c0 n1 c1 pp 0 from rfl)⟩ (lv_sub hl [0, 1, 2, 3] rfl) hP hD hS ?_
  rintro ⟨i, q⟩ ⟨hi, hq⟩ ih_1 ls H locs hl hP hD hS
  have hl : lv_has ls 4 [(3, .int (nI i)), (2, .int (nI q)), (0, .ref (a 0)), (1, .int (nI pp))] := hl
  have hP : va_P G vwCl [(a 0, .inr (0, [.ref (a 1), .ref (a 2), .ref (a 3), .ref (a 4), .ref (a 5), .ref (a 6), .ref (a 7), .ref (a 8), .ref (a 9)])), (a 1, .inr (2, [.ref (a 10), .int (nI 8), .int (nI 3), .int (nI n0)])), (a 10, .inl (tA 0, 40, .inl (nF c0))), (a 2, .inr (2, [.ref (a 11), .int (nI 10), .int (nI 4), .int (nI n1)])), (a 11, .inl (tA 0, 40, .inl (nF c1))), (a 3, .inr (2, [.ref (a 12), .int (nI 10), .int (nI 3), .int (nI n2)])), (a 12, .inl (tA 0, 40, .inl (nF c2))), (a 4, .inr (2, [.ref (a 13), .int (nI 8), .int (nI 3), .int (nI n3)])), (a 13, .inl (tA 0, 40, .inl (nF c3))), (a 5, .inr (2, [.ref (a 14), .int (nI 5), .int (nI 4), .int (nI n4)])), (a 14, .inl (tA 0, 40, .inl (nF c4))), (a 6, .inr (2, [.ref (a 15), .int (nI 8), .int (nI 2), .int (nI n5)])), (a 15, .inl (tA 0, 40, .inl (nF c5))), (a 7, .inl (tA 0, 5, .inl (nF hs))), (a 8, .inl (tA 0, 5, .inl (nF wf))), (a 9, .inl (tA 0, 40, .inl (nF wt)))] H := hP
  have hD : va_D A [(a 0, .inr (0, [.ref (a 1), .ref (a 2), .ref (a 3), .ref (a 4), .ref (a 5), .ref (a 6), .ref (a 7), .ref (a 8), .ref (a 9)])), (a 1, .inr (2, [.ref (a 10), .int (nI 8), .int (nI 3), .int (nI n0)])), (a 10, .inl (tA 0, 40, .inl (nF c0))), (a 2, .inr (2, [.ref (a 11), .int (nI 10), .int (nI 4), .int (nI n1)])), (a 11, .inl (tA 0, 40, .inl (nF c1))), (a 3, .inr (2, [.ref (a 12), .int (nI 10), .int (nI 3), .int (nI n2)])), (a 12, .inl (tA 0, 40, .inl (nF c2))), (a 4, .inr (2, [.ref (a 13), .int (nI 8), .int (nI 3), .int (nI n3)])), (a 13, .inl (tA 0, 40, .inl (nF c3))), (a 5, .inr (2, [.ref (a 14), .int (nI 5), .int (nI 4), .int (nI n4)])), (a 14, .inl (tA 0, 40, .inl (nF c4))), (a 6, .inr (2, [.ref (a 15), .int (nI 8), .int (nI 2), .int (nI n5)])), (a 15, .inl (tA 0, 40, .inl (nF c5))), (a 7, .inl (tA 0, 5, .inl (nF hs))), (a 8, .inl (tA 0, 5, .inl (nF wf))), (a 9, .inl (tA 0, 40, .inl (nF wt)))] := hD
  have hi : i ≤ n1 := hi
  have hq : q = billS n0 c0 n1 c1 pp i := hq
  refine lv_iload_n hx hb dX0_billOf_4 rfl (lv_at hl 0 rfl) ?_
  refine lv_aload_n hx hb dX0_billOf_5 rfl (lv_at hl 2 rfl) ?_
  refine va_get (D := G) (ci := 0) (C := RX0) (T := TX0) (N := 9) hx hb hts iX0 hown hKK.1 hP 0 rfl rfl 1 (by decide) f20 (fun _ h9 => h9) rfl dX0_billOf_6 ?_
  refine roI hP hD hS hA [3, 4] rfl (runV (As := []) (rest := [.int (nI i)]) (isC := [3, 4]) ⟨hx, hb, hml, hown, hts⟩ hKK hP hD rfl (by decide) (c_X4_size l G tA (a 2) (a 11) 10 4 n1 c1 _) (cwV 0 hts gX0_billOf_X4_size rfl rfl rfl (by decide +kernel) ⟨Nat.le_of_ble_eq_true rfl, Nat.le_of_ble_eq_true rfl⟩) rfl rfl rfl rfl hl.1 rfl (lv_room (Nat.le_of_ble_eq_true rfl)) dX0_billOf_9 ⟨Nat.le_of_ble_eq_true rfl, Nat.le_of_ble_eq_true rfl⟩) (fun _ => rfl) (fun r_2 u_3 H locs q_4 hP hS => ?_)
  subst q_4
  refine nv_icmp_ge (tgt := 55) (by omega) (by omega) hx hb dX0_billOf_12 (by decide) (fun c_5 => ?_) (fun c_5 => ?_)
  · refine lv_iload_n hx hb dX0_billOf_55 rfl (lv_at hl 1 rfl) ?_
    exact retI hx hb hr hlocks hS hP hD () (rfl) (congrArg nI (show (q : Nat) = billS n0 c0 n1 c1 pp n1 from by have e : i = n1 := (by omega); rw [hq, e])) dX0_billOf_56
  · have hv := hv1 i (by omega)
    refine lv_aload_n hx hb dX0_billOf_15 rfl (lv_at hl 2 rfl) ?_
    refine va_get (D := G) (ci := 0) (C := RX0) (T := TX0) (N := 9) hx hb hts iX0 hown hKK.1 hP 0 rfl rfl 1 (by decide) f20 (fun _ h9 => h9) rfl dX0_billOf_16 ?_
    refine lv_iload_n hx hb dX0_billOf_19 rfl (lv_at hl 0 rfl) ?_
    refine lv_iconst (v := nI 0) hx hb dX0_billOf_20 (by decide) ?_
    refine roI hP hD hS hA [3, 4] rfl (runV (As := [.int (nI i), .int (nI 0)]) (rest := []) (isC := [3, 4]) ⟨hx, hb, hml, hown, hts⟩ hKK hP hD rfl (by decide) (c_X4_at_in l G tA (a 2) (a 11) 10 4 n1 c1 i 0 (by omega) (by omega) (by omega) (by omega) (hb1) _) (cwV 2 hts gX0_billOf_X4_at rfl rfl rfl (by decide +kernel) ⟨Nat.le_of_ble_eq_true rfl, Nat.le_of_ble_eq_true rfl⟩) rfl rfl rfl rfl hl.1 rfl (lv_room (Nat.le_of_ble_eq_true rfl)) dX0_billOf_21 ⟨Nat.le_of_ble_eq_true rfl, Nat.le_of_ble_eq_true rfl⟩) (fun _ => rfl) (fun r_6 u_7 H locs q_8 hP hS => ?_)
    obtain ⟨rfl, e_9⟩ := q_8
    have e_9 : c1 (i * 4 + 0) < 1048576 := e_9
    refine lv_iload_n hx hb dX0_billOf_24 rfl (lv_at hl 3 rfl) ?_
    refine nv_icmp_ne (tgt := 49) (by omega) (by omega) hx hb dX0_billOf_25 (by decide) (fun c_10 => ?_) (fun c_10 => ?_)
    · refine lv_iinc (v := (nI (i + 1))) (lv' := [(3, .int (nI (i + 1))), (2, .int (nI q)), (0, .ref (a 0)), (1, .int (nI pp))]) hx hb dX0_billOf_49 hl (k := 0) rfl (nI_add i 1) (by decide) rfl (fun ls hl => ?_)
      refine lv_goto (tgt := 4) hx hb dX0_billOf_52 (by decide) ?_
      exact ih_1 (i + 1, q) (show n1 - (i + 1) < n1 - i from by omega) ⟨(show (i + 1) ≤ n1 from by omega), (show q = billS n0 c0 n1 c1 pp (i + 1) from by rw [hq]; first | exact (if_pos (by assumption)).symm | exact (if_neg (by assumption)).symm)⟩ _ _ _ (lv_sub hl [0, 1, 2, 3] rfl) hP hD hS
    · refine lv_iload_n hx hb dX0_billOf_28 rfl (lv_at hl 1 rfl) ?_
      refine lv_aload_n hx hb dX0_billOf_29 rfl (lv_at hl 2 rfl) ?_
      refine lv_aload_n hx hb dX0_billOf_30 rfl (lv_at hl 2 rfl) ?_
      refine va_get (D := G) (ci := 0) (C := RX0) (T := TX0) (N := 9) hx hb hts iX0 hown hKK.1 hP 0 rfl rfl 1 (by decide) f20 (fun _ h9 => h9) rfl dX0_billOf_31 ?_
      refine lv_iload_n hx hb dX0_billOf_34 rfl (lv_at hl 0 rfl) ?_
      refine lv_iconst (v := nI 1) hx hb dX0_billOf_35 (by decide) ?_
      refine roI hP hD hS hA [3, 4] rfl (runV (As := [.int (nI i), .int (nI 1)]) (rest := [.ref (a 0), .int (nI q)]) (isC := [3, 4]) ⟨hx, hb, hml, hown, hts⟩ hKK hP hD rfl (by decide) (c_X4_at_in l G tA (a 2) (a 11) 10 4 n1 c1 i 1 (by omega) (by omega) (by omega) (by omega) (hb1) _) (cwV 2 hts gX0_billOf_X4_at rfl rfl rfl (by decide +kernel) ⟨Nat.le_of_ble_eq_true rfl, Nat.le_of_ble_eq_true rfl⟩) rfl rfl rfl rfl hl.1 rfl (lv_room (Nat.le_of_ble_eq_true rfl)) dX0_billOf_36 ⟨Nat.le_of_ble_eq_true rfl, Nat.le_of_ble_eq_true rfl⟩) (fun _ => rfl) (fun r_11 u_12 H locs q_13 hP hS => ?_)
      obtain ⟨rfl, e_14⟩ := q_13
      have e_14 : c1 (i * 4 + 1) < 1048576 := e_14
      refine lv_aload_n hx hb dX0_billOf_39 rfl (lv_at hl 2 rfl) ?_
      refine lv_iload_n hx hb dX0_billOf_40 rfl (lv_at hl 0 rfl) ?_
      refine roI hP hD hS hA [0, 1, 2, 3, 4, 5, 6, 7, 8, 9, 10, 11, 12, 13, 14, 15] rfl (runV (As := [.int (nI i)]) (rest := [.int (nI (c1 (i * 4 + 1))), .ref (a 0), .int (nI q)]) (isC := [0, 1, 2, 3, 4, 5, 6, 7, 8, 9, 10, 11, 12, 13, 14, 15]) ⟨hx, hb, hml, hown, hts⟩ hKK hP hD rfl (by decide) (c_X0_hoursOf l G tA a n0 c0 n1 c1 n2 c2 n3 c3 n4 c4 n5 c5 hs wf wt i (hCW) (by first | assumption | omega) _) (cwV 1 hts gX0_billOf_X0_hoursOf rfl rfl rfl (by decide +kernel) ⟨Nat.le_of_ble_eq_true rfl, Nat.le_of_ble_eq_true rfl⟩) rfl rfl rfl rfl hl.1 rfl (lv_room (Nat.le_of_ble_eq_true rfl)) dX0_billOf_41 ⟨Nat.le_of_ble_eq_true rfl, Nat.le_of_ble_eq_true rfl⟩) (fun _ => rfl) (fun r_15 u_16 H locs q_17 hP hS => ?_)
      obtain ⟨rfl, e_18⟩ := q_17
      have e_18 : c1 (i * 4 + 3) - c1 (i * 4 + 2) + 1 ≤ 24 := e_18
      refine roI hP hD hS hA [0, 1, 2, 3, 4, 5, 6, 7, 8, 9, 10, 11, 12, 13, 14, 15] rfl (runV (As := [.int (nI (c1 (i * 4 + 1))), .int (nI (c1 (i * 4 + 3) - c1 (i * 4 + 2) + 1))]) (rest := [.int (nI q)]) (isC := [0, 1, 2, 3, 4, 5, 6, 7, 8, 9, 10, 11, 12, 13, 14, 15]) ⟨hx, hb, hml, hown, hts⟩ hKK hP hD rfl (by decide) (c_X0_price l G tA a n0 c0 n1 c1 n2 c2 n3 c3 n4 c4 n5 c5 hs wf wt (c1 (i * 4 + 1)) (c1 (i * 4 + 3) - c1 (i * 4 + 2) + 1) (hCW) (by omega) (by omega) _) (cwV 2 hts gX0_billOf_X0_price rfl rfl rfl (by decide +kernel) ⟨Nat.le_of_ble_eq_true rfl, Nat.le_of_ble_eq_true rfl⟩) rfl rfl rfl rfl hl.1 rfl (lv_room (Nat.le_of_ble_eq_true rfl)) dX0_billOf_44 ⟨Nat.le_of_ble_eq_true rfl, Nat.le_of_ble_eq_true rfl⟩) (fun _ => rfl) (fun r_19 u_20 H locs q_21 hP hS => ?_)
      obtain ⟨rfl, e_22⟩ := q_21
      have e_22 : costS (c0 ((c1 (i * 4 + 1)) * 4 + 0)) (c0 ((c1 (i * 4 + 1)) * 4 + 2)) (c1 (i * 4 + 3) - c1 (i * 4 + 2) + 1) < 150994936 := e_22
      refine nv_iadd hx hb dX0_billOf_47 ?_
      refine lv_istore_n (lv' := [(2, .int (nI (q + (costS (c0 ((c1 (i * 4 + 1)) * 4 + 0)) (c0 ((c1 (i * 4 + 1)) * 4 + 2)) (c1 (i * 4 + 3) - c1 (i * 4 + 2) + 1))))), (3, .int (nI i)), (0, .ref (a 0)), (1, .int (nI pp))]) hx hb dX0_billOf_48 rfl hl (by decide) rfl (fun ls hl => ?_)
      refine lv_iinc (v := (nI (i + 1))) (lv' := [(3, .int (nI (i + 1))), (2, .int (nI (q + (costS (c0 ((c1 (i * 4 + 1)) * 4 + 0)) (c0 ((c1 (i * 4 + 1)) * 4 + 2)) (c1 (i * 4 + 3) - c1 (i * 4 + 2) + 1))))), (0, .ref (a 0)), (1, .int (nI pp))]) hx hb dX0_billOf_49 hl (k := 1) rfl (nI_add i 1) (by decide) rfl (fun ls hl => ?_)
      refine lv_goto (tgt := 4) hx hb dX0_billOf_52 (by decide) ?_
      exact ih_1 (i + 1, q + (costS (c0 ((c1 (i * 4 + 1)) * 4 + 0)) (c0 ((c1 (i * 4 + 1)) * 4 + 2)) (c1 (i * 4 + 3) - c1 (i * 4 + 2) + 1))) (show n1 - (i + 1) < n1 - i from by omega) ⟨(show (i + 1) ≤ n1 from by omega), (show (q + (costS (c0 ((c1 (i * 4 + 1)) * 4 + 0)) (c0 ((c1 (i * 4 + 1)) * 4 + 2)) (c1 (i * 4 + 3) - c1 (i * 4 + 2) + 1))) = billS n0 c0 n1 c1 pp (i + 1) from by rw [hq]; first | exact (if_pos (by assumption)).symm | exact (if_neg (by assumption)).symm)⟩ _ _ _ (lv_sub hl [0, 1, 2, 3] rfl) hP hD hS

set_option maxHeartbeats 4000000 in
set_option maxRecDepth 100000 in
theorem c_X0_hadLoan (l : Launch) (G : va_G) (tA : Nat → ClassId) (a : Nat → Nat) (n0 : Nat) (c0 : Nat → Nat) (n1 : Nat) (c1 : Nat → Nat) (n2 : Nat) (c2 : Nat → Nat) (n3 : Nat) (c3 : Nat → Nat) (n4 : Nat) (c4 : Nat → Nat) (n5 : Nat) (c5 : Nat → Nat) (hs : Nat → Nat) (wf : Nat → Nat) (wt : Nat → Nat) (pp : Nat) (t : Nat) (h : Nat) (hCW : CW n0 c0 n1 c1 n2 c2 n3 c3 n4 c4 n5 c5 hs wf wt) (hpp : pp < 1048576) (ht : t < 1048576) (hh : h < 1048576) : CtI l yX0_hadLoan wsX0_hadLoan ({ frames := 2, cells := 0, slots := 0, locals := 46 }) G tA [.ref (a 0), .int (nI pp), .int (nI t), .int (nI h)] ([(a 0, .inr (0, [.ref (a 1), .ref (a 2), .ref (a 3), .ref (a 4), .ref (a 5), .ref (a 6), .ref (a 7), .ref (a 8), .ref (a 9)])), (a 1, .inr (2, [.ref (a 10), .int (nI 8), .int (nI 3), .int (nI n0)])), (a 10, .inl (tA 0, 40, .inl (nF c0))), (a 2, .inr (2, [.ref (a 11), .int (nI 10), .int (nI 4), .int (nI n1)])), (a 11, .inl (tA 0, 40, .inl (nF c1))), (a 3, .inr (2, [.ref (a 12), .int (nI 10), .int (nI 3), .int (nI n2)])), (a 12, .inl (tA 0, 40, .inl (nF c2))), (a 4, .inr (2, [.ref (a 13), .int (nI 8), .int (nI 3), .int (nI n3)])), (a 13, .inl (tA 0, 40, .inl (nF c3))), (a 5, .inr (2, [.ref (a 14), .int (nI 5), .int (nI 4), .int (nI n4)])), (a 14, .inl (tA 0, 40, .inl (nF c4))), (a 6, .inr (2, [.ref (a 15), .int (nI 8), .int (nI 2), .int (nI n5)])), (a 15, .inl (tA 0, 40, .inl (nF c5))), (a 7, .inl (tA 0, 5, .inl (nF hs))), (a 8, .inl (tA 0, 5, .inl (nF wf))), (a 9, .inl (tA 0, 40, .inl (nF wt)))]) (fun (r : Int32) (_ : Unit) => ((r = nI 1 ∧ (hadP n1 c1 pp t h)) ∨ (r = nI 0 ∧ ¬ (hadP n1 c1 pp t h)))) (fun (_ : Unit) => [(a 0, .inr (0, [.ref (a 1), .ref (a 2), .ref (a 3), .ref (a 4), .ref (a 5), .ref (a 6), .ref (a 7), .ref (a 8), .ref (a 9)])), (a 1, .inr (2, [.ref (a 10), .int (nI 8), .int (nI 3), .int (nI n0)])), (a 10, .inl (tA 0, 40, .inl (nF c0))), (a 2, .inr (2, [.ref (a 11), .int (nI 10), .int (nI 4), .int (nI n1)])), (a 11, .inl (tA 0, 40, .inl (nF c1))), (a 3, .inr (2, [.ref (a 12), .int (nI 10), .int (nI 3), .int (nI n2)])), (a 12, .inl (tA 0, 40, .inl (nF c2))), (a 4, .inr (2, [.ref (a 13), .int (nI 8), .int (nI 3), .int (nI n3)])), (a 13, .inl (tA 0, 40, .inl (nF c3))), (a 5, .inr (2, [.ref (a 14), .int (nI 5), .int (nI 4), .int (nI n4)])), (a 14, .inl (tA 0, 40, .inl (nF c4))), (a 6, .inr (2, [.ref (a 15), .int (nI 8), .int (nI 2), .int (nI n5)])), (a 15, .inl (tA 0, 40, .inl (nF c5))), (a 7, .inl (tA 0, 5, .inl (nF hs))), (a 8, .inl (tA 0, 5, .inl (nF wf))), (a 9, .inl (tA 0, 40, .inl (nF wt)))]) 0 0 := by
  refine enterI (cc := cX0_hadLoan) (maxL := 5) (ret := (some .boolean)) (by decide) rfl (Nat.le_of_ble_eq_true rfl) ?_
  intro p0 e0 s m args below meth c0_ A ls hx hb hml hr hts hown hlocks hin hKK hA hP hD hl hS
  have hown : s.vm.findClass RX0 = some m.cls := hown
  have hl : lv_has ls 5 [(0, .ref (a 0)), (1, .int (nI pp)), (2, .int (nI t)), (3, .int (nI h))] := hl
  have f20 := hts (Cond.fieldLink RX0 20 "LentTerms$Counter" "loans" "LLentTerms$Rows;") (List.mem_of_getElem? (i := 1) rfl)
  have iX0 : ∀ w ∈ wsX00, w ∈ wsX0_hadLoan := by decide +kernel
  obtain ⟨⟨hn0, hn1, hn2, hn3, hn4, hn5⟩, ⟨hb0, hb1, hb2, hb3, hb4, hb5, hbh, hbw, hbt⟩, hv0, hv1, hv2, hv3, hv4, hv5, hv6, hv7⟩ := id hCW
  refine lv_iconst (v := nI 0) hx hb dX0_hadLoan_0 (by decide) ?_
  refine lv_istore (lv' := [(4, .int (nI 0)), (0, .ref (a 0)), (1, .int (nI pp)), (2, .int (nI t)), (3, .int (nI h))]) hx hb dX0_hadLoan_1 hl (by decide) rfl (fun ls hl => ?_)
  refine wloop (σ := (Nat)) (fun | i => n1 - i) (fun | i => (i ≤ n1) ∧ (∀ j, j < i → ¬ (c1 (j * 4 + 0) = pp ∧ lentB n1 c1 t h j = true))) (fun | i => [(4, .int (nI i)), (0, .ref (a 0)), (1, .int (nI pp)), (2, .int (nI t)), (3, .int (nI h))]) (fun | i => [(a 0, .inr (0, [.ref (a 1), .ref (a 2), .ref (a 3), .ref (a 4), .ref (a 5), .ref (a 6), .ref (a 7), .ref (a 8), .ref (a 9)])), (a 1, .inr (2, [.ref (a 10), .int (nI 8), .int (nI 3), .int (nI n0)])), (a 10, .inl (tA 0, 40, .inl (nF c0))), (a 2, .inr (2, [.ref (a 11), .int (nI 10), .int (nI 4), .int (nI n1)])), (a 11, .inl (tA 0, 40, .inl (nF c1))), (a 3, .inr (2, [.ref (a 12), .int (nI 10), .int (nI 3), .int (nI n2)])), (a 12, .inl (tA 0, 40, .inl (nF c2))), (a 4, .inr (2, [.ref (a 13), .int (nI 8), .int (nI 3), .int (nI n3)])), (a 13, .inl (tA 0, 40, .inl (nF c3))), (a 5, .inr (2, [.ref (a 14), .int (nI 5), .int (nI 4), .int (nI n4)])), (a 14, .inl (tA 0, 40, .inl (nF c4))), (a 6, .inr (2, [.ref (a 15), .int (nI 8), .int (nI 2), .int (nI n5)])), (a 15, .inl (tA 0, 40, .inl (nF c5))), (a 7, .inl (tA 0, 5, .inl (nF hs))), (a 8, .inl (tA 0, 5, .inl (nF wf))), (a 9, .inl (tA 0, 40, .inl (nF wt)))]) 0 ⟨(show 0 ≤ n1 from by omega), (show ∀ j, j < 0 → ¬ (c1 (j * 4 + 0) = pp ∧ lentB n1 c1 t h j = true) from by intro j q; omega)⟩ (lv_sub hl [0, 1, 2, 3, 4] rfl) hP hD hS ?_
  rintro i ⟨hi, hno⟩ ih_1 ls H locs hl hP hD hS
  have hl : lv_has ls 5 [(4, .int (nI i)), (0, .ref (a 0)), (1, .int (nI pp)), (2, .int (nI t)), (3, .int (nI h))] := hl
  have hP : va_P G vwCl [(a 0, .inr (0, [.ref (a 1), .ref (a 2), .ref (a 3), .ref (a 4), .ref (a 5), .ref (a 6), .ref (a 7), .ref (a 8), .ref (a 9)])), (a 1, .inr (2, [.ref (a 10), .int (nI 8), .int (nI 3), .int (nI n0)])), (a 10, .inl (tA 0, 40, .inl (nF c0))), (a 2, .inr (2, [.ref (a 11), .int (nI 10), .int (nI 4), .int (nI n1)])), (a 11, .inl (tA 0, 40, .inl (nF c1))), (a 3, .inr (2, [.ref (a 12), .int (nI 10), .int (nI 3), .int (nI n2)])), (a 12, .inl (tA 0, 40, .inl (nF c2))), (a 4, .inr (2, [.ref (a 13), .int (nI 8), .int (nI 3), .int (nI n3)])), (a 13, .inl (tA 0, 40, .inl (nF c3))), (a 5, .inr (2, [.ref (a 14), .int (nI 5), .int (nI 4), .int (nI n4)])), (a 14, .inl (tA 0, 40, .inl (nF c4))), (a 6, .inr (2, [.ref (a 15), .int (nI 8), .int (nI 2), .int (nI n5)])), (a 15, .inl (tA 0, 40, .inl (nF c5))), (a 7, .inl (tA 0, 5, .inl (nF hs))), (a 8, .inl (tA 0, 5, .inl (nF wf))), (a 9, .inl (tA 0, 40, .inl (nF wt)))] H := hP
  have hD : va_D A [(a 0, .inr (0, [.ref (a 1), .ref (a 2), .ref (a 3), .ref (a 4), .ref (a 5), .ref (a 6), .ref (a 7), .ref (a 8), .ref (a 9)])), (a 1, .inr (2, [.ref (a 10), .int (nI 8), .int (nI 3), .int (nI n0)])), (a 10, .inl (tA 0, 40, .inl (nF c0))), (a 2, .inr (2, [.ref (a 11), .int (nI 10), .int (nI 4), .int (nI n1)])), (a 11, .inl (tA 0, 40, .inl (nF c1))), (a 3, .inr (2, [.ref (a 12), .int (nI 10), .int (nI 3), .int (nI n2)])), (a 12, .inl (tA 0, 40, .inl (nF c2))), (a 4, .inr (2, [.ref (a 13), .int (nI 8), .int (nI 3), .int (nI n3)])), (a 13, .inl (tA 0, 40, .inl (nF c3))), (a 5, .inr (2, [.ref (a 14), .int (nI 5), .int (nI 4), .int (nI n4)])), (a 14, .inl (tA 0, 40, .inl (nF c4))), (a 6, .inr (2, [.ref (a 15), .int (nI 8), .int (nI 2), .int (nI n5)])), (a 15, .inl (tA 0, 40, .inl (nF c5))), (a 7, .inl (tA 0, 5, .inl (nF hs))), (a 8, .inl (tA 0, 5, .inl (nF wf))), (a 9, .inl (tA 0, 40, .inl (nF wt)))] := hD
  have hi : i ≤ n1 := hi
  have hno : ∀ j, j < i → ¬ (c1 (j * 4 + 0) = pp ∧ lentB n1 c1 t h j = true) := hno
  refine lv_iload hx hb dX0_hadLoan_3 (lv_at hl 0 rfl) ?_
  refine lv_aload_n hx hb dX0_hadLoan_5 rfl (lv_at hl 1 rfl) ?_
  refine va_get (D := G) (ci := 0) (C := RX0) (T := TX0) (N := 9) hx hb hts iX0 hown hKK.1 hP 0 rfl rfl 1 (by decide) f20 (fun _ h9 => h9) rfl dX0_hadLoan_6 ?_
  refine roI hP hD hS hA [3, 4] rfl (runV (As := []) (rest := [.int (nI i)]) (isC := [3, 4]) ⟨hx, hb, hml, hown, hts⟩ hKK hP hD rfl (by decide) (c_X4_size l G tA (a 2) (a 11) 10 4 n1 c1 _) (cwV 0 hts gX0_hadLoan_X4_size rfl rfl rfl (by decide +kernel) ⟨Nat.le_of_ble_eq_true rfl, Nat.le_of_ble_eq_true rfl⟩) rfl rfl rfl rfl hl.1 rfl (lv_room (Nat.le_of_ble_eq_true rfl)) dX0_hadLoan_9 ⟨Nat.le_of_ble_eq_true rfl, Nat.le_of_ble_eq_true rfl⟩) (fun _ => rfl) (fun r_2 u_3 H locs q_4 hP hS => ?_)
  subst q_4
  refine nv_icmp_ge (tgt := 48) (by omega) (by omega) hx hb dX0_hadLoan_12 (by decide) (fun c_5 => ?_) (fun c_5 => ?_)
  · refine lv_iconst (v := nI 0) hx hb dX0_hadLoan_48 (by decide) ?_
    exact retZ (ty := .boolean) hx hb hr rfl hlocks hS hP hD () (rfl) (Or.inr ⟨rfl, by rintro ⟨j, q1, q2, q3⟩; exact hno j (by omega) ⟨q2, q3⟩⟩) dX0_hadLoan_49
  · refine lv_aload_n hx hb dX0_hadLoan_15 rfl (lv_at hl 1 rfl) ?_
    refine va_get (D := G) (ci := 0) (C := RX0) (T := TX0) (N := 9) hx hb hts iX0 hown hKK.1 hP 0 rfl rfl 1 (by decide) f20 (fun _ h9 => h9) rfl dX0_hadLoan_16 ?_
    refine lv_iload hx hb dX0_hadLoan_19 (lv_at hl 0 rfl) ?_
    refine lv_iconst (v := nI 0) hx hb dX0_hadLoan_21 (by decide) ?_
    refine roI hP hD hS hA [3, 4] rfl (runV (As := [.int (nI i), .int (nI 0)]) (rest := []) (isC := [3, 4]) ⟨hx, hb, hml, hown, hts⟩ hKK hP hD rfl (by decide) (c_X4_at_in l G tA (a 2) (a 11) 10 4 n1 c1 i 0 (by omega) (by omega) (by omega) (by omega) (hb1) _) (cwV 2 hts gX0_hadLoan_X4_at rfl rfl rfl (by decide +kernel) ⟨Nat.le_of_ble_eq_true rfl, Nat.le_of_ble_eq_true rfl⟩) rfl rfl rfl rfl hl.1 rfl (lv_room (Nat.le_of_ble_eq_true rfl)) dX0_hadLoan_22 ⟨Nat.le_of_ble_eq_true rfl, Nat.le_of_ble_eq_true rfl⟩) (fun _ => rfl) (fun r_6 u_7 H locs q_8 hP hS => ?_)
    obtain ⟨rfl, e_9⟩ := q_8
    have e_9 : c1 (i * 4 + 0) < 1048576 := e_9
    refine lv_iload_n hx hb dX0_hadLoan_25 rfl (lv_at hl 2 rfl) ?_
    refine nv_icmp_ne (tgt := 42) (by omega) (by omega) hx hb dX0_hadLoan_26 (by decide) (fun c_10 => ?_) (fun c_10 => ?_)
    · refine lv_iinc (v := (nI (i + 1))) (lv' := [(4, .int (nI (i + 1))), (0, .ref (a 0)), (1, .int (nI pp)), (2, .int (nI t)), (3, .int (nI h))]) hx hb dX0_hadLoan_42 hl (k := 0) rfl (nI_add i 1) (by decide) rfl (fun ls hl => ?_)
      refine lv_goto (tgt := 3) hx hb dX0_hadLoan_45 (by decide) ?_
      exact ih_1 (i + 1) (show n1 - (i + 1) < n1 - i from by omega) ⟨(show (i + 1) ≤ n1 from by omega), (show ∀ j, j < (i + 1) → ¬ (c1 (j * 4 + 0) = pp ∧ lentB n1 c1 t h j = true) from by intro j q; rcases Nat.lt_succ_iff_lt_or_eq.mp q with q3 | q3; exact hno j q3; subst q3; rintro ⟨q4, q5⟩; contradiction)⟩ _ _ _ (lv_sub hl [0, 1, 2, 3, 4] rfl) hP hD hS
    · refine lv_aload_n hx hb dX0_hadLoan_29 rfl (lv_at hl 1 rfl) ?_
      refine lv_iload hx hb dX0_hadLoan_30 (lv_at hl 0 rfl) ?_
      refine lv_iload_n hx hb dX0_hadLoan_32 rfl (lv_at hl 3 rfl) ?_
      refine lv_iload_n hx hb dX0_hadLoan_33 rfl (lv_at hl 4 rfl) ?_
      refine roI hP hD hS hA [0, 1, 2, 3, 4, 5, 6, 7, 8, 9, 10, 11, 12, 13, 14, 15] rfl (runV (As := [.int (nI i), .int (nI t), .int (nI h)]) (rest := []) (isC := [0, 1, 2, 3, 4, 5, 6, 7, 8, 9, 10, 11, 12, 13, 14, 15]) ⟨hx, hb, hml, hown, hts⟩ hKK hP hD rfl (by decide) (c_X0_isLentIn l G tA a n0 c0 n1 c1 n2 c2 n3 c3 n4 c4 n5 c5 hs wf wt i t h (hCW) (by first | assumption | omega) (by first | assumption | omega) (by first | assumption | omega) _) (cwV 3 hts gX0_hadLoan_X0_isLentIn rfl rfl rfl (by decide +kernel) ⟨Nat.le_of_ble_eq_true rfl, Nat.le_of_ble_eq_true rfl⟩) rfl rfl rfl rfl hl.1 rfl (lv_room (Nat.le_of_ble_eq_true rfl)) dX0_hadLoan_34 ⟨Nat.le_of_ble_eq_true rfl, Nat.le_of_ble_eq_true rfl⟩) (fun _ => rfl) (fun r_11 u_12 H locs q_13 hP hS => ?_)
      rcases q_13 with ⟨rfl, p_14⟩ | ⟨rfl, p_14⟩
      · have p_14 : lentB n1 c1 t h i = true := p_14
        refine nv_if_eq (tgt := 42) (by omega) hx hb dX0_hadLoan_37 (by decide) (fun h => absurd h (by omega)) (fun _ => ?_)
        refine lv_iconst (v := nI 1) hx hb dX0_hadLoan_40 (by decide) ?_
        exact retZ (ty := .boolean) hx hb hr rfl hlocks hS hP hD () (rfl) (Or.inl ⟨rfl, ⟨i, by omega, by omega, by assumption⟩⟩) dX0_hadLoan_41
      · have p_14 : ¬ (lentB n1 c1 t h i = true) := p_14
        refine nv_if_eq (tgt := 42) (by omega) hx hb dX0_hadLoan_37 (by decide) (fun _ => ?_) (fun h => absurd h (by omega))
        refine lv_iinc (v := (nI (i + 1))) (lv' := [(4, .int (nI (i + 1))), (0, .ref (a 0)), (1, .int (nI pp)), (2, .int (nI t)), (3, .int (nI h))]) hx hb dX0_hadLoan_42 hl (k := 0) rfl (nI_add i 1) (by decide) rfl (fun ls hl => ?_)
        refine lv_goto (tgt := 3) hx hb dX0_hadLoan_45 (by decide) ?_
        exact ih_1 (i + 1) (show n1 - (i + 1) < n1 - i from by omega) ⟨(show (i + 1) ≤ n1 from by omega), (show ∀ j, j < (i + 1) → ¬ (c1 (j * 4 + 0) = pp ∧ lentB n1 c1 t h j = true) from by intro j q; rcases Nat.lt_succ_iff_lt_or_eq.mp q with q3 | q3; exact hno j q3; subst q3; rintro ⟨q4, q5⟩; contradiction)⟩ _ _ _ (lv_sub hl [0, 1, 2, 3, 4] rfl) hP hD hS

set_option maxHeartbeats 4000000 in
set_option maxRecDepth 100000 in
theorem c_X0_firstWithoutLoan (l : Launch) (G : va_G) (tA : Nat → ClassId) (a : Nat → Nat) (n0 : Nat) (c0 : Nat → Nat) (n1 : Nat) (c1 : Nat → Nat) (n2 : Nat) (c2 : Nat → Nat) (n3 : Nat) (c3 : Nat → Nat) (n4 : Nat) (c4 : Nat → Nat) (n5 : Nat) (c5 : Nat → Nat) (hs : Nat → Nat) (wf : Nat → Nat) (wt : Nat → Nat) (hCW : CW n0 c0 n1 c1 n2 c2 n3 c3 n4 c4 n5 c5 hs wf wt) : CtI l yX0_firstWithoutLoan wsX0_firstWithoutLoan ({ frames := 3, cells := 0, slots := 0, locals := 70 }) G tA [.ref (a 0)] ([(a 0, .inr (0, [.ref (a 1), .ref (a 2), .ref (a 3), .ref (a 4), .ref (a 5), .ref (a 6), .ref (a 7), .ref (a 8), .ref (a 9)])), (a 1, .inr (2, [.ref (a 10), .int (nI 8), .int (nI 3), .int (nI n0)])), (a 10, .inl (tA 0, 40, .inl (nF c0))), (a 2, .inr (2, [.ref (a 11), .int (nI 10), .int (nI 4), .int (nI n1)])), (a 11, .inl (tA 0, 40, .inl (nF c1))), (a 3, .inr (2, [.ref (a 12), .int (nI 10), .int (nI 3), .int (nI n2)])), (a 12, .inl (tA 0, 40, .inl (nF c2))), (a 4, .inr (2, [.ref (a 13), .int (nI 8), .int (nI 3), .int (nI n3)])), (a 13, .inl (tA 0, 40, .inl (nF c3))), (a 5, .inr (2, [.ref (a 14), .int (nI 5), .int (nI 4), .int (nI n4)])), (a 14, .inl (tA 0, 40, .inl (nF c4))), (a 6, .inr (2, [.ref (a 15), .int (nI 8), .int (nI 2), .int (nI n5)])), (a 15, .inl (tA 0, 40, .inl (nF c5))), (a 7, .inl (tA 0, 5, .inl (nF hs))), (a 8, .inl (tA 0, 5, .inl (nF wf))), (a 9, .inl (tA 0, 40, .inl (nF wt)))]) (fun (r : Int32) (_ : Unit) => r = firstI (fun k => pB (¬ hadP n1 c1 (c2 (k * 4 + 0)) (c2 (k * 4 + 1)) (c2 (k * 4 + 2)))) n2 0) (fun (_ : Unit) => [(a 0, .inr (0, [.ref (a 1), .ref (a 2), .ref (a 3), .ref (a 4), .ref (a 5), .ref (a 6), .ref (a 7), .ref (a 8), .ref (a 9)])), (a 1, .inr (2, [.ref (a 10), .int (nI 8), .int (nI 3), .int (nI n0)])), (a 10, .inl (tA 0, 40, .inl (nF c0))), (a 2, .inr (2, [.ref (a 11), .int (nI 10), .int (nI 4), .int (nI n1)])), (a 11, .inl (tA 0, 40, .inl (nF c1))), (a 3, .inr (2, [.ref (a 12), .int (nI 10), .int (nI 3), .int (nI n2)])), (a 12, .inl (tA 0, 40, .inl (nF c2))), (a 4, .inr (2, [.ref (a 13), .int (nI 8), .int (nI 3), .int (nI n3)])), (a 13, .inl (tA 0, 40, .inl (nF c3))), (a 5, .inr (2, [.ref (a 14), .int (nI 5), .int (nI 4), .int (nI n4)])), (a 14, .inl (tA 0, 40, .inl (nF c4))), (a 6, .inr (2, [.ref (a 15), .int (nI 8), .int (nI 2), .int (nI n5)])), (a 15, .inl (tA 0, 40, .inl (nF c5))), (a 7, .inl (tA 0, 5, .inl (nF hs))), (a 8, .inl (tA 0, 5, .inl (nF wf))), (a 9, .inl (tA 0, 40, .inl (nF wt)))]) 0 0 := by
  refine enterI (cc := cX0_firstWithoutLoan) (maxL := 2) (ret := (some .int)) (by decide) rfl (Nat.le_of_ble_eq_true rfl) ?_
  intro p0 e0 s m args below meth c0_ A ls hx hb hml hr hts hown hlocks hin hKK hA hP hD hl hS
  have hown : s.vm.findClass RX0 = some m.cls := hown
  have hl : lv_has ls 2 [(0, .ref (a 0))] := hl
  have f23 := hts (Cond.fieldLink RX0 23 "LentTerms$Counter" "said" "LLentTerms$Rows;") (List.mem_of_getElem? (i := 1) rfl)
  have iX0 : ∀ w ∈ wsX00, w ∈ wsX0_firstWithoutLoan := by decide +kernel
  obtain ⟨⟨hn0, hn1, hn2, hn3, hn4, hn5⟩, ⟨hb0, hb1, hb2, hb3, hb4, hb5, hbh, hbw, hbt⟩, hv0, hv1, hv2, hv3, hv4, hv5, hv6, hv7⟩ := id hCW
  refine lv_iconst (v := nI 0) hx hb dX0_firstWithoutLoan_0 (by decide) ?_
  refine lv_istore_n (lv' := [(1, .int (nI 0)), (0, .ref (a 0))]) hx hb dX0_firstWithoutLoan_1 rfl hl (by decide) rfl (fun ls hl => ?_)
  refine wloop (σ := (Nat)) (fun | i => n2 - i) (fun | i => (i ≤ n2) ∧ (∀ j, j < i → ¬ ¬ hadP n1 c1 (c2 (j * 4 + 0)) (c2 (j * 4 + 1)) (c2 (j * 4 + 2)))) (fun | i => [(1, .int (nI i)), (0, .ref (a 0))]) (fun | i => [(a 0, .inr (0, [.ref (a 1), .ref (a 2), .ref (a 3), .ref (a 4), .ref (a 5), .ref (a 6), .ref (a 7), .ref (a 8), .ref (a 9)])), (a 1, .inr (2, [.ref (a 10), .int (nI 8), .int (nI 3), .int (nI n0)])), (a 10, .inl (tA 0, 40, .inl (nF c0))), (a 2, .inr (2, [.ref (a 11), .int (nI 10), .int (nI 4), .int (nI n1)])), (a 11, .inl (tA 0, 40, .inl (nF c1))), (a 3, .inr (2, [.ref (a 12), .int (nI 10), .int (nI 3), .int (nI n2)])), (a 12, .inl (tA 0, 40, .inl (nF c2))), (a 4, .inr (2, [.ref (a 13), .int (nI 8), .int (nI 3), .int (nI n3)])), (a 13, .inl (tA 0, 40, .inl (nF c3))), (a 5, .inr (2, [.ref (a 14), .int (nI 5), .int (nI 4), .int (nI n4)])), (a 14, .inl (tA 0, 40, .inl (nF c4))), (a 6, .inr (2, [.ref (a 15), .int (nI 8), .int (nI 2), .int (nI n5)])), (a 15, .inl (tA 0, 40, .inl (nF c5))), (a 7, .inl (tA 0, 5, .inl (nF hs))), (a 8, .inl (tA 0, 5, .inl (nF wf))), (a 9, .inl (tA 0, 40, .inl (nF wt)))]) 0 ⟨(show 0 ≤ n2 from by omega), (show ∀ j, j < 0 → ¬ ¬ hadP n1 c1 (c2 (j * 4 + 0)) (c2 (j * 4 + 1)) (c2 (j * 4 + 2)) from by intro j q; omega)⟩ (lv_sub hl [0, 1] rfl) hP hD hS ?_
  rintro i ⟨hi, hno⟩ ih_1 ls H locs hl hP hD hS
  have hl : lv_has ls 2 [(1, .int (nI i)), (0, .ref (a 0))] := hl
  have hP : va_P G vwCl [(a 0, .inr (0, [.ref (a 1), .ref (a 2), .ref (a 3), .ref (a 4), .ref (a 5), .ref (a 6), .ref (a 7), .ref (a 8), .ref (a 9)])), (a 1, .inr (2, [.ref (a 10), .int (nI 8), .int (nI 3), .int (nI n0)])), (a 10, .inl (tA 0, 40, .inl (nF c0))), (a 2, .inr (2, [.ref (a 11), .int (nI 10), .int (nI 4), .int (nI n1)])), (a 11, .inl (tA 0, 40, .inl (nF c1))), (a 3, .inr (2, [.ref (a 12), .int (nI 10), .int (nI 3), .int (nI n2)])), (a 12, .inl (tA 0, 40, .inl (nF c2))), (a 4, .inr (2, [.ref (a 13), .int (nI 8), .int (nI 3), .int (nI n3)])), (a 13, .inl (tA 0, 40, .inl (nF c3))), (a 5, .inr (2, [.ref (a 14), .int (nI 5), .int (nI 4), .int (nI n4)])), (a 14, .inl (tA 0, 40, .inl (nF c4))), (a 6, .inr (2, [.ref (a 15), .int (nI 8), .int (nI 2), .int (nI n5)])), (a 15, .inl (tA 0, 40, .inl (nF c5))), (a 7, .inl (tA 0, 5, .inl (nF hs))), (a 8, .inl (tA 0, 5, .inl (nF wf))), (a 9, .inl (tA 0, 40, .inl (nF wt)))] H := hP
  have hD : va_D A [(a 0, .inr (0, [.ref (a 1), .ref (a 2), .ref (a 3), .ref (a 4), .ref (a 5), .ref (a 6), .ref (a 7), .ref (a 8), .ref (a 9)])), (a 1, .inr (2, [.ref (a 10), .int (nI 8), .int (nI 3), .int (nI n0)])), (a 10, .inl (tA 0, 40, .inl (nF c0))), (a 2, .inr (2, [.ref (a 11), .int (nI 10), .int (nI 4), .int (nI n1)])), (a 11, .inl (tA 0, 40, .inl (nF c1))), (a 3, .inr (2, [.ref (a 12), .int (nI 10), .int (nI 3), .int (nI n2)])), (a 12, .inl (tA 0, 40, .inl (nF c2))), (a 4, .inr (2, [.ref (a 13), .int (nI 8), .int (nI 3), .int (nI n3)])), (a 13, .inl (tA 0, 40, .inl (nF c3))), (a 5, .inr (2, [.ref (a 14), .int (nI 5), .int (nI 4), .int (nI n4)])), (a 14, .inl (tA 0, 40, .inl (nF c4))), (a 6, .inr (2, [.ref (a 15), .int (nI 8), .int (nI 2), .int (nI n5)])), (a 15, .inl (tA 0, 40, .inl (nF c5))), (a 7, .inl (tA 0, 5, .inl (nF hs))), (a 8, .inl (tA 0, 5, .inl (nF wf))), (a 9, .inl (tA 0, 40, .inl (nF wt)))] := hD
  have hi : i ≤ n2 := hi
  have hno : ∀ j, j < i → ¬ ¬ hadP n1 c1 (c2 (j * 4 + 0)) (c2 (j * 4 + 1)) (c2 (j * 4 + 2)) := hno
  refine lv_iload_n hx hb dX0_firstWithoutLoan_2 rfl (lv_at hl 0 rfl) ?_
  refine lv_aload_n hx hb dX0_firstWithoutLoan_3 rfl (lv_at hl 1 rfl) ?_
  refine va_get (D := G) (ci := 0) (C := RX0) (T := TX0) (N := 9) hx hb hts iX0 hown hKK.1 hP 0 rfl rfl 2 (by decide) f23 (fun _ h9 => h9) rfl dX0_firstWithoutLoan_4 ?_
  refine roI hP hD hS hA [5, 6] rfl (runV (As := []) (rest := [.int (nI i)]) (isC := [5, 6]) ⟨hx, hb, hml, hown, hts⟩ hKK hP hD rfl (by decide) (c_X4_size l G tA (a 3) (a 12) 10 3 n2 c2 _) (cwV 0 hts gX0_firstWithoutLoan_X4_size rfl rfl rfl (by decide +kernel) ⟨Nat.le_of_ble_eq_true rfl, Nat.le_of_ble_eq_true rfl⟩) rfl rfl rfl rfl hl.1 rfl (lv_room (Nat.le_of_ble_eq_true rfl)) dX0_firstWithoutLoan_7 ⟨Nat.le_of_ble_eq_true rfl, Nat.le_of_ble_eq_true rfl⟩) (fun _ => rfl) (fun r_2 u_3 H locs q_4 hP hS => ?_)
  subst q_4
  refine nv_icmp_ge (tgt := 55) (by omega) (by omega) hx hb dX0_firstWithoutLoan_10 (by decide) (fun c_5 => ?_) (fun c_5 => ?_)
  · refine lv_iconst (v := (-1)) hx hb dX0_firstWithoutLoan_55 (by decide) ?_
    exact retI hx hb hr hlocks hS hP hD () (rfl) ((firstI_no n2 0 (fun j _ q => pB_f.mpr (hno j (by omega)))).symm) dX0_firstWithoutLoan_56
  · refine lv_aload_n hx hb dX0_firstWithoutLoan_13 rfl (lv_at hl 1 rfl) ?_
    refine lv_aload_n hx hb dX0_firstWithoutLoan_14 rfl (lv_at hl 1 rfl) ?_
    refine va_get (D := G) (ci := 0) (C := RX0) (T := TX0) (N := 9) hx hb hts iX0 hown hKK.1 hP 0 rfl rfl 2 (by decide) f23 (fun _ h9 => h9) rfl dX0_firstWithoutLoan_15 ?_
    refine lv_iload_n hx hb dX0_firstWithoutLoan_18 rfl (lv_at hl 0 rfl) ?_
    refine lv_iconst (v := nI 0) hx hb dX0_firstWithoutLoan_19 (by decide) ?_
    refine roI hP hD hS hA [5, 6] rfl (runV (As := [.int (nI i), .int (nI 0)]) (rest := [.ref (a 0)]) (isC := [5, 6]) ⟨hx, hb, hml, hown, hts⟩ hKK hP hD rfl (by decide) (c_X4_at_in l G tA (a 3) (a 12) 10 3 n2 c2 i 0 (by omega) (by omega) (by omega) (by omega) (hb2) _) (cwV 2 hts gX0_firstWithoutLoan_X4_at rfl rfl rfl (by decide +kernel) ⟨Nat.le_of_ble_eq_true rfl, Nat.le_of_ble_eq_true rfl⟩) rfl rfl rfl rfl hl.1 rfl (lv_room (Nat.le_of_ble_eq_true rfl)) dX0_firstWithoutLoan_20 ⟨Nat.le_of_ble_eq_true rfl, Nat.le_of_ble_eq_true rfl⟩) (fun _ => rfl) (fun r_6 u_7 H locs q_8 hP hS => ?_)
    obtain ⟨rfl, e_9⟩ := q_8
    have e_9 : c2 (i * 4 + 0) < 1048576 := e_9
    refine lv_aload_n hx hb dX0_firstWithoutLoan_23 rfl (lv_at hl 1 rfl) ?_
    refine va_get (D := G) (ci := 0) (C := RX0) (T := TX0) (N := 9) hx hb hts iX0 hown hKK.1 hP 0 rfl rfl 2 (by decide) f23 (fun _ h9 => h9) rfl dX0_firstWithoutLoan_24 ?_
    refine lv_iload_n hx hb dX0_firstWithoutLoan_27 rfl (lv_at hl 0 rfl) ?_
    refine lv_iconst (v := nI 1) hx hb dX0_firstWithoutLoan_28 (by decide) ?_
    refine roI hP hD hS hA [5, 6] rfl (runV (As := [.int (nI i), .int (nI 1)]) (rest := [.int (nI (c2 (i * 4 + 0))), .ref (a 0)]) (isC := [5, 6]) ⟨hx, hb, hml, hown, hts⟩ hKK hP hD rfl (by decide) (c_X4_at_in l G tA (a 3) (a 12) 10 3 n2 c2 i 1 (by omega) (by omega) (by omega) (by omega) (hb2) _) (cwV 2 hts gX0_firstWithoutLoan_X4_at rfl rfl rfl (by decide +kernel) ⟨Nat.le_of_ble_eq_true rfl, Nat.le_of_ble_eq_true rfl⟩) rfl rfl rfl rfl hl.1 rfl (lv_room (Nat.le_of_ble_eq_true rfl)) dX0_firstWithoutLoan_29 ⟨Nat.le_of_ble_eq_true rfl, Nat.le_of_ble_eq_true rfl⟩) (fun _ => rfl) (fun r_10 u_11 H locs q_12 hP hS => ?_)
    obtain ⟨rfl, e_13⟩ := q_12
    have e_13 : c2 (i * 4 + 1) < 1048576 := e_13
    refine lv_aload_n hx hb dX0_firstWithoutLoan_32 rfl (lv_at hl 1 rfl) ?_
    refine va_get (D := G) (ci := 0) (C := RX0) (T := TX0) (N := 9) hx hb hts iX0 hown hKK.1 hP 0 rfl rfl 2 (by decide) f23 (fun _ h9 => h9) rfl dX0_firstWithoutLoan_33 ?_
    refine lv_iload_n hx hb dX0_firstWithoutLoan_36 rfl (lv_at hl 0 rfl) ?_
    refine lv_iconst (v := nI 2) hx hb dX0_firstWithoutLoan_37 (by decide) ?_
    refine roI hP hD hS hA [5, 6] rfl (runV (As := [.int (nI i), .int (nI 2)]) (rest := [.int (nI (c2 (i * 4 + 1))), .int (nI (c2 (i * 4 + 0))), .ref (a 0)]) (isC := [5, 6]) ⟨hx, hb, hml, hown, hts⟩ hKK hP hD rfl (by decide) (c_X4_at_in l G tA (a 3) (a 12) 10 3 n2 c2 i 2 (by omega) (by omega) (by omega) (by omega) (hb2) _) (cwV 2 hts gX0_firstWithoutLoan_X4_at rfl rfl rfl (by decide +kernel) ⟨Nat.le_of_ble_eq_true rfl, Nat.le_of_ble_eq_true rfl⟩) rfl rfl rfl rfl hl.1 rfl (lv_room (Nat.le_of_ble_eq_true rfl)) dX0_firstWithoutLoan_38 ⟨Nat.le_of_ble_eq_true rfl, Nat.le_of_ble_eq_true rfl⟩) (fun _ => rfl) (fun r_14 u_15 H locs q_16 hP hS => ?_)
    obtain ⟨rfl, e_17⟩ := q_16
    have e_17 : c2 (i * 4 + 2) < 1048576 := e_17
    refine roI hP hD hS hA [0, 1, 2, 3, 4, 5, 6, 7, 8, 9, 10, 11, 12, 13, 14, 15] rfl (runV (As := [.int (nI (c2 (i * 4 + 0))), .int (nI (c2 (i * 4 + 1))), .int (nI (c2 (i * 4 + 2)))]) (rest := []) (isC := [0, 1, 2, 3, 4, 5, 6, 7, 8, 9, 10, 11, 12, 13, 14, 15]) ⟨hx, hb, hml, hown, hts⟩ hKK hP hD rfl (by decide) (c_X0_hadLoan l G tA a n0 c0 n1 c1 n2 c2 n3 c3 n4 c4 n5 c5 hs wf wt (c2 (i * 4 + 0)) (c2 (i * 4 + 1)) (c2 (i * 4 + 2)) (hCW) (by first | assumption | omega) (by first | assumption | omega) (by first | assumption | omega) _) (cwV 3 hts gX0_firstWithoutLoan_X0_hadLoan rfl rfl rfl (by decide +kernel) ⟨Nat.le_of_ble_eq_true rfl, Nat.le_of_ble_eq_true rfl⟩) rfl rfl rfl rfl hl.1 rfl (lv_room (Nat.le_of_ble_eq_true rfl)) dX0_firstWithoutLoan_41 ⟨Nat.le_of_ble_eq_true rfl, Nat.le_of_ble_eq_true rfl⟩) (fun _ => rfl) (fun r_18 u_19 H locs q_20 hP hS => ?_)
    rcases q_20 with ⟨rfl, p_21⟩ | ⟨rfl, p_21⟩
    · have p_21 : hadP n1 c1 (c2 (i * 4 + 0)) (c2 (i * 4 + 1)) (c2 (i * 4 + 2)) := p_21
      refine nv_if_ne (tgt := 49) (by omega) hx hb dX0_firstWithoutLoan_44 (by decide) (fun _ => ?_) (fun h => absurd h (by omega))
      refine lv_iinc (v := (nI (i + 1))) (lv' := [(1, .int (nI (i + 1))), (0, .ref (a 0))]) hx hb dX0_firstWithoutLoan_49 hl (k := 0) rfl (nI_add i 1) (by decide) rfl (fun ls hl => ?_)
      refine lv_goto (tgt := 2) hx hb dX0_firstWithoutLoan_52 (by decide) ?_
      exact ih_1 (i + 1) (show n2 - (i + 1) < n2 - i from by omega) ⟨(show (i + 1) ≤ n2 from by omega), (show ∀ j, j < (i + 1) → ¬ ¬ hadP n1 c1 (c2 (j * 4 + 0)) (c2 (j * 4 + 1)) (c2 (j * 4 + 2)) from by intro j q; rcases Nat.lt_succ_iff_lt_or_eq.mp q with q3 | q3; exact hno j q3; rw [q3]; first | assumption | exact fun z => z (by assumption))⟩ _ _ _ (lv_sub hl [0, 1] rfl) hP hD hS
    · have p_21 : ¬ (hadP n1 c1 (c2 (i * 4 + 0)) (c2 (i * 4 + 1)) (c2 (i * 4 + 2))) := p_21
      refine nv_if_ne (tgt := 49) (by omega) hx hb dX0_firstWithoutLoan_44 (by decide) (fun h => absurd h (by omega)) (fun _ => ?_)
      refine lv_iload_n hx hb dX0_firstWithoutLoan_47 rfl (lv_at hl 0 rfl) ?_
      exact retI hx hb hr hlocks hS hP hD () (rfl) ((firstI_at n2 0 i (by omega) (by omega) (pB_t.mpr (by assumption)) (fun j _ q => pB_f.mpr (hno j q))).symm) dX0_firstWithoutLoan_48
