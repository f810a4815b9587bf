/-! Kinds, Rows, and the small functions -/
def longS (kd : Nat) : Nat := if kd = 1 ∨ kd = 3 ∨ kd = 5 then 2 else 24
def costS (kd fee h : Nat) : Nat := if kd = 3 then fee * (2 ^ h - 1) else if kd = 5 then fee * (2 ^ h - 1) / 2 else if kd = 4 then h * fee + 5 else h * fee
theorem longS_le (kd : Nat) : longS kd ≤ 24 := by unfold longS; split <;> omega
theorem dear_lt {fee h : Nat} (hf : fee ≤ 9) (hh : h ≤ 24) : fee * (2 ^ h - 1) < 150994936 := by
  have h1 : 2 ^ h ≤ 2 ^ 24 := Nat.pow_le_pow_right (by omega) hh
  have h2 : fee * (2 ^ h - 1) ≤ 9 * (2 ^ 24 - 1) := Nat.mul_le_mul hf (by omega)
  omega
theorem costS_lt {kd fee h : Nat} (hf : fee ≤ 9) (hh : h ≤ 24) : costS kd fee h < 150994936 := by
  have h1 := dear_lt hf hh
  have h2 : h * fee ≤ 24 * 9 := Nat.mul_le_mul hh hf
  unfold costS; split
  · exact h1
  · split
    · omega
    · split <;> omega
theorem lgc {a b : Int32} {X Y : Int} (ha : a.toInt = X) (hb : b.toInt = Y) : (X < Y ∧ lg_cmp a.toInt64 b.toInt64 = -1) ∨ (X = Y ∧ lg_cmp a.toInt64 b.toInt64 = nI 0) ∨ (Y < X ∧ lg_cmp a.toInt64 b.toInt64 = nI 1) := by
  subst ha; subst hb
  have e1 : a.toInt64.toInt = a.toInt := Int32.toInt_toInt64 a
  have e2 : b.toInt64.toInt = b.toInt := Int32.toInt_toInt64 b
  unfold lg_cmp
  simp only [gt_iff_lt, Int64.lt_iff_toInt_lt, ← Int64.toInt_inj, e1, e2]
  rcases Int.lt_trichotomy a.toInt b.toInt with h | h | h
  · left; refine ⟨h, ?_⟩; rw [if_neg (by omega), if_neg (by omega)]
  · right; left; refine ⟨h, ?_⟩; rw [if_neg (by omega), if_pos h]; rfl
  · right; right; refine ⟨h, ?_⟩; rw [if_pos h]; rfl
def atS (n wid : Nat) (c : Nat → Nat) (row col : Nat) : Nat := if row < n ∧ col < wid then c (row * 4 + col) else 0
def okN (ok : Bool) (n lim : Nat) : Nat := if ok = true ∧ n < lim then n + 1 else n
def okR (ok : Bool) (n lim : Nat) : Int32 := if ok = true then (if n < lim then nI n else -4) else -2
def row4 (c : Nat → Nat) (n x0 x1 x2 x3 : Nat) : Nat → Nat := updN (updN (updN (updN c (n * 4) x0) (n * 4 + 1) x1) (n * 4 + 2) x2) (n * 4 + 3) x3
def okC (ok : Bool) (n lim : Nat) (c : Nat → Nat) (x0 x1 x2 x3 : Nat) : Nat → Nat := if ok = true ∧ n < lim then row4 c n x0 x1 x2 x3 else c

set_option maxHeartbeats 4000000 in
set_option maxRecDepth 100000 in
theorem c_X2_isOneAtATime (l : Launch) (G : va_G) (tA : Nat → ClassId) (kd : Nat) (hkd : kd < 1048576) : CtI l yX2_isOneAtATime wsX2_isOneAtATime ({ frames := 0, cells := 0, slots := 0, locals := 0 }) G tA [.int (nI kd)] ([]) (fun (r : Int32) (_ : Unit) => ((r = nI 1 ∧ (kd = 2 ∨ kd = 4 ∨ kd = 5)) ∨ (r = nI 0 ∧ ¬ (kd = 2 ∨ kd = 4 ∨ kd = 5)))) (fun (_ : Unit) => []) 0 0 := by
  refine enterI (cc := cX2_isOneAtATime) (maxL := 1) (ret := (some .boolean)) (by decide) rfl (Nat.le_of_ble_eq_true rfl) ?_
  intro p0 e0 s m args below meth c0_ A ls hx hb hml hr hts hown hlocks hin hKK hA hP hD hl hS
  have hown : s.vm.findClass RX2 = some m.cls := hown
  have hl : lv_has ls 1 [(0, .int (nI kd))] := hl
  refine lv_iload_n hx hb dX2_isOneAtATime_0 rfl (lv_at hl 0 rfl) ?_
  refine lv_iconst (v := nI 2) hx hb dX2_isOneAtATime_1 (by decide) ?_
  refine nv_icmp_eq (tgt := 15) (by omega) (by omega) hx hb dX2_isOneAtATime_2 (by decide) (fun c_1 => ?_) (fun c_1 => ?_)
  · refine lv_iconst (v := nI 1) hx hb dX2_isOneAtATime_15 (by decide) ?_
    refine lv_goto (tgt := 20) hx hb dX2_isOneAtATime_16 (by decide) ?_
    exact retZ (ty := .boolean) hx hb hr rfl hlocks hS hP hD () (rfl) (Or.inl ⟨rfl, by omega⟩) dX2_isOneAtATime_20
  · refine lv_iload_n hx hb dX2_isOneAtATime_5 rfl (lv_at hl 0 rfl) ?_
    refine lv_iconst (v := nI 4) hx hb dX2_isOneAtATime_6 (by decide) ?_
    refine nv_icmp_eq (tgt := 15) (by omega) (by omega) hx hb dX2_isOneAtATime_7 (by decide) (fun c_2 => ?_) (fun c_2 => ?_)
    · refine lv_iconst (v := nI 1) hx hb dX2_isOneAtATime_15 (by decide) ?_
      refine lv_goto (tgt := 20) hx hb dX2_isOneAtATime_16 (by decide) ?_
      exact retZ (ty := .boolean) hx hb hr rfl hlocks hS hP hD () (rfl) (Or.inl ⟨rfl, by omega⟩) dX2_isOneAtATime_20
    · refine lv_iload_n hx hb dX2_isOneAtATime_10 rfl (lv_at hl 0 rfl) ?_
      refine lv_iconst (v := nI 5) hx hb dX2_isOneAtATime_11 (by decide) ?_
      refine nv_icmp_ne (tgt := 19) (by omega) (by omega) hx hb dX2_isOneAtATime_12 (by decide) (fun c_3 => ?_) (fun c_3 => ?_)
      · refine lv_iconst (v := nI 0) hx hb dX2_isOneAtATime_19 (by decide) ?_
        exact retZ (ty := .boolean) hx hb hr rfl hlocks hS hP hD () (rfl) (Or.inr ⟨rfl, by omega⟩) dX2_isOneAtATime_20
      · refine lv_iconst (v := nI 1) hx hb dX2_isOneAtATime_15 (by decide) ?_
        refine lv_goto (tgt := 20) hx hb dX2_isOneAtATime_16 (by decide) ?_
        exact retZ (ty := .boolean) hx hb hr rfl hlocks hS hP hD () (rfl) (Or.inl ⟨rfl, by omega⟩) dX2_isOneAtATime_20

set_option maxHeartbeats 4000000 in
set_option maxRecDepth 100000 in
theorem c_X2_longest (l : Launch) (G : va_G) (tA : Nat → ClassId) (kd : Nat) (hkd : kd < 1048576) : CtI l yX2_longest wsX2_longest ({ frames := 0, cells := 0, slots := 0, locals := 0 }) G tA [.int (nI kd)] ([]) (fun (r : Int32) (_ : Unit) => r = nI (longS kd) ∧ longS kd ≤ 24) (fun (_ : Unit) => []) 0 0 := by
  refine enterI (cc := cX2_longest) (maxL := 1) (ret := (some .int)) (by decide) rfl (Nat.le_of_ble_eq_true rfl) ?_
  intro p0 e0 s m args below meth c0_ A ls hx hb hml hr hts hown hlocks hin hKK hA hP hD hl hS
  have hown : s.vm.findClass RX2 = some m.cls := hown
  have hl : lv_has ls 1 [(0, .int (nI kd))] := hl
  refine lv_iload_n hx hb dX2_longest_0 rfl (lv_at hl 0 rfl) ?_
  refine lv_iconst (v := nI 1) hx hb dX2_longest_1 (by decide) ?_
  refine nv_icmp_eq (tgt := 15) (by omega) (by omega) hx hb dX2_longest_2 (by decide) (fun c_1 => ?_) (fun c_1 => ?_)
  · refine lv_iconst (v := nI 2) hx hb dX2_longest_15 (by decide) ?_
    refine lv_goto (tgt := 21) hx hb dX2_longest_16 (by decide) ?_
    exact retI hx hb hr hlocks hS hP hD () (rfl) (⟨congrArg nI (show (2 : Nat) = longS kd from by unfold longS; split <;> omega), longS_le kd⟩) dX2_longest_21
  · refine lv_iload_n hx hb dX2_longest_5 rfl (lv_at hl 0 rfl) ?_
    refine lv_iconst (v := nI 3) hx hb dX2_longest_6 (by decide) ?_
    refine nv_icmp_eq (tgt := 15) (by omega) (by omega) hx hb dX2_longest_7 (by decide) (fun c_2 => ?_) (fun c_2 => ?_)
    · refine lv_iconst (v := nI 2) hx hb dX2_longest_15 (by decide) ?_
      refine lv_goto (tgt := 21) hx hb dX2_longest_16 (by decide) ?_
      exact retI hx hb hr hlocks hS hP hD () (rfl) (⟨congrArg nI (show (2 : Nat) = longS kd from by unfold longS; split <;> omega), longS_le kd⟩) dX2_longest_21
    · refine lv_iload_n hx hb dX2_longest_10 rfl (lv_at hl 0 rfl) ?_
      refine lv_iconst (v := nI 5) hx hb dX2_longest_11 (by decide) ?_
      refine nv_icmp_ne (tgt := 19) (by omega) (by omega) hx hb dX2_longest_12 (by decide) (fun c_3 => ?_) (fun c_3 => ?_)
      · refine lv_bipush (v := nI 24) hx hb dX2_longest_19 (by decide +kernel) ?_
        exact retI hx hb hr hlocks hS hP hD () (rfl) (⟨congrArg nI (show (24 : Nat) = longS kd from by unfold longS; split <;> omega), longS_le kd⟩) dX2_longest_21
      · refine lv_iconst (v := nI 2) hx hb dX2_longest_15 (by decide) ?_
        refine lv_goto (tgt := 21) hx hb dX2_longest_16 (by decide) ?_
        exact retI hx hb hr hlocks hS hP hD () (rfl) (⟨congrArg nI (show (2 : Nat) = longS kd from by unfold longS; split <;> omega), longS_le kd⟩) dX2_longest_21

set_option maxHeartbeats 4000000 in
set_option maxRecDepth 100000 in
theorem c_X2_doubling (l : Launch) (G : va_G) (tA : Nat → ClassId) (fee : Nat) (h : Nat) (hh : h ≤ 24) : CtI l yX2_doubling wsX2_doubling ({ frames := 0, cells := 0, slots := 0, locals := 0 }) G tA [.int (nI fee), .int (nI h)] ([]) (fun (r : Int32) (_ : Unit) => r = nI (fee * (2 ^ h - 1))) (fun (_ : Unit) => []) 0 0 := by
  refine enterI (cc := cX2_doubling) (maxL := 2) (ret := (some .int)) (by decide) rfl (Nat.le_of_ble_eq_true rfl) ?_
  intro p0 e0 s m args below meth c0_ A ls hx hb hml hr hts hown hlocks hin hKK hA hP hD hl hS
  have hown : s.vm.findClass RX2 = some m.cls := hown
  have hl : lv_has ls 2 [(0, .int (nI fee)), (1, .int (nI h))] := hl
  refine lv_iload_n hx hb dX2_doubling_0 rfl (lv_at hl 0 rfl) ?_
  refine lv_iconst (v := nI 1) hx hb dX2_doubling_1 (by decide) ?_
  refine lv_iload_n hx hb dX2_doubling_2 rfl (lv_at hl 1 rfl) ?_
  refine nv_shl1 (by omega) hx hb dX2_doubling_3 ?_
  refine lv_iconst (v := nI 1) hx hb dX2_doubling_4 (by decide) ?_
  refine nv_isub (show 1 ≤ 2 ^ h from Nat.two_pow_pos h) hx hb dX2_doubling_5 ?_
  refine nv_imul hx hb dX2_doubling_6 ?_
  exact retI hx hb hr hlocks hS hP hD () (rfl) (congrArg nI (show (fee * ((2 ^ h) - 1) : Nat) = fee * (2 ^ h - 1) from rfl)) dX2_doubling_7

set_option maxHeartbeats 4000000 in
set_option maxRecDepth 100000 in
theorem c_X2_price (l : Launch) (G : va_G) (tA : Nat → ClassId) (kd : Nat) (fee : Nat) (h : Nat) (hkd : kd < 1048576) (hf : fee ≤ 9) (hh : h ≤ 24) : CtI l yX2_price wsX2_price ({ frames := 1, cells := 0, slots := 0, locals := 21 }) G tA [.int (nI kd), .int (nI fee), .int (nI h)] ([]) (fun (r : Int32) (_ : Unit) => r = nI (costS kd fee h) ∧ costS kd fee h < 150994936) (fun (_ : Unit) => []) 0 0 := by
  refine enterI (cc := cX2_price) (maxL := 3) (ret := (some .int)) (by decide) rfl (Nat.le_of_ble_eq_true rfl) ?_
  intro p0 e0 s m args below meth c0_ A ls hx hb hml hr hts hown hlocks hin hKK hA hP hD hl hS
  have hown : s.vm.findClass RX2 = some m.cls := hown
  have hl : lv_has ls 3 [(0, .int (nI kd)), (1, .int (nI fee)), (2, .int (nI h))] := hl
  have hdl := dear_lt hf hh
  refine lv_iload_n hx hb dX2_price_0 rfl (lv_at hl 0 rfl) ?_
  rcases (show ((kd : Nat) : Int) = 3 ∨ ((kd : Nat) : Int) = 4 ∨ ((kd : Nat) : Int) = 5 ∨ (((kd : Nat) : Int) < 3 ∨ 5 < ((kd : Nat) : Int)) by omega) with sw_1 | sw_1 | sw_1 | sw_1
  · refine nv_tin (v := 3) (tgt := 28) hx hb dX2_price_1 (Eq.trans (nI_toIntC (by omega)) sw_1) (by decide) (by decide) rfl (by decide) ?_
    refine lv_iload_n hx hb dX2_price_28 rfl (lv_at hl 1 rfl) ?_
    refine lv_iload_n hx hb dX2_price_29 rfl (lv_at hl 2 rfl) ?_
    refine roI hP hD hS hA [] rfl (runS (As := [.int (nI fee), .int (nI h)]) (rest := []) (isC := []) ⟨hx, hb, hml, hown, hts⟩ hKK hP hD rfl (by decide) (c_X2_doubling l G tA fee h (by first | assumption | omega) _) (va_cwS 2 hts gX2_price_X2_doubling rfl rfl rfl (by decide +kernel) ⟨Nat.le_of_ble_eq_true rfl, Nat.le_of_ble_eq_true rfl⟩) rfl rfl hl.1 rfl (lv_room (Nat.le_of_ble_eq_true rfl)) dX2_price_30 ⟨Nat.le_of_ble_eq_true rfl, Nat.le_of_ble_eq_true rfl⟩) (fun _ => rfl) (fun r_2 u_3 H locs q_4 hP hS => ?_)
    subst q_4
    exact retI hx hb hr hlocks hS hP hD () (rfl) (⟨congrArg nI (show (fee * (2 ^ h - 1) : Nat) = costS kd fee h from by unfold costS; (repeat' split) <;> first | rfl | omega), costS_lt hf hh⟩) dX2_price_33
  · refine nv_tin (v := 4) (tgt := 42) hx hb dX2_price_1 (Eq.trans (nI_toIntC (by omega)) sw_1) (by decide) (by decide) rfl (by decide) ?_
    refine lv_iload_n hx hb dX2_price_42 rfl (lv_at hl 2 rfl) ?_
    refine lv_iload_n hx hb dX2_price_43 rfl (lv_at hl 1 rfl) ?_
    refine nv_imul hx hb dX2_price_44 ?_
    refine lv_iconst (v := nI 5) hx hb dX2_price_45 (by decide) ?_
    refine nv_iadd hx hb dX2_price_46 ?_
    exact retI hx hb hr hlocks hS hP hD () (rfl) (⟨congrArg nI (show ((h * fee) + 5 : Nat) = costS kd fee h from by unfold costS; (repeat' split) <;> first | rfl | omega), costS_lt hf hh⟩) dX2_price_47
  · refine nv_tin (v := 5) (tgt := 34) hx hb dX2_price_1 (Eq.trans (nI_toIntC (by omega)) sw_1) (by decide) (by decide) rfl (by decide) ?_
    refine lv_iload_n hx hb dX2_price_34 rfl (lv_at hl 1 rfl) ?_
    refine lv_iload_n hx hb dX2_price_35 rfl (lv_at hl 2 rfl) ?_
    refine roI hP hD hS hA [] rfl (runS (As := [.int (nI fee), .int (nI h)]) (rest := []) (isC := []) ⟨hx, hb, hml, hown, hts⟩ hKK hP hD rfl (by decide) (c_X2_doubling l G tA fee h (by first | assumption | omega) _) (va_cwS 2 hts gX2_price_X2_doubling rfl rfl rfl (by decide +kernel) ⟨Nat.le_of_ble_eq_true rfl, Nat.le_of_ble_eq_true rfl⟩) rfl rfl hl.1 rfl (lv_room (Nat.le_of_ble_eq_true rfl)) dX2_price_36 ⟨Nat.le_of_ble_eq_true rfl, Nat.le_of_ble_eq_true rfl⟩) (fun _ => rfl) (fun r_5 u_6 H locs q_7 hP hS => ?_)
    subst q_7
    refine lv_iconst (v := nI 2) hx hb dX2_price_39 (by decide) ?_
    refine nv_idiv (by omega) (by omega) (by omega) hx hb dX2_price_40 ?_
    exact retI hx hb hr hlocks hS hP hD () (rfl) (⟨congrArg nI (show ((fee * (2 ^ h - 1)) / 2 : Nat) = costS kd fee h from by unfold costS; (repeat' split) <;> first | rfl | omega), costS_lt hf hh⟩) dX2_price_41
  · refine nv_tout (v := ((kd : Nat) : Int)) (tgt := 48) hx hb dX2_price_1 (nI_toIntC (by omega)) (by omega) (by decide) ?_
    refine lv_iload_n hx hb dX2_price_48 rfl (lv_at hl 2 rfl) ?_
    refine lv_iload_n hx hb dX2_price_49 rfl (lv_at hl 1 rfl) ?_
    refine nv_imul hx hb dX2_price_50 ?_
    exact retI hx hb hr hlocks hS hP hD () (rfl) (⟨congrArg nI (show (h * fee : Nat) = costS kd fee h from by unfold costS; (repeat' split) <;> first | rfl | omega), costS_lt hf hh⟩) dX2_price_51

set_option maxHeartbeats 4000000 in
set_option maxRecDepth 100000 in
theorem c_X4_size (l : Launch) (G : va_G) (tA : Nat → ClassId) (x : Nat) (y : Nat) (lim : Nat) (wid : Nat) (k : Nat) (c : Nat → Nat)  : CtI l yX4_size wsX4_size ({ frames := 0, cells := 0, slots := 0, locals := 0 }) G tA [.ref x] ([(x, .inr (2, [.ref y, .int (nI lim), .int (nI wid), .int (nI k)])), (y, .inl (tA 0, 40, .inl (nF c)))]) (fun (r : Int32) (_ : Unit) => r = nI k) (fun (_ : Unit) => [(x, .inr (2, [.ref y, .int (nI lim), .int (nI wid), .int (nI k)])), (y, .inl (tA 0, 40, .inl (nF c)))]) 0 0 := by
  refine enterI (cc := cX4_size) (maxL := 1) (ret := (some .int)) (by decide) rfl (Nat.le_of_ble_eq_true rfl) ?_
  intro p0 e0 s m args below meth c0_ A ls hx hb hml hr hts hown hlocks hin hKK hA hP hD hl hS
  have hown : s.vm.findClass RX4 = some m.cls := hown
  have hl : lv_has ls 1 [(0, .ref x)] := hl
  have f15 := hts (Cond.fieldLink RX4 15 "LentTerms$Rows" "size" "I") (List.mem_of_getElem? (i := 1) rfl)
  have iX4 : ∀ w ∈ wsX40, w ∈ wsX4_size := by decide +kernel
  refine lv_aload_n hx hb dX4_size_0 rfl (lv_at hl 0 rfl) ?_
  refine va_get (D := G) (ci := 2) (C := RX4) (T := TX4) (N := 4) hx hb hts iX4 hown hKK.1 hP 0 rfl rfl 3 (by decide) f15 (fun _ h9 => h9) rfl dX4_size_1 ?_
  exact retI hx hb hr hlocks hS hP hD () (rfl) (congrArg nI (show (k : Nat) = k from rfl)) dX4_size_4

set_option maxHeartbeats 4000000 in
set_option maxRecDepth 100000 in
theorem c_X4_holds (l : Launch) (G : va_G) (tA : Nat → ClassId) (x : Nat) (y : Nat) (lim : Nat) (wid : Nat) (k : Nat) (c : Nat → Nat) (row : Int32) (ROW : Int) (hrow : row.toInt = ROW) (hk9 : k ≤ 10) : CtI l yX4_holds wsX4_holds ({ frames := 0, cells := 0, slots := 0, locals := 0 }) G tA [.ref x, .int row] ([(x, .inr (2, [.ref y, .int (nI lim), .int (nI wid), .int (nI k)])), (y, .inl (tA 0, 40, .inl (nF c)))]) (fun (r : Int32) (_ : Unit) => ((r = nI 1 ∧ (0 ≤ ROW ∧ ROW < (k : Int))) ∨ (r = nI 0 ∧ ¬ (0 ≤ ROW ∧ ROW < (k : Int))))) (fun (_ : Unit) => [(x, .inr (2, [.ref y, .int (nI lim), .int (nI wid), .int (nI k)])), (y, .inl (tA 0, 40, .inl (nF c)))]) 0 0 := by
  refine enterI (cc := cX4_holds) (maxL := 2) (ret := (some .boolean)) (by decide) rfl (Nat.le_of_ble_eq_true rfl) ?_
  intro p0 e0 s m args below meth c0_ A ls hx hb hml hr hts hown hlocks hin hKK hA hP hD hl hS
  have hown : s.vm.findClass RX4 = some m.cls := hown
  have hl : lv_has ls 2 [(0, .ref x), (1, .int row)] := hl
  have f15 := hts (Cond.fieldLink RX4 15 "LentTerms$Rows" "size" "I") (List.mem_of_getElem? (i := 1) rfl)
  have iX4 : ∀ w ∈ wsX40, w ∈ wsX4_holds := by decide +kernel
  refine lv_iload_n hx hb dX4_holds_0 rfl (lv_at hl 1 rfl) ?_
  refine zv_if_lt (tgt := 16) (X := ROW) hrow hx hb dX4_holds_1 (by decide) (fun c_1 => ?_) (fun c_1 => ?_)
  · refine lv_iconst (v := nI 0) hx hb dX4_holds_16 (by decide) ?_
    exact retZ (ty := .boolean) hx hb hr rfl hlocks hS hP hD () (rfl) (Or.inr ⟨rfl, by omega⟩) dX4_holds_17
  · refine lv_iload_n hx hb dX4_holds_4 rfl (lv_at hl 1 rfl) ?_
    refine lv_aload_n hx hb dX4_holds_5 rfl (lv_at hl 0 rfl) ?_
    refine va_get (D := G) (ci := 2) (C := RX4) (T := TX4) (N := 4) hx hb hts iX4 hown hKK.1 hP 0 rfl rfl 3 (by decide) f15 (fun _ h9 => h9) rfl dX4_holds_6 ?_
    refine zv_icmp_ge (tgt := 16) (X := ROW) (Y := ((k : Nat) : Int)) hrow (nI_toIntC (by omega)) hx hb dX4_holds_9 (by decide) (fun c_2 => ?_) (fun c_2 => ?_)
    · refine lv_iconst (v := nI 0) hx hb dX4_holds_16 (by decide) ?_
      exact retZ (ty := .boolean) hx hb hr rfl hlocks hS hP hD () (rfl) (Or.inr ⟨rfl, by omega⟩) dX4_holds_17
    · refine lv_iconst (v := nI 1) hx hb dX4_holds_12 (by decide) ?_
      refine lv_goto (tgt := 17) hx hb dX4_holds_13 (by decide) ?_
      exact retZ (ty := .boolean) hx hb hr rfl hlocks hS hP hD () (rfl) (Or.inl ⟨rfl, by omega⟩) dX4_holds_17

set_option maxHeartbeats 4000000 in
set_option maxRecDepth 100000 in
theorem c_X4_at (l : Launch) (G : va_G) (tA : Nat → ClassId) (x : Nat) (y : Nat) (lim : Nat) (wid : Nat) (k : Nat) (c : Nat → Nat) (row : Nat) (col : Nat) (hk9 : k ≤ 10) (hwid : wid ≤ 4) (hrow : row < 1048576) (hcol : col < 1048576) : CtI l yX4_at wsX4_at ({ frames := 0, cells := 0, slots := 0, locals := 0 }) G tA [.ref x, .int (nI row), .int (nI col)] ([(x, .inr (2, [.ref y, .int (nI lim), .int (nI wid), .int (nI k)])), (y, .inl (tA 0, 40, .inl (nF c)))]) (fun (r : Int32) (_ : Unit) => r = nI (atS k wid c row col)) (fun (_ : Unit) => [(x, .inr (2, [.ref y, .int (nI lim), .int (nI wid), .int (nI k)])), (y, .inl (tA 0, 40, .inl (nF c)))]) 0 0 := by
  refine enterI (cc := cX4_at) (maxL := 4) (ret := (some .int)) (by decide) rfl (Nat.le_of_ble_eq_true rfl) ?_
  intro p0 e0 s m args below meth c0_ A ls hx hb hml hr hts hown hlocks hin hKK hA hP hD hl hS
  have hown : s.vm.findClass RX4 = some m.cls := hown
  have hl : lv_has ls 4 [(0, .ref x), (1, .int (nI row)), (2, .int (nI col))] := hl
  have f15 := hts (Cond.fieldLink RX4 15 "LentTerms$Rows" "size" "I") (List.mem_of_getElem? (i := 1) rfl)
  have iX4 : ∀ w ∈ wsX40, w ∈ wsX4_at := by decide +kernel
  have f28 := hts (Cond.fieldLink RX4 28 "LentTerms$Rows" "width" "I") (List.mem_of_getElem? (i := 2) rfl)
  have f11 := hts (Cond.fieldLink RX4 11 "LentTerms$Rows" "cells" "[I") (List.mem_of_getElem? (i := 3) rfl)
  refine lv_iload_n hx hb dX4_at_0 rfl (lv_at hl 1 rfl) ?_
  refine nv_if_lt (tgt := 28) (by omega) hx hb dX4_at_1 (by decide) ?_
  refine lv_iload_n hx hb dX4_at_4 rfl (lv_at hl 1 rfl) ?_
  refine lv_aload_n hx hb dX4_at_5 rfl (lv_at hl 0 rfl) ?_
  refine va_get (D := G) (ci := 2) (C := RX4) (T := TX4) (N := 4) hx hb hts iX4 hown hKK.1 hP 0 rfl rfl 3 (by decide) f15 (fun _ h9 => h9) rfl dX4_at_6 ?_
  refine nv_icmp_ge (tgt := 28) (by omega) (by omega) hx hb dX4_at_9 (by decide) (fun c_2 => ?_) (fun c_2 => ?_)
  · refine lv_iconst (v := nI 0) hx hb dX4_at_28 (by decide) ?_
    refine lv_istore_n (lv' := [(3, .int (nI 0)), (0, .ref x), (1, .int (nI row)), (2, .int (nI col))]) hx hb dX4_at_29 rfl hl (by decide) rfl (fun ls hl => ?_)
    refine lv_iload_n hx hb dX4_at_30 rfl (lv_at hl 0 rfl) ?_
    refine nv_if_eq (tgt := 47) (by omega) hx hb dX4_at_31 (by decide) (fun _ => ?_) (fun h => absurd h (by omega))
    refine lv_iconst (v := nI 0) hx hb dX4_at_47 (by decide) ?_
    exact retI hx hb hr hlocks hS hP hD () (rfl) (congrArg nI (show (0 : Nat) = atS k wid c row col from by unfold atS; split <;> first | rfl | omega)) dX4_at_48
  · refine lv_iload_n hx hb dX4_at_12 rfl (lv_at hl 2 rfl) ?_
    refine nv_if_lt (tgt := 28) (by omega) hx hb dX4_at_13 (by decide) ?_
    refine lv_iload_n hx hb dX4_at_16 rfl (lv_at hl 2 rfl) ?_
    refine lv_aload_n hx hb dX4_at_17 rfl (lv_at hl 0 rfl) ?_
    refine va_get (D := G) (ci := 2) (C := RX4) (T := TX4) (N := 4) hx hb hts iX4 hown hKK.1 hP 0 rfl rfl 2 (by decide) f28 (fun _ h9 => h9) rfl dX4_at_18 ?_
    refine nv_icmp_ge (tgt := 28) (by omega) (by omega) hx hb dX4_at_21 (by decide) (fun c_5 => ?_) (fun c_5 => ?_)
    · refine lv_iconst (v := nI 0) hx hb dX4_at_28 (by decide) ?_
      refine lv_istore_n (lv' := [(3, .int (nI 0)), (0, .ref x), (1, .int (nI row)), (2, .int (nI col))]) hx hb dX4_at_29 rfl hl (by decide) rfl (fun ls hl => ?_)
      refine lv_iload_n hx hb dX4_at_30 rfl (lv_at hl 0 rfl) ?_
      refine nv_if_eq (tgt := 47) (by omega) hx hb dX4_at_31 (by decide) (fun _ => ?_) (fun h => absurd h (by omega))
      refine lv_iconst (v := nI 0) hx hb dX4_at_47 (by decide) ?_
      exact retI hx hb hr hlocks hS hP hD () (rfl) (congrArg nI (show (0 : Nat) = atS k wid c row col from by unfold atS; split <;> first | rfl | omega)) dX4_at_48
    · refine lv_iconst (v := nI 1) hx hb dX4_at_24 (by decide) ?_
      refine lv_goto (tgt := 29) hx hb dX4_at_25 (by decide) ?_
      refine lv_istore_n (lv' := [(3, .int (nI 1)), (0, .ref x), (1, .int (nI row)), (2, .int (nI col))]) hx hb dX4_at_29 rfl hl (by decide) rfl (fun ls hl => ?_)
      refine lv_iload_n hx hb dX4_at_30 rfl (lv_at hl 0 rfl) ?_
      refine nv_if_eq (tgt := 47) (by omega) hx hb dX4_at_31 (by decide) (fun h => absurd h (by omega)) (fun _ => ?_)
      refine lv_aload_n hx hb dX4_at_34 rfl (lv_at hl 1 rfl) ?_
      refine va_get (D := G) (ci := 2) (C := RX4) (T := TX4) (N := 4) hx hb hts iX4 hown hKK.1 hP 0 rfl rfl 0 (by decide) f11 (fun _ h9 => h9) rfl dX4_at_35 ?_
      refine lv_iload_n hx hb dX4_at_38 rfl (lv_at hl 2 rfl) ?_
      refine lv_iconst (v := nI 4) hx hb dX4_at_39 (by decide) ?_
      refine nv_imul hx hb dX4_at_40 ?_
      refine lv_iload_n hx hb dX4_at_41 rfl (lv_at hl 3 rfl) ?_
      refine nv_iadd hx hb dX4_at_42 ?_
      refine nv_iald (i := (row * 4) + col) hx hb hKK.1 hP 1 0 rfl rfl (by omega) (by decide) dX4_at_43 ?_
      refine lv_goto (tgt := 48) hx hb dX4_at_44 (by decide) ?_
      exact retI hx hb hr hlocks hS hP hD () (rfl) (congrArg nI (show (c ((row * 4) + col) : Nat) = atS k wid c row col from by unfold atS; split <;> first | rfl | omega)) dX4_at_48

set_option maxHeartbeats 4000000 in
set_option maxRecDepth 100000 in
theorem c_X4_at_in (l : Launch) (G : va_G) (tA : Nat → ClassId) (x : Nat) (y : Nat) (lim : Nat) (wid : Nat) (k : Nat) (c : Nat → Nat) (row : Nat) (col : Nat) (hk9 : k ≤ 10) (hwid : wid ≤ 4) (hrow : row < k) (hcol : col < wid) (hc : ∀ j, c j < 1048576) : CtI l yX4_at wsX4_at ({ frames := 0, cells := 0, slots := 0, locals := 0 }) G tA [.ref x, .int (nI row), .int (nI col)] ([(x, .inr (2, [.ref y, .int (nI lim), .int (nI wid), .int (nI k)])), (y, .inl (tA 0, 40, .inl (nF c)))]) (fun (r : Int32) (_ : Unit) => r = nI (c (row * 4 + col)) ∧ c (row * 4 + col) < 1048576) (fun (_ : Unit) => [(x, .inr (2, [.ref y, .int (nI lim), .int (nI wid), .int (nI k)])), (y, .inl (tA 0, 40, .inl (nF c)))]) 0 0 := by
  refine enterI (cc := cX4_at) (maxL := 4) (ret := (some .int)) (by decide) rfl (Nat.le_of_ble_eq_true rfl) ?_
  intro p0 e0 s m args below meth c0_ A ls hx hb hml hr hts hown hlocks hin hKK hA hP hD hl hS
  have hown : s.vm.findClass RX4 = some m.cls := hown
  have hl : lv_has ls 4 [(0, .ref x), (1, .int (nI row)), (2, .int (nI col))] := hl
  have f15 := hts (Cond.fieldLink RX4 15 "LentTerms$Rows" "size" "I") (List.mem_of_getElem? (i := 1) rfl)
  have iX4 : ∀ w ∈ wsX40, w ∈ wsX4_at := by decide +kernel
  have f28 := hts (Cond.fieldLink RX4 28 "LentTerms$Rows" "width" "I") (List.mem_of_getElem? (i := 2) rfl)
  have f11 := hts (Cond.fieldLink RX4 11 "LentTerms$Rows" "cells" "[I") (List.mem_of_getElem? (i := 3) rfl)
  refine lv_iload_n hx hb dX4_at_0 rfl (lv_at hl 1 rfl) ?_
  refine nv_if_lt (tgt := 28) (by omega) hx hb dX4_at_1 (by decide) ?_
  refine lv_iload_n hx hb dX4_at_4 rfl (lv_at hl 1 rfl) ?_
  refine lv_aload_n hx hb dX4_at_5 rfl (lv_at hl 0 rfl) ?_
  refine va_get (D := G) (ci := 2) (C := RX4) (T := TX4) (N := 4) hx hb hts iX4 hown hKK.1 hP 0 rfl rfl 3 (by decide) f15 (fun _ h9 => h9) rfl dX4_at_6 ?_
  refine nv_icmp_ge (tgt := 28) (by omega) (by omega) hx hb dX4_at_9 (by decide) (fun c_2 => ?_) (fun c_2 => ?_)
  · refine lv_iconst (v := nI 0) hx hb dX4_at_28 (by decide) ?_
    refine lv_istore_n (lv' := [(3, .int (nI 0)), (0, .ref x), (1, .int (nI row)), (2, .int (nI col))]) hx hb dX4_at_29 rfl hl (by decide) rfl (fun ls hl => ?_)
    refine lv_iload_n hx hb dX4_at_30 rfl (lv_at hl 0 rfl) ?_
    refine nv_if_eq (tgt := 47) (by omega) hx hb dX4_at_31 (by decide) (fun _ => ?_) (fun h => absurd h (by omega))
    refine lv_iconst (v := nI 0) hx hb dX4_at_47 (by decide) ?_
    exact retI hx hb hr hlocks hS hP hD () (rfl) (⟨congrArg nI (show (0 : Nat) = c (row * 4 + col) from by first | rfl | omega), hc _⟩) dX4_at_48
  · refine lv_iload_n hx hb dX4_at_12 rfl (lv_at hl 2 rfl) ?_
    refine nv_if_lt (tgt := 28) (by omega) hx hb dX4_at_13 (by decide) ?_
    refine lv_iload_n hx hb dX4_at_16 rfl (lv_at hl 2 rfl) ?_
    refine lv_aload_n hx hb dX4_at_17 rfl (lv_at hl 0 rfl) ?_
    refine va_get (D := G) (ci := 2) (C := RX4) (T := TX4) (N := 4) hx hb hts iX4 hown hKK.1 hP 0 rfl rfl 2 (by decide) f28 (fun _ h9 => h9) rfl dX4_at_18 ?_
    refine nv_icmp_ge (tgt := 28) (by omega) (by omega) hx hb dX4_at_21 (by decide) (fun c_5 => ?_) (fun c_5 => ?_)
    · refine lv_iconst (v := nI 0) hx hb dX4_at_28 (by decide) ?_
      refine lv_istore_n (lv' := [(3, .int (nI 0)), (0, .ref x), (1, .int (nI row)), (2, .int (nI col))]) hx hb dX4_at_29 rfl hl (by decide) rfl (fun ls hl => ?_)
      refine lv_iload_n hx hb dX4_at_30 rfl (lv_at hl 0 rfl) ?_
      refine nv_if_eq (tgt := 47) (by omega) hx hb dX4_at_31 (by decide) (fun _ => ?_) (fun h => absurd h (by omega))
      refine lv_iconst (v := nI 0) hx hb dX4_at_47 (by decide) ?_
      exact retI hx hb hr hlocks hS hP hD () (rfl) (⟨congrArg nI (show (0 : Nat) = c (row * 4 + col) from by first | rfl | omega), hc _⟩) dX4_at_48
    · refine lv_iconst (v := nI 1) hx hb dX4_at_24 (by decide) ?_
      refine lv_goto (tgt := 29) hx hb dX4_at_25 (by decide) ?_
      refine lv_istore_n (lv' := [(3, .int (nI 1)), (0, .ref x), (1, .int (nI row)), (2, .int (nI col))]) hx hb dX4_at_29 rfl hl (by decide) rfl (fun ls hl => ?_)
      refine lv_iload_n hx hb dX4_at_30 rfl (lv_at hl 0 rfl) ?_
      refine nv_if_eq (tgt := 47) (by omega) hx hb dX4_at_31 (by decide) (fun h => absurd h (by omega)) (fun _ => ?_)
      refine lv_aload_n hx hb dX4_at_34 rfl (lv_at hl 1 rfl) ?_
      refine va_get (D := G) (ci := 2) (C := RX4) (T := TX4) (N := 4) hx hb hts iX4 hown hKK.1 hP 0 rfl rfl 0 (by decide) f11 (fun _ h9 => h9) rfl dX4_at_35 ?_
      refine lv_iload_n hx hb dX4_at_38 rfl (lv_at hl 2 rfl) ?_
      refine lv_iconst (v := nI 4) hx hb dX4_at_39 (by decide) ?_
      refine nv_imul hx hb dX4_at_40 ?_
      refine lv_iload_n hx hb dX4_at_41 rfl (lv_at hl 3 rfl) ?_
      refine nv_iadd hx hb dX4_at_42 ?_
      refine nv_iald (i := (row * 4) + col) hx hb hKK.1 hP 1 0 rfl rfl (by omega) (by decide) dX4_at_43 ?_
      refine lv_goto (tgt := 48) hx hb dX4_at_44 (by decide) ?_
      exact retI hx hb hr hlocks hS hP hD () (rfl) (⟨congrArg nI (show (c ((row * 4) + col) : Nat) = c (row * 4 + col) from by first | rfl | omega), hc _⟩) dX4_at_48

set_option maxHeartbeats 4000000 in
set_option maxRecDepth 100000 in
theorem c_X4_empty (l : Launch) (G : va_G) (tA : Nat → ClassId) (x : Nat) (y : Nat) (lim : Nat) (wid : Nat) (k : Nat) (c : Nat → Nat)  : CtV l yX4_empty wsX4_empty ({ frames := 0, cells := 0, slots := 0, locals := 0 }) G tA [.ref x] ([(x, .inr (2, [.ref y, .int (nI lim), .int (nI wid), .int (nI k)])), (y, .inl (tA 0, 40, .inl (nF c)))]) (fun (_ : Unit) => True) (fun (_ : Unit) => [(x, .inr (2, [.ref y, .int (nI lim), .int (nI wid), .int (nI 0)])), (y, .inl (tA 0, 40, .inl (nF c)))]) 0 0 := by
  refine enterV (cc := cX4_empty) (maxL := 1) (ret := none) (by decide) rfl (Nat.le_of_ble_eq_true rfl) ?_
  intro p0 e0 s m args below meth c0_ A ls hx hb hml hr hts hown hlocks hin hKK hA hP hD hl hS
  have hown : s.vm.findClass RX4 = some m.cls := hown
  have hl : lv_has ls 1 [(0, .ref x)] := hl
  have f15 := hts (Cond.fieldLink RX4 15 "LentTerms$Rows" "size" "I") (List.mem_of_getElem? (i := 1) rfl)
  have iX4 : ∀ w ∈ wsX40, w ∈ wsX4_empty := by decide +kernel
  refine lv_aload_n hx hb dX4_empty_0 rfl (lv_at hl 0 rfl) ?_
  refine lv_iconst (v := nI 0) hx hb dX4_empty_1 (by decide) ?_
  refine nv_put (D := G) (ci := 2) (v := .int (nI 0)) (ty := (tyX4 3)) (C := RX4) (T := TX4) (N := 4) hx hb hts iX4 tyX4 tyX4_ok nmX4 hown hKK.1 hP hD hS 0 rfl rfl 3 (by decide) f15 (fun _ h9 => h9) rfl (by decide +kernel) rfl rfl (Nat.le_of_ble_eq_true rfl) dX4_empty_2 [(x, .inr (2, [.ref y, .int (nI lim), .int (nI wid), .int (nI 0)])), (y, .inl (tA 0, 40, .inl (nF c)))] rfl (fun H locs hP hD hS => ?_)
  exact retV hx hb hr hlocks hS hP hD () (rfl) (trivial) dX4_empty_5

set_option maxHeartbeats 4000000 in
set_option maxRecDepth 100000 in
theorem c_X4_add (l : Launch) (G : va_G) (tA : Nat → ClassId) (x : Nat) (y : Nat) (lim : Nat) (wid : Nat) (k : Nat) (c : Nat → Nat) (x0 : Nat) (x1 : Nat) (x2 : Nat) (x3 : Nat) (hk9 : k ≤ lim) (hlim : lim ≤ 10) : CtI l yX4_add wsX4_add ({ frames := 0, cells := 0, slots := 0, locals := 0 }) G tA [.ref x, .int (nI x0), .int (nI x1), .int (nI x2), .int (nI x3)] ([(x, .inr (2, [.ref y, .int (nI lim), .int (nI wid), .int (nI k)])), (y, .inl (tA 0, 40, .inl (nF c)))]) (fun (r : Int32) (_ : Unit) => r = okR true k lim) (fun (_ : Unit) => [(x, .inr (2, [.ref y, .int (nI lim), .int (nI wid), .int (nI (okN true k lim))])), (y, .inl (tA 0, 40, .inl (nF (okC true k lim c x0 x1 x2 x3))))]) 0 0 := by
  refine enterI (cc := cX4_add) (maxL := 6) (ret := (some .int)) (by decide) rfl (Nat.le_of_ble_eq_true rfl) ?_
  intro p0 e0 s m args below meth c0_ A ls hx hb hml hr hts hown hlocks hin hKK hA hP hD hl hS
  have hown : s.vm.findClass RX4 = some m.cls := hown
  have hl : lv_has ls 6 [(0, .ref x), (1, .int (nI x0)), (2, .int (nI x1)), (3, .int (nI x2)), (4, .int (nI x3))] := hl
  have f15 := hts (Cond.fieldLink RX4 15 "LentTerms$Rows" "size" "I") (List.mem_of_getElem? (i := 1) rfl)
  have iX4 : ∀ w ∈ wsX40, w ∈ wsX4_add := by decide +kernel
  have f25 := hts (Cond.fieldLink RX4 25 "LentTerms$Rows" "limit" "I") (List.mem_of_getElem? (i := 2) rfl)
  have f11 := hts (Cond.fieldLink RX4 11 "LentTerms$Rows" "cells" "[I") (List.mem_of_getElem? (i := 3) rfl)
  refine lv_aload_n hx hb dX4_add_0 rfl (lv_at hl 0 rfl) ?_
  refine va_get (D := G) (ci := 2) (C := RX4) (T := TX4) (N := 4) hx hb hts iX4 hown hKK.1 hP 0 rfl rfl 3 (by decide) f15 (fun _ h9 => h9) rfl dX4_add_1 ?_
  refine lv_aload_n hx hb dX4_add_4 rfl (lv_at hl 0 rfl) ?_
  refine va_get (D := G) (ci := 2) (C := RX4) (T := TX4) (N := 4) hx hb hts iX4 hown hKK.1 hP 0 rfl rfl 1 (by decide) f25 (fun _ h9 => h9) rfl dX4_add_5 ?_
  refine nv_icmp_lt (tgt := 14) (by omega) (by omega) hx hb dX4_add_8 (by decide) (fun c_1 => ?_) (fun c_1 => ?_)
  · refine lv_aload_n hx hb dX4_add_14 rfl (lv_at hl 0 rfl) ?_
    refine va_get (D := G) (ci := 2) (C := RX4) (T := TX4) (N := 4) hx hb hts iX4 hown hKK.1 hP 0 rfl rfl 3 (by decide) f15 (fun _ h9 => h9) rfl dX4_add_15 ?_
    refine lv_iconst (v := nI 4) hx hb dX4_add_18 (by decide) ?_
    refine nv_imul hx hb dX4_add_19 ?_
    refine lv_istore (lv' := [(5, .int (nI (k * 4))), (0, .ref x), (1, .int (nI x0)), (2, .int (nI x1)), (3, .int (nI x2)), (4, .int (nI x3))]) hx hb dX4_add_20 hl (by decide) rfl (fun ls hl => ?_)
    refine lv_aload_n hx hb dX4_add_22 rfl (lv_at hl 1 rfl) ?_
    refine va_get (D := G) (ci := 2) (C := RX4) (T := TX4) (N := 4) hx hb hts iX4 hown hKK.1 hP 0 rfl rfl 0 (by decide) f11 (fun _ h9 => h9) rfl dX4_add_23 ?_
    refine lv_iload hx hb dX4_add_26 (lv_at hl 0 rfl) ?_
    refine lv_iload_n hx hb dX4_add_28 rfl (lv_at hl 2 rfl) ?_
    refine nv_iast (i := k * 4) hx hb hKK.1 hP hD hS 1 0 rfl rfl (by omega) (by decide) dX4_add_29 [(x, .inr (2, [.ref y, .int (nI lim), .int (nI wid), .int (nI k)])), (y, .inl (tA 0, 40, .inl (nF (updN c (k * 4) x0))))] rfl (fun H locs hP hD hS => ?_)
    refine lv_aload_n hx hb dX4_add_30 rfl (lv_at hl 1 rfl) ?_
    refine va_get (D := G) (ci := 2) (C := RX4) (T := TX4) (N := 4) hx hb hts iX4 hown hKK.1 hP 0 rfl rfl 0 (by decide) f11 (fun _ h9 => h9) rfl dX4_add_31 ?_
    refine lv_iload hx hb dX4_add_34 (lv_at hl 0 rfl) ?_
    refine lv_iconst (v := nI 1) hx hb dX4_add_36 (by decide) ?_
    refine nv_iadd hx hb dX4_add_37 ?_
    refine lv_iload_n hx hb dX4_add_38 rfl (lv_at hl 3 rfl) ?_
    refine nv_iast (i := (k * 4) + 1) hx hb hKK.1 hP hD hS 1 0 rfl rfl (by omega) (by decide) dX4_add_39 [(x, .inr (2, [.ref y, .int (nI lim), .int (nI wid), .int (nI k)])), (y, .inl (tA 0, 40, .inl (nF (updN (updN c (k * 4) x0) ((k * 4) + 1) x1))))] rfl (fun H locs hP hD hS => ?_)
    refine lv_aload_n hx hb dX4_add_40 rfl (lv_at hl 1 rfl) ?_
    refine va_get (D := G) (ci := 2) (C := RX4) (T := TX4) (N := 4) hx hb hts iX4 hown hKK.1 hP 0 rfl rfl 0 (by decide) f11 (fun _ h9 => h9) rfl dX4_add_41 ?_
    refine lv_iload hx hb dX4_add_44 (lv_at hl 0 rfl) ?_
    refine lv_iconst (v := nI 2) hx hb dX4_add_46 (by decide) ?_
    refine nv_iadd hx hb dX4_add_47 ?_
    refine lv_iload_n hx hb dX4_add_48 rfl (lv_at hl 4 rfl) ?_
    refine nv_iast (i := (k * 4) + 2) hx hb hKK.1 hP hD hS 1 0 rfl rfl (by omega) (by decide) dX4_add_49 [(x, .inr (2, [.ref y, .int (nI lim), .int (nI wid), .int (nI k)])), (y, .inl (tA 0, 40, .inl (nF (updN (updN (updN c (k * 4) x0) ((k * 4) + 1) x1) ((k * 4) + 2) x2))))] rfl (fun H locs hP hD hS => ?_)
    refine lv_aload_n hx hb dX4_add_50 rfl (lv_at hl 1 rfl) ?_
    refine va_get (D := G) (ci := 2) (C := RX4) (T := TX4) (N := 4) hx hb hts iX4 hown hKK.1 hP 0 rfl rfl 0 (by decide) f11 (fun _ h9 => h9) rfl dX4_add_51 ?_
    refine lv_iload hx hb dX4_add_54 (lv_at hl 0 rfl) ?_
    refine lv_iconst (v := nI 3) hx hb dX4_add_56 (by decide) ?_
    refine nv_iadd hx hb dX4_add_57 ?_
    refine lv_iload hx hb dX4_add_58 (lv_at hl 5 rfl) ?_
    refine nv_iast (i := (k * 4) + 3) hx hb hKK.1 hP hD hS 1 0 rfl rfl (by omega) (by decide) dX4_add_60 [(x, .inr (2, [.ref y, .int (nI lim), .int (nI wid), .int (nI k)])), (y, .inl (tA 0, 40, .inl (nF (updN (updN (updN (updN c (k * 4) x0) ((k * 4) + 1) x1) ((k * 4) + 2) x2) ((k * 4) + 3) x3))))] rfl (fun H locs hP hD hS => ?_)
    refine lv_aload_n hx hb dX4_add_61 rfl (lv_at hl 1 rfl) ?_
    refine lv_dup hx hb dX4_add_62 rfl ?_
    refine va_get (D := G) (ci := 2) (C := RX4) (T := TX4) (N := 4) hx hb hts iX4 hown hKK.1 hP 0 rfl rfl 3 (by decide) f15 (fun _ h9 => h9) rfl dX4_add_63 ?_
    refine lv_iconst (v := nI 1) hx hb dX4_add_66 (by decide) ?_
    refine nv_iadd hx hb dX4_add_67 ?_
    refine nv_put (D := G) (ci := 2) (v := .int (nI (k + 1))) (ty := (tyX4 3)) (C := RX4) (T := TX4) (N := 4) hx hb hts iX4 tyX4 tyX4_ok nmX4 hown hKK.1 hP hD hS 0 rfl rfl 3 (by decide) f15 (fun _ h9 => h9) rfl (by decide +kernel) rfl rfl (Nat.le_of_ble_eq_true rfl) dX4_add_68 [(x, .inr (2, [.ref y, .int (nI lim), .int (nI wid), .int (nI (k + 1))])), (y, .inl (tA 0, 40, .inl (nF (updN (updN (updN (updN c (k * 4) x0) ((k * 4) + 1) x1) ((k * 4) + 2) x2) ((k * 4) + 3) x3))))] rfl (fun H locs hP hD hS => ?_)
    refine lv_aload_n hx hb dX4_add_71 rfl (lv_at hl 1 rfl) ?_
    refine va_get (D := G) (ci := 2) (C := RX4) (T := TX4) (N := 4) hx hb hts iX4 hown hKK.1 hP 0 rfl rfl 3 (by decide) f15 (fun _ h9 => h9) rfl dX4_add_72 ?_
    refine lv_iconst (v := nI 1) hx hb dX4_add_75 (by decide) ?_
    refine nv_isub (show 1 ≤ k + 1 from by omega) hx hb dX4_add_76 ?_
    exact retI hx hb hr hlocks hS hP hD () (by simp [okN, okC, row4, show k < lim from by omega]) (by simp [okR, show k < lim from by omega]) dX4_add_77
  · refine lv_bipush (v := (-4)) hx hb dX4_add_11 (by decide +kernel) ?_
    exact retI hx hb hr hlocks hS hP hD () (by simp [okN, okC, show ¬ k < lim from by omega]) (by simp [okR, show ¬ k < lim from by omega]) dX4_add_13

set_option maxHeartbeats 4000000 in
set_option maxRecDepth 100000 in
theorem c_X4_copyFrom (l : Launch) (G : va_G) (tA : Nat → ClassId) (x : Nat) (y : Nat) (lim : Nat) (wid : Nat) (k : Nat) (c : Nat → Nat) (x2 : Nat) (y2 : Nat) (k2 : Nat) (c2 : Nat → Nat)  : CtV l yX4_copyFrom wsX4_copyFrom ({ frames := 1, cells := 0, slots := 0, locals := 60 }) G tA [.ref x, .ref x2] ([(x, .inr (2, [.ref y, .int (nI lim), .int (nI wid), .int (nI k)])), (y, .inl (tA 0, 40, .inl (nF c))), (x2, .inr (2, [.ref y2, .int (nI lim), .int (nI wid), .int (nI k2)])), (y2, .inl (tA 0, 40, .inl (nF c2)))]) (fun (_ : Unit) => True) (fun (_ : Unit) => [(x, .inr (2, [.ref y, .int (nI lim), .int (nI wid), .int (nI k2)])), (y, .inl (tA 0, 40, .inl (nF (cpyN c2 c 40)))), (x2, .inr (2, [.ref y2, .int (nI lim), .int (nI wid), .int (nI k2)])), (y2, .inl (tA 0, 40, .inl (nF c2)))]) 0 0 := by
  refine enterV (cc := cX4_copyFrom) (maxL := 2) (ret := none) (by decide) rfl (Nat.le_of_ble_eq_true rfl) ?_
  intro p0 e0 s m args below meth c0_ A ls hx hb hml hr hts hown hlocks hin hKK hA hP hD hl hS
  have hown : s.vm.findClass RX4 = some m.cls := hown
  have hl : lv_has ls 2 [(0, .ref x), (1, .ref x2)] := hl
  have f11 := hts (Cond.fieldLink RX4 11 "LentTerms$Rows" "cells" "[I") (List.mem_of_getElem? (i := 1) rfl)
  have iX4 : ∀ w ∈ wsX40, w ∈ wsX4_copyFrom := by decide +kernel
  have f31 := hts (Cond.methodLink RX4 31 arraycopyName) (List.mem_of_getElem? (i := 2) rfl)
  have f15 := hts (Cond.fieldLink RX4 15 "LentTerms$Rows" "size" "I") (List.mem_of_getElem? (i := 6) rfl)
  refine lv_aload_n hx hb dX4_copyFrom_0 rfl (lv_at hl 1 rfl) ?_
  refine va_get (D := G) (ci := 2) (C := RX4) (T := TX4) (N := 4) hx hb hts iX4 hown hKK.1 hP 2 rfl rfl 0 (by decide) f11 (fun _ h9 => h9) rfl dX4_copyFrom_1 ?_
  refine lv_iconst (v := nI 0) hx hb dX4_copyFrom_4 (by decide) ?_
  refine lv_aload_n hx hb dX4_copyFrom_5 rfl (lv_at hl 0 rfl) ?_
  refine va_get (D := G) (ci := 2) (C := RX4) (T := TX4) (N := 4) hx hb hts iX4 hown hKK.1 hP 0 rfl rfl 0 (by decide) f11 (fun _ h9 => h9) rfl dX4_copyFrom_6 ?_
  refine lv_iconst (v := nI 0) hx hb dX4_copyFrom_9 (by decide) ?_
  refine lv_bipush (v := nI 40) hx hb dX4_copyFrom_10 (by decide +kernel) ?_
  refine nv_copy hx hb (by rw [hml]; exact hl.1.symm) hown f31 (hts (.native arraycopyName) (List.mem_of_getElem? (i := 3) rfl)) (hts (.static arraycopyName) (List.mem_of_getElem? (i := 4) rfl)) (hts (.initialized "java/lang/System") (List.mem_of_getElem? (i := 5) rfl)) hKK.1 hP hD hS 3 1 0 rfl rfl rfl (by decide) (by decide) (Nat.le_of_ble_eq_true rfl) (by first | decide | decide +kernel) dX4_copyFrom_12 [(x, .inr (2, [.ref y, .int (nI lim), .int (nI wid), .int (nI k)])), (y, .inl (tA 0, 40, .inl (nF (cpyN c2 c 40)))), (x2, .inr (2, [.ref y2, .int (nI lim), .int (nI wid), .int (nI k2)])), (y2, .inl (tA 0, 40, .inl (nF c2)))] rfl (fun H locs hP hD hS => ?_)
  refine lv_aload_n hx hb dX4_copyFrom_15 rfl (lv_at hl 0 rfl) ?_
  refine lv_aload_n hx hb dX4_copyFrom_16 rfl (lv_at hl 1 rfl) ?_
  refine va_get (D := G) (ci := 2) (C := RX4) (T := TX4) (N := 4) hx hb hts iX4 hown hKK.1 hP 2 rfl rfl 3 (by decide) f15 (fun _ h9 => h9) rfl dX4_copyFrom_17 ?_
  refine nv_put (D := G) (ci := 2) (v := .int (nI k2)) (ty := (tyX4 3)) (C := RX4) (T := TX4) (N := 4) hx hb hts iX4 tyX4 tyX4_ok nmX4 hown hKK.1 hP hD hS 0 rfl rfl 3 (by decide) f15 (fun _ h9 => h9) rfl (by decide +kernel) rfl rfl (Nat.le_of_ble_eq_true rfl) dX4_copyFrom_20 [(x, .inr (2, [.ref y, .int (nI lim), .int (nI wid), .int (nI k2)])), (y, .inl (tA 0, 40, .inl (nF (cpyN c2 c 40)))), (x2, .inr (2, [.ref y2, .int (nI lim), .int (nI wid), .int (nI k2)])), (y2, .inl (tA 0, 40, .inl (nF c2)))] rfl (fun H locs hP hD hS => ?_)
  exact retV hx hb hr hlocks hS hP hD () (rfl) (trivial) dX4_copyFrom_23

set_option maxHeartbeats 4000000 in
set_option maxRecDepth 100000 in
theorem c_X4_init (l : Launch) (G : va_G) (tA : Nat → ClassId) (x : Nat) (lim : Nat) (wid : Nat) (hlim : lim ≤ 10) (hwid : wid ≤ 4) : CtV l yX4_init wsX4_init ({ frames := 1, cells := 1, slots := 40, locals := 40 }) G tA [.ref x, .int (nI lim), .int (nI wid)] ([(x, .inr (2, [.null, .int (nI 0), .int (nI 0), .int (nI 0)]))]) (fun (u : (Nat)) => True) (fun (u : (Nat)) => [(x, .inr (2, [.ref u, .int (nI lim), .int (nI wid), .int (nI 0)])), (u, .inl (tA 0, 40, .inl (nF (fun _ => 0))))]) 1 40 := by
  refine enterV (cc := cX4_init) (maxL := 3) (ret := none) (by decide) rfl (Nat.le_of_ble_eq_true rfl) ?_
  intro p0 e0 s m args below meth c0_ A ls hx hb hml hr hts hown hlocks hin hKK hA hP hD hl hS
  have hown : s.vm.findClass RX4 = some m.cls := hown
  have hin : meth.name = "<init>" := hin
  have hl : lv_has ls 3 [(0, .ref x), (1, .int (nI lim)), (2, .int (nI wid))] := hl
  have f3 := hts (Cond.methodLink RX4 3 objectInit) (List.mem_of_getElem? (i := 1) rfl)
  have f11 := hts (Cond.fieldLink RX4 11 "LentTerms$Rows" "cells" "[I") (List.mem_of_getElem? (i := 5) rfl)
  have iX4 : ∀ w ∈ wsX40, w ∈ wsX4_init := by decide +kernel
  have f15 := hts (Cond.fieldLink RX4 15 "LentTerms$Rows" "size" "I") (List.mem_of_getElem? (i := 6) rfl)
  have f19 := hts (Cond.methodLink RX4 19 Lib.Math.min.name) (List.mem_of_getElem? (i := 7) rfl)
  have f25 := hts (Cond.fieldLink RX4 25 "LentTerms$Rows" "limit" "I") (List.mem_of_getElem? (i := 11) rfl)
  have f28 := hts (Cond.fieldLink RX4 28 "LentTerms$Rows" "width" "I") (List.mem_of_getElem? (i := 12) rfl)
  refine lv_aload_n hx hb dX4_init_0 rfl (lv_at hl 0 rfl) ?_
  refine W.objInit hx hb hown f3 (hts (.instanceMethod objectInit) (List.mem_of_getElem? (i := 2) rfl)) (hts (.code objectInit ⟨#[0xb1]⟩ 1 none) (List.mem_of_getElem? (i := 3) rfl)) rfl (by rw [hml]; exact hl.1) rfl dX4_init_1 (Nat.le_of_ble_eq_true rfl) (Nat.le_of_ble_eq_true rfl) ?_
  refine W.eq (g2 := F0 m 4 ls []) rfl ?_
  refine lv_aload_n hx hb dX4_init_4 rfl (lv_at hl 0 rfl) ?_
  refine lv_bipush (v := nI 40) hx hb dX4_init_5 (by decide +kernel) ?_
  refine nv_newI hx hb (hts (.arrayClass .int) (List.mem_of_getElem? (i := 4) rfl)) hKK hP hD hS hA (by decide) (Nat.le_of_ble_eq_true rfl) (Nat.le_of_ble_eq_true rfl) dX4_init_7 (fun y H hP hD hS => ?_)
  have hP : va_P G vwCl [(x, .inr (2, [.null, .int (nI 0), .int (nI 0), .int (nI 0)])), (y, .inl (tA 0, 40, .inl (nF (fun _ => 0))))] H := hP
  have hD : va_D A [(x, .inr (2, [.null, .int (nI 0), .int (nI 0), .int (nI 0)])), (y, .inl (tA 0, 40, .inl (nF (fun _ => 0))))] := hD
  refine va_putF (D := G) (ci := 2) (v := .ref y) (ty := (tyX4 0)) (C := RX4) (T := TX4) (N := 4) hx hb hts iX4 tyX4 tyX4_ok nmX4 hown hKK.1 hP hD hS 0 rfl rfl 0 (by decide) f11 (fun _ h9 => h9) rfl hin rfl (by decide +kernel) rfl rfl (Nat.le_of_ble_eq_true rfl) dX4_init_9 (fun H locs hP hD hS => ?_)
  have hP : va_P G vwCl [(x, .inr (2, [.ref y, .int (nI 0), .int (nI 0), .int (nI 0)])), (y, .inl (tA 0, 40, .inl (nF (fun _ => 0))))] H := hP
  have hD : va_D A [(x, .inr (2, [.ref y, .int (nI 0), .int (nI 0), .int (nI 0)])), (y, .inl (tA 0, 40, .inl (nF (fun _ => 0))))] := hD
  refine lv_aload_n hx hb dX4_init_12 rfl (lv_at hl 0 rfl) ?_
  refine lv_iconst (v := nI 0) hx hb dX4_init_13 (by decide) ?_
  refine nv_put (D := G) (ci := 2) (v := .int (nI 0)) (ty := (tyX4 3)) (C := RX4) (T := TX4) (N := 4) hx hb hts iX4 tyX4 tyX4_ok nmX4 hown hKK.1 hP hD hS 0 rfl rfl 3 (by decide) f15 (fun _ h9 => h9) rfl (by decide +kernel) rfl rfl (Nat.le_of_ble_eq_true rfl) dX4_init_14 [(x, .inr (2, [.ref y, .int (nI 0), .int (nI 0), .int (nI 0)])), (y, .inl (tA 0, 40, .inl (nF (fun _ => 0))))] rfl (fun H locs hP hD hS => ?_)
  refine lv_aload_n hx hb dX4_init_17 rfl (lv_at hl 0 rfl) ?_
  refine lv_iload_n hx hb dX4_init_18 rfl (lv_at hl 1 rfl) ?_
  refine lv_bipush (v := nI 10) hx hb dX4_init_19 (by decide +kernel) ?_
  refine nv_min hx hb (by rw [hml]; exact hl.1.symm) hown f19 (hts (.static Lib.Math.min.name) (List.mem_of_getElem? (i := 8) rfl)) (hts (.initialized "java/lang/Math") (List.mem_of_getElem? (i := 9) rfl)) (hts (.code Lib.Math.min.name Lib.Math.min.code 2 (some .int)) (List.mem_of_getElem? (i := 10) rfl)) (Nat.le_of_ble_eq_true rfl) (Nat.le_of_ble_eq_true rfl) (Nat.le_of_ble_eq_true rfl) (Nat.le_of_ble_eq_true rfl) (by omega) (by omega) dX4_init_21 ?_
  refine nv_top (y := lim) (congrArg nI (show Nat.min lim 10 = lim from Nat.min_eq_left hlim)) ?_
  refine va_putF (D := G) (ci := 2) (v := .int (nI lim)) (ty := (tyX4 1)) (C := RX4) (T := TX4) (N := 4) hx hb hts iX4 tyX4 tyX4_ok nmX4 hown hKK.1 hP hD hS 0 rfl rfl 1 (by decide) f25 (fun _ h9 => h9) rfl hin rfl (by decide +kernel) rfl rfl (Nat.le_of_ble_eq_true rfl) dX4_init_24 (fun H locs hP hD hS => ?_)
  have hP : va_P G vwCl [(x, .inr (2, [.ref y, .int (nI lim), .int (nI 0), .int (nI 0)])), (y, .inl (tA 0, 40, .inl (nF (fun _ => 0))))] H := hP
  have hD : va_D A [(x, .inr (2, [.ref y, .int (nI lim), .int (nI 0), .int (nI 0)])), (y, .inl (tA 0, 40, .inl (nF (fun _ => 0))))] := hD
  refine lv_aload_n hx hb dX4_init_27 rfl (lv_at hl 0 rfl) ?_
  refine lv_iload_n hx hb dX4_init_28 rfl (lv_at hl 2 rfl) ?_
  refine lv_iconst (v := nI 4) hx hb dX4_init_29 (by decide) ?_
  refine nv_min hx hb (by rw [hml]; exact hl.1.symm) hown f19 (hts (.static Lib.Math.min.name) (List.mem_of_getElem? (i := 8) rfl)) (hts (.initialized "java/lang/Math") (List.mem_of_getElem? (i := 9) rfl)) (hts (.code Lib.Math.min.name Lib.Math.min.code 2 (some .int)) (List.mem_of_getElem? (i := 10) rfl)) (Nat.le_of_ble_eq_true rfl) (Nat.le_of_ble_eq_true rfl) (Nat.le_of_ble_eq_true rfl) (Nat.le_of_ble_eq_true rfl) (by omega) (by omega) dX4_init_30 ?_
  refine nv_top (y := wid) (congrArg nI (show Nat.min wid 4 = wid from Nat.min_eq_left hwid)) ?_
  refine va_putF (D := G) (ci := 2) (v := .int (nI wid)) (ty := (tyX4 2)) (C := RX4) (T := TX4) (N := 4) hx hb hts iX4 tyX4 tyX4_ok nmX4 hown hKK.1 hP hD hS 0 rfl rfl 2 (by decide) f28 (fun _ h9 => h9) rfl hin rfl (by decide +kernel) rfl rfl (Nat.le_of_ble_eq_true rfl) dX4_init_33 (fun H locs hP hD hS => ?_)
  have hP : va_P G vwCl [(x, .inr (2, [.ref y, .int (nI lim), .int (nI wid), .int (nI 0)])), (y, .inl (tA 0, 40, .inl (nF (fun _ => 0))))] H := hP
  have hD : va_D A [(x, .inr (2, [.ref y, .int (nI lim), .int (nI wid), .int (nI 0)])), (y, .inl (tA 0, 40, .inl (nF (fun _ => 0))))] := hD
  refine W.widen (k := 1) (n := 40) (Nat.le_of_ble_eq_true rfl) (Nat.le_of_ble_eq_true rfl) ?_
  exact retV hx hb hr hlocks hS hP hD (y) (rfl) (trivial) dX4_init_36

def dgC (n wid : Nat) (c : Nat → Nat) (row : Nat) (h : Int64) (w : Nat) : Int64 := it (fun col h => (nI 31).toInt64 * h + (nI (atS n wid c row col)).toInt64) w h
def dgR (n wid : Nat) (c : Nat → Nat) (h : Int64) (k : Nat) : Int64 := it (fun row h => dgC n wid c row h wid) k h

set_option maxHeartbeats 4000000 in
set_option maxRecDepth 100000 in
theorem c_X4_digestOn (l : Launch) (G : va_G) (tA : Nat → ClassId) (x : Nat) (y : Nat) (lim : Nat) (wid : Nat) (k : Nat) (c : Nat → Nat) (h : Int64) (hk9 : k ≤ 10) (hwid : wid ≤ 4) : CtL l yX4_digestOn wsX4_digestOn ({ frames := 1, cells := 0, slots := 0, locals := 23 }) G tA [.ref x, .long h] ([(x, .inr (2, [.ref y, .int (nI lim), .int (nI wid), .int (nI k)])), (y, .inl (tA 0, 40, .inl (nF c)))]) (fun (r : Int64) (_ : Unit) => r = dgR k wid c h k) (fun (_ : Unit) => [(x, .inr (2, [.ref y, .int (nI lim), .int (nI wid), .int (nI k)])), (y, .inl (tA 0, 40, .inl (nF c)))]) 0 0 := by
  refine enterL (cc := cX4_digestOn) (maxL := 7) (ret := (some .long)) (by decide) rfl (Nat.le_of_ble_eq_true rfl) ?_
  intro p0 e0 s m args below meth c0_ A ls hx hb hml hr hts hown hlocks hin hKK hA hP hD hl hS
  have hown : s.vm.findClass RX4 = some m.cls := hown
  have hl : lv_has ls 7 [(0, .ref x), (1, .long h)] := hl
  have f15 := hts (Cond.fieldLink RX4 15 "LentTerms$Rows" "size" "I") (List.mem_of_getElem? (i := 1) rfl)
  have iX4 : ∀ w ∈ wsX40, w ∈ wsX4_digestOn := by decide +kernel
  have f28 := hts (Cond.fieldLink RX4 28 "LentTerms$Rows" "width" "I") (List.mem_of_getElem? (i := 2) rfl)
  have f37 := hts (Cond.constantLong RX4 37 (31)) (List.mem_of_getElem? (i := 3) rfl)
  refine lv_lload_n hx hb dX4_digestOn_0 rfl (lv_at hl 1 rfl) ?_
  refine lv_lstore_n (lv' := [(3, .long h), (0, .ref x), (1, .long h)]) hx hb dX4_digestOn_1 rfl hl (by decide) rfl (fun ls hl => ?_)
  refine lv_iconst (v := nI 0) hx hb dX4_digestOn_2 (by decide) ?_
  refine lv_istore (lv' := [(5, .int (nI 0)), (3, .long h), (0, .ref x), (1, .long h)]) hx hb dX4_digestOn_3 hl (by decide) rfl (fun ls hl => ?_)
  refine wloop (σ := (Nat) × (Int64)) (fun | (i, hh) => k - i) (fun | (i, hh) => (i ≤ k) ∧ (hh = dgR k wid c h i)) (fun | (i, hh) => [(5, .int (nI i)), (3, .long hh), (0, .ref x), (1, .long h)]) (fun | (i, hh) => [(x, .inr (2, [.ref y, .int (nI lim), .int (nI wid), .int (nI k)])), (y, .inl (tA 0, 40, .inl (nF c)))]) (0, h) ⟨(show 0 ≤ k from by omega), (show h = dgR k wid c h 0 from rfl)⟩ (lv_sub hl [0, 1, 2, 3] rfl) hP hD hS ?_
  rintro ⟨i, hh⟩ ⟨hi, h1⟩ ih_1 ls H locs hl hP hD hS
  have hl : lv_has ls 7 [(5, .int (nI i)), (3, .long hh), (0, .ref x), (1, .long h)] := hl
  have hP : va_P G vwCl [(x, .inr (2, [.ref y, .int (nI lim), .int (nI wid), .int (nI k)])), (y, .inl (tA 0, 40, .inl (nF c)))] H := hP
  have hD : va_D A [(x, .inr (2, [.ref y, .int (nI lim), .int (nI wid), .int (nI k)])), (y, .inl (tA 0, 40, .inl (nF c)))] := hD
  have hi : i ≤ k := hi
  have h1 : hh = dgR k wid c h i := h1
  refine lv_iload hx hb dX4_digestOn_5 (lv_at hl 0 rfl) ?_
  refine lv_aload_n hx hb dX4_digestOn_7 rfl (lv_at hl 2 rfl) ?_
  refine va_get (D := G) (ci := 2) (C := RX4) (T := TX4) (N := 4) hx hb hts iX4 hown hKK.1 hP 0 rfl rfl 3 (by decide) f15 (fun _ h9 => h9) rfl dX4_digestOn_8 ?_
  refine nv_icmp_ge (tgt := 54) (by omega) (by omega) hx hb dX4_digestOn_11 (by decide) (fun c_2 => ?_) (fun c_2 => ?_)
  · refine lv_lload_n hx hb dX4_digestOn_54 rfl (lv_at hl 1 rfl) ?_
    exact retL hx hb hr hlocks hS hP hD () (rfl) (by have e : i = k := (by omega); subst e; exact h1) dX4_digestOn_55
  · refine lv_iconst (v := nI 0) hx hb dX4_digestOn_14 (by decide) ?_
    refine lv_istore (lv' := [(6, .int (nI 0)), (5, .int (nI i)), (3, .long hh), (0, .ref x), (1, .long h)]) hx hb dX4_digestOn_15 hl (by decide) rfl (fun ls hl => ?_)
    refine wloop (σ := (Nat) × (Int64)) (fun | (j, hg) => wid - j) (fun | (j, hg) => (j ≤ wid) ∧ (hg = dgC k wid c i hh j)) (fun | (j, hg) => [(6, .int (nI j)), (5, .int (nI i)), (3, .long hg), (0, .ref x), (1, .long h)]) (fun | (j, hg) => [(x, .inr (2, [.ref y, .int (nI lim), .int (nI wid), .int (nI k)])), (y, .inl (tA 0, 40, .inl (nF c)))]) (0, hh) ⟨(show 0 ≤ wid from by omega), (show hh = dgC k wid c i hh 0 from rfl)⟩ (lv_sub hl [0, 1, 2, 3, 4] rfl) hP hD hS ?_
    rintro ⟨j, hg⟩ ⟨hj, h2⟩ ih_3 ls H locs hl hP hD hS
    have hl : lv_has ls 7 [(6, .int (nI j)), (5, .int (nI i)), (3, .long hg), (0, .ref x), (1, .long h)] := hl
    have hP : va_P G vwCl [(x, .inr (2, [.ref y, .int (nI lim), .int (nI wid), .int (nI k)])), (y, .inl (tA 0, 40, .inl (nF c)))] H := hP
    have hD : va_D A [(x, .inr (2, [.ref y, .int (nI lim), .int (nI wid), .int (nI k)])), (y, .inl (tA 0, 40, .inl (nF c)))] := hD
    have hj : j ≤ wid := hj
    have h2 : hg = dgC k wid c i hh j := h2
    refine lv_iload hx hb dX4_digestOn_17 (lv_at hl 0 rfl) ?_
    refine lv_aload_n hx hb dX4_digestOn_19 rfl (lv_at hl 3 rfl) ?_
    refine va_get (D := G) (ci := 2) (C := RX4) (T := TX4) (N := 4) hx hb hts iX4 hown hKK.1 hP 0 rfl rfl 2 (by decide) f28 (fun _ h9 => h9) rfl dX4_digestOn_20 ?_
    refine nv_icmp_ge (tgt := 48) (by omega) (by omega) hx hb dX4_digestOn_23 (by decide) (fun c_4 => ?_) (fun c_4 => ?_)
    · refine lv_iinc (v := (nI (i + 1))) (lv' := [(5, .int (nI (i + 1))), (6, .int (nI j)), (3, .long hg), (0, .ref x), (1, .long h)]) hx hb dX4_digestOn_48 hl (k := 1) rfl (nI_add i 1) (by decide) rfl (fun ls hl => ?_)
      refine lv_goto (tgt := 5) hx hb dX4_digestOn_51 (by decide) ?_
      exact ih_1 (i + 1, hg) (show k - (i + 1) < k - i from by omega) ⟨(show (i + 1) ≤ k from by omega), (show hg = dgR k wid c h (i + 1) from by have e : j = wid := (by omega); subst e; rw [h2, h1]; rfl)⟩ _ _ _ (lv_sub hl [0, 2, 3, 4] rfl) hP hD hS
    · refine lv_ldc2 (v := 31) hx hb hown f37 dX4_digestOn_26 ?_
      refine nv_topl (y := (nI 31).toInt64) (by decide +kernel) ?_
      refine lv_lload_n hx hb dX4_digestOn_29 rfl (lv_at hl 2 rfl) ?_
      refine lv_lmul hx hb dX4_digestOn_30 ?_
      refine lv_aload_n hx hb dX4_digestOn_31 rfl (lv_at hl 3 rfl) ?_
      refine lv_iload hx hb dX4_digestOn_32 (lv_at hl 1 rfl) ?_
      refine lv_iload hx hb dX4_digestOn_34 (lv_at hl 0 rfl) ?_
      refine roI hP hD hS hA [0, 1] rfl (runV (As := [.int (nI i), .int (nI j)]) (rest := [.long (((nI 31).toInt64) * hg)]) (isC := [0, 1]) ⟨hx, hb, hml, hown, hts⟩ hKK hP hD rfl (by decide) (c_X4_at l G tA x y lim wid k c i j (by first | assumption | omega) (by first | assumption | omega) (by first | assumption | omega) (by first | assumption | omega) _) (cwV 2 hts gX4_digestOn_X4_at rfl rfl rfl (by decide +kernel) ⟨Nat.le_of_ble_eq_true rfl, Nat.le_of_ble_eq_true rfl⟩) rfl rfl rfl rfl hl.1 rfl (lv_room (Nat.le_of_ble_eq_true rfl)) dX4_digestOn_36 ⟨Nat.le_of_ble_eq_true rfl, Nat.le_of_ble_eq_true rfl⟩) (fun _ => rfl) (fun r_5 u_6 H locs q_7 hP hS => ?_)
      subst q_7
      refine lv_i2l hx hb dX4_digestOn_39 rfl ?_
      refine lv_ladd hx hb dX4_digestOn_40 ?_
      refine lv_lstore_n (lv' := [(3, .long ((((nI 31).toInt64) * hg) + ((nI (atS k wid c i j)).toInt64))), (6, .int (nI j)), (5, .int (nI i)), (0, .ref x), (1, .long h)]) hx hb dX4_digestOn_41 rfl hl (by decide) rfl (fun ls hl => ?_)
      refine lv_iinc (v := (nI (j + 1))) (lv' := [(6, .int (nI (j + 1))), (3, .long ((((nI 31).toInt64) * hg) + ((nI (atS k wid c i j)).toInt64))), (5, .int (nI i)), (0, .ref x), (1, .long h)]) hx hb dX4_digestOn_42 hl (k := 1) rfl (nI_add j 1) (by decide) rfl (fun ls hl => ?_)
      refine lv_goto (tgt := 17) hx hb dX4_digestOn_45 (by decide) ?_
      exact ih_3 (j + 1, (((nI 31).toInt64) * hg) + ((nI (atS k wid c i j)).toInt64)) (show wid - (j + 1) < wid - j from by omega) ⟨(show (j + 1) ≤ wid from by omega), (show ((((nI 31).toInt64) * hg) + ((nI (atS k wid c i j)).toInt64)) = dgC k wid c i hh (j + 1) from by rw [h2]; rfl)⟩ _ _ _ (lv_sub hl [0, 2, 1, 3, 4] rfl) hP hD hS
