/-! the model: small functions, the counter's calls -/
def WB (B : Nat → Nat) : Prop :=
  (B 0 ≤ 8 ∧ B 1 ≤ 10 ∧ B 2 ≤ 10 ∧ B 3 ≤ 8 ∧ B 4 ≤ 5 ∧ B 5 ≤ 8) ∧ (∀ j, B j < 1048576) ∧
  (∀ t, t < B 0 → B (8 + 3 * t) < 6 ∧ 1 ≤ B (8 + 3 * t + 1) ∧ B (8 + 3 * t + 1) ≤ 3 ∧ B (8 + 3 * t + 2) ≤ 9) ∧
  (∀ k, k < B 1 → B (32 + 4 * k) < 5 ∧ B (32 + 4 * k + 1) < B 0 ∧ B (32 + 4 * k + 2) ≤ B (32 + 4 * k + 3) ∧ B (32 + 4 * k + 3) < 24) ∧
  (∀ k, k < B 2 → B (72 + 3 * k) < 5 ∧ B (72 + 3 * k + 1) < B 0 ∧ B (72 + 3 * k + 2) < 24) ∧
  (∀ k, k < B 3 → B (102 + 3 * k) < B 0 ∧ B (102 + 3 * k + 1) < B 0 ∧ B (102 + 3 * k + 2) < B 0 ∧ B (102 + 3 * k) ≠ B (102 + 3 * k + 1) ∧ B (102 + 3 * k) ≠ B (102 + 3 * k + 2)) ∧
  (∀ k, k < B 4 → B (126 + 4 * k) < 5 ∧ 0 < B (126 + 4 * k + 1) ∧ B (126 + 4 * k + 1) < 2 ^ B 0 ∧ B (126 + 4 * k + 2) ≤ B (126 + 4 * k + 3) ∧ B (126 + 4 * k + 3) < 24 ∧ B (126 + 4 * k + 3) ≤ B (126 + 4 * k + 2) + 5) ∧
  (∀ k, k < B 5 → 0 < B (196 + 2 * k) ∧ B (196 + 2 * k) < 2 ^ B 0 ∧ 1 ≤ B (196 + 2 * k + 1) ∧ B (196 + 2 * k + 1) ≤ 9) ∧
  (∀ p, p < 5 → B (146 + p) < 2 ^ B 0 ∧ B (151 + p) < 2 ^ B 0 ∧ B (146 + p) &&& B (151 + p) = 0) ∧
  (∀ p t, p < 5 → t < 8 → B (156 + 8 * p + t) ≤ 99)
def bump (qu : Nat) (rf : Nat → Int32) (k : Nat) : Nat → Int32 := upd rf k (rf k + (if qu = 0 then nI 1 else nI 0))
def rfS (ok : Bool) (n lim qu : Nat) (rf : Nat → Int32) : Nat → Int32 := if ok = true then (if n < lim then rf else bump qu rf 2) else bump qu rf 0
def mayM (B : Nat → Nat) (t : Nat) : Nat := if oneB (B (8 + 3 * t)) = true then 1 else B (8 + 3 * t + 1)
def havB (B : Nat → Nat) (t h : Nat) (P : Int) : Nat → Bool := fun k => decide ((P = -1 ∨ ((B (32 + 4 * k) : Nat) : Int) = P) ∧ B (32 + 4 * k + 1) = t ∧ B (32 + 4 * k + 2) ≤ h ∧ h ≤ B (32 + 4 * k + 3))
def popM (x n : Nat) : Nat := it (fun k a => a + x / 2 ^ k % 2) n 0
theorem popM_le (x : Nat) : ∀ n, popM x n ≤ n := by
  intro n
  induction n with
  | zero => exact Nat.le_refl 0
  | succ n ih => show popM x n + x / 2 ^ n % 2 ≤ n + 1; have := Nat.mod_lt (x / 2 ^ n) (show 2 > 0 by omega); omega

set_option maxHeartbeats 4000000 in
set_option maxRecDepth 100000 in
theorem c_X9_is (l : Launch) (G : va_G) (tA : Nat → ClassId) (v : Int32) (V : Int) (lo : Int32) (LO : Int) (hi : Int32) (HI : Int) (hv : v.toInt = V) (hlo : lo.toInt = LO) (hhi : hi.toInt = HI) : CtI l yX9_is wsX9_is ({ frames := 0, cells := 0, slots := 0, locals := 0 }) G tA [.long v.toInt64, .long lo.toInt64, .long hi.toInt64] ([]) (fun (r : Int32) (_ : Unit) => ((r = nI 1 ∧ (LO ≤ V ∧ V ≤ HI)) ∨ (r = nI 0 ∧ ¬ (LO ≤ V ∧ V ≤ HI)))) (fun (_ : Unit) => []) 0 0 := by
  refine enterI (cc := cX9_is) (maxL := 6) (ret := (some .boolean)) (by decide) rfl (Nat.le_of_ble_eq_true rfl) ?_
  intro p0 e0 s m args below meth c0_ A ls hx hb hml hr hts hown hlocks hin hKK hA hP hD hl hS
  have hown : s.vm.findClass RX9 = some m.cls := hown
  have hl : lv_has ls 6 [(0, .long v.toInt64), (2, .long lo.toInt64), (4, .long hi.toInt64)] := hl
  refine lv_lload_n hx hb dX9_is_0 rfl (lv_at hl 0 rfl) ?_
  refine lv_lload_n hx hb dX9_is_1 rfl (lv_at hl 1 rfl) ?_
  refine W.lcmp hx hb dX9_is_2 ?_
  rcases lgc (a := v) (b := lo) (X := V) (Y := LO) hv hlo with ⟨g_1, e_g_1⟩ | ⟨g_1, e_g_1⟩ | ⟨g_1, e_g_1⟩
  · refine nv_topx (y := (-1)) e_g_1 ?_
    refine zv_if_lt (tgt := 17) (X := (-1 : Int)) rfl hx hb dX9_is_3 (by decide) (fun _ => ?_) (fun h => absurd h (by omega))
    refine lv_iconst (v := nI 0) hx hb dX9_is_17 (by decide) ?_
    exact retZ (ty := .boolean) hx hb hr rfl hlocks hS hP hD () (rfl) (Or.inr ⟨rfl, by omega⟩) dX9_is_18
  · refine nv_topx (y := (nI 0)) e_g_1 ?_
    refine nv_if_lt (tgt := 17) (by omega) hx hb dX9_is_3 (by decide) ?_
    refine lv_lload_n hx hb dX9_is_6 rfl (lv_at hl 0 rfl) ?_
    refine lv_lload hx hb dX9_is_7 (lv_at hl 2 rfl) ?_
    refine W.lcmp hx hb dX9_is_9 ?_
    rcases lgc (a := v) (b := hi) (X := V) (Y := HI) hv hhi with ⟨g_4, e_g_4⟩ | ⟨g_4, e_g_4⟩ | ⟨g_4, e_g_4⟩
    · refine nv_topx (y := (-1)) e_g_4 ?_
      refine zv_if_gt (tgt := 17) (X := (-1 : Int)) rfl hx hb dX9_is_10 (by decide) (fun h => absurd h (by omega)) (fun _ => ?_)
      refine lv_iconst (v := nI 1) hx hb dX9_is_13 (by decide) ?_
      refine lv_goto (tgt := 18) hx hb dX9_is_14 (by decide) ?_
      exact retZ (ty := .boolean) hx hb hr rfl hlocks hS hP hD () (rfl) (Or.inl ⟨rfl, by omega⟩) dX9_is_18
    · refine nv_topx (y := (nI 0)) e_g_4 ?_
      refine nv_if_gt (tgt := 17) (by omega) hx hb dX9_is_10 (by decide) (fun h => absurd h (by omega)) (fun _ => ?_)
      refine lv_iconst (v := nI 1) hx hb dX9_is_13 (by decide) ?_
      refine lv_goto (tgt := 18) hx hb dX9_is_14 (by decide) ?_
      exact retZ (ty := .boolean) hx hb hr rfl hlocks hS hP hD () (rfl) (Or.inl ⟨rfl, by omega⟩) dX9_is_18
    · refine nv_topx (y := (nI 1)) e_g_4 ?_
      refine nv_if_gt (tgt := 17) (by omega) hx hb dX9_is_10 (by decide) (fun _ => ?_) (fun h => absurd h (by omega))
      refine lv_iconst (v := nI 0) hx hb dX9_is_17 (by decide) ?_
      exact retZ (ty := .boolean) hx hb hr rfl hlocks hS hP hD () (rfl) (Or.inr ⟨rfl, by omega⟩) dX9_is_18
  · refine nv_topx (y := (nI 1)) e_g_1 ?_
    refine nv_if_lt (tgt := 17) (by omega) hx hb dX9_is_3 (by decide) ?_
    refine lv_lload_n hx hb dX9_is_6 rfl (lv_at hl 0 rfl) ?_
    refine lv_lload hx hb dX9_is_7 (lv_at hl 2 rfl) ?_
    refine W.lcmp hx hb dX9_is_9 ?_
    rcases lgc (a := v) (b := hi) (X := V) (Y := HI) hv hhi with ⟨g_9, e_g_9⟩ | ⟨g_9, e_g_9⟩ | ⟨g_9, e_g_9⟩
    · refine nv_topx (y := (-1)) e_g_9 ?_
      refine zv_if_gt (tgt := 17) (X := (-1 : Int)) rfl hx hb dX9_is_10 (by decide) (fun h => absurd h (by omega)) (fun _ => ?_)
      refine lv_iconst (v := nI 1) hx hb dX9_is_13 (by decide) ?_
      refine lv_goto (tgt := 18) hx hb dX9_is_14 (by decide) ?_
      exact retZ (ty := .boolean) hx hb hr rfl hlocks hS hP hD () (rfl) (Or.inl ⟨rfl, by omega⟩) dX9_is_18
    · refine nv_topx (y := (nI 0)) e_g_9 ?_
      refine nv_if_gt (tgt := 17) (by omega) hx hb dX9_is_10 (by decide) (fun h => absurd h (by omega)) (fun _ => ?_)
      refine lv_iconst (v := nI 1) hx hb dX9_is_13 (by decide) ?_
      refine lv_goto (tgt := 18) hx hb dX9_is_14 (by decide) ?_
      exact retZ (ty := .boolean) hx hb hr rfl hlocks hS hP hD () (rfl) (Or.inl ⟨rfl, by omega⟩) dX9_is_18
    · refine nv_topx (y := (nI 1)) e_g_9 ?_
      refine nv_if_gt (tgt := 17) (by omega) hx hb dX9_is_10 (by decide) (fun _ => ?_) (fun h => absurd h (by omega))
      refine lv_iconst (v := nI 0) hx hb dX9_is_17 (by decide) ?_
      exact retZ (ty := .boolean) hx hb hr rfl hlocks hS hP hD () (rfl) (Or.inr ⟨rfl, by omega⟩) dX9_is_18

set_option maxHeartbeats 4000000 in
set_option maxRecDepth 100000 in
theorem c_X9_refuses (l : Launch) (G : va_G) (tA : Nat → ClassId) (b : Nat → Nat) (qu : Nat) (ab : Int64) (bl : Int64) (tyd : Nat) (at0 : Nat) (sta : Nat) (tok : Nat) (val : Nat) (man : Nat) (rf : Nat → Int32) (so : Nat) (v : Int32) (hso : so < 3) (hqu : qu < 2) : CtI l yX9_refuses wsX9_refuses ({ frames := 0, cells := 0, slots := 0, locals := 0 }) G tA [.ref (b 0), .int (nI so), .int v] ([(b 0, .inr (7, [.ref (b 1), .ref (b 2), .ref (b 3), .ref (b 4), .ref (b 5), .int (nI qu), .long ab, .long bl, .ref (b 6), .int (nI tyd), .int (nI at0), .int (nI sta), .int (nI tok), .int (nI val), .ref (b 7), .int (nI man), .ref (b 8), .ref (b 9), .ref (b 10), .ref (b 11), .ref (b 12), .ref (b 13), .ref (b 14)])), (b 5, .inl (tA 0, 3, .inl rf))]) (fun (r : Int32) (_ : Unit) => r = v) (fun (_ : Unit) => [(b 0, .inr (7, [.ref (b 1), .ref (b 2), .ref (b 3), .ref (b 4), .ref (b 5), .int (nI qu), .long ab, .long bl, .ref (b 6), .int (nI tyd), .int (nI at0), .int (nI sta), .int (nI tok), .int (nI val), .ref (b 7), .int (nI man), .ref (b 8), .ref (b 9), .ref (b 10), .ref (b 11), .ref (b 12), .ref (b 13), .ref (b 14)])), (b 5, .inl (tA 0, 3, .inl (bump qu rf so)))]) 0 0 := by
  refine enterI (cc := cX9_refuses) (maxL := 3) (ret := (some .int)) (by decide) rfl (Nat.le_of_ble_eq_true rfl) ?_
  intro p0 e0 s m args below meth c0_ A ls hx hb hml hr hts hown hlocks hin hKK hA hP hD hl hS
  have hown : s.vm.findClass RX9 = some m.cls := hown
  have hl : lv_has ls 3 [(0, .ref (b 0)), (1, .int (nI so)), (2, .int v)] := hl
  have f23 := hts (Cond.fieldLink RX9 23 "LentTermsModel" "refused" "[I") (List.mem_of_getElem? (i := 1) rfl)
  have iX9 : ∀ w ∈ wsX90, w ∈ wsX9_refuses := by decide +kernel
  have f57 := hts (Cond.fieldLink RX9 57 "LentTermsModel" "quiet" "Z") (List.mem_of_getElem? (i := 2) rfl)
  refine lv_aload_n hx hb dX9_refuses_0 rfl (lv_at hl 0 rfl) ?_
  refine va_get (D := G) (ci := 7) (C := RX9) (T := TX9) (N := 23) hx hb hts iX9 hown hKK.1 hP 0 rfl rfl 4 (by decide) f23 (fun _ h9 => h9) rfl dX9_refuses_1 ?_
  refine lv_iload_n hx hb dX9_refuses_4 rfl (lv_at hl 1 rfl) ?_
  refine lv_dup2_11 hx hb dX9_refuses_5 rfl rfl ?_
  refine nv_ialdR (i := so) hx hb hKK.1 hP 1 0 rfl rfl (by omega) (by decide) dX9_refuses_6 ?_
  refine lv_aload_n hx hb dX9_refuses_7 rfl (lv_at hl 0 rfl) ?_
  refine va_get (D := G) (ci := 7) (C := RX9) (T := TX9) (N := 23) hx hb hts iX9 hown hKK.1 hP 0 rfl rfl 5 (by decide) f57 (fun _ h9 => h9) rfl dX9_refuses_8 ?_
  refine nv_if_eq (tgt := 18) (by omega) hx hb dX9_refuses_11 (by decide) (fun c_1 => ?_) (fun c_1 => ?_)
  · refine lv_iconst (v := nI 1) hx hb dX9_refuses_18 (by decide) ?_
    refine lv_iadd hx hb dX9_refuses_19 ?_
    refine nv_iastR (i := so) hx hb hKK.1 hP hD hS 1 0 rfl rfl (by omega) (by decide) dX9_refuses_20 [(b 0, .inr (7, [.ref (b 1), .ref (b 2), .ref (b 3), .ref (b 4), .ref (b 5), .int (nI qu), .long ab, .long bl, .ref (b 6), .int (nI tyd), .int (nI at0), .int (nI sta), .int (nI tok), .int (nI val), .ref (b 7), .int (nI man), .ref (b 8), .ref (b 9), .ref (b 10), .ref (b 11), .ref (b 12), .ref (b 13), .ref (b 14)])), (b 5, .inl (tA 0, 3, .inl (upd rf so ((rf so) + (nI 1)))))] rfl (fun H locs hP hD hS => ?_)
    refine lv_iload_n hx hb dX9_refuses_21 rfl (lv_at hl 2 rfl) ?_
    exact retI hx hb hr hlocks hS hP hD () (by unfold bump; first | rw [if_pos (by assumption)] | rw [if_neg (by assumption)]) (rfl) dX9_refuses_22
  · refine lv_iconst (v := nI 0) hx hb dX9_refuses_14 (by decide) ?_
    refine lv_goto (tgt := 19) hx hb dX9_refuses_15 (by decide) ?_
    refine lv_iadd hx hb dX9_refuses_19 ?_
    refine nv_iastR (i := so) hx hb hKK.1 hP hD hS 1 0 rfl rfl (by omega) (by decide) dX9_refuses_20 [(b 0, .inr (7, [.ref (b 1), .ref (b 2), .ref (b 3), .ref (b 4), .ref (b 5), .int (nI qu), .long ab, .long bl, .ref (b 6), .int (nI tyd), .int (nI at0), .int (nI sta), .int (nI tok), .int (nI val), .ref (b 7), .int (nI man), .ref (b 8), .ref (b 9), .ref (b 10), .ref (b 11), .ref (b 12), .ref (b 13), .ref (b 14)])), (b 5, .inl (tA 0, 3, .inl (upd rf so ((rf so) + (nI 0)))))] rfl (fun H locs hP hD hS => ?_)
    refine lv_iload_n hx hb dX9_refuses_21 rfl (lv_at hl 2 rfl) ?_
    exact retI hx hb hr hlocks hS hP hD () (by unfold bump; first | rw [if_pos (by assumption)] | rw [if_neg (by assumption)]) (rfl) dX9_refuses_22

set_option maxHeartbeats 4000000 in
set_option maxRecDepth 100000 in
theorem c_X9_bad (l : Launch) (G : va_G) (tA : Nat → ClassId) (b : Nat → Nat) (qu : Nat) (ab : Int64) (bl : Int64) (tyd : Nat) (at0 : Nat) (sta : Nat) (tok : Nat) (val : Nat) (man : Nat) (rf : Nat → Int32) (hqu : qu < 2) : CtI l yX9_bad wsX9_bad ({ frames := 1, cells := 0, slots := 0, locals := 22 }) G tA [.ref (b 0)] ([(b 0, .inr (7, [.ref (b 1), .ref (b 2), .ref (b 3), .ref (b 4), .ref (b 5), .int (nI qu), .long ab, .long bl, .ref (b 6), .int (nI tyd), .int (nI at0), .int (nI sta), .int (nI tok), .int (nI val), .ref (b 7), .int (nI man), .ref (b 8), .ref (b 9), .ref (b 10), .ref (b 11), .ref (b 12), .ref (b 13), .ref (b 14)])), (b 5, .inl (tA 0, 3, .inl rf))]) (fun (r : Int32) (_ : Unit) => r = (-2)) (fun (_ : Unit) => [(b 0, .inr (7, [.ref (b 1), .ref (b 2), .ref (b 3), .ref (b 4), .ref (b 5), .int (nI qu), .long ab, .long bl, .ref (b 6), .int (nI tyd), .int (nI at0), .int (nI sta), .int (nI tok), .int (nI val), .ref (b 7), .int (nI man), .ref (b 8), .ref (b 9), .ref (b 10), .ref (b 11), .ref (b 12), .ref (b 13), .ref (b 14)])), (b 5, .inl (tA 0, 3, .inl (bump qu rf 0)))]) 0 0 := by
  refine enterI (cc := cX9_bad) (maxL := 1) (ret := (some .int)) (by decide) rfl (Nat.le_of_ble_eq_true rfl) ?_
  intro p0 e0 s m args below meth c0_ A ls hx hb hml hr hts hown hlocks hin hKK hA hP hD hl hS
  have hown : s.vm.findClass RX9 = some m.cls := hown
  have hl : lv_has ls 1 [(0, .ref (b 0))] := hl
  refine lv_aload_n hx hb dX9_bad_0 rfl (lv_at hl 0 rfl) ?_
  refine lv_iconst (v := nI 0) hx hb dX9_bad_1 (by decide) ?_
  refine lv_bipush (v := (-2)) hx hb dX9_bad_2 (by decide +kernel) ?_
  refine rwI hP hD hS hA [0, 1] rfl (runV (As := [.int (nI 0), .int (-2)]) (rest := []) (isC := [0, 1]) ⟨hx, hb, hml, hown, hts⟩ hKK hP hD rfl (by decide) (c_X9_refuses l G tA b qu ab bl tyd at0 sta tok val man rf 0 (-2) (by first | assumption | omega) (by first | assumption | omega) _) (cwV 2 hts gX9_bad_X9_refuses rfl rfl rfl (by decide +kernel) ⟨Nat.le_of_ble_eq_true rfl, Nat.le_of_ble_eq_true rfl⟩) rfl rfl rfl rfl hl.1 rfl (lv_room (Nat.le_of_ble_eq_true rfl)) dX9_bad_4 ⟨Nat.le_of_ble_eq_true rfl, Nat.le_of_ble_eq_true rfl⟩) (fun (_ : Unit) => [(b 0, .inr (7, [.ref (b 1), .ref (b 2), .ref (b 3), .ref (b 4), .ref (b 5), .int (nI qu), .long ab, .long bl, .ref (b 6), .int (nI tyd), .int (nI at0), .int (nI sta), .int (nI tok), .int (nI val), .ref (b 7), .int (nI man), .ref (b 8), .ref (b 9), .ref (b 10), .ref (b 11), .ref (b 12), .ref (b 13), .ref (b 14)])), (b 5, .inl (tA 0, 3, .inl (bump qu rf 0)))]) (fun _ => rfl) (fun _ => rfl) (fun _ => rfl) (fun r_1 u_2 H locs q_3 hP hD hS => ?_)
  subst q_3
  exact retI hx hb hr hlocks hS hP hD () (rfl) (rfl) dX9_bad_7

set_option maxHeartbeats 4000000 in
set_option maxRecDepth 100000 in
theorem c_X9_no (l : Launch) (G : va_G) (tA : Nat → ClassId) (b : Nat → Nat) (qu : Nat) (ab : Int64) (bl : Int64) (tyd : Nat) (at0 : Nat) (sta : Nat) (tok : Nat) (val : Nat) (man : Nat) (rf : Nat → Int32) (hqu : qu < 2) : CtI l yX9_no wsX9_no ({ frames := 1, cells := 0, slots := 0, locals := 22 }) G tA [.ref (b 0)] ([(b 0, .inr (7, [.ref (b 1), .ref (b 2), .ref (b 3), .ref (b 4), .ref (b 5), .int (nI qu), .long ab, .long bl, .ref (b 6), .int (nI tyd), .int (nI at0), .int (nI sta), .int (nI tok), .int (nI val), .ref (b 7), .int (nI man), .ref (b 8), .ref (b 9), .ref (b 10), .ref (b 11), .ref (b 12), .ref (b 13), .ref (b 14)])), (b 5, .inl (tA 0, 3, .inl rf))]) (fun (r : Int32) (_ : Unit) => r = (-3)) (fun (_ : Unit) => [(b 0, .inr (7, [.ref (b 1), .ref (b 2), .ref (b 3), .ref (b 4), .ref (b 5), .int (nI qu), .long ab, .long bl, .ref (b 6), .int (nI tyd), .int (nI at0), .int (nI sta), .int (nI tok), .int (nI val), .ref (b 7), .int (nI man), .ref (b 8), .ref (b 9), .ref (b 10), .ref (b 11), .ref (b 12), .ref (b 13), .ref (b 14)])), (b 5, .inl (tA 0, 3, .inl (bump qu rf 1)))]) 0 0 := by
  refine enterI (cc := cX9_no) (maxL := 1) (ret := (some .int)) (by decide) rfl (Nat.le_of_ble_eq_true rfl) ?_
  intro p0 e0 s m args below meth c0_ A ls hx hb hml hr hts hown hlocks hin hKK hA hP hD hl hS
  have hown : s.vm.findClass RX9 = some m.cls := hown
  have hl : lv_has ls 1 [(0, .ref (b 0))] := hl
  refine lv_aload_n hx hb dX9_no_0 rfl (lv_at hl 0 rfl) ?_
  refine lv_iconst (v := nI 1) hx hb dX9_no_1 (by decide) ?_
  refine lv_bipush (v := (-3)) hx hb dX9_no_2 (by decide +kernel) ?_
  refine rwI hP hD hS hA [0, 1] rfl (runV (As := [.int (nI 1), .int (-3)]) (rest := []) (isC := [0, 1]) ⟨hx, hb, hml, hown, hts⟩ hKK hP hD rfl (by decide) (c_X9_refuses l G tA b qu ab bl tyd at0 sta tok val man rf 1 (-3) (by first | assumption | omega) (by first | assumption | omega) _) (cwV 2 hts gX9_no_X9_refuses rfl rfl rfl (by decide +kernel) ⟨Nat.le_of_ble_eq_true rfl, Nat.le_of_ble_eq_true rfl⟩) rfl rfl rfl rfl hl.1 rfl (lv_room (Nat.le_of_ble_eq_true rfl)) dX9_no_4 ⟨Nat.le_of_ble_eq_true rfl, Nat.le_of_ble_eq_true rfl⟩) (fun (_ : Unit) => [(b 0, .inr (7, [.ref (b 1), .ref (b 2), .ref (b 3), .ref (b 4), .ref (b 5), .int (nI qu), .long ab, .long bl, .ref (b 6), .int (nI tyd), .int (nI at0), .int (nI sta), .int (nI tok), .int (nI val), .ref (b 7), .int (nI man), .ref (b 8), .ref (b 9), .ref (b 10), .ref (b 11), .ref (b 12), .ref (b 13), .ref (b 14)])), (b 5, .inl (tA 0, 3, .inl (bump qu rf 1)))]) (fun _ => rfl) (fun _ => rfl) (fun _ => rfl) (fun r_1 u_2 H locs q_3 hP hD hS => ?_)
  subst q_3
  exact retI hx hb hr hlocks hS hP hD () (rfl) (rfl) dX9_no_7

set_option maxHeartbeats 4000000 in
set_option maxRecDepth 100000 in
theorem c_X9_full (l : Launch) (G : va_G) (tA : Nat → ClassId) (b : Nat → Nat) (qu : Nat) (ab : Int64) (bl : Int64) (tyd : Nat) (at0 : Nat) (sta : Nat) (tok : Nat) (val : Nat) (man : Nat) (rf : Nat → Int32) (hqu : qu < 2) : CtI l yX9_full wsX9_full ({ frames := 1, cells := 0, slots := 0, locals := 22 }) G tA [.ref (b 0)] ([(b 0, .inr (7, [.ref (b 1), .ref (b 2), .ref (b 3), .ref (b 4), .ref (b 5), .int (nI qu), .long ab, .long bl, .ref (b 6), .int (nI tyd), .int (nI at0), .int (nI sta), .int (nI tok), .int (nI val), .ref (b 7), .int (nI man), .ref (b 8), .ref (b 9), .ref (b 10), .ref (b 11), .ref (b 12), .ref (b 13), .ref (b 14)])), (b 5, .inl (tA 0, 3, .inl rf))]) (fun (r : Int32) (_ : Unit) => r = (-4)) (fun (_ : Unit) => [(b 0, .inr (7, [.ref (b 1), .ref (b 2), .ref (b 3), .ref (b 4), .ref (b 5), .int (nI qu), .long ab, .long bl, .ref (b 6), .int (nI tyd), .int (nI at0), .int (nI sta), .int (nI tok), .int (nI val), .ref (b 7), .int (nI man), .ref (b 8), .ref (b 9), .ref (b 10), .ref (b 11), .ref (b 12), .ref (b 13), .ref (b 14)])), (b 5, .inl (tA 0, 3, .inl (bump qu rf 2)))]) 0 0 := by
  refine enterI (cc := cX9_full) (maxL := 1) (ret := (some .int)) (by decide) rfl (Nat.le_of_ble_eq_true rfl) ?_
  intro p0 e0 s m args below meth c0_ A ls hx hb hml hr hts hown hlocks hin hKK hA hP hD hl hS
  have hown : s.vm.findClass RX9 = some m.cls := hown
  have hl : lv_has ls 1 [(0, .ref (b 0))] := hl
  refine lv_aload_n hx hb dX9_full_0 rfl (lv_at hl 0 rfl) ?_
  refine lv_iconst (v := nI 2) hx hb dX9_full_1 (by decide) ?_
  refine lv_bipush (v := (-4)) hx hb dX9_full_2 (by decide +kernel) ?_
  refine rwI hP hD hS hA [0, 1] rfl (runV (As := [.int (nI 2), .int (-4)]) (rest := []) (isC := [0, 1]) ⟨hx, hb, hml, hown, hts⟩ hKK hP hD rfl (by decide) (c_X9_refuses l G tA b qu ab bl tyd at0 sta tok val man rf 2 (-4) (by first | assumption | omega) (by first | assumption | omega) _) (cwV 2 hts gX9_full_X9_refuses rfl rfl rfl (by decide +kernel) ⟨Nat.le_of_ble_eq_true rfl, Nat.le_of_ble_eq_true rfl⟩) rfl rfl rfl rfl hl.1 rfl (lv_room (Nat.le_of_ble_eq_true rfl)) dX9_full_4 ⟨Nat.le_of_ble_eq_true rfl, Nat.le_of_ble_eq_true rfl⟩) (fun (_ : Unit) => [(b 0, .inr (7, [.ref (b 1), .ref (b 2), .ref (b 3), .ref (b 4), .ref (b 5), .int (nI qu), .long ab, .long bl, .ref (b 6), .int (nI tyd), .int (nI at0), .int (nI sta), .int (nI tok), .int (nI val), .ref (b 7), .int (nI man), .ref (b 8), .ref (b 9), .ref (b 10), .ref (b 11), .ref (b 12), .ref (b 13), .ref (b 14)])), (b 5, .inl (tA 0, 3, .inl (bump qu rf 2)))]) (fun _ => rfl) (fun _ => rfl) (fun _ => rfl) (fun r_1 u_2 H locs q_3 hP hD hS => ?_)
  subst q_3
  exact retI hx hb hr hlocks hS hP hD () (rfl) (rfl) dX9_full_7

set_option maxHeartbeats 4000000 in
set_option maxRecDepth 100000 in
theorem c_X9_isTerm (l : Launch) (G : va_G) (tA : Nat → ClassId) (b : Nat → Nat) (qu : Nat) (ab : Int64) (bl : Int64) (tyd : Nat) (at0 : Nat) (sta : Nat) (tok : Nat) (val : Nat) (man : Nat) (B : Nat → Nat) (t : Int32) (T : Int) (hWB : WB B) (ht : t.toInt = T) : CtI l yX9_isTerm wsX9_isTerm ({ frames := 1, cells := 0, slots := 0, locals := 25 }) G tA [.ref (b 0), .int t] ([(b 0, .inr (7, [.ref (b 1), .ref (b 2), .ref (b 3), .ref (b 4), .ref (b 5), .int (nI qu), .long ab, .long bl, .ref (b 6), .int (nI tyd), .int (nI at0), .int (nI sta), .int (nI tok), .int (nI val), .ref (b 7), .int (nI man), .ref (b 8), .ref (b 9), .ref (b 10), .ref (b 11), .ref (b 12), .ref (b 13), .ref (b 14)])), (b 1, .inl (tA 0, 212, .inl (nF B)))]) (fun (r : Int32) (_ : Unit) => ((r = nI 1 ∧ (0 ≤ T ∧ T < ((B 0 : Nat) : Int))) ∨ (r = nI 0 ∧ ¬ (0 ≤ T ∧ T < ((B 0 : Nat) : Int))))) (fun (_ : Unit) => [(b 0, .inr (7, [.ref (b 1), .ref (b 2), .ref (b 3), .ref (b 4), .ref (b 5), .int (nI qu), .long ab, .long bl, .ref (b 6), .int (nI tyd), .int (nI at0), .int (nI sta), .int (nI tok), .int (nI val), .ref (b 7), .int (nI man), .ref (b 8), .ref (b 9), .ref (b 10), .ref (b 11), .ref (b 12), .ref (b 13), .ref (b 14)])), (b 1, .inl (tA 0, 212, .inl (nF B)))]) 0 0 := by
  refine enterI (cc := cX9_isTerm) (maxL := 2) (ret := (some .boolean)) (by decide) rfl (Nat.le_of_ble_eq_true rfl) ?_
  intro p0 e0 s m args below meth c0_ A ls hx hb hml hr hts hown hlocks hin hKK hA hP hD hl hS
  have hown : s.vm.findClass RX9 = some m.cls := hown
  have hl : lv_has ls 2 [(0, .ref (b 0)), (1, .int t)] := hl
  have f7 := hts (Cond.fieldLink RX9 7 "LentTermsModel" "book" "[I") (List.mem_of_getElem? (i := 1) rfl)
  have iX9 : ∀ w ∈ wsX90, w ∈ wsX9_isTerm := by decide +kernel
  obtain ⟨⟨hn0, hn1, hn2, hn3, hn4, hn5⟩, hbB, hv0, hv1, hv2, hv3, hv4, hv5, hv6, hv7⟩ := id hWB
  refine lv_iload_n hx hb dX9_isTerm_0 rfl (lv_at hl 1 rfl) ?_
  refine lv_i2l hx hb dX9_isTerm_1 rfl ?_
  refine lv_lconst (v := (nI 0).toInt64) hx hb dX9_isTerm_2 (by decide +kernel) ?_
  refine lv_aload_n hx hb dX9_isTerm_3 rfl (lv_at hl 0 rfl) ?_
  refine va_get (D := G) (ci := 7) (C := RX9) (T := TX9) (N := 23) hx hb hts iX9 hown hKK.1 hP 0 rfl rfl 0 (by decide) f7 (fun _ h9 => h9) rfl dX9_isTerm_4 ?_
  refine lv_iconst (v := nI 0) hx hb dX9_isTerm_7 (by decide) ?_
  refine nv_iald (i := 0) hx hb hKK.1 hP 1 0 rfl rfl (by omega) (by decide) dX9_isTerm_8 ?_
  have b_1 := hbB 0
  refine lv_iconst (v := nI 1) hx hb dX9_isTerm_9 (by decide) ?_
  refine lv_isub hx hb dX9_isTerm_10 ?_
  refine lv_i2l hx hb dX9_isTerm_11 rfl ?_
  refine roI hP hD hS hA [] rfl (runS (As := [.long t.toInt64, .long ((nI 0).toInt64), .long (((nI (B 0)) - (nI 1)).toInt64)]) (rest := []) (isC := []) ⟨hx, hb, hml, hown, hts⟩ hKK hP hD rfl (by decide) (c_X9_is l G tA t T (nI 0) (0 : Int) ((nI (B 0)) - (nI 1)) (((B 0 : Nat) : Int) - ((1 : Nat) : Int)) ht rfl (pk_sub_toInt (by omega) (by omega)) _) (va_cwS 3 hts gX9_isTerm_X9_is rfl rfl rfl (by decide +kernel) ⟨Nat.le_of_ble_eq_true rfl, Nat.le_of_ble_eq_true rfl⟩) rfl rfl hl.1 rfl (lv_room (Nat.le_of_ble_eq_true rfl)) dX9_isTerm_12 ⟨Nat.le_of_ble_eq_true rfl, Nat.le_of_ble_eq_true rfl⟩) (fun _ => rfl) (fun r_2 u_3 H locs q_4 hP hS => ?_)
  rcases q_4 with ⟨rfl, p_5⟩ | ⟨rfl, p_5⟩
  · have p_5 : (0 : Int) ≤ T ∧ T ≤ (((B 0 : Nat) : Int) - ((1 : Nat) : Int)) := p_5
    exact retZ (ty := .boolean) hx hb hr rfl hlocks hS hP hD () (rfl) (Or.inl ⟨rfl, by omega⟩) dX9_isTerm_15
  · have p_5 : ¬ ((0 : Int) ≤ T ∧ T ≤ (((B 0 : Nat) : Int) - ((1 : Nat) : Int))) := p_5
    exact retZ (ty := .boolean) hx hb hr rfl hlocks hS hP hD () (rfl) (Or.inr ⟨rfl, by omega⟩) dX9_isTerm_15

set_option maxHeartbeats 4000000 in
set_option maxRecDepth 100000 in
theorem c_X9_isSet (l : Launch) (G : va_G) (tA : Nat → ClassId) (b : Nat → Nat) (qu : Nat) (ab : Int64) (bl : Int64) (tyd : Nat) (at0 : Nat) (sta : Nat) (tok : Nat) (val : Nat) (man : Nat) (B : Nat → Nat) (se : Int32) (SE : Int) (hWB : WB B) (hse : se.toInt = SE) : CtI l yX9_isSet wsX9_isSet ({ frames := 1, cells := 0, slots := 0, locals := 25 }) G tA [.ref (b 0), .int se] ([(b 0, .inr (7, [.ref (b 1), .ref (b 2), .ref (b 3), .ref (b 4), .ref (b 5), .int (nI qu), .long ab, .long bl, .ref (b 6), .int (nI tyd), .int (nI at0), .int (nI sta), .int (nI tok), .int (nI val), .ref (b 7), .int (nI man), .ref (b 8), .ref (b 9), .ref (b 10), .ref (b 11), .ref (b 12), .ref (b 13), .ref (b 14)])), (b 1, .inl (tA 0, 212, .inl (nF B)))]) (fun (r : Int32) (_ : Unit) => ((r = nI 1 ∧ (0 ≤ SE ∧ SE < ((2 ^ B 0 : Nat) : Int))) ∨ (r = nI 0 ∧ ¬ (0 ≤ SE ∧ SE < ((2 ^ B 0 : Nat) : Int))))) (fun (_ : Unit) => [(b 0, .inr (7, [.ref (b 1), .ref (b 2), .ref (b 3), .ref (b 4), .ref (b 5), .int (nI qu), .long ab, .long bl, .ref (b 6), .int (nI tyd), .int (nI at0), .int (nI sta), .int (nI tok), .int (nI val), .ref (b 7), .int (nI man), .ref (b 8), .ref (b 9), .ref (b 10), .ref (b 11), .ref (b 12), .ref (b 13), .ref (b 14)])), (b 1, .inl (tA 0, 212, .inl (nF B)))]) 0 0 := by
  refine enterI (cc := cX9_isSet) (maxL := 2) (ret := (some .boolean)) (by decide) rfl (Nat.le_of_ble_eq_true rfl) ?_
  intro p0 e0 s m args below meth c0_ A ls hx hb hml hr hts hown hlocks hin hKK hA hP hD hl hS
  have hown : s.vm.findClass RX9 = some m.cls := hown
  have hl : lv_has ls 2 [(0, .ref (b 0)), (1, .int se)] := hl
  have f7 := hts (Cond.fieldLink RX9 7 "LentTermsModel" "book" "[I") (List.mem_of_getElem? (i := 1) rfl)
  have iX9 : ∀ w ∈ wsX90, w ∈ wsX9_isSet := by decide +kernel
  obtain ⟨⟨hn0, hn1, hn2, hn3, hn4, hn5⟩, hbB, hv0, hv1, hv2, hv3, hv4, hv5, hv6, hv7⟩ := id hWB
  have h256 := p256 hn0
  refine lv_iload_n hx hb dX9_isSet_0 rfl (lv_at hl 1 rfl) ?_
  refine lv_i2l hx hb dX9_isSet_1 rfl ?_
  refine lv_lconst (v := (nI 0).toInt64) hx hb dX9_isSet_2 (by decide +kernel) ?_
  refine lv_iconst (v := nI 1) hx hb dX9_isSet_3 (by decide) ?_
  refine lv_aload_n hx hb dX9_isSet_4 rfl (lv_at hl 0 rfl) ?_
  refine va_get (D := G) (ci := 7) (C := RX9) (T := TX9) (N := 23) hx hb hts iX9 hown hKK.1 hP 0 rfl rfl 0 (by decide) f7 (fun _ h9 => h9) rfl dX9_isSet_5 ?_
  refine lv_iconst (v := nI 0) hx hb dX9_isSet_8 (by decide) ?_
  refine nv_iald (i := 0) hx hb hKK.1 hP 1 0 rfl rfl (by omega) (by decide) dX9_isSet_9 ?_
  have b_1 := hbB 0
  refine nv_shl1 (by omega) hx hb dX9_isSet_10 ?_
  refine lv_iconst (v := nI 1) hx hb dX9_isSet_11 (by decide) ?_
  refine lv_isub hx hb dX9_isSet_12 ?_
  refine lv_i2l hx hb dX9_isSet_13 rfl ?_
  refine roI hP hD hS hA [] rfl (runS (As := [.long se.toInt64, .long ((nI 0).toInt64), .long (((nI (2 ^ (B 0))) - (nI 1)).toInt64)]) (rest := []) (isC := []) ⟨hx, hb, hml, hown, hts⟩ hKK hP hD rfl (by decide) (c_X9_is l G tA se SE (nI 0) (0 : Int) ((nI (2 ^ (B 0))) - (nI 1)) (((2 ^ (B 0) : Nat) : Int) - ((1 : Nat) : Int)) hse rfl (pk_sub_toInt (by omega) (by omega)) _) (va_cwS 3 hts gX9_isSet_X9_is rfl rfl rfl (by decide +kernel) ⟨Nat.le_of_ble_eq_true rfl, Nat.le_of_ble_eq_true rfl⟩) rfl rfl hl.1 rfl (lv_room (Nat.le_of_ble_eq_true rfl)) dX9_isSet_14 ⟨Nat.le_of_ble_eq_true rfl, Nat.le_of_ble_eq_true rfl⟩) (fun _ => rfl) (fun r_2 u_3 H locs q_4 hP hS => ?_)
  rcases q_4 with ⟨rfl, p_5⟩ | ⟨rfl, p_5⟩
  · have p_5 : (0 : Int) ≤ SE ∧ SE ≤ (((2 ^ (B 0) : Nat) : Int) - ((1 : Nat) : Int)) := p_5
    exact retZ (ty := .boolean) hx hb hr rfl hlocks hS hP hD () (rfl) (Or.inl ⟨rfl, by omega⟩) dX9_isSet_17
  · have p_5 : ¬ ((0 : Int) ≤ SE ∧ SE ≤ (((2 ^ (B 0) : Nat) : Int) - ((1 : Nat) : Int))) := p_5
    exact retZ (ty := .boolean) hx hb hr rfl hlocks hS hP hD () (rfl) (Or.inr ⟨rfl, by omega⟩) dX9_isSet_17

set_option maxHeartbeats 4000000 in
set_option maxRecDepth 100000 in
theorem c_X9_isOne (l : Launch) (G : va_G) (tA : Nat → ClassId) (pe : Int32) (PE : Int) (hpe : pe.toInt = PE) : CtI l yX9_isOne wsX9_isOne ({ frames := 1, cells := 0, slots := 0, locals := 25 }) G tA [.int pe] ([]) (fun (r : Int32) (_ : Unit) => ((r = nI 1 ∧ (0 ≤ PE ∧ PE < 5)) ∨ (r = nI 0 ∧ ¬ (0 ≤ PE ∧ PE < 5)))) (fun (_ : Unit) => []) 0 0 := by
  refine enterI (cc := cX9_isOne) (maxL := 1) (ret := (some .boolean)) (by decide) rfl (Nat.le_of_ble_eq_true rfl) ?_
  intro p0 e0 s m args below meth c0_ A ls hx hb hml hr hts hown hlocks hin hKK hA hP hD hl hS
  have hown : s.vm.findClass RX9 = some m.cls := hown
  have hl : lv_has ls 1 [(0, .int pe)] := hl
  have f69 := hts (Cond.constantLong RX9 69 (4)) (List.mem_of_getElem? (i := 1) rfl)
  refine lv_iload_n hx hb dX9_isOne_0 rfl (lv_at hl 0 rfl) ?_
  refine lv_i2l hx hb dX9_isOne_1 rfl ?_
  refine lv_lconst (v := (nI 0).toInt64) hx hb dX9_isOne_2 (by decide +kernel) ?_
  refine lv_ldc2 (v := 4) hx hb hown f69 dX9_isOne_3 ?_
  refine nv_topl (y := (nI 4).toInt64) (by decide +kernel) ?_
  refine roI hP hD hS hA [] rfl (runS (As := [.long pe.toInt64, .long ((nI 0).toInt64), .long ((nI 4).toInt64)]) (rest := []) (isC := []) ⟨hx, hb, hml, hown, hts⟩ hKK hP hD rfl (by decide) (c_X9_is l G tA pe PE (nI 0) (0 : Int) (nI 4) (4 : Int) hpe rfl rfl _) (va_cwS 3 hts gX9_isOne_X9_is rfl rfl rfl (by decide +kernel) ⟨Nat.le_of_ble_eq_true rfl, Nat.le_of_ble_eq_true rfl⟩) rfl rfl hl.1 rfl (lv_room (Nat.le_of_ble_eq_true rfl)) dX9_isOne_6 ⟨Nat.le_of_ble_eq_true rfl, Nat.le_of_ble_eq_true rfl⟩) (fun _ => rfl) (fun r_1 u_2 H locs q_3 hP hS => ?_)
  rcases q_3 with ⟨rfl, p_4⟩ | ⟨rfl, p_4⟩
  · have p_4 : (0 : Int) ≤ PE ∧ PE ≤ (4 : Int) := p_4
    exact retZ (ty := .boolean) hx hb hr rfl hlocks hS hP hD () (rfl) (Or.inl ⟨rfl, by omega⟩) dX9_isOne_9
  · have p_4 : ¬ ((0 : Int) ≤ PE ∧ PE ≤ (4 : Int)) := p_4
    exact retZ (ty := .boolean) hx hb hr rfl hlocks hS hP hD () (rfl) (Or.inr ⟨rfl, by omega⟩) dX9_isOne_9

set_option maxHeartbeats 4000000 in
set_option maxRecDepth 100000 in
theorem c_X9_bits (l : Launch) (G : va_G) (tA : Nat → ClassId) (x : Nat) (hx : x < 1048576) : CtI l yX9_bits wsX9_bits ({ frames := 0, cells := 0, slots := 0, locals := 0 }) G tA [.int (nI x)] ([]) (fun (r : Int32) (_ : Unit) => r = nI (popM x 10) ∧ popM x 10 ≤ 10) (fun (_ : Unit) => []) 0 0 := by
  refine enterI (cc := cX9_bits) (maxL := 3) (ret := (some .int)) (by decide) rfl (Nat.le_of_ble_eq_true rfl) ?_
  intro p0 e0 s m args below meth c0_ A ls hx hb hml hr hts hown hlocks hin hKK hA hP hD hl hS
  have hown : s.vm.findClass RX9 = some m.cls := hown
  have hl : lv_has ls 3 [(0, .int (nI x))] := hl
  refine lv_iconst (v := nI 0) hx hb dX9_bits_0 (by decide) ?_
  refine lv_istore_n (lv' := [(1, .int (nI 0)), (0, .int (nI x))]) hx hb dX9_bits_1 rfl hl (by decide) rfl (fun ls hl => ?_)
  refine lv_iconst (v := nI 0) hx hb dX9_bits_2 (by decide) ?_
  refine lv_istore_n (lv' := [(2, .int (nI 0)), (1, .int (nI 0)), (0, .int (nI x))]) hx hb dX9_bits_3 rfl hl (by decide) rfl (fun ls hl => ?_)
  refine wloop (σ := (Nat) × (Nat)) (fun | (k, q) => 10 - k) (fun | (k, q) => (k ≤ 10) ∧ (q = popM x k)) (fun | (k, q) => [(2, .int (nI k)), (1, .int (nI q)), (0, .int (nI x))]) (fun | (k, q) => []) (0, 0) ⟨(show 0 ≤ 10 from by omega), (show 0 = popM x 0 from rfl)⟩ (lv_sub hl [0, 1, 2] rfl) hP hD hS ?_
  rintro ⟨k, q⟩ ⟨hk, hq⟩ ih_1 ls H locs hl hP hD hS
  have hl : lv_has ls 3 [(2, .int (nI k)), (1, .int (nI q)), (0, .int (nI x))] := hl
  have hP : va_P G vwCl [] H := hP
  have hD : va_D A [] := hD
  have hk : k ≤ 10 := hk
  have hq : q = popM x k := hq
  refine lv_iload_n hx hb dX9_bits_4 rfl (lv_at hl 0 rfl) ?_
  refine lv_bipush (v := nI 10) hx hb dX9_bits_5 (by decide +kernel) ?_
  refine nv_icmp_ge (tgt := 24) (by omega) (by omega) hx hb dX9_bits_7 (by decide) (fun c_2 => ?_) (fun c_2 => ?_)
  · refine lv_iload_n hx hb dX9_bits_24 rfl (lv_at hl 1 rfl) ?_
    exact retI hx hb hr hlocks hS hP hD () (rfl) (⟨congrArg nI (show (q : Nat) = popM x 10 from by have e : k = 10 := (by omega); rw [hq, e]), popM_le x 10⟩) dX9_bits_25
  · refine lv_iload_n hx hb dX9_bits_10 rfl (lv_at hl 1 rfl) ?_
    refine lv_iload_n hx hb dX9_bits_11 rfl (lv_at hl 2 rfl) ?_
    refine lv_iload_n hx hb dX9_bits_12 rfl (lv_at hl 0 rfl) ?_
    refine nv_ishr (by omega) (by omega) hx hb dX9_bits_13 ?_
    refine lv_iconst (v := nI 1) hx hb dX9_bits_14 (by decide) ?_
    refine nv_iand1 hx hb dX9_bits_15 ?_
    refine nv_iadd hx hb dX9_bits_16 ?_
    refine lv_istore_n (lv' := [(1, .int (nI (q + ((x / 2 ^ k) % 2)))), (2, .int (nI k)), (0, .int (nI x))]) hx hb dX9_bits_17 rfl hl (by decide) rfl (fun ls hl => ?_)
    refine lv_iinc (v := (nI (k + 1))) (lv' := [(2, .int (nI (k + 1))), (1, .int (nI (q + ((x / 2 ^ k) % 2)))), (0, .int (nI x))]) hx hb dX9_bits_18 hl (k := 1) rfl (nI_add k 1) (by decide) rfl (fun ls hl => ?_)
    refine lv_goto (tgt := 4) hx hb dX9_bits_21 (by decide) ?_
    exact ih_1 (k + 1, q + ((x / 2 ^ k) % 2)) (show 10 - (k + 1) < 10 - k from by omega) ⟨(show (k + 1) ≤ 10 from by omega), (show (q + ((x / 2 ^ k) % 2)) = popM x (k + 1) from by rw [hq]; rfl)⟩ _ _ _ (lv_sub hl [0, 1, 2] rfl) hP hD hS

set_option maxHeartbeats 4000000 in
set_option maxRecDepth 100000 in
theorem c_X9_mayOf (l : Launch) (G : va_G) (tA : Nat → ClassId) (b : Nat → Nat) (qu : Nat) (ab : Int64) (bl : Int64) (tyd : Nat) (at0 : Nat) (sta : Nat) (tok : Nat) (val : Nat) (man : Nat) (B : Nat → Nat) (t : Nat) (hWB : WB B) (ht : t < B 0) : CtI l yX9_mayOf wsX9_mayOf ({ frames := 0, cells := 0, slots := 0, locals := 0 }) G tA [.ref (b 0), .int (nI t)] ([(b 0, .inr (7, [.ref (b 1), .ref (b 2), .ref (b 3), .ref (b 4), .ref (b 5), .int (nI qu), .long ab, .long bl, .ref (b 6), .int (nI tyd), .int (nI at0), .int (nI sta), .int (nI tok), .int (nI val), .ref (b 7), .int (nI man), .ref (b 8), .ref (b 9), .ref (b 10), .ref (b 11), .ref (b 12), .ref (b 13), .ref (b 14)])), (b 1, .inl (tA 0, 212, .inl (nF B)))]) (fun (r : Int32) (_ : Unit) => r = nI (mayM B t) ∧ mayM B t < 4) (fun (_ : Unit) => [(b 0, .inr (7, [.ref (b 1), .ref (b 2), .ref (b 3), .ref (b 4), .ref (b 5), .int (nI qu), .long ab, .long bl, .ref (b 6), .int (nI tyd), .int (nI at0), .int (nI sta), .int (nI tok), .int (nI val), .ref (b 7), .int (nI man), .ref (b 8), .ref (b 9), .ref (b 10), .ref (b 11), .ref (b 12), .ref (b 13), .ref (b 14)])), (b 1, .inl (tA 0, 212, .inl (nF B)))]) 0 0 := by
  refine enterI (cc := cX9_mayOf) (maxL := 3) (ret := (some .int)) (by decide) rfl (Nat.le_of_ble_eq_true rfl) ?_
  intro p0 e0 s m args below meth c0_ A ls hx hb hml hr hts hown hlocks hin hKK hA hP hD hl hS
  have hown : s.vm.findClass RX9 = some m.cls := hown
  have hl : lv_has ls 3 [(0, .ref (b 0)), (1, .int (nI t))] := hl
  have f7 := hts (Cond.fieldLink RX9 7 "LentTermsModel" "book" "[I") (List.mem_of_getElem? (i := 1) rfl)
  have iX9 : ∀ w ∈ wsX90, w ∈ wsX9_mayOf := by decide +kernel
  obtain ⟨⟨hn0, hn1, hn2, hn3, hn4, hn5⟩, hbB, hv0, hv1, hv2, hv3, hv4, hv5, hv6, hv7⟩ := id hWB
  refine lv_aload_n hx hb dX9_mayOf_0 rfl (lv_at hl 0 rfl) ?_
  refine va_get (D := G) (ci := 7) (C := RX9) (T := TX9) (N := 23) hx hb hts iX9 hown hKK.1 hP 0 rfl rfl 0 (by decide) f7 (fun _ h9 => h9) rfl dX9_mayOf_1 ?_
  refine lv_bipush (v := nI 8) hx hb dX9_mayOf_4 (by decide +kernel) ?_
  refine lv_iconst (v := nI 3) hx hb dX9_mayOf_6 (by decide) ?_
  refine lv_iload_n hx hb dX9_mayOf_7 rfl (lv_at hl 1 rfl) ?_
  refine nv_imul hx hb dX9_mayOf_8 ?_
  refine nv_iadd hx hb dX9_mayOf_9 ?_
  refine nv_iald (i := 8 + (3 * t)) hx hb hKK.1 hP 1 0 rfl rfl (by omega) (by decide) dX9_mayOf_10 ?_
  have b_1 := hbB (8 + (3 * t))
  refine lv_istore_n (lv' := [(2, .int (nI (B (8 + (3 * t))))), (0, .ref (b 0)), (1, .int (nI t))]) hx hb dX9_mayOf_11 rfl hl (by decide) rfl (fun ls hl => ?_)
  refine lv_iload_n hx hb dX9_mayOf_12 rfl (lv_at hl 0 rfl) ?_
  refine lv_iconst (v := nI 2) hx hb dX9_mayOf_13 (by decide) ?_
  refine nv_icmp_eq (tgt := 27) (by omega) (by omega) hx hb dX9_mayOf_14 (by decide) (fun c_2 => ?_) (fun c_2 => ?_)
  · refine lv_iconst (v := nI 1) hx hb dX9_mayOf_27 (by decide) ?_
    refine lv_goto (tgt := 44) hx hb dX9_mayOf_28 (by decide) ?_
    exact retI hx hb hr hlocks hS hP hD () (rfl) (⟨congrArg nI (show (1 : Nat) = mayM B t from by unfold mayM oneB; first | rw [if_pos (decide_eq_true (by omega))] | rw [if_neg (fun z => absurd (of_decide_eq_true z) (by omega))]), by have := hv0 t ht; unfold mayM; split <;> omega⟩) dX9_mayOf_44
  · refine lv_iload_n hx hb dX9_mayOf_17 rfl (lv_at hl 0 rfl) ?_
    refine lv_iconst (v := nI 4) hx hb dX9_mayOf_18 (by decide) ?_
    refine nv_icmp_eq (tgt := 27) (by omega) (by omega) hx hb dX9_mayOf_19 (by decide) (fun c_3 => ?_) (fun c_3 => ?_)
    · refine lv_iconst (v := nI 1) hx hb dX9_mayOf_27 (by decide) ?_
      refine lv_goto (tgt := 44) hx hb dX9_mayOf_28 (by decide) ?_
      exact retI hx hb hr hlocks hS hP hD () (rfl) (⟨congrArg nI (show (1 : Nat) = mayM B t from by unfold mayM oneB; first | rw [if_pos (decide_eq_true (by omega))] | rw [if_neg (fun z => absurd (of_decide_eq_true z) (by omega))]), by have := hv0 t ht; unfold mayM; split <;> omega⟩) dX9_mayOf_44
    · refine lv_iload_n hx hb dX9_mayOf_22 rfl (lv_at hl 0 rfl) ?_
      refine lv_iconst (v := nI 5) hx hb dX9_mayOf_23 (by decide) ?_
      refine nv_icmp_ne (tgt := 31) (by omega) (by omega) hx hb dX9_mayOf_24 (by decide) (fun c_4 => ?_) (fun c_4 => ?_)
      · refine lv_aload_n hx hb dX9_mayOf_31 rfl (lv_at hl 1 rfl) ?_
        refine va_get (D := G) (ci := 7) (C := RX9) (T := TX9) (N := 23) hx hb hts iX9 hown hKK.1 hP 0 rfl rfl 0 (by decide) f7 (fun _ h9 => h9) rfl dX9_mayOf_32 ?_
        refine lv_bipush (v := nI 8) hx hb dX9_mayOf_35 (by decide +kernel) ?_
        refine lv_iconst (v := nI 3) hx hb dX9_mayOf_37 (by decide) ?_
        refine lv_iload_n hx hb dX9_mayOf_38 rfl (lv_at hl 2 rfl) ?_
        refine nv_imul hx hb dX9_mayOf_39 ?_
        refine nv_iadd hx hb dX9_mayOf_40 ?_
        refine lv_iconst (v := nI 1) hx hb dX9_mayOf_41 (by decide) ?_
        refine nv_iadd hx hb dX9_mayOf_42 ?_
        refine nv_iald (i := (8 + (3 * t)) + 1) hx hb hKK.1 hP 1 0 rfl rfl (by omega) (by decide) dX9_mayOf_43 ?_
        have b_5 := hbB ((8 + (3 * t)) + 1)
        exact retI hx hb hr hlocks hS hP hD () (rfl) (⟨congrArg nI (show (B ((8 + (3 * t)) + 1) : Nat) = mayM B t from by unfold mayM oneB; first | rw [if_pos (decide_eq_true (by omega))] | rw [if_neg (fun z => absurd (of_decide_eq_true z) (by omega))]), by have := hv0 t ht; unfold mayM; split <;> omega⟩) dX9_mayOf_44
      · refine lv_iconst (v := nI 1) hx hb dX9_mayOf_27 (by decide) ?_
        refine lv_goto (tgt := 44) hx hb dX9_mayOf_28 (by decide) ?_
        exact retI hx hb hr hlocks hS hP hD () (rfl) (⟨congrArg nI (show (1 : Nat) = mayM B t from by unfold mayM oneB; first | rw [if_pos (decide_eq_true (by omega))] | rw [if_neg (fun z => absurd (of_decide_eq_true z) (by omega))]), by have := hv0 t ht; unfold mayM; split <;> omega⟩) dX9_mayOf_44

set_option maxHeartbeats 4000000 in
set_option maxRecDepth 100000 in
theorem c_X9_longOf (l : Launch) (G : va_G) (tA : Nat → ClassId) (b : Nat → Nat) (qu : Nat) (ab : Int64) (bl : Int64) (tyd : Nat) (at0 : Nat) (sta : Nat) (tok : Nat) (val : Nat) (man : Nat) (B : Nat → Nat) (t : Nat) (hWB : WB B) (ht : t < B 0) : CtI l yX9_longOf wsX9_longOf ({ frames := 0, cells := 0, slots := 0, locals := 0 }) G tA [.ref (b 0), .int (nI t)] ([(b 0, .inr (7, [.ref (b 1), .ref (b 2), .ref (b 3), .ref (b 4), .ref (b 5), .int (nI qu), .long ab, .long bl, .ref (b 6), .int (nI tyd), .int (nI at0), .int (nI sta), .int (nI tok), .int (nI val), .ref (b 7), .int (nI man), .ref (b 8), .ref (b 9), .ref (b 10), .ref (b 11), .ref (b 12), .ref (b 13), .ref (b 14)])), (b 1, .inl (tA 0, 212, .inl (nF B)))]) (fun (r : Int32) (_ : Unit) => r = nI (longS (B (8 + 3 * t))) ∧ longS (B (8 + 3 * t)) ≤ 24) (fun (_ : Unit) => [(b 0, .inr (7, [.ref (b 1), .ref (b 2), .ref (b 3), .ref (b 4), .ref (b 5), .int (nI qu), .long ab, .long bl, .ref (b 6), .int (nI tyd), .int (nI at0), .int (nI sta), .int (nI tok), .int (nI val), .ref (b 7), .int (nI man), .ref (b 8), .ref (b 9), .ref (b 10), .ref (b 11), .ref (b 12), .ref (b 13), .ref (b 14)])), (b 1, .inl (tA 0, 212, .inl (nF B)))]) 0 0 := by
  refine enterI (cc := cX9_longOf) (maxL := 3) (ret := (some .int)) (by decide) rfl (Nat.le_of_ble_eq_true rfl) ?_
  intro p0 e0 s m args below meth c0_ A ls hx hb hml hr hts hown hlocks hin hKK hA hP hD hl hS
  have hown : s.vm.findClass RX9 = some m.cls := hown
  have hl : lv_has ls 3 [(0, .ref (b 0)), (1, .int (nI t))] := hl
  have f7 := hts (Cond.fieldLink RX9 7 "LentTermsModel" "book" "[I") (List.mem_of_getElem? (i := 1) rfl)
  have iX9 : ∀ w ∈ wsX90, w ∈ wsX9_longOf := by decide +kernel
  obtain ⟨⟨hn0, hn1, hn2, hn3, hn4, hn5⟩, hbB, hv0, hv1, hv2, hv3, hv4, hv5, hv6, hv7⟩ := id hWB
  refine lv_aload_n hx hb dX9_longOf_0 rfl (lv_at hl 0 rfl) ?_
  refine va_get (D := G) (ci := 7) (C := RX9) (T := TX9) (N := 23) hx hb hts iX9 hown hKK.1 hP 0 rfl rfl 0 (by decide) f7 (fun _ h9 => h9) rfl dX9_longOf_1 ?_
  refine lv_bipush (v := nI 8) hx hb dX9_longOf_4 (by decide +kernel) ?_
  refine lv_iconst (v := nI 3) hx hb dX9_longOf_6 (by decide) ?_
  refine lv_iload_n hx hb dX9_longOf_7 rfl (lv_at hl 1 rfl) ?_
  refine nv_imul hx hb dX9_longOf_8 ?_
  refine nv_iadd hx hb dX9_longOf_9 ?_
  refine nv_iald (i := 8 + (3 * t)) hx hb hKK.1 hP 1 0 rfl rfl (by omega) (by decide) dX9_longOf_10 ?_
  have b_1 := hbB (8 + (3 * t))
  refine lv_istore_n (lv' := [(2, .int (nI (B (8 + (3 * t))))), (0, .ref (b 0)), (1, .int (nI t))]) hx hb dX9_longOf_11 rfl hl (by decide) rfl (fun ls hl => ?_)
  refine lv_iload_n hx hb dX9_longOf_12 rfl (lv_at hl 0 rfl) ?_
  refine lv_iconst (v := nI 1) hx hb dX9_longOf_13 (by decide) ?_
  refine nv_icmp_eq (tgt := 27) (by omega) (by omega) hx hb dX9_longOf_14 (by decide) (fun c_2 => ?_) (fun c_2 => ?_)
  · refine lv_iconst (v := nI 2) hx hb dX9_longOf_27 (by decide) ?_
    refine lv_goto (tgt := 33) hx hb dX9_longOf_28 (by decide) ?_
    exact retI hx hb hr hlocks hS hP hD () (rfl) (⟨congrArg nI (show (2 : Nat) = longS (B (8 + 3 * t)) from by unfold longS; split <;> omega), longS_le _⟩) dX9_longOf_33
  · refine lv_iload_n hx hb dX9_longOf_17 rfl (lv_at hl 0 rfl) ?_
    refine lv_iconst (v := nI 3) hx hb dX9_longOf_18 (by decide) ?_
    refine nv_icmp_eq (tgt := 27) (by omega) (by omega) hx hb dX9_longOf_19 (by decide) (fun c_3 => ?_) (fun c_3 => ?_)
    · refine lv_iconst (v := nI 2) hx hb dX9_longOf_27 (by decide) ?_
      refine lv_goto (tgt := 33) hx hb dX9_longOf_28 (by decide) ?_
      exact retI hx hb hr hlocks hS hP hD () (rfl) (⟨congrArg nI (show (2 : Nat) = longS (B (8 + 3 * t)) from by unfold longS; split <;> omega), longS_le _⟩) dX9_longOf_33
    · refine lv_iload_n hx hb dX9_longOf_22 rfl (lv_at hl 0 rfl) ?_
      refine lv_iconst (v := nI 5) hx hb dX9_longOf_23 (by decide) ?_
      refine nv_icmp_ne (tgt := 31) (by omega) (by omega) hx hb dX9_longOf_24 (by decide) (fun c_4 => ?_) (fun c_4 => ?_)
      · refine lv_bipush (v := nI 24) hx hb dX9_longOf_31 (by decide +kernel) ?_
        exact retI hx hb hr hlocks hS hP hD () (rfl) (⟨congrArg nI (show (24 : Nat) = longS (B (8 + 3 * t)) from by unfold longS; split <;> omega), longS_le _⟩) dX9_longOf_33
      · refine lv_iconst (v := nI 2) hx hb dX9_longOf_27 (by decide) ?_
        refine lv_goto (tgt := 33) hx hb dX9_longOf_28 (by decide) ?_
        exact retI hx hb hr hlocks hS hP hD () (rfl) (⟨congrArg nI (show (2 : Nat) = longS (B (8 + 3 * t)) from by unfold longS; split <;> omega), longS_le _⟩) dX9_longOf_33

set_option maxHeartbeats 4000000 in
set_option maxRecDepth 100000 in
theorem c_X9_costOf (l : Launch) (G : va_G) (tA : Nat → ClassId) (b : Nat → Nat) (qu : Nat) (ab : Int64) (bl : Int64) (tyd : Nat) (at0 : Nat) (sta : Nat) (tok : Nat) (val : Nat) (man : Nat) (B : Nat → Nat) (t : Nat) (h : Nat) (hWB : WB B) (ht : t < B 0) (hh : h ≤ 24) : CtI l yX9_costOf wsX9_costOf ({ frames := 0, cells := 0, slots := 0, locals := 0 }) G tA [.ref (b 0), .int (nI t), .int (nI h)] ([(b 0, .inr (7, [.ref (b 1), .ref (b 2), .ref (b 3), .ref (b 4), .ref (b 5), .int (nI qu), .long ab, .long bl, .ref (b 6), .int (nI tyd), .int (nI at0), .int (nI sta), .int (nI tok), .int (nI val), .ref (b 7), .int (nI man), .ref (b 8), .ref (b 9), .ref (b 10), .ref (b 11), .ref (b 12), .ref (b 13), .ref (b 14)])), (b 1, .inl (tA 0, 212, .inl (nF B)))]) (fun (r : Int32) (_ : Unit) => r = nI (costS (B (8 + 3 * t)) (B (8 + 3 * t + 2)) h) ∧ costS (B (8 + 3 * t)) (B (8 + 3 * t + 2)) h < 150994936) (fun (_ : Unit) => [(b 0, .inr (7, [.ref (b 1), .ref (b 2), .ref (b 3), .ref (b 4), .ref (b 5), .int (nI qu), .long ab, .long bl, .ref (b 6), .int (nI tyd), .int (nI at0), .int (nI sta), .int (nI tok), .int (nI val), .ref (b 7), .int (nI man), .ref (b 8), .ref (b 9), .ref (b 10), .ref (b 11), .ref (b 12), .ref (b 13), .ref (b 14)])), (b 1, .inl (tA 0, 212, .inl (nF B)))]) 0 0 := by
  refine enterI (cc := cX9_costOf) (maxL := 6) (ret := (some .int)) (by decide) rfl (Nat.le_of_ble_eq_true rfl) ?_
  intro p0 e0 s m args below meth c0_ A ls hx hb hml hr hts hown hlocks hin hKK hA hP hD hl hS
  have hown : s.vm.findClass RX9 = some m.cls := hown
  have hl : lv_has ls 6 [(0, .ref (b 0)), (1, .int (nI t)), (2, .int (nI h))] := hl
  have f7 := hts (Cond.fieldLink RX9 7 "LentTermsModel" "book" "[I") (List.mem_of_getElem? (i := 1) rfl)
  have iX9 : ∀ w ∈ wsX90, w ∈ wsX9_costOf := by decide +kernel
  obtain ⟨⟨hn0, hn1, hn2, hn3, hn4, hn5⟩, hbB, hv0, hv1, hv2, hv3, hv4, hv5, hv6, hv7⟩ := id hWB
  have hdl := dear_lt (hv0 t ht).2.2.2 hh
  have hpw := Nat.two_pow_pos h
  refine lv_aload_n hx hb dX9_costOf_0 rfl (lv_at hl 0 rfl) ?_
  refine va_get (D := G) (ci := 7) (C := RX9) (T := TX9) (N := 23) hx hb hts iX9 hown hKK.1 hP 0 rfl rfl 0 (by decide) f7 (fun _ h9 => h9) rfl dX9_costOf_1 ?_
  refine lv_bipush (v := nI 8) hx hb dX9_costOf_4 (by decide +kernel) ?_
  refine lv_iconst (v := nI 3) hx hb dX9_costOf_6 (by decide) ?_
  refine lv_iload_n hx hb dX9_costOf_7 rfl (lv_at hl 1 rfl) ?_
  refine nv_imul hx hb dX9_costOf_8 ?_
  refine nv_iadd hx hb dX9_costOf_9 ?_
  refine nv_iald (i := 8 + (3 * t)) hx hb hKK.1 hP 1 0 rfl rfl (by omega) (by decide) dX9_costOf_10 ?_
  have b_1 := hbB (8 + (3 * t))
  refine lv_istore_n (lv' := [(3, .int (nI (B (8 + (3 * t))))), (0, .ref (b 0)), (1, .int (nI t)), (2, .int (nI h))]) hx hb dX9_costOf_11 rfl hl (by decide) rfl (fun ls hl => ?_)
  refine lv_aload_n hx hb dX9_costOf_12 rfl (lv_at hl 1 rfl) ?_
  refine va_get (D := G) (ci := 7) (C := RX9) (T := TX9) (N := 23) hx hb hts iX9 hown hKK.1 hP 0 rfl rfl 0 (by decide) f7 (fun _ h9 => h9) rfl dX9_costOf_13 ?_
  refine lv_bipush (v := nI 8) hx hb dX9_costOf_16 (by decide +kernel) ?_
  refine lv_iconst (v := nI 3) hx hb dX9_costOf_18 (by decide) ?_
  refine lv_iload_n hx hb dX9_costOf_19 rfl (lv_at hl 2 rfl) ?_
  refine nv_imul hx hb dX9_costOf_20 ?_
  refine nv_iadd hx hb dX9_costOf_21 ?_
  refine lv_iconst (v := nI 2) hx hb dX9_costOf_22 (by decide) ?_
  refine nv_iadd hx hb dX9_costOf_23 ?_
  refine nv_iald (i := (8 + (3 * t)) + 2) hx hb hKK.1 hP 1 0 rfl rfl (by omega) (by decide) dX9_costOf_24 ?_
  have b_2 := hbB ((8 + (3 * t)) + 2)
  refine lv_istore (lv' := [(4, .int (nI (B ((8 + (3 * t)) + 2)))), (3, .int (nI (B (8 + (3 * t))))), (0, .ref (b 0)), (1, .int (nI t)), (2, .int (nI h))]) hx hb dX9_costOf_25 hl (by decide) rfl (fun ls hl => ?_)
  refine lv_iload hx hb dX9_costOf_27 (lv_at hl 0 rfl) ?_
  refine lv_iconst (v := nI 1) hx hb dX9_costOf_29 (by decide) ?_
  refine lv_iload_n hx hb dX9_costOf_30 rfl (lv_at hl 4 rfl) ?_
  refine nv_shl1 (by omega) hx hb dX9_costOf_31 ?_
  refine lv_iconst (v := nI 1) hx hb dX9_costOf_32 (by decide) ?_
  refine nv_isub (show 1 ≤ 2 ^ h from Nat.two_pow_pos h) hx hb dX9_costOf_33 ?_
  refine nv_imul hx hb dX9_costOf_34 ?_
  refine lv_istore (lv' := [(5, .int (nI ((B ((8 + (3 * t)) + 2)) * ((2 ^ h) - 1)))), (4, .int (nI (B ((8 + (3 * t)) + 2)))), (3, .int (nI (B (8 + (3 * t))))), (0, .ref (b 0)), (1, .int (nI t)), (2, .int (nI h))]) hx hb dX9_costOf_35 hl (by decide) rfl (fun ls hl => ?_)
  refine lv_iload_n hx hb dX9_costOf_37 rfl (lv_at hl 2 rfl) ?_
  refine lv_iconst (v := nI 3) hx hb dX9_costOf_38 (by decide) ?_
  refine nv_icmp_ne (tgt := 47) (by omega) (by omega) hx hb dX9_costOf_39 (by decide) (fun c_3 => ?_) (fun c_3 => ?_)
  · refine lv_iload_n hx hb dX9_costOf_47 rfl (lv_at hl 2 rfl) ?_
    refine lv_iconst (v := nI 5) hx hb dX9_costOf_48 (by decide) ?_
    refine nv_icmp_ne (tgt := 59) (by omega) (by omega) hx hb dX9_costOf_49 (by decide) (fun c_4 => ?_) (fun c_4 => ?_)
    · refine lv_iload_n hx hb dX9_costOf_59 rfl (lv_at hl 2 rfl) ?_
      refine lv_iconst (v := nI 4) hx hb dX9_costOf_60 (by decide) ?_
      refine nv_icmp_ne (tgt := 73) (by omega) (by omega) hx hb dX9_costOf_61 (by decide) (fun c_5 => ?_) (fun c_5 => ?_)
      · refine lv_iload_n hx hb dX9_costOf_73 rfl (lv_at hl 5 rfl) ?_
        refine lv_iload hx hb dX9_costOf_74 (lv_at hl 1 rfl) ?_
        refine nv_imul hx hb dX9_costOf_76 ?_
        exact retI hx hb hr hlocks hS hP hD () (rfl) (⟨congrArg nI (show (h * (B ((8 + (3 * t)) + 2)) : Nat) = costS (B (8 + 3 * t)) (B (8 + 3 * t + 2)) h from by unfold costS; (repeat' split) <;> first | rfl | omega), costS_lt (hv0 t ht).2.2.2 hh⟩) dX9_costOf_77
      · refine lv_iload_n hx hb dX9_costOf_64 rfl (lv_at hl 5 rfl) ?_
        refine lv_iload hx hb dX9_costOf_65 (lv_at hl 1 rfl) ?_
        refine nv_imul hx hb dX9_costOf_67 ?_
        refine lv_iconst (v := nI 5) hx hb dX9_costOf_68 (by decide) ?_
        refine nv_iadd hx hb dX9_costOf_69 ?_
        refine lv_goto (tgt := 77) hx hb dX9_costOf_70 (by decide) ?_
        exact retI hx hb hr hlocks hS hP hD () (rfl) (⟨congrArg nI (show ((h * (B ((8 + (3 * t)) + 2))) + 5 : Nat) = costS (B (8 + 3 * t)) (B (8 + 3 * t + 2)) h from by unfold costS; (repeat' split) <;> first | rfl | omega), costS_lt (hv0 t ht).2.2.2 hh⟩) dX9_costOf_77
    · refine lv_iload hx hb dX9_costOf_52 (lv_at hl 0 rfl) ?_
      refine lv_iconst (v := nI 2) hx hb dX9_costOf_54 (by decide) ?_
      refine nv_idiv (by omega) (by omega) (by omega) hx hb dX9_costOf_55 ?_
      refine lv_goto (tgt := 77) hx hb dX9_costOf_56 (by decide) ?_
      exact retI hx hb hr hlocks hS hP hD () (rfl) (⟨congrArg nI (show (((B ((8 + (3 * t)) + 2)) * ((2 ^ h) - 1)) / 2 : Nat) = costS (B (8 + 3 * t)) (B (8 + 3 * t + 2)) h from by unfold costS; (repeat' split) <;> first | rfl | omega), costS_lt (hv0 t ht).2.2.2 hh⟩) dX9_costOf_77
  · refine lv_iload hx hb dX9_costOf_42 (lv_at hl 0 rfl) ?_
    refine lv_goto (tgt := 77) hx hb dX9_costOf_44 (by decide) ?_
    exact retI hx hb hr hlocks hS hP hD () (rfl) (⟨congrArg nI (show ((B ((8 + (3 * t)) + 2)) * ((2 ^ h) - 1) : Nat) = costS (B (8 + 3 * t)) (B (8 + 3 * t + 2)) h from by unfold costS; (repeat' split) <;> first | rfl | omega), costS_lt (hv0 t ht).2.2.2 hh⟩) dX9_costOf_77

set_option maxHeartbeats 4000000 in
set_option maxRecDepth 100000 in
theorem c_X9_having (l : Launch) (G : va_G) (tA : Nat → ClassId) (b : Nat → Nat) (qu : Nat) (ab : Int64) (bl : Int64) (tyd : Nat) (at0 : Nat) (sta : Nat) (tok : Nat) (val : Nat) (man : Nat) (B : Nat → Nat) (mny : Nat) (t : Nat) (h : Nat) (pe : Int32) (PE : Int) (hWB : WB B) (hmny : mny ≤ 10) (ht : t < 1048576) (hh : h < 1048576) (hpe : pe.toInt = PE) : CtI l yX9_having wsX9_having ({ frames := 1, cells := 0, slots := 0, locals := 25 }) G tA [.ref (b 0), .int (nI mny), .int (nI t), .int (nI h), .int pe] ([(b 0, .inr (7, [.ref (b 1), .ref (b 2), .ref (b 3), .ref (b 4), .ref (b 5), .int (nI qu), .long ab, .long bl, .ref (b 6), .int (nI tyd), .int (nI at0), .int (nI sta), .int (nI tok), .int (nI val), .ref (b 7), .int (nI man), .ref (b 8), .ref (b 9), .ref (b 10), .ref (b 11), .ref (b 12), .ref (b 13), .ref (b 14)])), (b 1, .inl (tA 0, 212, .inl (nF B)))]) (fun (r : Int32) (_ : Unit) => r = nI (cntN (havB B t h PE) mny) ∧ cntN (havB B t h PE) mny ≤ 10) (fun (_ : Unit) => [(b 0, .inr (7, [.ref (b 1), .ref (b 2), .ref (b 3), .ref (b 4), .ref (b 5), .int (nI qu), .long ab, .long bl, .ref (b 6), .int (nI tyd), .int (nI at0), .int (nI sta), .int (nI tok), .int (nI val), .ref (b 7), .int (nI man), .ref (b 8), .ref (b 9), .ref (b 10), .ref (b 11), .ref (b 12), .ref (b 13), .ref (b 14)])), (b 1, .inl (tA 0, 212, .inl (nF B)))]) 0 0 := by
  refine enterI (cc := cX9_having) (maxL := 9) (ret := (some .int)) (by decide) rfl (Nat.le_of_ble_eq_true rfl) ?_
  intro p0 e0 s m args below meth c0_ A ls hx hb hml hr hts hown hlocks hin hKK hA hP hD hl hS
  have hown : s.vm.findClass RX9 = some m.cls := hown
  have hl : lv_has ls 9 [(0, .ref (b 0)), (1, .int (nI mny)), (2, .int (nI t)), (3, .int (nI h)), (4, .int pe)] := hl
  have f7 := hts (Cond.fieldLink RX9 7 "LentTermsModel" "book" "[I") (List.mem_of_getElem? (i := 1) rfl)
  have iX9 : ∀ w ∈ wsX90, w ∈ wsX9_having := by decide +kernel
  obtain ⟨⟨hn0, hn1, hn2, hn3, hn4, hn5⟩, hbB, hv0, hv1, hv2, hv3, hv4, hv5, hv6, hv7⟩ := id hWB
  refine lv_iconst (v := nI 0) hx hb dX9_having_0 (by decide) ?_
  refine lv_istore (lv' := [(5, .int (nI 0)), (0, .ref (b 0)), (1, .int (nI mny)), (2, .int (nI t)), (3, .int (nI h)), (4, .int pe)]) hx hb dX9_having_1 hl (by decide) rfl (fun ls hl => ?_)
  refine lv_iconst (v := nI 0) hx hb dX9_having_3 (by decide) ?_
  refine lv_istore (lv' := [(6, .int (nI 0)), (5, .int (nI 0)), (0, .ref (b 0)), (1, .int (nI mny)), (2, .int (nI t)), (3, .int (nI h)), (4, .int pe)]) hx hb dX9_having_4 hl (by decide) rfl (fun ls hl => ?_)
  refine wloop (σ := (Nat) × (Nat)) (fun | (k, q) => mny - k) (fun | (k, q) => (k ≤ mny) ∧ (q = cntN (havB B t h PE) k) ∧ (q ≤ k)) (fun | (k, q) => [(6, .int (nI k)), (5, .int (nI q)), (0, .ref (b 0)), (1, .int (nI mny)), (2, .int (nI t)), (3, .int (nI h)), (4, .int pe)]) (fun | (k, q) => [(b 0, .inr (7, [.ref (b 1), .ref (b 2), .ref (b 3), .ref (b 4), .ref (b 5), .int (nI qu), .long ab, .long bl, .ref (b 6), .int (nI tyd), .int (nI at0), .int (nI sta), .int (nI tok), .int (nI val), .ref (b 7), .int (nI man), .ref (b 8), .ref (b 9), .ref (b 10), .ref (b 11), .ref (b 12), .ref (b 13), .ref (b 14)])), (b 1, .inl (tA 0, 212, .inl (nF B)))]) (0, 0) ⟨(show 0 ≤ mny from by omega), (show 0 = cntN (havB B t h PE) 0 from rfl), (show 0 ≤ 0 from by omega)⟩ (lv_sub hl [0, 1, 2, 3, 4, 5, 6] rfl) hP hD hS ?_
  rintro ⟨k, q⟩ ⟨hk, hq, hq2⟩ ih_1 ls H locs hl hP hD hS
  have hl : lv_has ls 9 [(6, .int (nI k)), (5, .int (nI q)), (0, .ref (b 0)), (1, .int (nI mny)), (2, .int (nI t)), (3, .int (nI h)), (4, .int pe)] := hl
  have hP : va_P G vwCl [(b 0, .inr (7, [.ref (b 1), .ref (b 2), .ref (b 3), .ref (b 4), .ref (b 5), .int (nI qu), .long ab, .long bl, .ref (b 6), .int (nI tyd), .int (nI at0), .int (nI sta), .int (nI tok), .int (nI val), .ref (b 7), .int (nI man), .ref (b 8), .ref (b 9), .ref (b 10), .ref (b 11), .ref (b 12), .ref (b 13), .ref (b 14)])), (b 1, .inl (tA 0, 212, .inl (nF B)))] H := hP
  have hD : va_D A [(b 0, .inr (7, [.ref (b 1), .ref (b 2), .ref (b 3), .ref (b 4), .ref (b 5), .int (nI qu), .long ab, .long bl, .ref (b 6), .int (nI tyd), .int (nI at0), .int (nI sta), .int (nI tok), .int (nI val), .ref (b 7), .int (nI man), .ref (b 8), .ref (b 9), .ref (b 10), .ref (b 11), .ref (b 12), .ref (b 13), .ref (b 14)])), (b 1, .inl (tA 0, 212, .inl (nF B)))] := hD
  have hk : k ≤ mny := hk
  have hq : q = cntN (havB B t h PE) k := hq
  have hq2 : q ≤ k := hq2
  refine lv_iload hx hb dX9_having_6 (lv_at hl 0 rfl) ?_
  refine lv_iload_n hx hb dX9_having_8 rfl (lv_at hl 3 rfl) ?_
  refine nv_icmp_ge (tgt := 108) (by omega) (by omega) hx hb dX9_having_9 (by decide) (fun c_2 => ?_) (fun c_2 => ?_)
  · refine lv_iload hx hb dX9_having_108 (lv_at hl 1 rfl) ?_
    exact retI hx hb hr hlocks hS hP hD () (rfl) (⟨congrArg nI (show (q : Nat) = cntN (havB B t h PE) mny from by have e : k = mny := (by omega); rw [hq, e]), Nat.le_trans (cntN_le _ _) hmny⟩) dX9_having_110
  · refine lv_bipush (v := nI 32) hx hb dX9_having_12 (by decide +kernel) ?_
    refine lv_iconst (v := nI 4) hx hb dX9_having_14 (by decide) ?_
    refine lv_iload hx hb dX9_having_15 (lv_at hl 0 rfl) ?_
    refine nv_imul hx hb dX9_having_17 ?_
    refine nv_iadd hx hb dX9_having_18 ?_
    refine lv_istore (lv' := [(7, .int (nI (32 + (4 * k)))), (6, .int (nI k)), (5, .int (nI q)), (0, .ref (b 0)), (1, .int (nI mny)), (2, .int (nI t)), (3, .int (nI h)), (4, .int pe)]) hx hb dX9_having_19 hl (by decide) rfl (fun ls hl => ?_)
    refine lv_iload hx hb dX9_having_21 (lv_at hl 7 rfl) ?_
    refine lv_iconst (v := (-1)) hx hb dX9_having_23 (by decide) ?_
    refine zv_icmp_eq (tgt := 39) (X := PE) (Y := (-1 : Int)) hpe rfl hx hb dX9_having_24 (by decide) (fun c_3 => ?_) (fun c_3 => ?_)
    · refine lv_iconst (v := nI 1) hx hb dX9_having_39 (by decide) ?_
      refine lv_goto (tgt := 44) hx hb dX9_having_40 (by decide) ?_
      refine lv_istore (lv' := [(8, .int (nI 1)), (7, .int (nI (32 + (4 * k)))), (6, .int (nI k)), (5, .int (nI q)), (0, .ref (b 0)), (1, .int (nI mny)), (2, .int (nI t)), (3, .int (nI h)), (4, .int pe)]) hx hb dX9_having_44 hl (by decide) rfl (fun ls hl => ?_)
      refine lv_iload hx hb dX9_having_46 (lv_at hl 3 rfl) ?_
      refine lv_iload hx hb dX9_having_48 (lv_at hl 0 rfl) ?_
      refine nv_if_eq (tgt := 98) (by omega) hx hb dX9_having_50 (by decide) (fun h => absurd h (by omega)) (fun _ => ?_)
      refine lv_aload_n hx hb dX9_having_53 rfl (lv_at hl 4 rfl) ?_
      refine va_get (D := G) (ci := 7) (C := RX9) (T := TX9) (N := 23) hx hb hts iX9 hown hKK.1 hP 0 rfl rfl 0 (by decide) f7 (fun _ h9 => h9) rfl dX9_having_54 ?_
      refine lv_iload hx hb dX9_having_57 (lv_at hl 1 rfl) ?_
      refine lv_iconst (v := nI 1) hx hb dX9_having_59 (by decide) ?_
      refine nv_iadd hx hb dX9_having_60 ?_
      refine nv_iald (i := (32 + (4 * k)) + 1) hx hb hKK.1 hP 1 0 rfl rfl (by omega) (by decide) dX9_having_61 ?_
      have b_5 := hbB ((32 + (4 * k)) + 1)
      refine lv_iload_n hx hb dX9_having_62 rfl (lv_at hl 6 rfl) ?_
      refine nv_icmp_ne (tgt := 98) (by omega) (by omega) hx hb dX9_having_63 (by decide) (fun c_6 => ?_) (fun c_6 => ?_)
      · refine lv_iconst (v := nI 0) hx hb dX9_having_98 (by decide) ?_
        refine nv_iadd hx hb dX9_having_99 ?_
        refine lv_istore (lv' := [(5, .int (nI (q + 0))), (8, .int (nI 1)), (7, .int (nI (32 + (4 * k)))), (6, .int (nI k)), (0, .ref (b 0)), (1, .int (nI mny)), (2, .int (nI t)), (3, .int (nI h)), (4, .int pe)]) hx hb dX9_having_100 hl (by decide) rfl (fun ls hl => ?_)
        refine lv_iinc (v := (nI (k + 1))) (lv' := [(6, .int (nI (k + 1))), (5, .int (nI (q + 0))), (8, .int (nI 1)), (7, .int (nI (32 + (4 * k)))), (0, .ref (b 0)), (1, .int (nI mny)), (2, .int (nI t)), (3, .int (nI h)), (4, .int pe)]) hx hb dX9_having_102 hl (k := 3) rfl (nI_add k 1) (by decide) rfl (fun ls hl => ?_)
        refine lv_goto (tgt := 6) hx hb dX9_having_105 (by decide) ?_
        exact ih_1 (k + 1, q + 0) (show mny - (k + 1) < mny - k from by omega) ⟨(show (k + 1) ≤ mny from by omega), (show (q + 0) = cntN (havB B t h PE) (k + 1) from by rw [cntN_s, hq]; first | rw [if_pos (show havB B t h PE k = true from decide_eq_true (by omega))] | rw [if_neg (show ¬ (havB B t h PE k = true) from fun z => absurd (of_decide_eq_true z) (by omega))]), (show (q + 0) ≤ (k + 1) from by omega)⟩ _ _ _ (lv_sub hl [0, 1, 4, 5, 6, 7, 8] rfl) hP hD hS
      · refine lv_iload_n hx hb dX9_having_66 rfl (lv_at hl 7 rfl) ?_
        refine lv_i2l hx hb dX9_having_67 rfl ?_
        refine lv_aload_n hx hb dX9_having_68 rfl (lv_at hl 4 rfl) ?_
        refine va_get (D := G) (ci := 7) (C := RX9) (T := TX9) (N := 23) hx hb hts iX9 hown hKK.1 hP 0 rfl rfl 0 (by decide) f7 (fun _ h9 => h9) rfl dX9_having_69 ?_
        refine lv_iload hx hb dX9_having_72 (lv_at hl 1 rfl) ?_
        refine lv_iconst (v := nI 2) hx hb dX9_having_74 (by decide) ?_
        refine nv_iadd hx hb dX9_having_75 ?_
        refine nv_iald (i := (32 + (4 * k)) + 2) hx hb hKK.1 hP 1 0 rfl rfl (by omega) (by decide) dX9_having_76 ?_
        have b_7 := hbB ((32 + (4 * k)) + 2)
        refine lv_i2l hx hb dX9_having_77 rfl ?_
        refine lv_aload_n hx hb dX9_having_78 rfl (lv_at hl 4 rfl) ?_
        refine va_get (D := G) (ci := 7) (C := RX9) (T := TX9) (N := 23) hx hb hts iX9 hown hKK.1 hP 0 rfl rfl 0 (by decide) f7 (fun _ h9 => h9) rfl dX9_having_79 ?_
        refine lv_iload hx hb dX9_having_82 (lv_at hl 1 rfl) ?_
        refine lv_iconst (v := nI 3) hx hb dX9_having_84 (by decide) ?_
        refine nv_iadd hx hb dX9_having_85 ?_
        refine nv_iald (i := (32 + (4 * k)) + 3) hx hb hKK.1 hP 1 0 rfl rfl (by omega) (by decide) dX9_having_86 ?_
        have b_8 := hbB ((32 + (4 * k)) + 3)
        refine lv_i2l hx hb dX9_having_87 rfl ?_
        refine roI hP hD hS hA [] rfl (runS (As := [.long ((nI h).toInt64), .long ((nI (B ((32 + (4 * k)) + 2))).toInt64), .long ((nI (B ((32 + (4 * k)) + 3))).toInt64)]) (rest := [.int (nI q)]) (isC := []) ⟨hx, hb, hml, hown, hts⟩ hKK hP hD rfl (by decide) (c_X9_is l G tA (nI h) ((h : Nat) : Int) (nI (B ((32 + (4 * k)) + 2))) ((B ((32 + (4 * k)) + 2) : Nat) : Int) (nI (B ((32 + (4 * k)) + 3))) ((B ((32 + (4 * k)) + 3) : Nat) : Int) (nI_toIntC (by omega)) (nI_toIntC (by omega)) (nI_toIntC (by omega)) _) (va_cwS 3 hts gX9_having_X9_is rfl rfl rfl (by decide +kernel) ⟨Nat.le_of_ble_eq_true rfl, Nat.le_of_ble_eq_true rfl⟩) rfl rfl hl.1 rfl (lv_room (Nat.le_of_ble_eq_true rfl)) dX9_having_88 ⟨Nat.le_of_ble_eq_true rfl, Nat.le_of_ble_eq_true rfl⟩) (fun _ => rfl) (fun r_9 u_10 H locs q_11 hP hS => ?_)
        rcases q_11 with ⟨rfl, p_12⟩ | ⟨rfl, p_12⟩
        · have p_12 : ((B ((32 + (4 * k)) + 2) : Nat) : Int) ≤ ((h : Nat) : Int) ∧ ((h : Nat) : Int) ≤ ((B ((32 + (4 * k)) + 3) : Nat) : Int) := p_12
          refine nv_if_eq (tgt := 98) (by omega) hx hb dX9_having_91 (by decide) (fun h => absurd h (by omega)) (fun _ => ?_)
          refine lv_iconst (v := nI 1) hx hb dX9_having_94 (by decide) ?_
          refine lv_goto (tgt := 99) hx hb dX9_having_95 (by decide) ?_
          refine nv_iadd hx hb dX9_having_99 ?_
          refine lv_istore (lv' := [(5, .int (nI (q + 1))), (8, .int (nI 1)), (7, .int (nI (32 + (4 * k)))), (6, .int (nI k)), (0, .ref (b 0)), (1, .int (nI mny)), (2, .int (nI t)), (3, .int (nI h)), (4, .int pe)]) hx hb dX9_having_100 hl (by decide) rfl (fun ls hl => ?_)
          refine lv_iinc (v := (nI (k + 1))) (lv' := [(6, .int (nI (k + 1))), (5, .int (nI (q + 1))), (8, .int (nI 1)), (7, .int (nI (32 + (4 * k)))), (0, .ref (b 0)), (1, .int (nI mny)), (2, .int (nI t)), (3, .int (nI h)), (4, .int pe)]) hx hb dX9_having_102 hl (k := 3) rfl (nI_add k 1) (by decide) rfl (fun ls hl => ?_)
          refine lv_goto (tgt := 6) hx hb dX9_having_105 (by decide) ?_
          exact ih_1 (k + 1, q + 1) (show mny - (k + 1) < mny - k from by omega) ⟨(show (k + 1) ≤ mny from by omega), (show (q + 1) = cntN (havB B t h PE) (k + 1) from by rw [cntN_s, hq]; first | rw [if_pos (show havB B t h PE k = true from decide_eq_true (by omega))] | rw [if_neg (show ¬ (havB B t h PE k = true) from fun z => absurd (of_decide_eq_true z) (by omega))]), (show (q + 1) ≤ (k + 1) from by omega)⟩ _ _ _ (lv_sub hl [0, 1, 4, 5, 6, 7, 8] rfl) hP hD hS
        · have p_12 : ¬ (((B ((32 + (4 * k)) + 2) : Nat) : Int) ≤ ((h : Nat) : Int) ∧ ((h : Nat) : Int) ≤ ((B ((32 + (4 * k)) + 3) : Nat) : Int)) := p_12
          refine nv_if_eq (tgt := 98) (by omega) hx hb dX9_having_91 (by decide) (fun _ => ?_) (fun h => absurd h (by omega))
          refine lv_iconst (v := nI 0) hx hb dX9_having_98 (by decide) ?_
          refine nv_iadd hx hb dX9_having_99 ?_
          refine lv_istore (lv' := [(5, .int (nI (q + 0))), (8, .int (nI 1)), (7, .int (nI (32 + (4 * k)))), (6, .int (nI k)), (0, .ref (b 0)), (1, .int (nI mny)), (2, .int (nI t)), (3, .int (nI h)), (4, .int pe)]) hx hb dX9_having_100 hl (by decide) rfl (fun ls hl => ?_)
          refine lv_iinc (v := (nI (k + 1))) (lv' := [(6, .int (nI (k + 1))), (5, .int (nI (q + 0))), (8, .int (nI 1)), (7, .int (nI (32 + (4 * k)))), (0, .ref (b 0)), (1, .int (nI mny)), (2, .int (nI t)), (3, .int (nI h)), (4, .int pe)]) hx hb dX9_having_102 hl (k := 3) rfl (nI_add k 1) (by decide) rfl (fun ls hl => ?_)
          refine lv_goto (tgt := 6) hx hb dX9_having_105 (by decide) ?_
          exact ih_1 (k + 1, q + 0) (show mny - (k + 1) < mny - k from by omega) ⟨(show (k + 1) ≤ mny from by omega), (show (q + 0) = cntN (havB B t h PE) (k + 1) from by rw [cntN_s, hq]; first | rw [if_pos (show havB B t h PE k = true from decide_eq_true (by omega))] | rw [if_neg (show ¬ (havB B t h PE k = true) from fun z => absurd (of_decide_eq_true z) (by omega))]), (show (q + 0) ≤ (k + 1) from by omega)⟩ _ _ _ (lv_sub hl [0, 1, 4, 5, 6, 7, 8] rfl) hP hD hS
    · refine lv_aload_n hx hb dX9_having_27 rfl (lv_at hl 3 rfl) ?_
      refine va_get (D := G) (ci := 7) (C := RX9) (T := TX9) (N := 23) hx hb hts iX9 hown hKK.1 hP 0 rfl rfl 0 (by decide) f7 (fun _ h9 => h9) rfl dX9_having_28 ?_
      refine lv_iload hx hb dX9_having_31 (lv_at hl 0 rfl) ?_
      refine nv_iald (i := 32 + (4 * k)) hx hb hKK.1 hP 1 0 rfl rfl (by omega) (by decide) dX9_having_33 ?_
      have b_15 := hbB (32 + (4 * k))
      refine lv_iload hx hb dX9_having_34 (lv_at hl 7 rfl) ?_
      refine zv_icmp_ne (tgt := 43) (X := ((B (32 + (4 * k)) : Nat) : Int)) (Y := PE) (nI_toIntC (by omega)) hpe hx hb dX9_having_36 (by decide) (fun c_16 => ?_) (fun c_16 => ?_)
      · refine lv_iconst (v := nI 0) hx hb dX9_having_43 (by decide) ?_
        refine lv_istore (lv' := [(8, .int (nI 0)), (7, .int (nI (32 + (4 * k)))), (6, .int (nI k)), (5, .int (nI q)), (0, .ref (b 0)), (1, .int (nI mny)), (2, .int (nI t)), (3, .int (nI h)), (4, .int pe)]) hx hb dX9_having_44 hl (by decide) rfl (fun ls hl => ?_)
        refine lv_iload hx hb dX9_having_46 (lv_at hl 3 rfl) ?_
        refine lv_iload hx hb dX9_having_48 (lv_at hl 0 rfl) ?_
        refine nv_if_eq (tgt := 98) (by omega) hx hb dX9_having_50 (by decide) (fun _ => ?_) (fun h => absurd h (by omega))
        refine lv_iconst (v := nI 0) hx hb dX9_having_98 (by decide) ?_
        refine nv_iadd hx hb dX9_having_99 ?_
        refine lv_istore (lv' := [(5, .int (nI (q + 0))), (8, .int (nI 0)), (7, .int (nI (32 + (4 * k)))), (6, .int (nI k)), (0, .ref (b 0)), (1, .int (nI mny)), (2, .int (nI t)), (3, .int (nI h)), (4, .int pe)]) hx hb dX9_having_100 hl (by decide) rfl (fun ls hl => ?_)
        refine lv_iinc (v := (nI (k + 1))) (lv' := [(6, .int (nI (k + 1))), (5, .int (nI (q + 0))), (8, .int (nI 0)), (7, .int (nI (32 + (4 * k)))), (0, .ref (b 0)), (1, .int (nI mny)), (2, .int (nI t)), (3, .int (nI h)), (4, .int pe)]) hx hb dX9_having_102 hl (k := 3) rfl (nI_add k 1) (by decide) rfl (fun ls hl => ?_)
        refine lv_goto (tgt := 6) hx hb dX9_having_105 (by decide) ?_
        exact ih_1 (k + 1, q + 0) (show mny - (k + 1) < mny - k from by omega) ⟨(show (k + 1) ≤ mny from by omega), (show (q + 0) = cntN (havB B t h PE) (k + 1) from by rw [cntN_s, hq]; first | rw [if_pos (show havB B t h PE k = true from decide_eq_true (by omega))] | rw [if_neg (show ¬ (havB B t h PE k = true) from fun z => absurd (of_decide_eq_true z) (by omega))]), (show (q + 0) ≤ (k + 1) from by omega)⟩ _ _ _ (lv_sub hl [0, 1, 4, 5, 6, 7, 8] rfl) hP hD hS
      · refine lv_iconst (v := nI 1) hx hb dX9_having_39 (by decide) ?_
        refine lv_goto (tgt := 44) hx hb dX9_having_40 (by decide) ?_
        refine lv_istore (lv' := [(8, .int (nI 1)), (7, .int (nI (32 + (4 * k)))), (6, .int (nI k)), (5, .int (nI q)), (0, .ref (b 0)), (1, .int (nI mny)), (2, .int (nI t)), (3, .int (nI h)), (4, .int pe)]) hx hb dX9_having_44 hl (by decide) rfl (fun ls hl => ?_)
        refine lv_iload hx hb dX9_having_46 (lv_at hl 3 rfl) ?_
        refine lv_iload hx hb dX9_having_48 (lv_at hl 0 rfl) ?_
        refine nv_if_eq (tgt := 98) (by omega) hx hb dX9_having_50 (by decide) (fun h => absurd h (by omega)) (fun _ => ?_)
        refine lv_aload_n hx hb dX9_having_53 rfl (lv_at hl 4 rfl) ?_
        refine va_get (D := G) (ci := 7) (C := RX9) (T := TX9) (N := 23) hx hb hts iX9 hown hKK.1 hP 0 rfl rfl 0 (by decide) f7 (fun _ h9 => h9) rfl dX9_having_54 ?_
        refine lv_iload hx hb dX9_having_57 (lv_at hl 1 rfl) ?_
        refine lv_iconst (v := nI 1) hx hb dX9_having_59 (by decide) ?_
        refine nv_iadd hx hb dX9_having_60 ?_
        refine nv_iald (i := (32 + (4 * k)) + 1) hx hb hKK.1 hP 1 0 rfl rfl (by omega) (by decide) dX9_having_61 ?_
        have b_19 := hbB ((32 + (4 * k)) + 1)
        refine lv_iload_n hx hb dX9_having_62 rfl (lv_at hl 6 rfl) ?_
        refine nv_icmp_ne (tgt := 98) (by omega) (by omega) hx hb dX9_having_63 (by decide) (fun c_20 => ?_) (fun c_20 => ?_)
        · refine lv_iconst (v := nI 0) hx hb dX9_having_98 (by decide) ?_
          refine nv_iadd hx hb dX9_having_99 ?_
          refine lv_istore (lv' := [(5, .int (nI (q + 0))), (8, .int (nI 1)), (7, .int (nI (32 + (4 * k)))), (6, .int (nI k)), (0, .ref (b 0)), (1, .int (nI mny)), (2, .int (nI t)), (3, .int (nI h)), (4, .int pe)]) hx hb dX9_having_100 hl (by decide) rfl (fun ls hl => ?_)
          refine lv_iinc (v := (nI (k + 1))) (lv' := [(6, .int (nI (k + 1))), (5, .int (nI (q + 0))), (8, .int (nI 1)), (7, .int (nI (32 + (4 * k)))), (0, .ref (b 0)), (1, .int (nI mny)), (2, .int (nI t)), (3, .int (nI h)), (4, .int pe)]) hx hb dX9_having_102 hl (k := 3) rfl (nI_add k 1) (by decide) rfl (fun ls hl => ?_)
          refine lv_goto (tgt := 6) hx hb dX9_having_105 (by decide) ?_
          exact ih_1 (k + 1, q + 0) (show mny - (k + 1) < mny - k from by omega) ⟨(show (k + 1) ≤ mny from by omega), (show (q + 0) = cntN (havB B t h PE) (k + 1) from by rw [cntN_s, hq]; first | rw [if_pos (show havB B t h PE k = true from decide_eq_true (by omega))] | rw [if_neg (show ¬ (havB B t h PE k = true) from fun z => absurd (of_decide_eq_true z) (by omega))]), (show (q + 0) ≤ (k + 1) from by omega)⟩ _ _ _ (lv_sub hl [0, 1, 4, 5, 6, 7, 8] rfl) hP hD hS
        · refine lv_iload_n hx hb dX9_having_66 rfl (lv_at hl 7 rfl) ?_
          refine lv_i2l hx hb dX9_having_67 rfl ?_
          refine lv_aload_n hx hb dX9_having_68 rfl (lv_at hl 4 rfl) ?_
          refine va_get (D := G) (ci := 7) (C := RX9) (T := TX9) (N := 23) hx hb hts iX9 hown hKK.1 hP 0 rfl rfl 0 (by decide) f7 (fun _ h9 => h9) rfl dX9_having_69 ?_
          refine lv_iload hx hb dX9_having_72 (lv_at hl 1 rfl) ?_
          refine lv_iconst (v := nI 2) hx hb dX9_having_74 (by decide) ?_
          refine nv_iadd hx hb dX9_having_75 ?_
          refine nv_iald (i := (32 + (4 * k)) + 2) hx hb hKK.1 hP 1 0 rfl rfl (by omega) (by decide) dX9_having_76 ?_
          have b_21 := hbB ((32 + (4 * k)) + 2)
          refine lv_i2l hx hb dX9_having_77 rfl ?_
          refine lv_aload_n hx hb dX9_having_78 rfl (lv_at hl 4 rfl) ?_
          refine va_get (D := G) (ci := 7) (C := RX9) (T := TX9) (N := 23) hx hb hts iX9 hown hKK.1 hP 0 rfl rfl 0 (by decide) f7 (fun _ h9 => h9) rfl dX9_having_79 ?_
          refine lv_iload hx hb dX9_having_82 (lv_at hl 1 rfl) ?_
          refine lv_iconst (v := nI 3) hx hb dX9_having_84 (by decide) ?_
          refine nv_iadd hx hb dX9_having_85 ?_
          refine nv_iald (i := (32 + (4 * k)) + 3) hx hb hKK.1 hP 1 0 rfl rfl (by omega) (by decide) dX9_having_86 ?_
          have b_22 := hbB ((32 + (4 * k)) + 3)
          refine lv_i2l hx hb dX9_having_87 rfl ?_
          refine roI hP hD hS hA [] rfl (runS (As := [.long ((nI h).toInt64), .long ((nI (B ((32 + (4 * k)) + 2))).toInt64), .long ((nI (B ((32 + (4 * k)) + 3))).toInt64)]) (rest := [.int (nI q)]) (isC := []) ⟨hx, hb, hml, hown, hts⟩ hKK hP hD rfl (by decide) (c_X9_is l G tA (nI h) ((h : Nat) : Int) (nI (B ((32 + (4 * k)) + 2))) ((B ((32 + (4 * k)) + 2) : Nat) : Int) (nI (B ((32 + (4 * k)) + 3))) ((B ((32 + (4 * k)) + 3) : Nat) : Int) (nI_toIntC (by omega)) (nI_toIntC (by omega)) (nI_toIntC (by omega)) _) (va_cwS 3 hts gX9_having_X9_is rfl rfl rfl (by decide +kernel) ⟨Nat.le_of_ble_eq_true rfl, Nat.le_of_ble_eq_true rfl⟩) rfl rfl hl.1 rfl (lv_room (Nat.le_of_ble_eq_true rfl)) dX9_having_88 ⟨Nat.le_of_ble_eq_true rfl, Nat.le_of_ble_eq_true rfl⟩) (fun _ => rfl) (fun r_23 u_24 H locs q_25 hP hS => ?_)
          rcases q_25 with ⟨rfl, p_26⟩ | ⟨rfl, p_26⟩
          · have p_26 : ((B ((32 + (4 * k)) + 2) : Nat) : Int) ≤ ((h : Nat) : Int) ∧ ((h : Nat) : Int) ≤ ((B ((32 + (4 * k)) + 3) : Nat) : Int) := p_26
            refine nv_if_eq (tgt := 98) (by omega) hx hb dX9_having_91 (by decide) (fun h => absurd h (by omega)) (fun _ => ?_)
            refine lv_iconst (v := nI 1) hx hb dX9_having_94 (by decide) ?_
            refine lv_goto (tgt := 99) hx hb dX9_having_95 (by decide) ?_
            refine nv_iadd hx hb dX9_having_99 ?_
            refine lv_istore (lv' := [(5, .int (nI (q + 1))), (8, .int (nI 1)), (7, .int (nI (32 + (4 * k)))), (6, .int (nI k)), (0, .ref (b 0)), (1, .int (nI mny)), (2, .int (nI t)), (3, .int (nI h)), (4, .int pe)]) hx hb dX9_having_100 hl (by decide) rfl (fun ls hl => ?_)
            refine lv_iinc (v := (nI (k + 1))) (lv' := [(6, .int (nI (k + 1))), (5, .int (nI (q + 1))), (8, .int (nI 1)), (7, .int (nI (32 + (4 * k)))), (0, .ref (b 0)), (1, .int (nI mny)), (2, .int (nI t)), (3, .int (nI h)), (4, .int pe)]) hx hb dX9_having_102 hl (k := 3) rfl (nI_add k 1) (by decide) rfl (fun ls hl => ?_)
            refine lv_goto (tgt := 6) hx hb dX9_having_105 (by decide) ?_
            exact ih_1 (k + 1, q + 1) (show mny - (k + 1) < mny - k from by omega) ⟨(show (k + 1) ≤ mny from by omega), (show (q + 1) = cntN (havB B t h PE) (k + 1) from by rw [cntN_s, hq]; first | rw [if_pos (show havB B t h PE k = true from decide_eq_true (by omega))] | rw [if_neg (show ¬ (havB B t h PE k = true) from fun z => absurd (of_decide_eq_true z) (by omega))]), (show (q + 1) ≤ (k + 1) from by omega)⟩ _ _ _ (lv_sub hl [0, 1, 4, 5, 6, 7, 8] rfl) hP hD hS
          · have p_26 : ¬ (((B ((32 + (4 * k)) + 2) : Nat) : Int) ≤ ((h : Nat) : Int) ∧ ((h : Nat) : Int) ≤ ((B ((32 + (4 * k)) + 3) : Nat) : Int)) := p_26
            refine nv_if_eq (tgt := 98) (by omega) hx hb dX9_having_91 (by decide) (fun _ => ?_) (fun h => absurd h (by omega))
            refine lv_iconst (v := nI 0) hx hb dX9_having_98 (by decide) ?_
            refine nv_iadd hx hb dX9_having_99 ?_
            refine lv_istore (lv' := [(5, .int (nI (q + 0))), (8, .int (nI 1)), (7, .int (nI (32 + (4 * k)))), (6, .int (nI k)), (0, .ref (b 0)), (1, .int (nI mny)), (2, .int (nI t)), (3, .int (nI h)), (4, .int pe)]) hx hb dX9_having_100 hl (by decide) rfl (fun ls hl => ?_)
            refine lv_iinc (v := (nI (k + 1))) (lv' := [(6, .int (nI (k + 1))), (5, .int (nI (q + 0))), (8, .int (nI 1)), (7, .int (nI (32 + (4 * k)))), (0, .ref (b 0)), (1, .int (nI mny)), (2, .int (nI t)), (3, .int (nI h)), (4, .int pe)]) hx hb dX9_having_102 hl (k := 3) rfl (nI_add k 1) (by decide) rfl (fun ls hl => ?_)
            refine lv_goto (tgt := 6) hx hb dX9_having_105 (by decide) ?_
            exact ih_1 (k + 1, q + 0) (show mny - (k + 1) < mny - k from by omega) ⟨(show (k + 1) ≤ mny from by omega), (show (q + 0) = cntN (havB B t h PE) (k + 1) from by rw [cntN_s, hq]; first | rw [if_pos (show havB B t h PE k = true from decide_eq_true (by omega))] | rw [if_neg (show ¬ (havB B t h PE k = true) from fun z => absurd (of_decide_eq_true z) (by omega))]), (show (q + 0) ≤ (k + 1) from by omega)⟩ _ _ _ (lv_sub hl [0, 1, 4, 5, 6, 7, 8] rfl) hP hD hS

def okB (ok : Bool) (n lim : Nat) (X B : Nat → Nat) : Nat → Nat := if ok = true then (if n < lim then X else B) else B
def rowM2 (B : Nat → Nat) (q j x0 x1 : Nat) : Nat → Nat := updN (updN (updN B q x0) (q + 1) x1) j (B j + 1)
def rowM3 (B : Nat → Nat) (q j x0 x1 x2 : Nat) : Nat → Nat := updN (updN (updN (updN B q x0) (q + 1) x1) (q + 2) x2) j (B j + 1)
def rowM4 (B : Nat → Nat) (q j x0 x1 x2 x3 : Nat) : Nat → Nat := updN (updN (updN (updN (updN B q x0) (q + 1) x1) (q + 2) x2) (q + 3) x3) j (B j + 1)
def termX (B : Nat → Nat) (k c f : Nat) : Nat → Nat := updN (updN (updN B (8 + 3 * B 0) k) (8 + 3 * B 0 + 1) c) (8 + 3 * B 0 + 2) f
def wrth (X : Nat → Nat) (t n : Nat) : Nat → Nat := it (fun p X => updN X (156 + 8 * p + t) 0) n X
def termB (B : Nat → Nat) (k c f : Nat) : Nat → Nat := updN (wrth (termX B k c f) (B 0) 5) 0 (wrth (termX B k c f) (B 0) 5 0 + 1)
theorem wrth_s (X : Nat → Nat) (t n : Nat) : wrth X t (n + 1) = updN (wrth X t n) (156 + 8 * n + t) 0 := rfl
theorem wrth_0 (X : Nat → Nat) (t : Nat) : wrth X t 0 = X := rfl

set_option maxHeartbeats 4000000 in
set_option maxRecDepth 100000 in
theorem c_X9_term (l : Launch) (G : va_G) (tA : Nat → ClassId) (b : Nat → Nat) (qu : Nat) (ab : Int64) (bl : Int64) (tyd : Nat) (at0 : Nat) (sta : Nat) (tok : Nat) (val : Nat) (man : Nat) (B : Nat → Nat) (rf : Nat → Int32) (kd : Int32) (KD : Int) (cp : Int32) (CP : Int) (fe : Int32) (FE : Int) (hWB : WB B) (hqu : qu < 2) (hkd : kd.toInt = KD) (hcp : cp.toInt = CP) (hfe : fe.toInt = FE) : CtI l yX9_term wsX9_term ({ frames := 2, cells := 0, slots := 0, locals := 42 }) G tA [.ref (b 0), .int kd, .int cp, .int fe] ([(b 0, .inr (7, [.ref (b 1), .ref (b 2), .ref (b 3), .ref (b 4), .ref (b 5), .int (nI qu), .long ab, .long bl, .ref (b 6), .int (nI tyd), .int (nI at0), .int (nI sta), .int (nI tok), .int (nI val), .ref (b 7), .int (nI man), .ref (b 8), .ref (b 9), .ref (b 10), .ref (b 11), .ref (b 12), .ref (b 13), .ref (b 14)])), (b 1, .inl (tA 0, 212, .inl (nF B))), (b 5, .inl (tA 0, 3, .inl rf))]) (fun (r : Int32) (_ : Unit) => r = okR (okT KD CP FE) (B 0) 8) (fun (_ : Unit) => [(b 0, .inr (7, [.ref (b 1), .ref (b 2), .ref (b 3), .ref (b 4), .ref (b 5), .int (nI qu), .long ab, .long bl, .ref (b 6), .int (nI tyd), .int (nI at0), .int (nI sta), .int (nI tok), .int (nI val), .ref (b 7), .int (nI man), .ref (b 8), .ref (b 9), .ref (b 10), .ref (b 11), .ref (b 12), .ref (b 13), .ref (b 14)])), (b 1, .inl (tA 0, 212, .inl (nF (okB (okT KD CP FE) (B 0) 8 (termB B KD.toNat CP.toNat FE.toNat) B)))), (b 5, .inl (tA 0, 3, .inl (rfS (okT KD CP FE) (B 0) 8 qu rf)))]) 0 0 := by
  refine enterI (cc := cX9_term) (maxL := 6) (ret := (some .int)) (by decide) rfl (Nat.le_of_ble_eq_true rfl) ?_
  intro p0 e0 s m args below meth c0_ A ls hx hb hml hr hts hown hlocks hin hKK hA hP hD hl hS
  have hown : s.vm.findClass RX9 = some m.cls := hown
  have hl : lv_has ls 6 [(0, .ref (b 0)), (1, .int kd), (2, .int cp), (3, .int fe)] := hl
  have f71 := hts (Cond.constantLong RX9 71 (5)) (List.mem_of_getElem? (i := 1) rfl)
  have f73 := hts (Cond.constantLong RX9 73 (3)) (List.mem_of_getElem? (i := 2) rfl)
  have f75 := hts (Cond.constantLong RX9 75 (9)) (List.mem_of_getElem? (i := 3) rfl)
  have f7 := hts (Cond.fieldLink RX9 7 "LentTermsModel" "book" "[I") (List.mem_of_getElem? (i := 4) rfl)
  have iX9 : ∀ w ∈ wsX90, w ∈ wsX9_term := by decide +kernel
  obtain ⟨⟨hn0, hn1, hn2, hn3, hn4, hn5⟩, hbB, hv0, hv1, hv2, hv3, hv4, hv5, hv6, hv7⟩ := id hWB
  have h256 := p256 hn0
  refine lv_iload_n hx hb dX9_term_0 rfl (lv_at hl 1 rfl) ?_
  refine lv_i2l hx hb dX9_term_1 rfl ?_
  refine lv_lconst (v := (nI 0).toInt64) hx hb dX9_term_2 (by decide +kernel) ?_
  refine lv_ldc2 (v := 5) hx hb hown f71 dX9_term_3 ?_
  refine nv_topl (y := (nI 5).toInt64) (by decide +kernel) ?_
  refine roI hP hD hS hA [] rfl (runS (As := [.long kd.toInt64, .long ((nI 0).toInt64), .long ((nI 5).toInt64)]) (rest := []) (isC := []) ⟨hx, hb, hml, hown, hts⟩ hKK hP hD rfl (by decide) (c_X9_is l G tA kd KD (nI 0) (0 : Int) (nI 5) (5 : Int) hkd rfl rfl _) (va_cwS 3 hts gX9_term_X9_is rfl rfl rfl (by decide +kernel) ⟨Nat.le_of_ble_eq_true rfl, Nat.le_of_ble_eq_true rfl⟩) rfl rfl hl.1 rfl (lv_room (Nat.le_of_ble_eq_true rfl)) dX9_term_6 ⟨Nat.le_of_ble_eq_true rfl, Nat.le_of_ble_eq_true rfl⟩) (fun _ => rfl) (fun r_1 u_2 H locs q_3 hP hS => ?_)
  rcases q_3 with ⟨rfl, p_4⟩ | ⟨rfl, p_4⟩
  · have p_4 : (0 : Int) ≤ KD ∧ KD ≤ (5 : Int) := p_4
    refine nv_if_eq (tgt := 36) (by omega) hx hb dX9_term_9 (by decide) (fun h => absurd h (by omega)) (fun _ => ?_)
    refine lv_iload_n hx hb dX9_term_12 rfl (lv_at hl 2 rfl) ?_
    refine lv_i2l hx hb dX9_term_13 rfl ?_
    refine lv_lconst (v := (nI 1).toInt64) hx hb dX9_term_14 (by decide +kernel) ?_
    refine lv_ldc2 (v := 3) hx hb hown f73 dX9_term_15 ?_
    refine nv_topl (y := (nI 3).toInt64) (by decide +kernel) ?_
    refine roI hP hD hS hA [] rfl (runS (As := [.long cp.toInt64, .long ((nI 1).toInt64), .long ((nI 3).toInt64)]) (rest := []) (isC := []) ⟨hx, hb, hml, hown, hts⟩ hKK hP hD rfl (by decide) (c_X9_is l G tA cp CP (nI 1) (1 : Int) (nI 3) (3 : Int) hcp rfl rfl _) (va_cwS 3 hts gX9_term_X9_is rfl rfl rfl (by decide +kernel) ⟨Nat.le_of_ble_eq_true rfl, Nat.le_of_ble_eq_true rfl⟩) rfl rfl hl.1 rfl (lv_room (Nat.le_of_ble_eq_true rfl)) dX9_term_18 ⟨Nat.le_of_ble_eq_true rfl, Nat.le_of_ble_eq_true rfl⟩) (fun _ => rfl) (fun r_6 u_7 H locs q_8 hP hS => ?_)
    rcases q_8 with ⟨rfl, p_9⟩ | ⟨rfl, p_9⟩
    · have p_9 : (1 : Int) ≤ CP ∧ CP ≤ (3 : Int) := p_9
      refine nv_if_eq (tgt := 36) (by omega) hx hb dX9_term_21 (by decide) (fun h => absurd h (by omega)) (fun _ => ?_)
      refine lv_iload_n hx hb dX9_term_24 rfl (lv_at hl 3 rfl) ?_
      refine lv_i2l hx hb dX9_term_25 rfl ?_
      refine lv_lconst (v := (nI 0).toInt64) hx hb dX9_term_26 (by decide +kernel) ?_
      refine lv_ldc2 (v := 9) hx hb hown f75 dX9_term_27 ?_
      refine nv_topl (y := (nI 9).toInt64) (by decide +kernel) ?_
      refine roI hP hD hS hA [] rfl (runS (As := [.long fe.toInt64, .long ((nI 0).toInt64), .long ((nI 9).toInt64)]) (rest := []) (isC := []) ⟨hx, hb, hml, hown, hts⟩ hKK hP hD rfl (by decide) (c_X9_is l G tA fe FE (nI 0) (0 : Int) (nI 9) (9 : Int) hfe rfl rfl _) (va_cwS 3 hts gX9_term_X9_is rfl rfl rfl (by decide +kernel) ⟨Nat.le_of_ble_eq_true rfl, Nat.le_of_ble_eq_true rfl⟩) rfl rfl hl.1 rfl (lv_room (Nat.le_of_ble_eq_true rfl)) dX9_term_30 ⟨Nat.le_of_ble_eq_true rfl, Nat.le_of_ble_eq_true rfl⟩) (fun _ => rfl) (fun r_11 u_12 H locs q_13 hP hS => ?_)
      rcases q_13 with ⟨rfl, p_14⟩ | ⟨rfl, p_14⟩
      · have p_14 : (0 : Int) ≤ FE ∧ FE ≤ (9 : Int) := p_14
        refine nv_if_ne (tgt := 41) (by omega) hx hb dX9_term_33 (by decide) (fun _ => ?_) (fun h => absurd h (by omega))
        have hok : okT KD CP FE = true := by simp only [okT, decide_eq_true_eq]; omega
        obtain ⟨kdn, h_kdn, rfl⟩ := toN (x := kd) (by omega)
        have t_kdn : (nI kdn).toInt = (kdn : Int) := nI_toInt h_kdn
        have z_kdn : KD.toNat = kdn := by omega
        obtain ⟨cpn, h_cpn, rfl⟩ := toN (x := cp) (by omega)
        have t_cpn : (nI cpn).toInt = (cpn : Int) := nI_toInt h_cpn
        have z_cpn : CP.toNat = cpn := by omega
        obtain ⟨fen, h_fen, rfl⟩ := toN (x := fe) (by omega)
        have t_fen : (nI fen).toInt = (fen : Int) := nI_toInt h_fen
        have z_fen : FE.toNat = fen := by omega
        refine lv_aload_n hx hb dX9_term_41 rfl (lv_at hl 0 rfl) ?_
        refine va_get (D := G) (ci := 7) (C := RX9) (T := TX9) (N := 23) hx hb hts iX9 hown hKK.1 hP 0 rfl rfl 0 (by decide) f7 (fun _ h9 => h9) rfl dX9_term_42 ?_
        refine lv_iconst (v := nI 0) hx hb dX9_term_45 (by decide) ?_
        refine nv_iald (i := 0) hx hb hKK.1 hP 1 0 rfl rfl (by omega) (by decide) dX9_term_46 ?_
        have b_16 := hbB 0
        refine lv_bipush (v := nI 8) hx hb dX9_term_47 (by decide +kernel) ?_
        refine nv_icmp_ne (tgt := 57) (by omega) (by omega) hx hb dX9_term_49 (by decide) (fun c_17 => ?_) (fun c_17 => ?_)
        · refine lv_aload_n hx hb dX9_term_57 rfl (lv_at hl 0 rfl) ?_
          refine va_get (D := G) (ci := 7) (C := RX9) (T := TX9) (N := 23) hx hb hts iX9 hown hKK.1 hP 0 rfl rfl 0 (by decide) f7 (fun _ h9 => h9) rfl dX9_term_58 ?_
          refine lv_iconst (v := nI 0) hx hb dX9_term_61 (by decide) ?_
          refine nv_iald (i := 0) hx hb hKK.1 hP 1 0 rfl rfl (by omega) (by decide) dX9_term_62 ?_
          have b_18 := hbB 0
          refine lv_istore (lv' := [(4, .int (nI (B 0))), (0, .ref (b 0)), (1, .int (nI kdn)), (2, .int (nI cpn)), (3, .int (nI fen))]) hx hb dX9_term_63 hl (by decide) rfl (fun ls hl => ?_)
          refine lv_aload_n hx hb dX9_term_65 rfl (lv_at hl 1 rfl) ?_
          refine va_get (D := G) (ci := 7) (C := RX9) (T := TX9) (N := 23) hx hb hts iX9 hown hKK.1 hP 0 rfl rfl 0 (by decide) f7 (fun _ h9 => h9) rfl dX9_term_66 ?_
          refine lv_bipush (v := nI 8) hx hb dX9_term_69 (by decide +kernel) ?_
          refine lv_iconst (v := nI 3) hx hb dX9_term_71 (by decide) ?_
          refine lv_iload hx hb dX9_term_72 (lv_at hl 0 rfl) ?_
          refine nv_imul hx hb dX9_term_74 ?_
          refine nv_iadd hx hb dX9_term_75 ?_
          refine lv_iload_n hx hb dX9_term_76 rfl (lv_at hl 2 rfl) ?_
          refine nv_iast (i := 8 + (3 * (B 0))) hx hb hKK.1 hP hD hS 1 0 rfl rfl (by omega) (by decide) dX9_term_77 [(b 0, .inr (7, [.ref (b 1), .ref (b 2), .ref (b 3), .ref (b 4), .ref (b 5), .int (nI qu), .long ab, .long bl, .ref (b 6), .int (nI tyd), .int (nI at0), .int (nI sta), .int (nI tok), .int (nI val), .ref (b 7), .int (nI man), .ref (b 8), .ref (b 9), .ref (b 10), .ref (b 11), .ref (b 12), .ref (b 13), .ref (b 14)])), (b 1, .inl (tA 0, 212, .inl (nF (updN B (8 + (3 * (B 0))) kdn)))), (b 5, .inl (tA 0, 3, .inl rf))] rfl (fun H locs hP hD hS => ?_)
          have B_19 := updN_lt hbB (8 + (3 * (B 0))) (show kdn < 1048576 from by omega)
          refine lv_aload_n hx hb dX9_term_78 rfl (lv_at hl 1 rfl) ?_
          refine va_get (D := G) (ci := 7) (C := RX9) (T := TX9) (N := 23) hx hb hts iX9 hown hKK.1 hP 0 rfl rfl 0 (by decide) f7 (fun _ h9 => h9) rfl dX9_term_79 ?_
          refine lv_bipush (v := nI 8) hx hb dX9_term_82 (by decide +kernel) ?_
          refine lv_iconst (v := nI 3) hx hb dX9_term_84 (by decide) ?_
          refine lv_iload hx hb dX9_term_85 (lv_at hl 0 rfl) ?_
          refine nv_imul hx hb dX9_term_87 ?_
          refine nv_iadd hx hb dX9_term_88 ?_
          refine lv_iconst (v := nI 1) hx hb dX9_term_89 (by decide) ?_
          refine nv_iadd hx hb dX9_term_90 ?_
          refine lv_iload_n hx hb dX9_term_91 rfl (lv_at hl 3 rfl) ?_
          refine nv_iast (i := (8 + (3 * (B 0))) + 1) hx hb hKK.1 hP hD hS 1 0 rfl rfl (by omega) (by decide) dX9_term_92 [(b 0, .inr (7, [.ref (b 1), .ref (b 2), .ref (b 3), .ref (b 4), .ref (b 5), .int (nI qu), .long ab, .long bl, .ref (b 6), .int (nI tyd), .int (nI at0), .int (nI sta), .int (nI tok), .int (nI val), .ref (b 7), .int (nI man), .ref (b 8), .ref (b 9), .ref (b 10), .ref (b 11), .ref (b 12), .ref (b 13), .ref (b 14)])), (b 1, .inl (tA 0, 212, .inl (nF (updN (updN B (8 + (3 * (B 0))) kdn) ((8 + (3 * (B 0))) + 1) cpn)))), (b 5, .inl (tA 0, 3, .inl rf))] rfl (fun H locs hP hD hS => ?_)
          have B_20 := updN_lt B_19 ((8 + (3 * (B 0))) + 1) (show cpn < 1048576 from by omega)
          refine lv_aload_n hx hb dX9_term_93 rfl (lv_at hl 1 rfl) ?_
          refine va_get (D := G) (ci := 7) (C := RX9) (T := TX9) (N := 23) hx hb hts iX9 hown hKK.1 hP 0 rfl rfl 0 (by decide) f7 (fun _ h9 => h9) rfl dX9_term_94 ?_
          refine lv_bipush (v := nI 8) hx hb dX9_term_97 (by decide +kernel) ?_
          refine lv_iconst (v := nI 3) hx hb dX9_term_99 (by decide) ?_
          refine lv_iload hx hb dX9_term_100 (lv_at hl 0 rfl) ?_
          refine nv_imul hx hb dX9_term_102 ?_
          refine nv_iadd hx hb dX9_term_103 ?_
          refine lv_iconst (v := nI 2) hx hb dX9_term_104 (by decide) ?_
          refine nv_iadd hx hb dX9_term_105 ?_
          refine lv_iload_n hx hb dX9_term_106 rfl (lv_at hl 4 rfl) ?_
          refine nv_iast (i := (8 + (3 * (B 0))) + 2) hx hb hKK.1 hP hD hS 1 0 rfl rfl (by omega) (by decide) dX9_term_107 [(b 0, .inr (7, [.ref (b 1), .ref (b 2), .ref (b 3), .ref (b 4), .ref (b 5), .int (nI qu), .long ab, .long bl, .ref (b 6), .int (nI tyd), .int (nI at0), .int (nI sta), .int (nI tok), .int (nI val), .ref (b 7), .int (nI man), .ref (b 8), .ref (b 9), .ref (b 10), .ref (b 11), .ref (b 12), .ref (b 13), .ref (b 14)])), (b 1, .inl (tA 0, 212, .inl (nF (updN (updN (updN B (8 + (3 * (B 0))) kdn) ((8 + (3 * (B 0))) + 1) cpn) ((8 + (3 * (B 0))) + 2) fen)))), (b 5, .inl (tA 0, 3, .inl rf))] rfl (fun H locs hP hD hS => ?_)
          have B_21 := updN_lt B_20 ((8 + (3 * (B 0))) + 2) (show fen < 1048576 from by omega)
          refine lv_iconst (v := nI 0) hx hb dX9_term_108 (by decide) ?_
          refine lv_istore (lv' := [(5, .int (nI 0)), (4, .int (nI (B 0))), (0, .ref (b 0)), (1, .int (nI kdn)), (2, .int (nI cpn)), (3, .int (nI fen))]) hx hb dX9_term_109 hl (by decide) rfl (fun ls hl => ?_)
          refine wloop (σ := (Nat) × (Nat → Nat)) (fun | (p, X) => 5 - p) (fun | (p, X) => (p ≤ 5) ∧ (X = wrth (termX B kdn cpn fen) (B 0) p)) (fun | (p, X) => [(5, .int (nI p)), (4, .int (nI (B 0))), (0, .ref (b 0)), (1, .int (nI kdn)), (2, .int (nI cpn)), (3, .int (nI fen))]) (fun | (p, X) => [(b 0, .inr (7, [.ref (b 1), .ref (b 2), .ref (b 3), .ref (b 4), .ref (b 5), .int (nI qu), .long ab, .long bl, .ref (b 6), .int (nI tyd), .int (nI at0), .int (nI sta), .int (nI tok), .int (nI val), .ref (b 7), .int (nI man), .ref (b 8), .ref (b 9), .ref (b 10), .ref (b 11), .ref (b 12), .ref (b 13), .ref (b 14)])), (b 1, .inl (tA 0, 212, .inl (nF X))), (b 5, .inl (tA 0, 3, .inl rf))]) (0, updN (updN (updN B (8 + (3 * (B 0))) kdn) ((8 + (3 * (B 0))) + 1) cpn) ((8 + (3 * (B 0))) + 2) fen) ⟨(show 0 ≤ 5 from by omega), (show (updN (updN (updN B (8 + (3 * (B 0))) kdn) ((8 + (3 * (B 0))) + 1) cpn) ((8 + (3 * (B 0))) + 2) fen) = wrth (termX B kdn cpn fen) (B 0) 0 from rfl)⟩ (lv_sub hl [0, 1, 2, 3, 4, 5] rfl) hP hD hS ?_
          rintro ⟨p, X⟩ ⟨hp, hX⟩ ih_22 ls H locs hl hP hD hS
          have hl : lv_has ls 6 [(5, .int (nI p)), (4, .int (nI (B 0))), (0, .ref (b 0)), (1, .int (nI kdn)), (2, .int (nI cpn)), (3, .int (nI fen))] := hl
          have hP : va_P G vwCl [(b 0, .inr (7, [.ref (b 1), .ref (b 2), .ref (b 3), .ref (b 4), .ref (b 5), .int (nI qu), .long ab, .long bl, .ref (b 6), .int (nI tyd), .int (nI at0), .int (nI sta), .int (nI tok), .int (nI val), .ref (b 7), .int (nI man), .ref (b 8), .ref (b 9), .ref (b 10), .ref (b 11), .ref (b 12), .ref (b 13), .ref (b 14)])), (b 1, .inl (tA 0, 212, .inl (nF X))), (b 5, .inl (tA 0, 3, .inl rf))] H := hP
          have hD : va_D A [(b 0, .inr (7, [.ref (b 1), .ref (b 2), .ref (b 3), .ref (b 4), .ref (b 5), .int (nI qu), .long ab, .long bl, .ref (b 6), .int (nI tyd), .int (nI at0), .int (nI sta), .int (nI tok), .int (nI val), .ref (b 7), .int (nI man), .ref (b 8), .ref (b 9), .ref (b 10), .ref (b 11), .ref (b 12), .ref (b 13), .ref (b 14)])), (b 1, .inl (tA 0, 212, .inl (nF X))), (b 5, .inl (tA 0, 3, .inl rf))] := hD
          have hp : p ≤ 5 := hp
          have hX : X = wrth (termX B kdn cpn fen) (B 0) p := hX
          refine lv_iload hx hb dX9_term_111 (lv_at hl 0 rfl) ?_
          refine lv_iconst (v := nI 5) hx hb dX9_term_113 (by decide) ?_
          refine nv_icmp_ge (tgt := 141) (by omega) (by omega) hx hb dX9_term_114 (by decide) (fun c_23 => ?_) (fun c_23 => ?_)
          · have sx_24 : X = wrth (termX B kdn cpn fen) (B 0) 5 := by rw [hX, show p = 5 from by omega]
            subst sx_24
            refine lv_aload_n hx hb dX9_term_141 rfl (lv_at hl 2 rfl) ?_
            refine va_get (D := G) (ci := 7) (C := RX9) (T := TX9) (N := 23) hx hb hts iX9 hown hKK.1 hP 0 rfl rfl 0 (by decide) f7 (fun _ h9 => h9) rfl dX9_term_142 ?_
            refine lv_iconst (v := nI 0) hx hb dX9_term_145 (by decide) ?_
            refine lv_dup2_11 hx hb dX9_term_146 rfl rfl ?_
            refine nv_iald (i := 0) hx hb hKK.1 hP 1 0 rfl rfl (by omega) (by decide) dX9_term_147 ?_
            refine lv_iconst (v := nI 1) hx hb dX9_term_148 (by decide) ?_
            refine nv_iadd hx hb dX9_term_149 ?_
            refine nv_iast (i := 0) hx hb hKK.1 hP hD hS 1 0 rfl rfl (by omega) (by decide) dX9_term_150 [(b 0, .inr (7, [.ref (b 1), .ref (b 2), .ref (b 3), .ref (b 4), .ref (b 5), .int (nI qu), .long ab, .long bl, .ref (b 6), .int (nI tyd), .int (nI at0), .int (nI sta), .int (nI tok), .int (nI val), .ref (b 7), .int (nI man), .ref (b 8), .ref (b 9), .ref (b 10), .ref (b 11), .ref (b 12), .ref (b 13), .ref (b 14)])), (b 1, .inl (tA 0, 212, .inl (nF (updN (wrth (termX B kdn cpn fen) (B 0) 5) 0 (((wrth (termX B kdn cpn fen) (B 0) 5) 0) + 1))))), (b 5, .inl (tA 0, 3, .inl rf))] rfl (fun H locs hP hD hS => ?_)
            refine lv_iload hx hb dX9_term_151 (lv_at hl 1 rfl) ?_
            exact retI hx hb hr hlocks hS hP hD () (by rw [hok]; unfold okB rfS; rw [if_pos rfl, if_pos (by omega), if_pos rfl, if_pos (by omega), z_kdn, z_cpn, z_fen]; try rfl) (by rw [hok]; unfold okR; rw [if_pos rfl, if_pos (by omega)]; try exact rfl) dX9_term_153
          · refine lv_aload_n hx hb dX9_term_117 rfl (lv_at hl 2 rfl) ?_
            refine va_get (D := G) (ci := 7) (C := RX9) (T := TX9) (N := 23) hx hb hts iX9 hown hKK.1 hP 0 rfl rfl 0 (by decide) f7 (fun _ h9 => h9) rfl dX9_term_118 ?_
            refine lv_sipush (v := nI 156) hx hb dX9_term_121 (by decide +kernel) ?_
            refine lv_bipush (v := nI 8) hx hb dX9_term_124 (by decide +kernel) ?_
            refine lv_iload hx hb dX9_term_126 (lv_at hl 0 rfl) ?_
            refine nv_imul hx hb dX9_term_128 ?_
            refine nv_iadd hx hb dX9_term_129 ?_
            refine lv_iload hx hb dX9_term_130 (lv_at hl 1 rfl) ?_
            refine nv_iadd hx hb dX9_term_132 ?_
            refine lv_iconst (v := nI 0) hx hb dX9_term_133 (by decide) ?_
            refine nv_iast (i := (156 + (8 * p)) + (B 0)) hx hb hKK.1 hP hD hS 1 0 rfl rfl (by omega) (by decide) dX9_term_134 [(b 0, .inr (7, [.ref (b 1), .ref (b 2), .ref (b 3), .ref (b 4), .ref (b 5), .int (nI qu), .long ab, .long bl, .ref (b 6), .int (nI tyd), .int (nI at0), .int (nI sta), .int (nI tok), .int (nI val), .ref (b 7), .int (nI man), .ref (b 8), .ref (b 9), .ref (b 10), .ref (b 11), .ref (b 12), .ref (b 13), .ref (b 14)])), (b 1, .inl (tA 0, 212, .inl (nF (updN X ((156 + (8 * p)) + (B 0)) 0)))), (b 5, .inl (tA 0, 3, .inl rf))] rfl (fun H locs hP hD hS => ?_)
            refine lv_iinc (v := (nI (p + 1))) (lv' := [(5, .int (nI (p + 1))), (4, .int (nI (B 0))), (0, .ref (b 0)), (1, .int (nI kdn)), (2, .int (nI cpn)), (3, .int (nI fen))]) hx hb dX9_term_135 hl (k := 0) rfl (nI_add p 1) (by decide) rfl (fun ls hl => ?_)
            refine lv_goto (tgt := 111) hx hb dX9_term_138 (by decide) ?_
            exact ih_22 (p + 1, updN X ((156 + (8 * p)) + (B 0)) 0) (show 5 - (p + 1) < 5 - p from by omega) ⟨(show (p + 1) ≤ 5 from by omega), (show (updN X ((156 + (8 * p)) + (B 0)) 0) = wrth (termX B kdn cpn fen) (B 0) (p + 1) from by rw [wrth_s, hX])⟩ _ _ _ (lv_sub hl [0, 1, 2, 3, 4, 5] rfl) hP hD hS
        · refine lv_aload_n hx hb dX9_term_52 rfl (lv_at hl 0 rfl) ?_
          refine rwI hP hD hS hA [0, 2] rfl (runV (As := []) (rest := []) (isC := [0, 2]) ⟨hx, hb, hml, hown, hts⟩ hKK hP hD rfl (by decide) (c_X9_full l G tA b qu ab bl tyd at0 sta tok val man rf (hqu) _) (cwV 0 hts gX9_term_X9_full rfl rfl rfl (by decide +kernel) ⟨Nat.le_of_ble_eq_true rfl, Nat.le_of_ble_eq_true rfl⟩) rfl rfl rfl rfl hl.1 rfl (lv_room (Nat.le_of_ble_eq_true rfl)) dX9_term_53 ⟨Nat.le_of_ble_eq_true rfl, Nat.le_of_ble_eq_true rfl⟩) (fun (_ : Unit) => [(b 0, .inr (7, [.ref (b 1), .ref (b 2), .ref (b 3), .ref (b 4), .ref (b 5), .int (nI qu), .long ab, .long bl, .ref (b 6), .int (nI tyd), .int (nI at0), .int (nI sta), .int (nI tok), .int (nI val), .ref (b 7), .int (nI man), .ref (b 8), .ref (b 9), .ref (b 10), .ref (b 11), .ref (b 12), .ref (b 13), .ref (b 14)])), (b 1, .inl (tA 0, 212, .inl (nF B))), (b 5, .inl (tA 0, 3, .inl (bump qu rf 2)))]) (fun _ => rfl) (fun _ => rfl) (fun _ => rfl) (fun r_25 u_26 H locs q_27 hP hD hS => ?_)
          subst q_27
          exact retI hx hb hr hlocks hS hP hD () (by rw [hok]; unfold okB rfS; rw [if_pos rfl, if_neg (by omega), if_pos rfl, if_neg (by omega)]) (by rw [hok]; unfold okR; rw [if_pos rfl, if_neg (by omega)]) dX9_term_56
      · have p_14 : ¬ ((0 : Int) ≤ FE ∧ FE ≤ (9 : Int)) := p_14
        refine nv_if_ne (tgt := 41) (by omega) hx hb dX9_term_33 (by decide) (fun h => absurd h (by omega)) (fun _ => ?_)
        refine lv_aload_n hx hb dX9_term_36 rfl (lv_at hl 0 rfl) ?_
        refine rwI hP hD hS hA [0, 2] rfl (runV (As := []) (rest := []) (isC := [0, 2]) ⟨hx, hb, hml, hown, hts⟩ hKK hP hD rfl (by decide) (c_X9_bad l G tA b qu ab bl tyd at0 sta tok val man rf (hqu) _) (cwV 0 hts gX9_term_X9_bad rfl rfl rfl (by decide +kernel) ⟨Nat.le_of_ble_eq_true rfl, Nat.le_of_ble_eq_true rfl⟩) rfl rfl rfl rfl hl.1 rfl (lv_room (Nat.le_of_ble_eq_true rfl)) dX9_term_37 ⟨Nat.le_of_ble_eq_true rfl, Nat.le_of_ble_eq_true rfl⟩) (fun (_ : Unit) => [(b 0, .inr (7, [.ref (b 1), .ref (b 2), .ref (b 3), .ref (b 4), .ref (b 5), .int (nI qu), .long ab, .long bl, .ref (b 6), .int (nI tyd), .int (nI at0), .int (nI sta), .int (nI tok), .int (nI val), .ref (b 7), .int (nI man), .ref (b 8), .ref (b 9), .ref (b 10), .ref (b 11), .ref (b 12), .ref (b 13), .ref (b 14)])), (b 1, .inl (tA 0, 212, .inl (nF B))), (b 5, .inl (tA 0, 3, .inl (bump qu rf 0)))]) (fun _ => rfl) (fun _ => rfl) (fun _ => rfl) (fun r_29 u_30 H locs q_31 hP hD hS => ?_)
        subst q_31
        have hok : okT KD CP FE = false := by first | (simp only [okT, decide_eq_false_iff_not]; omega) | (simp only [okT, decide_eq_false_iff_not, z_sen]; omega)
        exact retI hx hb hr hlocks hS hP hD () (by rw [hok]; rfl) (by rw [hok]; rfl) dX9_term_40
    · have p_9 : ¬ ((1 : Int) ≤ CP ∧ CP ≤ (3 : Int)) := p_9
      refine nv_if_eq (tgt := 36) (by omega) hx hb dX9_term_21 (by decide) (fun _ => ?_) (fun h => absurd h (by omega))
      refine lv_aload_n hx hb dX9_term_36 rfl (lv_at hl 0 rfl) ?_
      refine rwI hP hD hS hA [0, 2] rfl (runV (As := []) (rest := []) (isC := [0, 2]) ⟨hx, hb, hml, hown, hts⟩ hKK hP hD rfl (by decide) (c_X9_bad l G tA b qu ab bl tyd at0 sta tok val man rf (hqu) _) (cwV 0 hts gX9_term_X9_bad rfl rfl rfl (by decide +kernel) ⟨Nat.le_of_ble_eq_true rfl, Nat.le_of_ble_eq_true rfl⟩) rfl rfl rfl rfl hl.1 rfl (lv_room (Nat.le_of_ble_eq_true rfl)) dX9_term_37 ⟨Nat.le_of_ble_eq_true rfl, Nat.le_of_ble_eq_true rfl⟩) (fun (_ : Unit) => [(b 0, .inr (7, [.ref (b 1), .ref (b 2), .ref (b 3), .ref (b 4), .ref (b 5), .int (nI qu), .long ab, .long bl, .ref (b 6), .int (nI tyd), .int (nI at0), .int (nI sta), .int (nI tok), .int (nI val), .ref (b 7), .int (nI man), .ref (b 8), .ref (b 9), .ref (b 10), .ref (b 11), .ref (b 12), .ref (b 13), .ref (b 14)])), (b 1, .inl (tA 0, 212, .inl (nF B))), (b 5, .inl (tA 0, 3, .inl (bump qu rf 0)))]) (fun _ => rfl) (fun _ => rfl) (fun _ => rfl) (fun r_33 u_34 H locs q_35 hP hD hS => ?_)
      subst q_35
      have hok : okT KD CP FE = false := by first | (simp only [okT, decide_eq_false_iff_not]; omega) | (simp only [okT, decide_eq_false_iff_not, z_sen]; omega)
      exact retI hx hb hr hlocks hS hP hD () (by rw [hok]; rfl) (by rw [hok]; rfl) dX9_term_40
  · have p_4 : ¬ ((0 : Int) ≤ KD ∧ KD ≤ (5 : Int)) := p_4
    refine nv_if_eq (tgt := 36) (by omega) hx hb dX9_term_9 (by decide) (fun _ => ?_) (fun h => absurd h (by omega))
    refine lv_aload_n hx hb dX9_term_36 rfl (lv_at hl 0 rfl) ?_
    refine rwI hP hD hS hA [0, 2] rfl (runV (As := []) (rest := []) (isC := [0, 2]) ⟨hx, hb, hml, hown, hts⟩ hKK hP hD rfl (by decide) (c_X9_bad l G tA b qu ab bl tyd at0 sta tok val man rf (hqu) _) (cwV 0 hts gX9_term_X9_bad rfl rfl rfl (by decide +kernel) ⟨Nat.le_of_ble_eq_true rfl, Nat.le_of_ble_eq_true rfl⟩) rfl rfl rfl rfl hl.1 rfl (lv_room (Nat.le_of_ble_eq_true rfl)) dX9_term_37 ⟨Nat.le_of_ble_eq_true rfl, Nat.le_of_ble_eq_true rfl⟩) (fun (_ : Unit) => [(b 0, .inr (7, [.ref (b 1), .ref (b 2), .ref (b 3), .ref (b 4), .ref (b 5), .int (nI qu), .long ab, .long bl, .ref (b 6), .int (nI tyd), .int (nI at0), .int (nI sta), .int (nI tok), .int (nI val), .ref (b 7), .int (nI man), .ref (b 8), .ref (b 9), .ref (b 10), .ref (b 11), .ref (b 12), .ref (b 13), .ref (b 14)])), (b 1, .inl (tA 0, 212, .inl (nF B))), (b 5, .inl (tA 0, 3, .inl (bump qu rf 0)))]) (fun _ => rfl) (fun _ => rfl) (fun _ => rfl) (fun r_37 u_38 H locs q_39 hP hD hS => ?_)
    subst q_39
    have hok : okT KD CP FE = false := by first | (simp only [okT, decide_eq_false_iff_not]; omega) | (simp only [okT, decide_eq_false_iff_not, z_sen]; omega)
    exact retI hx hb hr hlocks hS hP hD () (by rw [hok]; rfl) (by rw [hok]; rfl) dX9_term_40

set_option maxHeartbeats 4000000 in
set_option maxRecDepth 100000 in
theorem c_X9_loan (l : Launch) (G : va_G) (tA : Nat → ClassId) (b : Nat → Nat) (qu : Nat) (ab : Int64) (bl : Int64) (tyd : Nat) (at0 : Nat) (sta : Nat) (tok : Nat) (val : Nat) (man : Nat) (B : Nat → Nat) (rf : Nat → Int32) (pe : Int32) (PE : Int) (te : Int32) (TE : Int) (fa : Int32) (FA : Int) (lb : Int32) (LB : Int) (hWB : WB B) (hqu : qu < 2) (hpe : pe.toInt = PE) (hte : te.toInt = TE) (hfa : fa.toInt = FA) (hlb : lb.toInt = LB) : CtI l yX9_loan wsX9_loan ({ frames := 2, cells := 0, slots := 0, locals := 46 }) G tA [.ref (b 0), .int pe, .int te, .int fa, .int lb] ([(b 0, .inr (7, [.ref (b 1), .ref (b 2), .ref (b 3), .ref (b 4), .ref (b 5), .int (nI qu), .long ab, .long bl, .ref (b 6), .int (nI tyd), .int (nI at0), .int (nI sta), .int (nI tok), .int (nI val), .ref (b 7), .int (nI man), .ref (b 8), .ref (b 9), .ref (b 10), .ref (b 11), .ref (b 12), .ref (b 13), .ref (b 14)])), (b 1, .inl (tA 0, 212, .inl (nF B))), (b 5, .inl (tA 0, 3, .inl rf))]) (fun (r : Int32) (_ : Unit) => r = okR (okL (B 0) PE TE FA LB) (B 1) 10) (fun (_ : Unit) => [(b 0, .inr (7, [.ref (b 1), .ref (b 2), .ref (b 3), .ref (b 4), .ref (b 5), .int (nI qu), .long ab, .long bl, .ref (b 6), .int (nI tyd), .int (nI at0), .int (nI sta), .int (nI tok), .int (nI val), .ref (b 7), .int (nI man), .ref (b 8), .ref (b 9), .ref (b 10), .ref (b 11), .ref (b 12), .ref (b 13), .ref (b 14)])), (b 1, .inl (tA 0, 212, .inl (nF (okB (okL (B 0) PE TE FA LB) (B 1) 10 (rowM4 B (32 + 4 * B 1) 1 PE.toNat TE.toNat FA.toNat LB.toNat) B)))), (b 5, .inl (tA 0, 3, .inl (rfS (okL (B 0) PE TE FA LB) (B 1) 10 qu rf)))]) 0 0 := by
  refine enterI (cc := cX9_loan) (maxL := 6) (ret := (some .int)) (by decide) rfl (Nat.le_of_ble_eq_true rfl) ?_
  intro p0 e0 s m args below meth c0_ A ls hx hb hml hr hts hown hlocks hin hKK hA hP hD hl hS
  have hown : s.vm.findClass RX9 = some m.cls := hown
  have hl : lv_has ls 6 [(0, .ref (b 0)), (1, .int pe), (2, .int te), (3, .int fa), (4, .int lb)] := hl
  have f103 := hts (Cond.constantLong RX9 103 (23)) (List.mem_of_getElem? (i := 1) rfl)
  have f7 := hts (Cond.fieldLink RX9 7 "LentTermsModel" "book" "[I") (List.mem_of_getElem? (i := 2) rfl)
  have iX9 : ∀ w ∈ wsX90, w ∈ wsX9_loan := by decide +kernel
  obtain ⟨⟨hn0, hn1, hn2, hn3, hn4, hn5⟩, hbB, hv0, hv1, hv2, hv3, hv4, hv5, hv6, hv7⟩ := id hWB
  have h256 := p256 hn0
  refine lv_iload_n hx hb dX9_loan_0 rfl (lv_at hl 1 rfl) ?_
  refine roI hP hD hS hA [] rfl (runS (As := [.int pe]) (rest := []) (isC := []) ⟨hx, hb, hml, hown, hts⟩ hKK hP hD rfl (by decide) (c_X9_isOne l G tA pe PE hpe _) (va_cwS 1 hts gX9_loan_X9_isOne rfl rfl rfl (by decide +kernel) ⟨Nat.le_of_ble_eq_true rfl, Nat.le_of_ble_eq_true rfl⟩) rfl rfl hl.1 rfl (lv_room (Nat.le_of_ble_eq_true rfl)) dX9_loan_1 ⟨Nat.le_of_ble_eq_true rfl, Nat.le_of_ble_eq_true rfl⟩) (fun _ => rfl) (fun r_1 u_2 H locs q_3 hP hS => ?_)
  rcases q_3 with ⟨rfl, p_4⟩ | ⟨rfl, p_4⟩
  · have p_4 : 0 ≤ PE ∧ PE < 5 := p_4
    refine nv_if_eq (tgt := 40) (by omega) hx hb dX9_loan_4 (by decide) (fun h => absurd h (by omega)) (fun _ => ?_)
    refine lv_aload_n hx hb dX9_loan_7 rfl (lv_at hl 0 rfl) ?_
    refine lv_iload_n hx hb dX9_loan_8 rfl (lv_at hl 2 rfl) ?_
    refine roI hP hD hS hA [0, 1] rfl (runV (As := [.int te]) (rest := []) (isC := [0, 1]) ⟨hx, hb, hml, hown, hts⟩ hKK hP hD rfl (by decide) (c_X9_isTerm l G tA b qu ab bl tyd at0 sta tok val man B te TE (hWB) hte _) (cwV 1 hts gX9_loan_X9_isTerm rfl rfl rfl (by decide +kernel) ⟨Nat.le_of_ble_eq_true rfl, Nat.le_of_ble_eq_true rfl⟩) rfl rfl rfl rfl hl.1 rfl (lv_room (Nat.le_of_ble_eq_true rfl)) dX9_loan_9 ⟨Nat.le_of_ble_eq_true rfl, Nat.le_of_ble_eq_true rfl⟩) (fun _ => rfl) (fun r_6 u_7 H locs q_8 hP hS => ?_)
    rcases q_8 with ⟨rfl, p_9⟩ | ⟨rfl, p_9⟩
    · have p_9 : 0 ≤ TE ∧ TE < ((B 0 : Nat) : Int) := p_9
      refine nv_if_eq (tgt := 40) (by omega) hx hb dX9_loan_12 (by decide) (fun h => absurd h (by omega)) (fun _ => ?_)
      refine lv_iload hx hb dX9_loan_15 (lv_at hl 4 rfl) ?_
      refine lv_i2l hx hb dX9_loan_17 rfl ?_
      refine lv_lconst (v := (nI 0).toInt64) hx hb dX9_loan_18 (by decide +kernel) ?_
      refine lv_ldc2 (v := 23) hx hb hown f103 dX9_loan_19 ?_
      refine nv_topl (y := (nI 23).toInt64) (by decide +kernel) ?_
      refine roI hP hD hS hA [] rfl (runS (As := [.long lb.toInt64, .long ((nI 0).toInt64), .long ((nI 23).toInt64)]) (rest := []) (isC := []) ⟨hx, hb, hml, hown, hts⟩ hKK hP hD rfl (by decide) (c_X9_is l G tA lb LB (nI 0) (0 : Int) (nI 23) (23 : Int) hlb rfl rfl _) (va_cwS 3 hts gX9_loan_X9_is rfl rfl rfl (by decide +kernel) ⟨Nat.le_of_ble_eq_true rfl, Nat.le_of_ble_eq_true rfl⟩) rfl rfl hl.1 rfl (lv_room (Nat.le_of_ble_eq_true rfl)) dX9_loan_22 ⟨Nat.le_of_ble_eq_true rfl, Nat.le_of_ble_eq_true rfl⟩) (fun _ => rfl) (fun r_11 u_12 H locs q_13 hP hS => ?_)
      rcases q_13 with ⟨rfl, p_14⟩ | ⟨rfl, p_14⟩
      · have p_14 : (0 : Int) ≤ LB ∧ LB ≤ (23 : Int) := p_14
        refine nv_if_eq (tgt := 40) (by omega) hx hb dX9_loan_25 (by decide) (fun h => absurd h (by omega)) (fun _ => ?_)
        refine lv_iload_n hx hb dX9_loan_28 rfl (lv_at hl 3 rfl) ?_
        refine lv_i2l hx hb dX9_loan_29 rfl ?_
        refine lv_lconst (v := (nI 0).toInt64) hx hb dX9_loan_30 (by decide +kernel) ?_
        refine lv_iload hx hb dX9_loan_31 (lv_at hl 4 rfl) ?_
        refine lv_i2l hx hb dX9_loan_33 rfl ?_
        refine roI hP hD hS hA [] rfl (runS (As := [.long fa.toInt64, .long ((nI 0).toInt64), .long lb.toInt64]) (rest := []) (isC := []) ⟨hx, hb, hml, hown, hts⟩ hKK hP hD rfl (by decide) (c_X9_is l G tA fa FA (nI 0) (0 : Int) lb LB hfa rfl hlb _) (va_cwS 3 hts gX9_loan_X9_is rfl rfl rfl (by decide +kernel) ⟨Nat.le_of_ble_eq_true rfl, Nat.le_of_ble_eq_true rfl⟩) rfl rfl hl.1 rfl (lv_room (Nat.le_of_ble_eq_true rfl)) dX9_loan_34 ⟨Nat.le_of_ble_eq_true rfl, Nat.le_of_ble_eq_true rfl⟩) (fun _ => rfl) (fun r_16 u_17 H locs q_18 hP hS => ?_)
        rcases q_18 with ⟨rfl, p_19⟩ | ⟨rfl, p_19⟩
        · have p_19 : (0 : Int) ≤ FA ∧ FA ≤ LB := p_19
          refine nv_if_ne (tgt := 45) (by omega) hx hb dX9_loan_37 (by decide) (fun _ => ?_) (fun h => absurd h (by omega))
          have hok : okL (B 0) PE TE FA LB = true := by simp only [okL, decide_eq_true_eq]; omega
          obtain ⟨pen, h_pen, rfl⟩ := toN (x := pe) (by omega)
          have t_pen : (nI pen).toInt = (pen : Int) := nI_toInt h_pen
          have z_pen : PE.toNat = pen := by omega
          obtain ⟨ten, h_ten, rfl⟩ := toN (x := te) (by omega)
          have t_ten : (nI ten).toInt = (ten : Int) := nI_toInt h_ten
          have z_ten : TE.toNat = ten := by omega
          obtain ⟨fan, h_fan, rfl⟩ := toN (x := fa) (by omega)
          have t_fan : (nI fan).toInt = (fan : Int) := nI_toInt h_fan
          have z_fan : FA.toNat = fan := by omega
          obtain ⟨lbn, h_lbn, rfl⟩ := toN (x := lb) (by omega)
          have t_lbn : (nI lbn).toInt = (lbn : Int) := nI_toInt h_lbn
          have z_lbn : LB.toNat = lbn := by omega
          refine lv_aload_n hx hb dX9_loan_45 rfl (lv_at hl 0 rfl) ?_
          refine va_get (D := G) (ci := 7) (C := RX9) (T := TX9) (N := 23) hx hb hts iX9 hown hKK.1 hP 0 rfl rfl 0 (by decide) f7 (fun _ h9 => h9) rfl dX9_loan_46 ?_
          refine lv_iconst (v := nI 1) hx hb dX9_loan_49 (by decide) ?_
          refine nv_iald (i := 1) hx hb hKK.1 hP 1 0 rfl rfl (by omega) (by decide) dX9_loan_50 ?_
          have b_21 := hbB 1
          refine lv_bipush (v := nI 10) hx hb dX9_loan_51 (by decide +kernel) ?_
          refine nv_icmp_ne (tgt := 61) (by omega) (by omega) hx hb dX9_loan_53 (by decide) (fun c_22 => ?_) (fun c_22 => ?_)
          · refine lv_bipush (v := nI 32) hx hb dX9_loan_61 (by decide +kernel) ?_
            refine lv_iconst (v := nI 4) hx hb dX9_loan_63 (by decide) ?_
            refine lv_aload_n hx hb dX9_loan_64 rfl (lv_at hl 0 rfl) ?_
            refine va_get (D := G) (ci := 7) (C := RX9) (T := TX9) (N := 23) hx hb hts iX9 hown hKK.1 hP 0 rfl rfl 0 (by decide) f7 (fun _ h9 => h9) rfl dX9_loan_65 ?_
            refine lv_iconst (v := nI 1) hx hb dX9_loan_68 (by decide) ?_
            refine nv_iald (i := 1) hx hb hKK.1 hP 1 0 rfl rfl (by omega) (by decide) dX9_loan_69 ?_
            have b_23 := hbB 1
            refine nv_imul hx hb dX9_loan_70 ?_
            refine nv_iadd hx hb dX9_loan_71 ?_
            refine lv_istore (lv' := [(5, .int (nI (32 + (4 * (B 1))))), (0, .ref (b 0)), (1, .int (nI pen)), (2, .int (nI ten)), (3, .int (nI fan)), (4, .int (nI lbn))]) hx hb dX9_loan_72 hl (by decide) rfl (fun ls hl => ?_)
            refine lv_aload_n hx hb dX9_loan_74 rfl (lv_at hl 1 rfl) ?_
            refine va_get (D := G) (ci := 7) (C := RX9) (T := TX9) (N := 23) hx hb hts iX9 hown hKK.1 hP 0 rfl rfl 0 (by decide) f7 (fun _ h9 => h9) rfl dX9_loan_75 ?_
            refine lv_iload hx hb dX9_loan_78 (lv_at hl 0 rfl) ?_
            refine lv_iload_n hx hb dX9_loan_80 rfl (lv_at hl 2 rfl) ?_
            refine nv_iast (i := 32 + (4 * (B 1))) hx hb hKK.1 hP hD hS 1 0 rfl rfl (by omega) (by decide) dX9_loan_81 [(b 0, .inr (7, [.ref (b 1), .ref (b 2), .ref (b 3), .ref (b 4), .ref (b 5), .int (nI qu), .long ab, .long bl, .ref (b 6), .int (nI tyd), .int (nI at0), .int (nI sta), .int (nI tok), .int (nI val), .ref (b 7), .int (nI man), .ref (b 8), .ref (b 9), .ref (b 10), .ref (b 11), .ref (b 12), .ref (b 13), .ref (b 14)])), (b 1, .inl (tA 0, 212, .inl (nF (updN B (32 + (4 * (B 1))) pen)))), (b 5, .inl (tA 0, 3, .inl rf))] rfl (fun H locs hP hD hS => ?_)
            have B_24 := updN_lt hbB (32 + (4 * (B 1))) (show pen < 1048576 from by omega)
            refine lv_aload_n hx hb dX9_loan_82 rfl (lv_at hl 1 rfl) ?_
            refine va_get (D := G) (ci := 7) (C := RX9) (T := TX9) (N := 23) hx hb hts iX9 hown hKK.1 hP 0 rfl rfl 0 (by decide) f7 (fun _ h9 => h9) rfl dX9_loan_83 ?_
            refine lv_iload hx hb dX9_loan_86 (lv_at hl 0 rfl) ?_
            refine lv_iconst (v := nI 1) hx hb dX9_loan_88 (by decide) ?_
            refine nv_iadd hx hb dX9_loan_89 ?_
            refine lv_iload_n hx hb dX9_loan_90 rfl (lv_at hl 3 rfl) ?_
            refine nv_iast (i := (32 + (4 * (B 1))) + 1) hx hb hKK.1 hP hD hS 1 0 rfl rfl (by omega) (by decide) dX9_loan_91 [(b 0, .inr (7, [.ref (b 1), .ref (b 2), .ref (b 3), .ref (b 4), .ref (b 5), .int (nI qu), .long ab, .long bl, .ref (b 6), .int (nI tyd), .int (nI at0), .int (nI sta), .int (nI tok), .int (nI val), .ref (b 7), .int (nI man), .ref (b 8), .ref (b 9), .ref (b 10), .ref (b 11), .ref (b 12), .ref (b 13), .ref (b 14)])), (b 1, .inl (tA 0, 212, .inl (nF (updN (updN B (32 + (4 * (B 1))) pen) ((32 + (4 * (B 1))) + 1) ten)))), (b 5, .inl (tA 0, 3, .inl rf))] rfl (fun H locs hP hD hS => ?_)
            have B_25 := updN_lt B_24 ((32 + (4 * (B 1))) + 1) (show ten < 1048576 from by omega)
            refine lv_aload_n hx hb dX9_loan_92 rfl (lv_at hl 1 rfl) ?_
            refine va_get (D := G) (ci := 7) (C := RX9) (T := TX9) (N := 23) hx hb hts iX9 hown hKK.1 hP 0 rfl rfl 0 (by decide) f7 (fun _ h9 => h9) rfl dX9_loan_93 ?_
            refine lv_iload hx hb dX9_loan_96 (lv_at hl 0 rfl) ?_
            refine lv_iconst (v := nI 2) hx hb dX9_loan_98 (by decide) ?_
            refine nv_iadd hx hb dX9_loan_99 ?_
            refine lv_iload_n hx hb dX9_loan_100 rfl (lv_at hl 4 rfl) ?_
            refine nv_iast (i := (32 + (4 * (B 1))) + 2) hx hb hKK.1 hP hD hS 1 0 rfl rfl (by omega) (by decide) dX9_loan_101 [(b 0, .inr (7, [.ref (b 1), .ref (b 2), .ref (b 3), .ref (b 4), .ref (b 5), .int (nI qu), .long ab, .long bl, .ref (b 6), .int (nI tyd), .int (nI at0), .int (nI sta), .int (nI tok), .int (nI val), .ref (b 7), .int (nI man), .ref (b 8), .ref (b 9), .ref (b 10), .ref (b 11), .ref (b 12), .ref (b 13), .ref (b 14)])), (b 1, .inl (tA 0, 212, .inl (nF (updN (updN (updN B (32 + (4 * (B 1))) pen) ((32 + (4 * (B 1))) + 1) ten) ((32 + (4 * (B 1))) + 2) fan)))), (b 5, .inl (tA 0, 3, .inl rf))] rfl (fun H locs hP hD hS => ?_)
            have B_26 := updN_lt B_25 ((32 + (4 * (B 1))) + 2) (show fan < 1048576 from by omega)
            refine lv_aload_n hx hb dX9_loan_102 rfl (lv_at hl 1 rfl) ?_
            refine va_get (D := G) (ci := 7) (C := RX9) (T := TX9) (N := 23) hx hb hts iX9 hown hKK.1 hP 0 rfl rfl 0 (by decide) f7 (fun _ h9 => h9) rfl dX9_loan_103 ?_
            refine lv_iload hx hb dX9_loan_106 (lv_at hl 0 rfl) ?_
            refine lv_iconst (v := nI 3) hx hb dX9_loan_108 (by decide) ?_
            refine nv_iadd hx hb dX9_loan_109 ?_
            refine lv_iload hx hb dX9_loan_110 (lv_at hl 5 rfl) ?_
            refine nv_iast (i := (32 + (4 * (B 1))) + 3) hx hb hKK.1 hP hD hS 1 0 rfl rfl (by omega) (by decide) dX9_loan_112 [(b 0, .inr (7, [.ref (b 1), .ref (b 2), .ref (b 3), .ref (b 4), .ref (b 5), .int (nI qu), .long ab, .long bl, .ref (b 6), .int (nI tyd), .int (nI at0), .int (nI sta), .int (nI tok), .int (nI val), .ref (b 7), .int (nI man), .ref (b 8), .ref (b 9), .ref (b 10), .ref (b 11), .ref (b 12), .ref (b 13), .ref (b 14)])), (b 1, .inl (tA 0, 212, .inl (nF (updN (updN (updN (updN B (32 + (4 * (B 1))) pen) ((32 + (4 * (B 1))) + 1) ten) ((32 + (4 * (B 1))) + 2) fan) ((32 + (4 * (B 1))) + 3) lbn)))), (b 5, .inl (tA 0, 3, .inl rf))] rfl (fun H locs hP hD hS => ?_)
            have B_27 := updN_lt B_26 ((32 + (4 * (B 1))) + 3) (show lbn < 1048576 from by omega)
            refine lv_aload_n hx hb dX9_loan_113 rfl (lv_at hl 1 rfl) ?_
            refine va_get (D := G) (ci := 7) (C := RX9) (T := TX9) (N := 23) hx hb hts iX9 hown hKK.1 hP 0 rfl rfl 0 (by decide) f7 (fun _ h9 => h9) rfl dX9_loan_114 ?_
            refine lv_iconst (v := nI 1) hx hb dX9_loan_117 (by decide) ?_
            refine lv_dup2_11 hx hb dX9_loan_118 rfl rfl ?_
            refine nv_iald (i := 1) hx hb hKK.1 hP 1 0 rfl rfl (by omega) (by decide) dX9_loan_119 ?_
            have b_28 := B_27 1
            refine nv_top (y := B 1) (congrArg nI (by simp only [updN]; (repeat' split) <;> omega)) ?_
            refine lv_iconst (v := nI 1) hx hb dX9_loan_120 (by decide) ?_
            refine nv_iadd hx hb dX9_loan_121 ?_
            refine nv_iast (i := 1) hx hb hKK.1 hP hD hS 1 0 rfl rfl (by omega) (by decide) dX9_loan_122 [(b 0, .inr (7, [.ref (b 1), .ref (b 2), .ref (b 3), .ref (b 4), .ref (b 5), .int (nI qu), .long ab, .long bl, .ref (b 6), .int (nI tyd), .int (nI at0), .int (nI sta), .int (nI tok), .int (nI val), .ref (b 7), .int (nI man), .ref (b 8), .ref (b 9), .ref (b 10), .ref (b 11), .ref (b 12), .ref (b 13), .ref (b 14)])), (b 1, .inl (tA 0, 212, .inl (nF (updN (updN (updN (updN (updN B (32 + (4 * (B 1))) pen) ((32 + (4 * (B 1))) + 1) ten) ((32 + (4 * (B 1))) + 2) fan) ((32 + (4 * (B 1))) + 3) lbn) 1 ((B 1) + 1))))), (b 5, .inl (tA 0, 3, .inl rf))] rfl (fun H locs hP hD hS => ?_)
            have B_29 := updN_lt B_27 1 (show (B 1) + 1 < 1048576 from by omega)
            refine lv_aload_n hx hb dX9_loan_123 rfl (lv_at hl 1 rfl) ?_
            refine va_get (D := G) (ci := 7) (C := RX9) (T := TX9) (N := 23) hx hb hts iX9 hown hKK.1 hP 0 rfl rfl 0 (by decide) f7 (fun _ h9 => h9) rfl dX9_loan_124 ?_
            refine lv_iconst (v := nI 1) hx hb dX9_loan_127 (by decide) ?_
            refine nv_iald (i := 1) hx hb hKK.1 hP 1 0 rfl rfl (by omega) (by decide) dX9_loan_128 ?_
            have b_30 := B_29 1
            refine nv_top (y := B 1 + 1) (congrArg nI (updN_s _ _ _)) ?_
            refine lv_iconst (v := nI 1) hx hb dX9_loan_129 (by decide) ?_
            refine nv_isub (show 1 ≤ B 1 + 1 from by omega) hx hb dX9_loan_130 ?_
            exact retI hx hb hr hlocks hS hP hD () (by rw [hok]; unfold okB rfS; rw [if_pos rfl, if_pos (by omega), if_pos rfl, if_pos (by omega), z_pen, z_ten, z_fan, z_lbn]; try rfl) (by rw [hok]; unfold okR; rw [if_pos rfl, if_pos (by omega)]; try exact congrArg nI (by omega)) dX9_loan_131
          · refine lv_aload_n hx hb dX9_loan_56 rfl (lv_at hl 0 rfl) ?_
            refine rwI hP hD hS hA [0, 2] rfl (runV (As := []) (rest := []) (isC := [0, 2]) ⟨hx, hb, hml, hown, hts⟩ hKK hP hD rfl (by decide) (c_X9_full l G tA b qu ab bl tyd at0 sta tok val man rf (hqu) _) (cwV 0 hts gX9_loan_X9_full rfl rfl rfl (by decide +kernel) ⟨Nat.le_of_ble_eq_true rfl, Nat.le_of_ble_eq_true rfl⟩) rfl rfl rfl rfl hl.1 rfl (lv_room (Nat.le_of_ble_eq_true rfl)) dX9_loan_57 ⟨Nat.le_of_ble_eq_true rfl, Nat.le_of_ble_eq_true rfl⟩) (fun (_ : Unit) => [(b 0, .inr (7, [.ref (b 1), .ref (b 2), .ref (b 3), .ref (b 4), .ref (b 5), .int (nI qu), .long ab, .long bl, .ref (b 6), .int (nI tyd), .int (nI at0), .int (nI sta), .int (nI tok), .int (nI val), .ref (b 7), .int (nI man), .ref (b 8), .ref (b 9), .ref (b 10), .ref (b 11), .ref (b 12), .ref (b 13), .ref (b 14)])), (b 1, .inl (tA 0, 212, .inl (nF B))), (b 5, .inl (tA 0, 3, .inl (bump qu rf 2)))]) (fun _ => rfl) (fun _ => rfl) (fun _ => rfl) (fun r_31 u_32 H locs q_33 hP hD hS => ?_)
            subst q_33
            exact retI hx hb hr hlocks hS hP hD () (by rw [hok]; unfold okB rfS; rw [if_pos rfl, if_neg (by omega), if_pos rfl, if_neg (by omega)]) (by rw [hok]; unfold okR; rw [if_pos rfl, if_neg (by omega)]) dX9_loan_60
        · have p_19 : ¬ ((0 : Int) ≤ FA ∧ FA ≤ LB) := p_19
          refine nv_if_ne (tgt := 45) (by omega) hx hb dX9_loan_37 (by decide) (fun h => absurd h (by omega)) (fun _ => ?_)
          refine lv_aload_n hx hb dX9_loan_40 rfl (lv_at hl 0 rfl) ?_
          refine rwI hP hD hS hA [0, 2] rfl (runV (As := []) (rest := []) (isC := [0, 2]) ⟨hx, hb, hml, hown, hts⟩ hKK hP hD rfl (by decide) (c_X9_bad l G tA b qu ab bl tyd at0 sta tok val man rf (hqu) _) (cwV 0 hts gX9_loan_X9_bad rfl rfl rfl (by decide +kernel) ⟨Nat.le_of_ble_eq_true rfl, Nat.le_of_ble_eq_true rfl⟩) rfl rfl rfl rfl hl.1 rfl (lv_room (Nat.le_of_ble_eq_true rfl)) dX9_loan_41 ⟨Nat.le_of_ble_eq_true rfl, Nat.le_of_ble_eq_true rfl⟩) (fun (_ : Unit) => [(b 0, .inr (7, [.ref (b 1), .ref (b 2), .ref (b 3), .ref (b 4), .ref (b 5), .int (nI qu), .long ab, .long bl, .ref (b 6), .int (nI tyd), .int (nI at0), .int (nI sta), .int (nI tok), .int (nI val), .ref (b 7), .int (nI man), .ref (b 8), .ref (b 9), .ref (b 10), .ref (b 11), .ref (b 12), .ref (b 13), .ref (b 14)])), (b 1, .inl (tA 0, 212, .inl (nF B))), (b 5, .inl (tA 0, 3, .inl (bump qu rf 0)))]) (fun _ => rfl) (fun _ => rfl) (fun _ => rfl) (fun r_35 u_36 H locs q_37 hP hD hS => ?_)
          subst q_37
          have hok : okL (B 0) PE TE FA LB = false := by first | (simp only [okL, decide_eq_false_iff_not]; omega) | (simp only [okL, decide_eq_false_iff_not, z_sen]; omega)
          exact retI hx hb hr hlocks hS hP hD () (by rw [hok]; rfl) (by rw [hok]; rfl) dX9_loan_44
      · have p_14 : ¬ ((0 : Int) ≤ LB ∧ LB ≤ (23 : Int)) := p_14
        refine nv_if_eq (tgt := 40) (by omega) hx hb dX9_loan_25 (by decide) (fun _ => ?_) (fun h => absurd h (by omega))
        refine lv_aload_n hx hb dX9_loan_40 rfl (lv_at hl 0 rfl) ?_
        refine rwI hP hD hS hA [0, 2] rfl (runV (As := []) (rest := []) (isC := [0, 2]) ⟨hx, hb, hml, hown, hts⟩ hKK hP hD rfl (by decide) (c_X9_bad l G tA b qu ab bl tyd at0 sta tok val man rf (hqu) _) (cwV 0 hts gX9_loan_X9_bad rfl rfl rfl (by decide +kernel) ⟨Nat.le_of_ble_eq_true rfl, Nat.le_of_ble_eq_true rfl⟩) rfl rfl rfl rfl hl.1 rfl (lv_room (Nat.le_of_ble_eq_true rfl)) dX9_loan_41 ⟨Nat.le_of_ble_eq_true rfl, Nat.le_of_ble_eq_true rfl⟩) (fun (_ : Unit) => [(b 0, .inr (7, [.ref (b 1), .ref (b 2), .ref (b 3), .ref (b 4), .ref (b 5), .int (nI qu), .long ab, .long bl, .ref (b 6), .int (nI tyd), .int (nI at0), .int (nI sta), .int (nI tok), .int (nI val), .ref (b 7), .int (nI man), .ref (b 8), .ref (b 9), .ref (b 10), .ref (b 11), .ref (b 12), .ref (b 13), .ref (b 14)])), (b 1, .inl (tA 0, 212, .inl (nF B))), (b 5, .inl (tA 0, 3, .inl (bump qu rf 0)))]) (fun _ => rfl) (fun _ => rfl) (fun _ => rfl) (fun r_39 u_40 H locs q_41 hP hD hS => ?_)
        subst q_41
        have hok : okL (B 0) PE TE FA LB = false := by first | (simp only [okL, decide_eq_false_iff_not]; omega) | (simp only [okL, decide_eq_false_iff_not, z_sen]; omega)
        exact retI hx hb hr hlocks hS hP hD () (by rw [hok]; rfl) (by rw [hok]; rfl) dX9_loan_44
    · have p_9 : ¬ (0 ≤ TE ∧ TE < ((B 0 : Nat) : Int)) := p_9
      refine nv_if_eq (tgt := 40) (by omega) hx hb dX9_loan_12 (by decide) (fun _ => ?_) (fun h => absurd h (by omega))
      refine lv_aload_n hx hb dX9_loan_40 rfl (lv_at hl 0 rfl) ?_
      refine rwI hP hD hS hA [0, 2] rfl (runV (As := []) (rest := []) (isC := [0, 2]) ⟨hx, hb, hml, hown, hts⟩ hKK hP hD rfl (by decide) (c_X9_bad l G tA b qu ab bl tyd at0 sta tok val man rf (hqu) _) (cwV 0 hts gX9_loan_X9_bad rfl rfl rfl (by decide +kernel) ⟨Nat.le_of_ble_eq_true rfl, Nat.le_of_ble_eq_true rfl⟩) rfl rfl rfl rfl hl.1 rfl (lv_room (Nat.le_of_ble_eq_true rfl)) dX9_loan_41 ⟨Nat.le_of_ble_eq_true rfl, Nat.le_of_ble_eq_true rfl⟩) (fun (_ : Unit) => [(b 0, .inr (7, [.ref (b 1), .ref (b 2), .ref (b 3), .ref (b 4), .ref (b 5), .int (nI qu), .long ab, .long bl, .ref (b 6), .int (nI tyd), .int (nI at0), .int (nI sta), .int (nI tok), .int (nI val), .ref (b 7), .int (nI man), .ref (b 8), .ref (b 9), .ref (b 10), .ref (b 11), .ref (b 12), .ref (b 13), .ref (b 14)])), (b 1, .inl (tA 0, 212, .inl (nF B))), (b 5, .inl (tA 0, 3, .inl (bump qu rf 0)))]) (fun _ => rfl) (fun _ => rfl) (fun _ => rfl) (fun r_43 u_44 H locs q_45 hP hD hS => ?_)
      subst q_45
      have hok : okL (B 0) PE TE FA LB = false := by first | (simp only [okL, decide_eq_false_iff_not]; omega) | (simp only [okL, decide_eq_false_iff_not, z_sen]; omega)
      exact retI hx hb hr hlocks hS hP hD () (by rw [hok]; rfl) (by rw [hok]; rfl) dX9_loan_44
  · have p_4 : ¬ (0 ≤ PE ∧ PE < 5) := p_4
    refine nv_if_eq (tgt := 40) (by omega) hx hb dX9_loan_4 (by decide) (fun _ => ?_) (fun h => absurd h (by omega))
    refine lv_aload_n hx hb dX9_loan_40 rfl (lv_at hl 0 rfl) ?_
    refine rwI hP hD hS hA [0, 2] rfl (runV (As := []) (rest := []) (isC := [0, 2]) ⟨hx, hb, hml, hown, hts⟩ hKK hP hD rfl (by decide) (c_X9_bad l G tA b qu ab bl tyd at0 sta tok val man rf (hqu) _) (cwV 0 hts gX9_loan_X9_bad rfl rfl rfl (by decide +kernel) ⟨Nat.le_of_ble_eq_true rfl, Nat.le_of_ble_eq_true rfl⟩) rfl rfl rfl rfl hl.1 rfl (lv_room (Nat.le_of_ble_eq_true rfl)) dX9_loan_41 ⟨Nat.le_of_ble_eq_true rfl, Nat.le_of_ble_eq_true rfl⟩) (fun (_ : Unit) => [(b 0, .inr (7, [.ref (b 1), .ref (b 2), .ref (b 3), .ref (b 4), .ref (b 5), .int (nI qu), .long ab, .long bl, .ref (b 6), .int (nI tyd), .int (nI at0), .int (nI sta), .int (nI tok), .int (nI val), .ref (b 7), .int (nI man), .ref (b 8), .ref (b 9), .ref (b 10), .ref (b 11), .ref (b 12), .ref (b 13), .ref (b 14)])), (b 1, .inl (tA 0, 212, .inl (nF B))), (b 5, .inl (tA 0, 3, .inl (bump qu rf 0)))]) (fun _ => rfl) (fun _ => rfl) (fun _ => rfl) (fun r_47 u_48 H locs q_49 hP hD hS => ?_)
    subst q_49
    have hok : okL (B 0) PE TE FA LB = false := by first | (simp only [okL, decide_eq_false_iff_not]; omega) | (simp only [okL, decide_eq_false_iff_not, z_sen]; omega)
    exact retI hx hb hr hlocks hS hP hD () (by rw [hok]; rfl) (by rw [hok]; rfl) dX9_loan_44

set_option maxHeartbeats 4000000 in
set_option maxRecDepth 100000 in
theorem c_X9_said (l : Launch) (G : va_G) (tA : Nat → ClassId) (b : Nat → Nat) (qu : Nat) (ab : Int64) (bl : Int64) (tyd : Nat) (at0 : Nat) (sta : Nat) (tok : Nat) (val : Nat) (man : Nat) (B : Nat → Nat) (rf : Nat → Int32) (pe : Int32) (PE : Int) (te : Int32) (TE : Int) (fa : Int32) (FA : Int) (hWB : WB B) (hqu : qu < 2) (hpe : pe.toInt = PE) (hte : te.toInt = TE) (hfa : fa.toInt = FA) : CtI l yX9_said wsX9_said ({ frames := 2, cells := 0, slots := 0, locals := 46 }) G tA [.ref (b 0), .int pe, .int te, .int fa] ([(b 0, .inr (7, [.ref (b 1), .ref (b 2), .ref (b 3), .ref (b 4), .ref (b 5), .int (nI qu), .long ab, .long bl, .ref (b 6), .int (nI tyd), .int (nI at0), .int (nI sta), .int (nI tok), .int (nI val), .ref (b 7), .int (nI man), .ref (b 8), .ref (b 9), .ref (b 10), .ref (b 11), .ref (b 12), .ref (b 13), .ref (b 14)])), (b 1, .inl (tA 0, 212, .inl (nF B))), (b 5, .inl (tA 0, 3, .inl rf))]) (fun (r : Int32) (_ : Unit) => r = okR (okS (B 0) PE TE FA) (B 2) 10) (fun (_ : Unit) => [(b 0, .inr (7, [.ref (b 1), .ref (b 2), .ref (b 3), .ref (b 4), .ref (b 5), .int (nI qu), .long ab, .long bl, .ref (b 6), .int (nI tyd), .int (nI at0), .int (nI sta), .int (nI tok), .int (nI val), .ref (b 7), .int (nI man), .ref (b 8), .ref (b 9), .ref (b 10), .ref (b 11), .ref (b 12), .ref (b 13), .ref (b 14)])), (b 1, .inl (tA 0, 212, .inl (nF (okB (okS (B 0) PE TE FA) (B 2) 10 (rowM3 B (72 + 3 * B 2) 2 PE.toNat TE.toNat FA.toNat) B)))), (b 5, .inl (tA 0, 3, .inl (rfS (okS (B 0) PE TE FA) (B 2) 10 qu rf)))]) 0 0 := by
  refine enterI (cc := cX9_said) (maxL := 5) (ret := (some .int)) (by decide) rfl (Nat.le_of_ble_eq_true rfl) ?_
  intro p0 e0 s m args below meth c0_ A ls hx hb hml hr hts hown hlocks hin hKK hA hP hD hl hS
  have hown : s.vm.findClass RX9 = some m.cls := hown
  have hl : lv_has ls 5 [(0, .ref (b 0)), (1, .int pe), (2, .int te), (3, .int fa)] := hl
  have f103 := hts (Cond.constantLong RX9 103 (23)) (List.mem_of_getElem? (i := 1) rfl)
  have f7 := hts (Cond.fieldLink RX9 7 "LentTermsModel" "book" "[I") (List.mem_of_getElem? (i := 2) rfl)
  have iX9 : ∀ w ∈ wsX90, w ∈ wsX9_said := by decide +kernel
  obtain ⟨⟨hn0, hn1, hn2, hn3, hn4, hn5⟩, hbB, hv0, hv1, hv2, hv3, hv4, hv5, hv6, hv7⟩ := id hWB
  have h256 := p256 hn0
  refine lv_iload_n hx hb dX9_said_0 rfl (lv_at hl 1 rfl) ?_
  refine roI hP hD hS hA [] rfl (runS (As := [.int pe]) (rest := []) (isC := []) ⟨hx, hb, hml, hown, hts⟩ hKK hP hD rfl (by decide) (c_X9_isOne l G tA pe PE hpe _) (va_cwS 1 hts gX9_said_X9_isOne rfl rfl rfl (by decide +kernel) ⟨Nat.le_of_ble_eq_true rfl, Nat.le_of_ble_eq_true rfl⟩) rfl rfl hl.1 rfl (lv_room (Nat.le_of_ble_eq_true rfl)) dX9_said_1 ⟨Nat.le_of_ble_eq_true rfl, Nat.le_of_ble_eq_true rfl⟩) (fun _ => rfl) (fun r_1 u_2 H locs q_3 hP hS => ?_)
  rcases q_3 with ⟨rfl, p_4⟩ | ⟨rfl, p_4⟩
  · have p_4 : 0 ≤ PE ∧ PE < 5 := p_4
    refine nv_if_eq (tgt := 27) (by omega) hx hb dX9_said_4 (by decide) (fun h => absurd h (by omega)) (fun _ => ?_)
    refine lv_aload_n hx hb dX9_said_7 rfl (lv_at hl 0 rfl) ?_
    refine lv_iload_n hx hb dX9_said_8 rfl (lv_at hl 2 rfl) ?_
    refine roI hP hD hS hA [0, 1] rfl (runV (As := [.int te]) (rest := []) (isC := [0, 1]) ⟨hx, hb, hml, hown, hts⟩ hKK hP hD rfl (by decide) (c_X9_isTerm l G tA b qu ab bl tyd at0 sta tok val man B te TE (hWB) hte _) (cwV 1 hts gX9_said_X9_isTerm rfl rfl rfl (by decide +kernel) ⟨Nat.le_of_ble_eq_true rfl, Nat.le_of_ble_eq_true rfl⟩) rfl rfl rfl rfl hl.1 rfl (lv_room (Nat.le_of_ble_eq_true rfl)) dX9_said_9 ⟨Nat.le_of_ble_eq_true rfl, Nat.le_of_ble_eq_true rfl⟩) (fun _ => rfl) (fun r_6 u_7 H locs q_8 hP hS => ?_)
    rcases q_8 with ⟨rfl, p_9⟩ | ⟨rfl, p_9⟩
    · have p_9 : 0 ≤ TE ∧ TE < ((B 0 : Nat) : Int) := p_9
      refine nv_if_eq (tgt := 27) (by omega) hx hb dX9_said_12 (by decide) (fun h => absurd h (by omega)) (fun _ => ?_)
      refine lv_iload_n hx hb dX9_said_15 rfl (lv_at hl 3 rfl) ?_
      refine lv_i2l hx hb dX9_said_16 rfl ?_
      refine lv_lconst (v := (nI 0).toInt64) hx hb dX9_said_17 (by decide +kernel) ?_
      refine lv_ldc2 (v := 23) hx hb hown f103 dX9_said_18 ?_
      refine nv_topl (y := (nI 23).toInt64) (by decide +kernel) ?_
      refine roI hP hD hS hA [] rfl (runS (As := [.long fa.toInt64, .long ((nI 0).toInt64), .long ((nI 23).toInt64)]) (rest := []) (isC := []) ⟨hx, hb, hml, hown, hts⟩ hKK hP hD rfl (by decide) (c_X9_is l G tA fa FA (nI 0) (0 : Int) (nI 23) (23 : Int) hfa rfl rfl _) (va_cwS 3 hts gX9_said_X9_is rfl rfl rfl (by decide +kernel) ⟨Nat.le_of_ble_eq_true rfl, Nat.le_of_ble_eq_true rfl⟩) rfl rfl hl.1 rfl (lv_room (Nat.le_of_ble_eq_true rfl)) dX9_said_21 ⟨Nat.le_of_ble_eq_true rfl, Nat.le_of_ble_eq_true rfl⟩) (fun _ => rfl) (fun r_11 u_12 H locs q_13 hP hS => ?_)
      rcases q_13 with ⟨rfl, p_14⟩ | ⟨rfl, p_14⟩
      · have p_14 : (0 : Int) ≤ FA ∧ FA ≤ (23 : Int) := p_14
        refine nv_if_ne (tgt := 32) (by omega) hx hb dX9_said_24 (by decide) (fun _ => ?_) (fun h => absurd h (by omega))
        have hok : okS (B 0) PE TE FA = true := by simp only [okS, decide_eq_true_eq]; omega
        obtain ⟨pen, h_pen, rfl⟩ := toN (x := pe) (by omega)
        have t_pen : (nI pen).toInt = (pen : Int) := nI_toInt h_pen
        have z_pen : PE.toNat = pen := by omega
        obtain ⟨ten, h_ten, rfl⟩ := toN (x := te) (by omega)
        have t_ten : (nI ten).toInt = (ten : Int) := nI_toInt h_ten
        have z_ten : TE.toNat = ten := by omega
        obtain ⟨fan, h_fan, rfl⟩ := toN (x := fa) (by omega)
        have t_fan : (nI fan).toInt = (fan : Int) := nI_toInt h_fan
        have z_fan : FA.toNat = fan := by omega
        refine lv_aload_n hx hb dX9_said_32 rfl (lv_at hl 0 rfl) ?_
        refine va_get (D := G) (ci := 7) (C := RX9) (T := TX9) (N := 23) hx hb hts iX9 hown hKK.1 hP 0 rfl rfl 0 (by decide) f7 (fun _ h9 => h9) rfl dX9_said_33 ?_
        refine lv_iconst (v := nI 2) hx hb dX9_said_36 (by decide) ?_
        refine nv_iald (i := 2) hx hb hKK.1 hP 1 0 rfl rfl (by omega) (by decide) dX9_said_37 ?_
        have b_16 := hbB 2
        refine lv_bipush (v := nI 10) hx hb dX9_said_38 (by decide +kernel) ?_
        refine nv_icmp_ne (tgt := 48) (by omega) (by omega) hx hb dX9_said_40 (by decide) (fun c_17 => ?_) (fun c_17 => ?_)
        · refine lv_bipush (v := nI 72) hx hb dX9_said_48 (by decide +kernel) ?_
          refine lv_iconst (v := nI 3) hx hb dX9_said_50 (by decide) ?_
          refine lv_aload_n hx hb dX9_said_51 rfl (lv_at hl 0 rfl) ?_
          refine va_get (D := G) (ci := 7) (C := RX9) (T := TX9) (N := 23) hx hb hts iX9 hown hKK.1 hP 0 rfl rfl 0 (by decide) f7 (fun _ h9 => h9) rfl dX9_said_52 ?_
          refine lv_iconst (v := nI 2) hx hb dX9_said_55 (by decide) ?_
          refine nv_iald (i := 2) hx hb hKK.1 hP 1 0 rfl rfl (by omega) (by decide) dX9_said_56 ?_
          have b_18 := hbB 2
          refine nv_imul hx hb dX9_said_57 ?_
          refine nv_iadd hx hb dX9_said_58 ?_
          refine lv_istore (lv' := [(4, .int (nI (72 + (3 * (B 2))))), (0, .ref (b 0)), (1, .int (nI pen)), (2, .int (nI ten)), (3, .int (nI fan))]) hx hb dX9_said_59 hl (by decide) rfl (fun ls hl => ?_)
          refine lv_aload_n hx hb dX9_said_61 rfl (lv_at hl 1 rfl) ?_
          refine va_get (D := G) (ci := 7) (C := RX9) (T := TX9) (N := 23) hx hb hts iX9 hown hKK.1 hP 0 rfl rfl 0 (by decide) f7 (fun _ h9 => h9) rfl dX9_said_62 ?_
          refine lv_iload hx hb dX9_said_65 (lv_at hl 0 rfl) ?_
          refine lv_iload_n hx hb dX9_said_67 rfl (lv_at hl 2 rfl) ?_
          refine nv_iast (i := 72 + (3 * (B 2))) hx hb hKK.1 hP hD hS 1 0 rfl rfl (by omega) (by decide) dX9_said_68 [(b 0, .inr (7, [.ref (b 1), .ref (b 2), .ref (b 3), .ref (b 4), .ref (b 5), .int (nI qu), .long ab, .long bl, .ref (b 6), .int (nI tyd), .int (nI at0), .int (nI sta), .int (nI tok), .int (nI val), .ref (b 7), .int (nI man), .ref (b 8), .ref (b 9), .ref (b 10), .ref (b 11), .ref (b 12), .ref (b 13), .ref (b 14)])), (b 1, .inl (tA 0, 212, .inl (nF (updN B (72 + (3 * (B 2))) pen)))), (b 5, .inl (tA 0, 3, .inl rf))] rfl (fun H locs hP hD hS => ?_)
          have B_19 := updN_lt hbB (72 + (3 * (B 2))) (show pen < 1048576 from by omega)
          refine lv_aload_n hx hb dX9_said_69 rfl (lv_at hl 1 rfl) ?_
          refine va_get (D := G) (ci := 7) (C := RX9) (T := TX9) (N := 23) hx hb hts iX9 hown hKK.1 hP 0 rfl rfl 0 (by decide) f7 (fun _ h9 => h9) rfl dX9_said_70 ?_
          refine lv_iload hx hb dX9_said_73 (lv_at hl 0 rfl) ?_
          refine lv_iconst (v := nI 1) hx hb dX9_said_75 (by decide) ?_
          refine nv_iadd hx hb dX9_said_76 ?_
          refine lv_iload_n hx hb dX9_said_77 rfl (lv_at hl 3 rfl) ?_
          refine nv_iast (i := (72 + (3 * (B 2))) + 1) hx hb hKK.1 hP hD hS 1 0 rfl rfl (by omega) (by decide) dX9_said_78 [(b 0, .inr (7, [.ref (b 1), .ref (b 2), .ref (b 3), .ref (b 4), .ref (b 5), .int (nI qu), .long ab, .long bl, .ref (b 6), .int (nI tyd), .int (nI at0), .int (nI sta), .int (nI tok), .int (nI val), .ref (b 7), .int (nI man), .ref (b 8), .ref (b 9), .ref (b 10), .ref (b 11), .ref (b 12), .ref (b 13), .ref (b 14)])), (b 1, .inl (tA 0, 212, .inl (nF (updN (updN B (72 + (3 * (B 2))) pen) ((72 + (3 * (B 2))) + 1) ten)))), (b 5, .inl (tA 0, 3, .inl rf))] rfl (fun H locs hP hD hS => ?_)
          have B_20 := updN_lt B_19 ((72 + (3 * (B 2))) + 1) (show ten < 1048576 from by omega)
          refine lv_aload_n hx hb dX9_said_79 rfl (lv_at hl 1 rfl) ?_
          refine va_get (D := G) (ci := 7) (C := RX9) (T := TX9) (N := 23) hx hb hts iX9 hown hKK.1 hP 0 rfl rfl 0 (by decide) f7 (fun _ h9 => h9) rfl dX9_said_80 ?_
          refine lv_iload hx hb dX9_said_83 (lv_at hl 0 rfl) ?_
          refine lv_iconst (v := nI 2) hx hb dX9_said_85 (by decide) ?_
          refine nv_iadd hx hb dX9_said_86 ?_
          refine lv_iload_n hx hb dX9_said_87 rfl (lv_at hl 4 rfl) ?_
          refine nv_iast (i := (72 + (3 * (B 2))) + 2) hx hb hKK.1 hP hD hS 1 0 rfl rfl (by omega) (by decide) dX9_said_88 [(b 0, .inr (7, [.ref (b 1), .ref (b 2), .ref (b 3), .ref (b 4), .ref (b 5), .int (nI qu), .long ab, .long bl, .ref (b 6), .int (nI tyd), .int (nI at0), .int (nI sta), .int (nI tok), .int (nI val), .ref (b 7), .int (nI man), .ref (b 8), .ref (b 9), .ref (b 10), .ref (b 11), .ref (b 12), .ref (b 13), .ref (b 14)])), (b 1, .inl (tA 0, 212, .inl (nF (updN (updN (updN B (72 + (3 * (B 2))) pen) ((72 + (3 * (B 2))) + 1) ten) ((72 + (3 * (B 2))) + 2) fan)))), (b 5, .inl (tA 0, 3, .inl rf))] rfl (fun H locs hP hD hS => ?_)
          have B_21 := updN_lt B_20 ((72 + (3 * (B 2))) + 2) (show fan < 1048576 from by omega)
          refine lv_aload_n hx hb dX9_said_89 rfl (lv_at hl 1 rfl) ?_
          refine va_get (D := G) (ci := 7) (C := RX9) (T := TX9) (N := 23) hx hb hts iX9 hown hKK.1 hP 0 rfl rfl 0 (by decide) f7 (fun _ h9 => h9) rfl dX9_said_90 ?_
          refine lv_iconst (v := nI 2) hx hb dX9_said_93 (by decide) ?_
          refine lv_dup2_11 hx hb dX9_said_94 rfl rfl ?_
          refine nv_iald (i := 2) hx hb hKK.1 hP 1 0 rfl rfl (by omega) (by decide) dX9_said_95 ?_
          have b_22 := B_21 2
          refine nv_top (y := B 2) (congrArg nI (by simp only [updN]; (repeat' split) <;> omega)) ?_
          refine lv_iconst (v := nI 1) hx hb dX9_said_96 (by decide) ?_
          refine nv_iadd hx hb dX9_said_97 ?_
          refine nv_iast (i := 2) hx hb hKK.1 hP hD hS 1 0 rfl rfl (by omega) (by decide) dX9_said_98 [(b 0, .inr (7, [.ref (b 1), .ref (b 2), .ref (b 3), .ref (b 4), .ref (b 5), .int (nI qu), .long ab, .long bl, .ref (b 6), .int (nI tyd), .int (nI at0), .int (nI sta), .int (nI tok), .int (nI val), .ref (b 7), .int (nI man), .ref (b 8), .ref (b 9), .ref (b 10), .ref (b 11), .ref (b 12), .ref (b 13), .ref (b 14)])), (b 1, .inl (tA 0, 212, .inl (nF (updN (updN (updN (updN B (72 + (3 * (B 2))) pen) ((72 + (3 * (B 2))) + 1) ten) ((72 + (3 * (B 2))) + 2) fan) 2 ((B 2) + 1))))), (b 5, .inl (tA 0, 3, .inl rf))] rfl (fun H locs hP hD hS => ?_)
          have B_23 := updN_lt B_21 2 (show (B 2) + 1 < 1048576 from by omega)
          refine lv_aload_n hx hb dX9_said_99 rfl (lv_at hl 1 rfl) ?_
          refine va_get (D := G) (ci := 7) (C := RX9) (T := TX9) (N := 23) hx hb hts iX9 hown hKK.1 hP 0 rfl rfl 0 (by decide) f7 (fun _ h9 => h9) rfl dX9_said_100 ?_
          refine lv_iconst (v := nI 2) hx hb dX9_said_103 (by decide) ?_
          refine nv_iald (i := 2) hx hb hKK.1 hP 1 0 rfl rfl (by omega) (by decide) dX9_said_104 ?_
          have b_24 := B_23 2
          refine nv_top (y := B 2 + 1) (congrArg nI (updN_s _ _ _)) ?_
          refine lv_iconst (v := nI 1) hx hb dX9_said_105 (by decide) ?_
          refine nv_isub (show 1 ≤ B 2 + 1 from by omega) hx hb dX9_said_106 ?_
          exact retI hx hb hr hlocks hS hP hD () (by rw [hok]; unfold okB rfS; rw [if_pos rfl, if_pos (by omega), if_pos rfl, if_pos (by omega), z_pen, z_ten, z_fan]; try rfl) (by rw [hok]; unfold okR; rw [if_pos rfl, if_pos (by omega)]; try exact congrArg nI (by omega)) dX9_said_107
        · refine lv_aload_n hx hb dX9_said_43 rfl (lv_at hl 0 rfl) ?_
          refine rwI hP hD hS hA [0, 2] rfl (runV (As := []) (rest := []) (isC := [0, 2]) ⟨hx, hb, hml, hown, hts⟩ hKK hP hD rfl (by decide) (c_X9_full l G tA b qu ab bl tyd at0 sta tok val man rf (hqu) _) (cwV 0 hts gX9_said_X9_full rfl rfl rfl (by decide +kernel) ⟨Nat.le_of_ble_eq_true rfl, Nat.le_of_ble_eq_true rfl⟩) rfl rfl rfl rfl hl.1 rfl (lv_room (Nat.le_of_ble_eq_true rfl)) dX9_said_44 ⟨Nat.le_of_ble_eq_true rfl, Nat.le_of_ble_eq_true rfl⟩) (fun (_ : Unit) => [(b 0, .inr (7, [.ref (b 1), .ref (b 2), .ref (b 3), .ref (b 4), .ref (b 5), .int (nI qu), .long ab, .long bl, .ref (b 6), .int (nI tyd), .int (nI at0), .int (nI sta), .int (nI tok), .int (nI val), .ref (b 7), .int (nI man), .ref (b 8), .ref (b 9), .ref (b 10), .ref (b 11), .ref (b 12), .ref (b 13), .ref (b 14)])), (b 1, .inl (tA 0, 212, .inl (nF B))), (b 5, .inl (tA 0, 3, .inl (bump qu rf 2)))]) (fun _ => rfl) (fun _ => rfl) (fun _ => rfl) (fun r_25 u_26 H locs q_27 hP hD hS => ?_)
          subst q_27
          exact retI hx hb hr hlocks hS hP hD () (by rw [hok]; unfold okB rfS; rw [if_pos rfl, if_neg (by omega), if_pos rfl, if_neg (by omega)]) (by rw [hok]; unfold okR; rw [if_pos rfl, if_neg (by omega)]) dX9_said_47
      · have p_14 : ¬ ((0 : Int) ≤ FA ∧ FA ≤ (23 : Int)) := p_14
        refine nv_if_ne (tgt := 32) (by omega) hx hb dX9_said_24 (by decide) (fun h => absurd h (by omega)) (fun _ => ?_)
        refine lv_aload_n hx hb dX9_said_27 rfl (lv_at hl 0 rfl) ?_
        refine rwI hP hD hS hA [0, 2] rfl (runV (As := []) (rest := []) (isC := [0, 2]) ⟨hx, hb, hml, hown, hts⟩ hKK hP hD rfl (by decide) (c_X9_bad l G tA b qu ab bl tyd at0 sta tok val man rf (hqu) _) (cwV 0 hts gX9_said_X9_bad rfl rfl rfl (by decide +kernel) ⟨Nat.le_of_ble_eq_true rfl, Nat.le_of_ble_eq_true rfl⟩) rfl rfl rfl rfl hl.1 rfl (lv_room (Nat.le_of_ble_eq_true rfl)) dX9_said_28 ⟨Nat.le_of_ble_eq_true rfl, Nat.le_of_ble_eq_true rfl⟩) (fun (_ : Unit) => [(b 0, .inr (7, [.ref (b 1), .ref (b 2), .ref (b 3), .ref (b 4), .ref (b 5), .int (nI qu), .long ab, .long bl, .ref (b 6), .int (nI tyd), .int (nI at0), .int (nI sta), .int (nI tok), .int (nI val), .ref (b 7), .int (nI man), .ref (b 8), .ref (b 9), .ref (b 10), .ref (b 11), .ref (b 12), .ref (b 13), .ref (b 14)])), (b 1, .inl (tA 0, 212, .inl (nF B))), (b 5, .inl (tA 0, 3, .inl (bump qu rf 0)))]) (fun _ => rfl) (fun _ => rfl) (fun _ => rfl) (fun r_29 u_30 H locs q_31 hP hD hS => ?_)
        subst q_31
        have hok : okS (B 0) PE TE FA = false := by first | (simp only [okS, decide_eq_false_iff_not]; omega) | (simp only [okS, decide_eq_false_iff_not, z_sen]; omega)
        exact retI hx hb hr hlocks hS hP hD () (by rw [hok]; rfl) (by rw [hok]; rfl) dX9_said_31
    · have p_9 : ¬ (0 ≤ TE ∧ TE < ((B 0 : Nat) : Int)) := p_9
      refine nv_if_eq (tgt := 27) (by omega) hx hb dX9_said_12 (by decide) (fun _ => ?_) (fun h => absurd h (by omega))
      refine lv_aload_n hx hb dX9_said_27 rfl (lv_at hl 0 rfl) ?_
      refine rwI hP hD hS hA [0, 2] rfl (runV (As := []) (rest := []) (isC := [0, 2]) ⟨hx, hb, hml, hown, hts⟩ hKK hP hD rfl (by decide) (c_X9_bad l G tA b qu ab bl tyd at0 sta tok val man rf (hqu) _) (cwV 0 hts gX9_said_X9_bad rfl rfl rfl (by decide +kernel) ⟨Nat.le_of_ble_eq_true rfl, Nat.le_of_ble_eq_true rfl⟩) rfl rfl rfl rfl hl.1 rfl (lv_room (Nat.le_of_ble_eq_true rfl)) dX9_said_28 ⟨Nat.le_of_ble_eq_true rfl, Nat.le_of_ble_eq_true rfl⟩) (fun (_ : Unit) => [(b 0, .inr (7, [.ref (b 1), .ref (b 2), .ref (b 3), .ref (b 4), .ref (b 5), .int (nI qu), .long ab, .long bl, .ref (b 6), .int (nI tyd), .int (nI at0), .int (nI sta), .int (nI tok), .int (nI val), .ref (b 7), .int (nI man), .ref (b 8), .ref (b 9), .ref (b 10), .ref (b 11), .ref (b 12), .ref (b 13), .ref (b 14)])), (b 1, .inl (tA 0, 212, .inl (nF B))), (b 5, .inl (tA 0, 3, .inl (bump qu rf 0)))]) (fun _ => rfl) (fun _ => rfl) (fun _ => rfl) (fun r_33 u_34 H locs q_35 hP hD hS => ?_)
      subst q_35
      have hok : okS (B 0) PE TE FA = false := by first | (simp only [okS, decide_eq_false_iff_not]; omega) | (simp only [okS, decide_eq_false_iff_not, z_sen]; omega)
      exact retI hx hb hr hlocks hS hP hD () (by rw [hok]; rfl) (by rw [hok]; rfl) dX9_said_31
  · have p_4 : ¬ (0 ≤ PE ∧ PE < 5) := p_4
    refine nv_if_eq (tgt := 27) (by omega) hx hb dX9_said_4 (by decide) (fun _ => ?_) (fun h => absurd h (by omega))
    refine lv_aload_n hx hb dX9_said_27 rfl (lv_at hl 0 rfl) ?_
    refine rwI hP hD hS hA [0, 2] rfl (runV (As := []) (rest := []) (isC := [0, 2]) ⟨hx, hb, hml, hown, hts⟩ hKK hP hD rfl (by decide) (c_X9_bad l G tA b qu ab bl tyd at0 sta tok val man rf (hqu) _) (cwV 0 hts gX9_said_X9_bad rfl rfl rfl (by decide +kernel) ⟨Nat.le_of_ble_eq_true rfl, Nat.le_of_ble_eq_true rfl⟩) rfl rfl rfl rfl hl.1 rfl (lv_room (Nat.le_of_ble_eq_true rfl)) dX9_said_28 ⟨Nat.le_of_ble_eq_true rfl, Nat.le_of_ble_eq_true rfl⟩) (fun (_ : Unit) => [(b 0, .inr (7, [.ref (b 1), .ref (b 2), .ref (b 3), .ref (b 4), .ref (b 5), .int (nI qu), .long ab, .long bl, .ref (b 6), .int (nI tyd), .int (nI at0), .int (nI sta), .int (nI tok), .int (nI val), .ref (b 7), .int (nI man), .ref (b 8), .ref (b 9), .ref (b 10), .ref (b 11), .ref (b 12), .ref (b 13), .ref (b 14)])), (b 1, .inl (tA 0, 212, .inl (nF B))), (b 5, .inl (tA 0, 3, .inl (bump qu rf 0)))]) (fun _ => rfl) (fun _ => rfl) (fun _ => rfl) (fun r_37 u_38 H locs q_39 hP hD hS => ?_)
    subst q_39
    have hok : okS (B 0) PE TE FA = false := by first | (simp only [okS, decide_eq_false_iff_not]; omega) | (simp only [okS, decide_eq_false_iff_not, z_sen]; omega)
    exact retI hx hb hr hlocks hS hP hD () (by rw [hok]; rfl) (by rw [hok]; rfl) dX9_said_31

set_option maxHeartbeats 4000000 in
set_option maxRecDepth 100000 in
theorem c_X9_rule (l : Launch) (G : va_G) (tA : Nat → ClassId) (b : Nat → Nat) (qu : Nat) (ab : Int64) (bl : Int64) (tyd : Nat) (at0 : Nat) (sta : Nat) (tok : Nat) (val : Nat) (man : Nat) (B : Nat → Nat) (rf : Nat → Int32) (te : Int32) (TE : Int) (ue : Int32) (UE : Int) (ve : Int32) (VE : Int) (hWB : WB B) (hqu : qu < 2) (hte : te.toInt = TE) (hue : ue.toInt = UE) (hve : ve.toInt = VE) : CtI l yX9_rule wsX9_rule ({ frames := 2, cells := 0, slots := 0, locals := 46 }) G tA [.ref (b 0), .int te, .int ue, .int ve] ([(b 0, .inr (7, [.ref (b 1), .ref (b 2), .ref (b 3), .ref (b 4), .ref (b 5), .int (nI qu), .long ab, .long bl, .ref (b 6), .int (nI tyd), .int (nI at0), .int (nI sta), .int (nI tok), .int (nI val), .ref (b 7), .int (nI man), .ref (b 8), .ref (b 9), .ref (b 10), .ref (b 11), .ref (b 12), .ref (b 13), .ref (b 14)])), (b 1, .inl (tA 0, 212, .inl (nF B))), (b 5, .inl (tA 0, 3, .inl rf))]) (fun (r : Int32) (_ : Unit) => r = okR (okU (B 0) TE UE VE) (B 3) 8) (fun (_ : Unit) => [(b 0, .inr (7, [.ref (b 1), .ref (b 2), .ref (b 3), .ref (b 4), .ref (b 5), .int (nI qu), .long ab, .long bl, .ref (b 6), .int (nI tyd), .int (nI at0), .int (nI sta), .int (nI tok), .int (nI val), .ref (b 7), .int (nI man), .ref (b 8), .ref (b 9), .ref (b 10), .ref (b 11), .ref (b 12), .ref (b 13), .ref (b 14)])), (b 1, .inl (tA 0, 212, .inl (nF (okB (okU (B 0) TE UE VE) (B 3) 8 (rowM3 B (102 + 3 * B 3) 3 TE.toNat UE.toNat VE.toNat) B)))), (b 5, .inl (tA 0, 3, .inl (rfS (okU (B 0) TE UE VE) (B 3) 8 qu rf)))]) 0 0 := by
  refine enterI (cc := cX9_rule) (maxL := 5) (ret := (some .int)) (by decide) rfl (Nat.le_of_ble_eq_true rfl) ?_
  intro p0 e0 s m args below meth c0_ A ls hx hb hml hr hts hown hlocks hin hKK hA hP hD hl hS
  have hown : s.vm.findClass RX9 = some m.cls := hown
  have hl : lv_has ls 5 [(0, .ref (b 0)), (1, .int te), (2, .int ue), (3, .int ve)] := hl
  have f7 := hts (Cond.fieldLink RX9 7 "LentTermsModel" "book" "[I") (List.mem_of_getElem? (i := 1) rfl)
  have iX9 : ∀ w ∈ wsX90, w ∈ wsX9_rule := by decide +kernel
  obtain ⟨⟨hn0, hn1, hn2, hn3, hn4, hn5⟩, hbB, hv0, hv1, hv2, hv3, hv4, hv5, hv6, hv7⟩ := id hWB
  have h256 := p256 hn0
  refine lv_aload_n hx hb dX9_rule_0 rfl (lv_at hl 0 rfl) ?_
  refine lv_iload_n hx hb dX9_rule_1 rfl (lv_at hl 1 rfl) ?_
  refine roI hP hD hS hA [0, 1] rfl (runV (As := [.int te]) (rest := []) (isC := [0, 1]) ⟨hx, hb, hml, hown, hts⟩ hKK hP hD rfl (by decide) (c_X9_isTerm l G tA b qu ab bl tyd at0 sta tok val man B te TE (hWB) hte _) (cwV 1 hts gX9_rule_X9_isTerm rfl rfl rfl (by decide +kernel) ⟨Nat.le_of_ble_eq_true rfl, Nat.le_of_ble_eq_true rfl⟩) rfl rfl rfl rfl hl.1 rfl (lv_room (Nat.le_of_ble_eq_true rfl)) dX9_rule_2 ⟨Nat.le_of_ble_eq_true rfl, Nat.le_of_ble_eq_true rfl⟩) (fun _ => rfl) (fun r_1 u_2 H locs q_3 hP hS => ?_)
  rcases q_3 with ⟨rfl, p_4⟩ | ⟨rfl, p_4⟩
  · have p_4 : 0 ≤ TE ∧ TE < ((B 0 : Nat) : Int) := p_4
    refine nv_if_eq (tgt := 34) (by omega) hx hb dX9_rule_5 (by decide) (fun h => absurd h (by omega)) (fun _ => ?_)
    refine lv_aload_n hx hb dX9_rule_8 rfl (lv_at hl 0 rfl) ?_
    refine lv_iload_n hx hb dX9_rule_9 rfl (lv_at hl 2 rfl) ?_
    refine roI hP hD hS hA [0, 1] rfl (runV (As := [.int ue]) (rest := []) (isC := [0, 1]) ⟨hx, hb, hml, hown, hts⟩ hKK hP hD rfl (by decide) (c_X9_isTerm l G tA b qu ab bl tyd at0 sta tok val man B ue UE (hWB) hue _) (cwV 1 hts gX9_rule_X9_isTerm rfl rfl rfl (by decide +kernel) ⟨Nat.le_of_ble_eq_true rfl, Nat.le_of_ble_eq_true rfl⟩) rfl rfl rfl rfl hl.1 rfl (lv_room (Nat.le_of_ble_eq_true rfl)) dX9_rule_10 ⟨Nat.le_of_ble_eq_true rfl, Nat.le_of_ble_eq_true rfl⟩) (fun _ => rfl) (fun r_6 u_7 H locs q_8 hP hS => ?_)
    rcases q_8 with ⟨rfl, p_9⟩ | ⟨rfl, p_9⟩
    · have p_9 : 0 ≤ UE ∧ UE < ((B 0 : Nat) : Int) := p_9
      refine nv_if_eq (tgt := 34) (by omega) hx hb dX9_rule_13 (by decide) (fun h => absurd h (by omega)) (fun _ => ?_)
      refine lv_aload_n hx hb dX9_rule_16 rfl (lv_at hl 0 rfl) ?_
      refine lv_iload_n hx hb dX9_rule_17 rfl (lv_at hl 3 rfl) ?_
      refine roI hP hD hS hA [0, 1] rfl (runV (As := [.int ve]) (rest := []) (isC := [0, 1]) ⟨hx, hb, hml, hown, hts⟩ hKK hP hD rfl (by decide) (c_X9_isTerm l G tA b qu ab bl tyd at0 sta tok val man B ve VE (hWB) hve _) (cwV 1 hts gX9_rule_X9_isTerm rfl rfl rfl (by decide +kernel) ⟨Nat.le_of_ble_eq_true rfl, Nat.le_of_ble_eq_true rfl⟩) rfl rfl rfl rfl hl.1 rfl (lv_room (Nat.le_of_ble_eq_true rfl)) dX9_rule_18 ⟨Nat.le_of_ble_eq_true rfl, Nat.le_of_ble_eq_true rfl⟩) (fun _ => rfl) (fun r_11 u_12 H locs q_13 hP hS => ?_)
      rcases q_13 with ⟨rfl, p_14⟩ | ⟨rfl, p_14⟩
      · have p_14 : 0 ≤ VE ∧ VE < ((B 0 : Nat) : Int) := p_14
        refine nv_if_eq (tgt := 34) (by omega) hx hb dX9_rule_21 (by decide) (fun h => absurd h (by omega)) (fun _ => ?_)
        refine lv_iload_n hx hb dX9_rule_24 rfl (lv_at hl 1 rfl) ?_
        refine lv_iload_n hx hb dX9_rule_25 rfl (lv_at hl 2 rfl) ?_
        refine zv_icmp_eq (tgt := 34) (X := TE) (Y := UE) hte hue hx hb dX9_rule_26 (by decide) (fun c_16 => ?_) (fun c_16 => ?_)
        · refine lv_aload_n hx hb dX9_rule_34 rfl (lv_at hl 0 rfl) ?_
          refine rwI hP hD hS hA [0, 2] rfl (runV (As := []) (rest := []) (isC := [0, 2]) ⟨hx, hb, hml, hown, hts⟩ hKK hP hD rfl (by decide) (c_X9_bad l G tA b qu ab bl tyd at0 sta tok val man rf (hqu) _) (cwV 0 hts gX9_rule_X9_bad rfl rfl rfl (by decide +kernel) ⟨Nat.le_of_ble_eq_true rfl, Nat.le_of_ble_eq_true rfl⟩) rfl rfl rfl rfl hl.1 rfl (lv_room (Nat.le_of_ble_eq_true rfl)) dX9_rule_35 ⟨Nat.le_of_ble_eq_true rfl, Nat.le_of_ble_eq_true rfl⟩) (fun (_ : Unit) => [(b 0, .inr (7, [.ref (b 1), .ref (b 2), .ref (b 3), .ref (b 4), .ref (b 5), .int (nI qu), .long ab, .long bl, .ref (b 6), .int (nI tyd), .int (nI at0), .int (nI sta), .int (nI tok), .int (nI val), .ref (b 7), .int (nI man), .ref (b 8), .ref (b 9), .ref (b 10), .ref (b 11), .ref (b 12), .ref (b 13), .ref (b 14)])), (b 1, .inl (tA 0, 212, .inl (nF B))), (b 5, .inl (tA 0, 3, .inl (bump qu rf 0)))]) (fun _ => rfl) (fun _ => rfl) (fun _ => rfl) (fun r_17 u_18 H locs q_19 hP hD hS => ?_)
          subst q_19
          have hok : okU (B 0) TE UE VE = false := by first | (simp only [okU, decide_eq_false_iff_not]; omega) | (simp only [okU, decide_eq_false_iff_not, z_sen]; omega)
          exact retI hx hb hr hlocks hS hP hD () (by rw [hok]; rfl) (by rw [hok]; rfl) dX9_rule_38
        · refine lv_iload_n hx hb dX9_rule_29 rfl (lv_at hl 1 rfl) ?_
          refine lv_iload_n hx hb dX9_rule_30 rfl (lv_at hl 3 rfl) ?_
          refine zv_icmp_ne (tgt := 39) (X := TE) (Y := VE) hte hve hx hb dX9_rule_31 (by decide) (fun c_20 => ?_) (fun c_20 => ?_)
          · have hok : okU (B 0) TE UE VE = true := by simp only [okU, decide_eq_true_eq]; omega
            obtain ⟨ten, h_ten, rfl⟩ := toN (x := te) (by omega)
            have t_ten : (nI ten).toInt = (ten : Int) := nI_toInt h_ten
            have z_ten : TE.toNat = ten := by omega
            obtain ⟨uen, h_uen, rfl⟩ := toN (x := ue) (by omega)
            have t_uen : (nI uen).toInt = (uen : Int) := nI_toInt h_uen
            have z_uen : UE.toNat = uen := by omega
            obtain ⟨ven, h_ven, rfl⟩ := toN (x := ve) (by omega)
            have t_ven : (nI ven).toInt = (ven : Int) := nI_toInt h_ven
            have z_ven : VE.toNat = ven := by omega
            refine lv_aload_n hx hb dX9_rule_39 rfl (lv_at hl 0 rfl) ?_
            refine va_get (D := G) (ci := 7) (C := RX9) (T := TX9) (N := 23) hx hb hts iX9 hown hKK.1 hP 0 rfl rfl 0 (by decide) f7 (fun _ h9 => h9) rfl dX9_rule_40 ?_
            refine lv_iconst (v := nI 3) hx hb dX9_rule_43 (by decide) ?_
            refine nv_iald (i := 3) hx hb hKK.1 hP 1 0 rfl rfl (by omega) (by decide) dX9_rule_44 ?_
            have b_21 := hbB 3
            refine lv_bipush (v := nI 8) hx hb dX9_rule_45 (by decide +kernel) ?_
            refine nv_icmp_ne (tgt := 55) (by omega) (by omega) hx hb dX9_rule_47 (by decide) (fun c_22 => ?_) (fun c_22 => ?_)
            · refine lv_bipush (v := nI 102) hx hb dX9_rule_55 (by decide +kernel) ?_
              refine lv_iconst (v := nI 3) hx hb dX9_rule_57 (by decide) ?_
              refine lv_aload_n hx hb dX9_rule_58 rfl (lv_at hl 0 rfl) ?_
              refine va_get (D := G) (ci := 7) (C := RX9) (T := TX9) (N := 23) hx hb hts iX9 hown hKK.1 hP 0 rfl rfl 0 (by decide) f7 (fun _ h9 => h9) rfl dX9_rule_59 ?_
              refine lv_iconst (v := nI 3) hx hb dX9_rule_62 (by decide) ?_
              refine nv_iald (i := 3) hx hb hKK.1 hP 1 0 rfl rfl (by omega) (by decide) dX9_rule_63 ?_
              have b_23 := hbB 3
              refine nv_imul hx hb dX9_rule_64 ?_
              refine nv_iadd hx hb dX9_rule_65 ?_
              refine lv_istore (lv' := [(4, .int (nI (102 + (3 * (B 3))))), (0, .ref (b 0)), (1, .int (nI ten)), (2, .int (nI uen)), (3, .int (nI ven))]) hx hb dX9_rule_66 hl (by decide) rfl (fun ls hl => ?_)
              refine lv_aload_n hx hb dX9_rule_68 rfl (lv_at hl 1 rfl) ?_
              refine va_get (D := G) (ci := 7) (C := RX9) (T := TX9) (N := 23) hx hb hts iX9 hown hKK.1 hP 0 rfl rfl 0 (by decide) f7 (fun _ h9 => h9) rfl dX9_rule_69 ?_
              refine lv_iload hx hb dX9_rule_72 (lv_at hl 0 rfl) ?_
              refine lv_iload_n hx hb dX9_rule_74 rfl (lv_at hl 2 rfl) ?_
              refine nv_iast (i := 102 + (3 * (B 3))) hx hb hKK.1 hP hD hS 1 0 rfl rfl (by omega) (by decide) dX9_rule_75 [(b 0, .inr (7, [.ref (b 1), .ref (b 2), .ref (b 3), .ref (b 4), .ref (b 5), .int (nI qu), .long ab, .long bl, .ref (b 6), .int (nI tyd), .int (nI at0), .int (nI sta), .int (nI tok), .int (nI val), .ref (b 7), .int (nI man), .ref (b 8), .ref (b 9), .ref (b 10), .ref (b 11), .ref (b 12), .ref (b 13), .ref (b 14)])), (b 1, .inl (tA 0, 212, .inl (nF (updN B (102 + (3 * (B 3))) ten)))), (b 5, .inl (tA 0, 3, .inl rf))] rfl (fun H locs hP hD hS => ?_)
              have B_24 := updN_lt hbB (102 + (3 * (B 3))) (show ten < 1048576 from by omega)
              refine lv_aload_n hx hb dX9_rule_76 rfl (lv_at hl 1 rfl) ?_
              refine va_get (D := G) (ci := 7) (C := RX9) (T := TX9) (N := 23) hx hb hts iX9 hown hKK.1 hP 0 rfl rfl 0 (by decide) f7 (fun _ h9 => h9) rfl dX9_rule_77 ?_
              refine lv_iload hx hb dX9_rule_80 (lv_at hl 0 rfl) ?_
              refine lv_iconst (v := nI 1) hx hb dX9_rule_82 (by decide) ?_
              refine nv_iadd hx hb dX9_rule_83 ?_
              refine lv_iload_n hx hb dX9_rule_84 rfl (lv_at hl 3 rfl) ?_
              refine nv_iast (i := (102 + (3 * (B 3))) + 1) hx hb hKK.1 hP hD hS 1 0 rfl rfl (by omega) (by decide) dX9_rule_85 [(b 0, .inr (7, [.ref (b 1), .ref (b 2), .ref (b 3), .ref (b 4), .ref (b 5), .int (nI qu), .long ab, .long bl, .ref (b 6), .int (nI tyd), .int (nI at0), .int (nI sta), .int (nI tok), .int (nI val), .ref (b 7), .int (nI man), .ref (b 8), .ref (b 9), .ref (b 10), .ref (b 11), .ref (b 12), .ref (b 13), .ref (b 14)])), (b 1, .inl (tA 0, 212, .inl (nF (updN (updN B (102 + (3 * (B 3))) ten) ((102 + (3 * (B 3))) + 1) uen)))), (b 5, .inl (tA 0, 3, .inl rf))] rfl (fun H locs hP hD hS => ?_)
              have B_25 := updN_lt B_24 ((102 + (3 * (B 3))) + 1) (show uen < 1048576 from by omega)
              refine lv_aload_n hx hb dX9_rule_86 rfl (lv_at hl 1 rfl) ?_
              refine va_get (D := G) (ci := 7) (C := RX9) (T := TX9) (N := 23) hx hb hts iX9 hown hKK.1 hP 0 rfl rfl 0 (by decide) f7 (fun _ h9 => h9) rfl dX9_rule_87 ?_
              refine lv_iload hx hb dX9_rule_90 (lv_at hl 0 rfl) ?_
              refine lv_iconst (v := nI 2) hx hb dX9_rule_92 (by decide) ?_
              refine nv_iadd hx hb dX9_rule_93 ?_
              refine lv_iload_n hx hb dX9_rule_94 rfl (lv_at hl 4 rfl) ?_
              refine nv_iast (i := (102 + (3 * (B 3))) + 2) hx hb hKK.1 hP hD hS 1 0 rfl rfl (by omega) (by decide) dX9_rule_95 [(b 0, .inr (7, [.ref (b 1), .ref (b 2), .ref (b 3), .ref (b 4), .ref (b 5), .int (nI qu), .long ab, .long bl, .ref (b 6), .int (nI tyd), .int (nI at0), .int (nI sta), .int (nI tok), .int (nI val), .ref (b 7), .int (nI man), .ref (b 8), .ref (b 9), .ref (b 10), .ref (b 11), .ref (b 12), .ref (b 13), .ref (b 14)])), (b 1, .inl (tA 0, 212, .inl (nF (updN (updN (updN B (102 + (3 * (B 3))) ten) ((102 + (3 * (B 3))) + 1) uen) ((102 + (3 * (B 3))) + 2) ven)))), (b 5, .inl (tA 0, 3, .inl rf))] rfl (fun H locs hP hD hS => ?_)
              have B_26 := updN_lt B_25 ((102 + (3 * (B 3))) + 2) (show ven < 1048576 from by omega)
              refine lv_aload_n hx hb dX9_rule_96 rfl (lv_at hl 1 rfl) ?_
              refine va_get (D := G) (ci := 7) (C := RX9) (T := TX9) (N := 23) hx hb hts iX9 hown hKK.1 hP 0 rfl rfl 0 (by decide) f7 (fun _ h9 => h9) rfl dX9_rule_97 ?_
              refine lv_iconst (v := nI 3) hx hb dX9_rule_100 (by decide) ?_
              refine lv_dup2_11 hx hb dX9_rule_101 rfl rfl ?_
              refine nv_iald (i := 3) hx hb hKK.1 hP 1 0 rfl rfl (by omega) (by decide) dX9_rule_102 ?_
              have b_27 := B_26 3
              refine nv_top (y := B 3) (congrArg nI (by simp only [updN]; (repeat' split) <;> omega)) ?_
              refine lv_iconst (v := nI 1) hx hb dX9_rule_103 (by decide) ?_
              refine nv_iadd hx hb dX9_rule_104 ?_
              refine nv_iast (i := 3) hx hb hKK.1 hP hD hS 1 0 rfl rfl (by omega) (by decide) dX9_rule_105 [(b 0, .inr (7, [.ref (b 1), .ref (b 2), .ref (b 3), .ref (b 4), .ref (b 5), .int (nI qu), .long ab, .long bl, .ref (b 6), .int (nI tyd), .int (nI at0), .int (nI sta), .int (nI tok), .int (nI val), .ref (b 7), .int (nI man), .ref (b 8), .ref (b 9), .ref (b 10), .ref (b 11), .ref (b 12), .ref (b 13), .ref (b 14)])), (b 1, .inl (tA 0, 212, .inl (nF (updN (updN (updN (updN B (102 + (3 * (B 3))) ten) ((102 + (3 * (B 3))) + 1) uen) ((102 + (3 * (B 3))) + 2) ven) 3 ((B 3) + 1))))), (b 5, .inl (tA 0, 3, .inl rf))] rfl (fun H locs hP hD hS => ?_)
              have B_28 := updN_lt B_26 3 (show (B 3) + 1 < 1048576 from by omega)
              refine lv_aload_n hx hb dX9_rule_106 rfl (lv_at hl 1 rfl) ?_
              refine va_get (D := G) (ci := 7) (C := RX9) (T := TX9) (N := 23) hx hb hts iX9 hown hKK.1 hP 0 rfl rfl 0 (by decide) f7 (fun _ h9 => h9) rfl dX9_rule_107 ?_
              refine lv_iconst (v := nI 3) hx hb dX9_rule_110 (by decide) ?_
              refine nv_iald (i := 3) hx hb hKK.1 hP 1 0 rfl rfl (by omega) (by decide) dX9_rule_111 ?_
              have b_29 := B_28 3
              refine nv_top (y := B 3 + 1) (congrArg nI (updN_s _ _ _)) ?_
              refine lv_iconst (v := nI 1) hx hb dX9_rule_112 (by decide) ?_
              refine nv_isub (show 1 ≤ B 3 + 1 from by omega) hx hb dX9_rule_113 ?_
              exact retI hx hb hr hlocks hS hP hD () (by rw [hok]; unfold okB rfS; rw [if_pos rfl, if_pos (by omega), if_pos rfl, if_pos (by omega), z_ten, z_uen, z_ven]; try rfl) (by rw [hok]; unfold okR; rw [if_pos rfl, if_pos (by omega)]; try exact congrArg nI (by omega)) dX9_rule_114
            · refine lv_aload_n hx hb dX9_rule_50 rfl (lv_at hl 0 rfl) ?_
              refine rwI hP hD hS hA [0, 2] rfl (runV (As := []) (rest := []) (isC := [0, 2]) ⟨hx, hb, hml, hown, hts⟩ hKK hP hD rfl (by decide) (c_X9_full l G tA b qu ab bl tyd at0 sta tok val man rf (hqu) _) (cwV 0 hts gX9_rule_X9_full rfl rfl rfl (by decide +kernel) ⟨Nat.le_of_ble_eq_true rfl, Nat.le_of_ble_eq_true rfl⟩) rfl rfl rfl rfl hl.1 rfl (lv_room (Nat.le_of_ble_eq_true rfl)) dX9_rule_51 ⟨Nat.le_of_ble_eq_true rfl, Nat.le_of_ble_eq_true rfl⟩) (fun (_ : Unit) => [(b 0, .inr (7, [.ref (b 1), .ref (b 2), .ref (b 3), .ref (b 4), .ref (b 5), .int (nI qu), .long ab, .long bl, .ref (b 6), .int (nI tyd), .int (nI at0), .int (nI sta), .int (nI tok), .int (nI val), .ref (b 7), .int (nI man), .ref (b 8), .ref (b 9), .ref (b 10), .ref (b 11), .ref (b 12), .ref (b 13), .ref (b 14)])), (b 1, .inl (tA 0, 212, .inl (nF B))), (b 5, .inl (tA 0, 3, .inl (bump qu rf 2)))]) (fun _ => rfl) (fun _ => rfl) (fun _ => rfl) (fun r_30 u_31 H locs q_32 hP hD hS => ?_)
              subst q_32
              exact retI hx hb hr hlocks hS hP hD () (by rw [hok]; unfold okB rfS; rw [if_pos rfl, if_neg (by omega), if_pos rfl, if_neg (by omega)]) (by rw [hok]; unfold okR; rw [if_pos rfl, if_neg (by omega)]) dX9_rule_54
          · refine lv_aload_n hx hb dX9_rule_34 rfl (lv_at hl 0 rfl) ?_
            refine rwI hP hD hS hA [0, 2] rfl (runV (As := []) (rest := []) (isC := [0, 2]) ⟨hx, hb, hml, hown, hts⟩ hKK hP hD rfl (by decide) (c_X9_bad l G tA b qu ab bl tyd at0 sta tok val man rf (hqu) _) (cwV 0 hts gX9_rule_X9_bad rfl rfl rfl (by decide +kernel) ⟨Nat.le_of_ble_eq_true rfl, Nat.le_of_ble_eq_true rfl⟩) rfl rfl rfl rfl hl.1 rfl (lv_room (Nat.le_of_ble_eq_true rfl)) dX9_rule_35 ⟨Nat.le_of_ble_eq_true rfl, Nat.le_of_ble_eq_true rfl⟩) (fun (_ : Unit) => [(b 0, .inr (7, [.ref (b 1), .ref (b 2), .ref (b 3), .ref (b 4), .ref (b 5), .int (nI qu), .long ab, .long bl, .ref (b 6), .int (nI tyd), .int (nI at0), .int (nI sta), .int (nI tok), .int (nI val), .ref (b 7), .int (nI man), .ref (b 8), .ref (b 9), .ref (b 10), .ref (b 11), .ref (b 12), .ref (b 13), .ref (b 14)])), (b 1, .inl (tA 0, 212, .inl (nF B))), (b 5, .inl (tA 0, 3, .inl (bump qu rf 0)))]) (fun _ => rfl) (fun _ => rfl) (fun _ => rfl) (fun r_33 u_34 H locs q_35 hP hD hS => ?_)
            subst q_35
            have hok : okU (B 0) TE UE VE = false := by first | (simp only [okU, decide_eq_false_iff_not]; omega) | (simp only [okU, decide_eq_false_iff_not, z_sen]; omega)
            exact retI hx hb hr hlocks hS hP hD () (by rw [hok]; rfl) (by rw [hok]; rfl) dX9_rule_38
      · have p_14 : ¬ (0 ≤ VE ∧ VE < ((B 0 : Nat) : Int)) := p_14
        refine nv_if_eq (tgt := 34) (by omega) hx hb dX9_rule_21 (by decide) (fun _ => ?_) (fun h => absurd h (by omega))
        refine lv_aload_n hx hb dX9_rule_34 rfl (lv_at hl 0 rfl) ?_
        refine rwI hP hD hS hA [0, 2] rfl (runV (As := []) (rest := []) (isC := [0, 2]) ⟨hx, hb, hml, hown, hts⟩ hKK hP hD rfl (by decide) (c_X9_bad l G tA b qu ab bl tyd at0 sta tok val man rf (hqu) _) (cwV 0 hts gX9_rule_X9_bad rfl rfl rfl (by decide +kernel) ⟨Nat.le_of_ble_eq_true rfl, Nat.le_of_ble_eq_true rfl⟩) rfl rfl rfl rfl hl.1 rfl (lv_room (Nat.le_of_ble_eq_true rfl)) dX9_rule_35 ⟨Nat.le_of_ble_eq_true rfl, Nat.le_of_ble_eq_true rfl⟩) (fun (_ : Unit) => [(b 0, .inr (7, [.ref (b 1), .ref (b 2), .ref (b 3), .ref (b 4), .ref (b 5), .int (nI qu), .long ab, .long bl, .ref (b 6), .int (nI tyd), .int (nI at0), .int (nI sta), .int (nI tok), .int (nI val), .ref (b 7), .int (nI man), .ref (b 8), .ref (b 9), .ref (b 10), .ref (b 11), .ref (b 12), .ref (b 13), .ref (b 14)])), (b 1, .inl (tA 0, 212, .inl (nF B))), (b 5, .inl (tA 0, 3, .inl (bump qu rf 0)))]) (fun _ => rfl) (fun _ => rfl) (fun _ => rfl) (fun r_37 u_38 H locs q_39 hP hD hS => ?_)
        subst q_39
        have hok : okU (B 0) TE UE VE = false := by first | (simp only [okU, decide_eq_false_iff_not]; omega) | (simp only [okU, decide_eq_false_iff_not, z_sen]; omega)
        exact retI hx hb hr hlocks hS hP hD () (by rw [hok]; rfl) (by rw [hok]; rfl) dX9_rule_38
    · have p_9 : ¬ (0 ≤ UE ∧ UE < ((B 0 : Nat) : Int)) := p_9
      refine nv_if_eq (tgt := 34) (by omega) hx hb dX9_rule_13 (by decide) (fun _ => ?_) (fun h => absurd h (by omega))
      refine lv_aload_n hx hb dX9_rule_34 rfl (lv_at hl 0 rfl) ?_
      refine rwI hP hD hS hA [0, 2] rfl (runV (As := []) (rest := []) (isC := [0, 2]) ⟨hx, hb, hml, hown, hts⟩ hKK hP hD rfl (by decide) (c_X9_bad l G tA b qu ab bl tyd at0 sta tok val man rf (hqu) _) (cwV 0 hts gX9_rule_X9_bad rfl rfl rfl (by decide +kernel) ⟨Nat.le_of_ble_eq_true rfl, Nat.le_of_ble_eq_true rfl⟩) rfl rfl rfl rfl hl.1 rfl (lv_room (Nat.le_of_ble_eq_true rfl)) dX9_rule_35 ⟨Nat.le_of_ble_eq_true rfl, Nat.le_of_ble_eq_true rfl⟩) (fun (_ : Unit) => [(b 0, .inr (7, [.ref (b 1), .ref (b 2), .ref (b 3), .ref (b 4), .ref (b 5), .int (nI qu), .long ab, .long bl, .ref (b 6), .int (nI tyd), .int (nI at0), .int (nI sta), .int (nI tok), .int (nI val), .ref (b 7), .int (nI man), .ref (b 8), .ref (b 9), .ref (b 10), .ref (b 11), .ref (b 12), .ref (b 13), .ref (b 14)])), (b 1, .inl (tA 0, 212, .inl (nF B))), (b 5, .inl (tA 0, 3, .inl (bump qu rf 0)))]) (fun _ => rfl) (fun _ => rfl) (fun _ => rfl) (fun r_41 u_42 H locs q_43 hP hD hS => ?_)
      subst q_43
      have hok : okU (B 0) TE UE VE = false := by first | (simp only [okU, decide_eq_false_iff_not]; omega) | (simp only [okU, decide_eq_false_iff_not, z_sen]; omega)
      exact retI hx hb hr hlocks hS hP hD () (by rw [hok]; rfl) (by rw [hok]; rfl) dX9_rule_38
  · have p_4 : ¬ (0 ≤ TE ∧ TE < ((B 0 : Nat) : Int)) := p_4
    refine nv_if_eq (tgt := 34) (by omega) hx hb dX9_rule_5 (by decide) (fun _ => ?_) (fun h => absurd h (by omega))
    refine lv_aload_n hx hb dX9_rule_34 rfl (lv_at hl 0 rfl) ?_
    refine rwI hP hD hS hA [0, 2] rfl (runV (As := []) (rest := []) (isC := [0, 2]) ⟨hx, hb, hml, hown, hts⟩ hKK hP hD rfl (by decide) (c_X9_bad l G tA b qu ab bl tyd at0 sta tok val man rf (hqu) _) (cwV 0 hts gX9_rule_X9_bad rfl rfl rfl (by decide +kernel) ⟨Nat.le_of_ble_eq_true rfl, Nat.le_of_ble_eq_true rfl⟩) rfl rfl rfl rfl hl.1 rfl (lv_room (Nat.le_of_ble_eq_true rfl)) dX9_rule_35 ⟨Nat.le_of_ble_eq_true rfl, Nat.le_of_ble_eq_true rfl⟩) (fun (_ : Unit) => [(b 0, .inr (7, [.ref (b 1), .ref (b 2), .ref (b 3), .ref (b 4), .ref (b 5), .int (nI qu), .long ab, .long bl, .ref (b 6), .int (nI tyd), .int (nI at0), .int (nI sta), .int (nI tok), .int (nI val), .ref (b 7), .int (nI man), .ref (b 8), .ref (b 9), .ref (b 10), .ref (b 11), .ref (b 12), .ref (b 13), .ref (b 14)])), (b 1, .inl (tA 0, 212, .inl (nF B))), (b 5, .inl (tA 0, 3, .inl (bump qu rf 0)))]) (fun _ => rfl) (fun _ => rfl) (fun _ => rfl) (fun r_45 u_46 H locs q_47 hP hD hS => ?_)
    subst q_47
    have hok : okU (B 0) TE UE VE = false := by first | (simp only [okU, decide_eq_false_iff_not]; omega) | (simp only [okU, decide_eq_false_iff_not, z_sen]; omega)
    exact retI hx hb hr hlocks hS hP hD () (by rw [hok]; rfl) (by rw [hok]; rfl) dX9_rule_38

set_option maxHeartbeats 4000000 in
set_option maxRecDepth 100000 in
theorem c_X9_saying (l : Launch) (G : va_G) (tA : Nat → ClassId) (b : Nat → Nat) (qu : Nat) (ab : Int64) (bl : Int64) (tyd : Nat) (at0 : Nat) (sta : Nat) (tok : Nat) (val : Nat) (man : Nat) (B : Nat → Nat) (rf : Nat → Int32) (se : Int32) (SE : Int) (ue : Int32) (UE : Int) (hWB : WB B) (hqu : qu < 2) (hse : se.toInt = SE) (hue : ue.toInt = UE) : CtI l yX9_saying wsX9_saying ({ frames := 2, cells := 0, slots := 0, locals := 46 }) G tA [.ref (b 0), .int se, .int ue] ([(b 0, .inr (7, [.ref (b 1), .ref (b 2), .ref (b 3), .ref (b 4), .ref (b 5), .int (nI qu), .long ab, .long bl, .ref (b 6), .int (nI tyd), .int (nI at0), .int (nI sta), .int (nI tok), .int (nI val), .ref (b 7), .int (nI man), .ref (b 8), .ref (b 9), .ref (b 10), .ref (b 11), .ref (b 12), .ref (b 13), .ref (b 14)])), (b 1, .inl (tA 0, 212, .inl (nF B))), (b 5, .inl (tA 0, 3, .inl rf))]) (fun (r : Int32) (_ : Unit) => r = okR (okY (B 0) SE UE) (B 5) 8) (fun (_ : Unit) => [(b 0, .inr (7, [.ref (b 1), .ref (b 2), .ref (b 3), .ref (b 4), .ref (b 5), .int (nI qu), .long ab, .long bl, .ref (b 6), .int (nI tyd), .int (nI at0), .int (nI sta), .int (nI tok), .int (nI val), .ref (b 7), .int (nI man), .ref (b 8), .ref (b 9), .ref (b 10), .ref (b 11), .ref (b 12), .ref (b 13), .ref (b 14)])), (b 1, .inl (tA 0, 212, .inl (nF (okB (okY (B 0) SE UE) (B 5) 8 (rowM2 B (196 + 2 * B 5) 5 SE.toNat UE.toNat) B)))), (b 5, .inl (tA 0, 3, .inl (rfS (okY (B 0) SE UE) (B 5) 8 qu rf)))]) 0 0 := by
  refine enterI (cc := cX9_saying) (maxL := 3) (ret := (some .int)) (by decide) rfl (Nat.le_of_ble_eq_true rfl) ?_
  intro p0 e0 s m args below meth c0_ A ls hx hb hml hr hts hown hlocks hin hKK hA hP hD hl hS
  have hown : s.vm.findClass RX9 = some m.cls := hown
  have hl : lv_has ls 3 [(0, .ref (b 0)), (1, .int se), (2, .int ue)] := hl
  have f75 := hts (Cond.constantLong RX9 75 (9)) (List.mem_of_getElem? (i := 1) rfl)
  have f7 := hts (Cond.fieldLink RX9 7 "LentTermsModel" "book" "[I") (List.mem_of_getElem? (i := 2) rfl)
  have iX9 : ∀ w ∈ wsX90, w ∈ wsX9_saying := by decide +kernel
  obtain ⟨⟨hn0, hn1, hn2, hn3, hn4, hn5⟩, hbB, hv0, hv1, hv2, hv3, hv4, hv5, hv6, hv7⟩ := id hWB
  have h256 := p256 hn0
  refine lv_aload_n hx hb dX9_saying_0 rfl (lv_at hl 0 rfl) ?_
  refine lv_iload_n hx hb dX9_saying_1 rfl (lv_at hl 1 rfl) ?_
  refine roI hP hD hS hA [0, 1] rfl (runV (As := [.int se]) (rest := []) (isC := [0, 1]) ⟨hx, hb, hml, hown, hts⟩ hKK hP hD rfl (by decide) (c_X9_isSet l G tA b qu ab bl tyd at0 sta tok val man B se SE (hWB) hse _) (cwV 1 hts gX9_saying_X9_isSet rfl rfl rfl (by decide +kernel) ⟨Nat.le_of_ble_eq_true rfl, Nat.le_of_ble_eq_true rfl⟩) rfl rfl rfl rfl hl.1 rfl (lv_room (Nat.le_of_ble_eq_true rfl)) dX9_saying_2 ⟨Nat.le_of_ble_eq_true rfl, Nat.le_of_ble_eq_true rfl⟩) (fun _ => rfl) (fun r_1 u_2 H locs q_3 hP hS => ?_)
  rcases q_3 with ⟨rfl, p_4⟩ | ⟨rfl, p_4⟩
  · have p_4 : 0 ≤ SE ∧ SE < ((2 ^ B 0 : Nat) : Int) := p_4
    refine nv_if_eq (tgt := 24) (by omega) hx hb dX9_saying_5 (by decide) (fun h => absurd h (by omega)) (fun _ => ?_)
    refine lv_iload_n hx hb dX9_saying_8 rfl (lv_at hl 1 rfl) ?_
    refine zv_if_eq (tgt := 24) (X := SE) hse hx hb dX9_saying_9 (by decide) (fun c_6 => ?_) (fun c_6 => ?_)
    · refine lv_aload_n hx hb dX9_saying_24 rfl (lv_at hl 0 rfl) ?_
      refine rwI hP hD hS hA [0, 2] rfl (runV (As := []) (rest := []) (isC := [0, 2]) ⟨hx, hb, hml, hown, hts⟩ hKK hP hD rfl (by decide) (c_X9_bad l G tA b qu ab bl tyd at0 sta tok val man rf (hqu) _) (cwV 0 hts gX9_saying_X9_bad rfl rfl rfl (by decide +kernel) ⟨Nat.le_of_ble_eq_true rfl, Nat.le_of_ble_eq_true rfl⟩) rfl rfl rfl rfl hl.1 rfl (lv_room (Nat.le_of_ble_eq_true rfl)) dX9_saying_25 ⟨Nat.le_of_ble_eq_true rfl, Nat.le_of_ble_eq_true rfl⟩) (fun (_ : Unit) => [(b 0, .inr (7, [.ref (b 1), .ref (b 2), .ref (b 3), .ref (b 4), .ref (b 5), .int (nI qu), .long ab, .long bl, .ref (b 6), .int (nI tyd), .int (nI at0), .int (nI sta), .int (nI tok), .int (nI val), .ref (b 7), .int (nI man), .ref (b 8), .ref (b 9), .ref (b 10), .ref (b 11), .ref (b 12), .ref (b 13), .ref (b 14)])), (b 1, .inl (tA 0, 212, .inl (nF B))), (b 5, .inl (tA 0, 3, .inl (bump qu rf 0)))]) (fun _ => rfl) (fun _ => rfl) (fun _ => rfl) (fun r_7 u_8 H locs q_9 hP hD hS => ?_)
      subst q_9
      have hok : okY (B 0) SE UE = false := by first | (simp only [okY, decide_eq_false_iff_not]; omega) | (simp only [okY, decide_eq_false_iff_not, z_sen]; omega)
      exact retI hx hb hr hlocks hS hP hD () (by rw [hok]; rfl) (by rw [hok]; rfl) dX9_saying_28
    · refine lv_iload_n hx hb dX9_saying_12 rfl (lv_at hl 2 rfl) ?_
      refine lv_i2l hx hb dX9_saying_13 rfl ?_
      refine lv_lconst (v := (nI 1).toInt64) hx hb dX9_saying_14 (by decide +kernel) ?_
      refine lv_ldc2 (v := 9) hx hb hown f75 dX9_saying_15 ?_
      refine nv_topl (y := (nI 9).toInt64) (by decide +kernel) ?_
      refine roI hP hD hS hA [] rfl (runS (As := [.long ue.toInt64, .long ((nI 1).toInt64), .long ((nI 9).toInt64)]) (rest := []) (isC := []) ⟨hx, hb, hml, hown, hts⟩ hKK hP hD rfl (by decide) (c_X9_is l G tA ue UE (nI 1) (1 : Int) (nI 9) (9 : Int) hue rfl rfl _) (va_cwS 3 hts gX9_saying_X9_is rfl rfl rfl (by decide +kernel) ⟨Nat.le_of_ble_eq_true rfl, Nat.le_of_ble_eq_true rfl⟩) rfl rfl hl.1 rfl (lv_room (Nat.le_of_ble_eq_true rfl)) dX9_saying_18 ⟨Nat.le_of_ble_eq_true rfl, Nat.le_of_ble_eq_true rfl⟩) (fun _ => rfl) (fun r_10 u_11 H locs q_12 hP hS => ?_)
      rcases q_12 with ⟨rfl, p_13⟩ | ⟨rfl, p_13⟩
      · have p_13 : (1 : Int) ≤ UE ∧ UE ≤ (9 : Int) := p_13
        refine nv_if_ne (tgt := 29) (by omega) hx hb dX9_saying_21 (by decide) (fun _ => ?_) (fun h => absurd h (by omega))
        have hok : okY (B 0) SE UE = true := by simp only [okY, decide_eq_true_eq]; omega
        obtain ⟨sen, h_sen, rfl⟩ := toN (x := se) (by omega)
        have t_sen : (nI sen).toInt = (sen : Int) := nI_toInt h_sen
        have z_sen : SE.toNat = sen := by omega
        obtain ⟨uen, h_uen, rfl⟩ := toN (x := ue) (by omega)
        have t_uen : (nI uen).toInt = (uen : Int) := nI_toInt h_uen
        have z_uen : UE.toNat = uen := by omega
        refine lv_aload_n hx hb dX9_saying_29 rfl (lv_at hl 0 rfl) ?_
        refine va_get (D := G) (ci := 7) (C := RX9) (T := TX9) (N := 23) hx hb hts iX9 hown hKK.1 hP 0 rfl rfl 0 (by decide) f7 (fun _ h9 => h9) rfl dX9_saying_30 ?_
        refine lv_iconst (v := nI 5) hx hb dX9_saying_33 (by decide) ?_
        refine nv_iald (i := 5) hx hb hKK.1 hP 1 0 rfl rfl (by omega) (by decide) dX9_saying_34 ?_
        have b_15 := hbB 5
        refine lv_bipush (v := nI 8) hx hb dX9_saying_35 (by decide +kernel) ?_
        refine nv_icmp_ne (tgt := 45) (by omega) (by omega) hx hb dX9_saying_37 (by decide) (fun c_16 => ?_) (fun c_16 => ?_)
        · refine lv_aload_n hx hb dX9_saying_45 rfl (lv_at hl 0 rfl) ?_
          refine va_get (D := G) (ci := 7) (C := RX9) (T := TX9) (N := 23) hx hb hts iX9 hown hKK.1 hP 0 rfl rfl 0 (by decide) f7 (fun _ h9 => h9) rfl dX9_saying_46 ?_
          refine lv_sipush (v := nI 196) hx hb dX9_saying_49 (by decide +kernel) ?_
          refine lv_iconst (v := nI 2) hx hb dX9_saying_52 (by decide) ?_
          refine lv_aload_n hx hb dX9_saying_53 rfl (lv_at hl 0 rfl) ?_
          refine va_get (D := G) (ci := 7) (C := RX9) (T := TX9) (N := 23) hx hb hts iX9 hown hKK.1 hP 0 rfl rfl 0 (by decide) f7 (fun _ h9 => h9) rfl dX9_saying_54 ?_
          refine lv_iconst (v := nI 5) hx hb dX9_saying_57 (by decide) ?_
          refine nv_iald (i := 5) hx hb hKK.1 hP 1 0 rfl rfl (by omega) (by decide) dX9_saying_58 ?_
          have b_17 := hbB 5
          refine nv_imul hx hb dX9_saying_59 ?_
          refine nv_iadd hx hb dX9_saying_60 ?_
          refine lv_iload_n hx hb dX9_saying_61 rfl (lv_at hl 1 rfl) ?_
          refine nv_iast (i := 196 + (2 * (B 5))) hx hb hKK.1 hP hD hS 1 0 rfl rfl (by omega) (by decide) dX9_saying_62 [(b 0, .inr (7, [.ref (b 1), .ref (b 2), .ref (b 3), .ref (b 4), .ref (b 5), .int (nI qu), .long ab, .long bl, .ref (b 6), .int (nI tyd), .int (nI at0), .int (nI sta), .int (nI tok), .int (nI val), .ref (b 7), .int (nI man), .ref (b 8), .ref (b 9), .ref (b 10), .ref (b 11), .ref (b 12), .ref (b 13), .ref (b 14)])), (b 1, .inl (tA 0, 212, .inl (nF (updN B (196 + (2 * (B 5))) sen)))), (b 5, .inl (tA 0, 3, .inl rf))] rfl (fun H locs hP hD hS => ?_)
          have B_18 := updN_lt hbB (196 + (2 * (B 5))) (show sen < 1048576 from by omega)
          refine lv_aload_n hx hb dX9_saying_63 rfl (lv_at hl 0 rfl) ?_
          refine va_get (D := G) (ci := 7) (C := RX9) (T := TX9) (N := 23) hx hb hts iX9 hown hKK.1 hP 0 rfl rfl 0 (by decide) f7 (fun _ h9 => h9) rfl dX9_saying_64 ?_
          refine lv_sipush (v := nI 196) hx hb dX9_saying_67 (by decide +kernel) ?_
          refine lv_iconst (v := nI 2) hx hb dX9_saying_70 (by decide) ?_
          refine lv_aload_n hx hb dX9_saying_71 rfl (lv_at hl 0 rfl) ?_
          refine va_get (D := G) (ci := 7) (C := RX9) (T := TX9) (N := 23) hx hb hts iX9 hown hKK.1 hP 0 rfl rfl 0 (by decide) f7 (fun _ h9 => h9) rfl dX9_saying_72 ?_
          refine lv_iconst (v := nI 5) hx hb dX9_saying_75 (by decide) ?_
          refine nv_iald (i := 5) hx hb hKK.1 hP 1 0 rfl rfl (by omega) (by decide) dX9_saying_76 ?_
          have b_19 := B_18 5
          refine nv_top (y := B 5) (congrArg nI (by simp only [updN]; (repeat' split) <;> omega)) ?_
          refine nv_imul hx hb dX9_saying_77 ?_
          refine nv_iadd hx hb dX9_saying_78 ?_
          refine lv_iconst (v := nI 1) hx hb dX9_saying_79 (by decide) ?_
          refine nv_iadd hx hb dX9_saying_80 ?_
          refine lv_iload_n hx hb dX9_saying_81 rfl (lv_at hl 2 rfl) ?_
          refine nv_iast (i := (196 + (2 * (B 5))) + 1) hx hb hKK.1 hP hD hS 1 0 rfl rfl (by omega) (by decide) dX9_saying_82 [(b 0, .inr (7, [.ref (b 1), .ref (b 2), .ref (b 3), .ref (b 4), .ref (b 5), .int (nI qu), .long ab, .long bl, .ref (b 6), .int (nI tyd), .int (nI at0), .int (nI sta), .int (nI tok), .int (nI val), .ref (b 7), .int (nI man), .ref (b 8), .ref (b 9), .ref (b 10), .ref (b 11), .ref (b 12), .ref (b 13), .ref (b 14)])), (b 1, .inl (tA 0, 212, .inl (nF (updN (updN B (196 + (2 * (B 5))) sen) ((196 + (2 * (B 5))) + 1) uen)))), (b 5, .inl (tA 0, 3, .inl rf))] rfl (fun H locs hP hD hS => ?_)
          have B_20 := updN_lt B_18 ((196 + (2 * (B 5))) + 1) (show uen < 1048576 from by omega)
          refine lv_aload_n hx hb dX9_saying_83 rfl (lv_at hl 0 rfl) ?_
          refine va_get (D := G) (ci := 7) (C := RX9) (T := TX9) (N := 23) hx hb hts iX9 hown hKK.1 hP 0 rfl rfl 0 (by decide) f7 (fun _ h9 => h9) rfl dX9_saying_84 ?_
          refine lv_iconst (v := nI 5) hx hb dX9_saying_87 (by decide) ?_
          refine lv_dup2_11 hx hb dX9_saying_88 rfl rfl ?_
          refine nv_iald (i := 5) hx hb hKK.1 hP 1 0 rfl rfl (by omega) (by decide) dX9_saying_89 ?_
          have b_21 := B_20 5
          refine nv_top (y := B 5) (congrArg nI (by simp only [updN]; (repeat' split) <;> omega)) ?_
          refine lv_iconst (v := nI 1) hx hb dX9_saying_90 (by decide) ?_
          refine nv_iadd hx hb dX9_saying_91 ?_
          refine nv_iast (i := 5) hx hb hKK.1 hP hD hS 1 0 rfl rfl (by omega) (by decide) dX9_saying_92 [(b 0, .inr (7, [.ref (b 1), .ref (b 2), .ref (b 3), .ref (b 4), .ref (b 5), .int (nI qu), .long ab, .long bl, .ref (b 6), .int (nI tyd), .int (nI at0), .int (nI sta), .int (nI tok), .int (nI val), .ref (b 7), .int (nI man), .ref (b 8), .ref (b 9), .ref (b 10), .ref (b 11), .ref (b 12), .ref (b 13), .ref (b 14)])), (b 1, .inl (tA 0, 212, .inl (nF (updN (updN (updN B (196 + (2 * (B 5))) sen) ((196 + (2 * (B 5))) + 1) uen) 5 ((B 5) + 1))))), (b 5, .inl (tA 0, 3, .inl rf))] rfl (fun H locs hP hD hS => ?_)
          have B_22 := updN_lt B_20 5 (show (B 5) + 1 < 1048576 from by omega)
          refine lv_aload_n hx hb dX9_saying_93 rfl (lv_at hl 0 rfl) ?_
          refine va_get (D := G) (ci := 7) (C := RX9) (T := TX9) (N := 23) hx hb hts iX9 hown hKK.1 hP 0 rfl rfl 0 (by decide) f7 (fun _ h9 => h9) rfl dX9_saying_94 ?_
          refine lv_iconst (v := nI 5) hx hb dX9_saying_97 (by decide) ?_
          refine nv_iald (i := 5) hx hb hKK.1 hP 1 0 rfl rfl (by omega) (by decide) dX9_saying_98 ?_
          have b_23 := B_22 5
          refine nv_top (y := B 5 + 1) (congrArg nI (updN_s _ _ _)) ?_
          refine lv_iconst (v := nI 1) hx hb dX9_saying_99 (by decide) ?_
          refine nv_isub (show 1 ≤ B 5 + 1 from by omega) hx hb dX9_saying_100 ?_
          exact retI hx hb hr hlocks hS hP hD () (by rw [hok]; unfold okB rfS; rw [if_pos rfl, if_pos (by omega), if_pos rfl, if_pos (by omega), z_sen, z_uen]; try rfl) (by rw [hok]; unfold okR; rw [if_pos rfl, if_pos (by omega)]; try exact congrArg nI (by omega)) dX9_saying_101
        · refine lv_aload_n hx hb dX9_saying_40 rfl (lv_at hl 0 rfl) ?_
          refine rwI hP hD hS hA [0, 2] rfl (runV (As := []) (rest := []) (isC := [0, 2]) ⟨hx, hb, hml, hown, hts⟩ hKK hP hD rfl (by decide) (c_X9_full l G tA b qu ab bl tyd at0 sta tok val man rf (hqu) _) (cwV 0 hts gX9_saying_X9_full rfl rfl rfl (by decide +kernel) ⟨Nat.le_of_ble_eq_true rfl, Nat.le_of_ble_eq_true rfl⟩) rfl rfl rfl rfl hl.1 rfl (lv_room (Nat.le_of_ble_eq_true rfl)) dX9_saying_41 ⟨Nat.le_of_ble_eq_true rfl, Nat.le_of_ble_eq_true rfl⟩) (fun (_ : Unit) => [(b 0, .inr (7, [.ref (b 1), .ref (b 2), .ref (b 3), .ref (b 4), .ref (b 5), .int (nI qu), .long ab, .long bl, .ref (b 6), .int (nI tyd), .int (nI at0), .int (nI sta), .int (nI tok), .int (nI val), .ref (b 7), .int (nI man), .ref (b 8), .ref (b 9), .ref (b 10), .ref (b 11), .ref (b 12), .ref (b 13), .ref (b 14)])), (b 1, .inl (tA 0, 212, .inl (nF B))), (b 5, .inl (tA 0, 3, .inl (bump qu rf 2)))]) (fun _ => rfl) (fun _ => rfl) (fun _ => rfl) (fun r_24 u_25 H locs q_26 hP hD hS => ?_)
          subst q_26
          exact retI hx hb hr hlocks hS hP hD () (by rw [hok]; unfold okB rfS; rw [if_pos rfl, if_neg (by omega), if_pos rfl, if_neg (by omega)]) (by rw [hok]; unfold okR; rw [if_pos rfl, if_neg (by omega)]) dX9_saying_44
      · have p_13 : ¬ ((1 : Int) ≤ UE ∧ UE ≤ (9 : Int)) := p_13
        refine nv_if_ne (tgt := 29) (by omega) hx hb dX9_saying_21 (by decide) (fun h => absurd h (by omega)) (fun _ => ?_)
        refine lv_aload_n hx hb dX9_saying_24 rfl (lv_at hl 0 rfl) ?_
        refine rwI hP hD hS hA [0, 2] rfl (runV (As := []) (rest := []) (isC := [0, 2]) ⟨hx, hb, hml, hown, hts⟩ hKK hP hD rfl (by decide) (c_X9_bad l G tA b qu ab bl tyd at0 sta tok val man rf (hqu) _) (cwV 0 hts gX9_saying_X9_bad rfl rfl rfl (by decide +kernel) ⟨Nat.le_of_ble_eq_true rfl, Nat.le_of_ble_eq_true rfl⟩) rfl rfl rfl rfl hl.1 rfl (lv_room (Nat.le_of_ble_eq_true rfl)) dX9_saying_25 ⟨Nat.le_of_ble_eq_true rfl, Nat.le_of_ble_eq_true rfl⟩) (fun (_ : Unit) => [(b 0, .inr (7, [.ref (b 1), .ref (b 2), .ref (b 3), .ref (b 4), .ref (b 5), .int (nI qu), .long ab, .long bl, .ref (b 6), .int (nI tyd), .int (nI at0), .int (nI sta), .int (nI tok), .int (nI val), .ref (b 7), .int (nI man), .ref (b 8), .ref (b 9), .ref (b 10), .ref (b 11), .ref (b 12), .ref (b 13), .ref (b 14)])), (b 1, .inl (tA 0, 212, .inl (nF B))), (b 5, .inl (tA 0, 3, .inl (bump qu rf 0)))]) (fun _ => rfl) (fun _ => rfl) (fun _ => rfl) (fun r_28 u_29 H locs q_30 hP hD hS => ?_)
        subst q_30
        have hok : okY (B 0) SE UE = false := by first | (simp only [okY, decide_eq_false_iff_not]; omega) | (simp only [okY, decide_eq_false_iff_not, z_sen]; omega)
        exact retI hx hb hr hlocks hS hP hD () (by rw [hok]; rfl) (by rw [hok]; rfl) dX9_saying_28
  · have p_4 : ¬ (0 ≤ SE ∧ SE < ((2 ^ B 0 : Nat) : Int)) := p_4
    refine nv_if_eq (tgt := 24) (by omega) hx hb dX9_saying_5 (by decide) (fun _ => ?_) (fun h => absurd h (by omega))
    refine lv_aload_n hx hb dX9_saying_24 rfl (lv_at hl 0 rfl) ?_
    refine rwI hP hD hS hA [0, 2] rfl (runV (As := []) (rest := []) (isC := [0, 2]) ⟨hx, hb, hml, hown, hts⟩ hKK hP hD rfl (by decide) (c_X9_bad l G tA b qu ab bl tyd at0 sta tok val man rf (hqu) _) (cwV 0 hts gX9_saying_X9_bad rfl rfl rfl (by decide +kernel) ⟨Nat.le_of_ble_eq_true rfl, Nat.le_of_ble_eq_true rfl⟩) rfl rfl rfl rfl hl.1 rfl (lv_room (Nat.le_of_ble_eq_true rfl)) dX9_saying_25 ⟨Nat.le_of_ble_eq_true rfl, Nat.le_of_ble_eq_true rfl⟩) (fun (_ : Unit) => [(b 0, .inr (7, [.ref (b 1), .ref (b 2), .ref (b 3), .ref (b 4), .ref (b 5), .int (nI qu), .long ab, .long bl, .ref (b 6), .int (nI tyd), .int (nI at0), .int (nI sta), .int (nI tok), .int (nI val), .ref (b 7), .int (nI man), .ref (b 8), .ref (b 9), .ref (b 10), .ref (b 11), .ref (b 12), .ref (b 13), .ref (b 14)])), (b 1, .inl (tA 0, 212, .inl (nF B))), (b 5, .inl (tA 0, 3, .inl (bump qu rf 0)))]) (fun _ => rfl) (fun _ => rfl) (fun _ => rfl) (fun r_32 u_33 H locs q_34 hP hD hS => ?_)
    subst q_34
    have hok : okY (B 0) SE UE = false := by first | (simp only [okY, decide_eq_false_iff_not]; omega) | (simp only [okY, decide_eq_false_iff_not, z_sen]; omega)
    exact retI hx hb hr hlocks hS hP hD () (by rw [hok]; rfl) (by rw [hok]; rfl) dX9_saying_28

set_option maxHeartbeats 4000000 in
set_option maxRecDepth 100000 in
theorem c_X9_want (l : Launch) (G : va_G) (tA : Nat → ClassId) (b : Nat → Nat) (qu : Nat) (ab : Int64) (bl : Int64) (tyd : Nat) (at0 : Nat) (sta : Nat) (tok : Nat) (val : Nat) (man : Nat) (B : Nat → Nat) (rf : Nat → Int32) (pe : Int32) (PE : Int) (se : Int32) (SE : Int) (fa : Int32) (FA : Int) (lb : Int32) (LB : Int) (hWB : WB B) (hqu : qu < 2) (hpe : pe.toInt = PE) (hse : se.toInt = SE) (hfa : fa.toInt = FA) (hlb : lb.toInt = LB) : CtI l yX9_want wsX9_want ({ frames := 2, cells := 0, slots := 0, locals := 46 }) G tA [.ref (b 0), .int pe, .int se, .int fa, .int lb] ([(b 0, .inr (7, [.ref (b 1), .ref (b 2), .ref (b 3), .ref (b 4), .ref (b 5), .int (nI qu), .long ab, .long bl, .ref (b 6), .int (nI tyd), .int (nI at0), .int (nI sta), .int (nI tok), .int (nI val), .ref (b 7), .int (nI man), .ref (b 8), .ref (b 9), .ref (b 10), .ref (b 11), .ref (b 12), .ref (b 13), .ref (b 14)])), (b 1, .inl (tA 0, 212, .inl (nF B))), (b 5, .inl (tA 0, 3, .inl rf))]) (fun (r : Int32) (_ : Unit) => r = okR (okW (B 0) PE SE FA LB ((popM SE.toNat 10 : Nat) : Int)) (B 4) 5) (fun (_ : Unit) => [(b 0, .inr (7, [.ref (b 1), .ref (b 2), .ref (b 3), .ref (b 4), .ref (b 5), .int (nI qu), .long ab, .long bl, .ref (b 6), .int (nI tyd), .int (nI at0), .int (nI sta), .int (nI tok), .int (nI val), .ref (b 7), .int (nI man), .ref (b 8), .ref (b 9), .ref (b 10), .ref (b 11), .ref (b 12), .ref (b 13), .ref (b 14)])), (b 1, .inl (tA 0, 212, .inl (nF (okB (okW (B 0) PE SE FA LB ((popM SE.toNat 10 : Nat) : Int)) (B 4) 5 (rowM4 B (126 + 4 * B 4) 4 PE.toNat SE.toNat FA.toNat LB.toNat) B)))), (b 5, .inl (tA 0, 3, .inl (rfS (okW (B 0) PE SE FA LB ((popM SE.toNat 10 : Nat) : Int)) (B 4) 5 qu rf)))]) 0 0 := by
  refine enterI (cc := cX9_want) (maxL := 6) (ret := (some .int)) (by decide) rfl (Nat.le_of_ble_eq_true rfl) ?_
  intro p0 e0 s m args below meth c0_ A ls hx hb hml hr hts hown hlocks hin hKK hA hP hD hl hS
  have hown : s.vm.findClass RX9 = some m.cls := hown
  have hl : lv_has ls 6 [(0, .ref (b 0)), (1, .int pe), (2, .int se), (3, .int fa), (4, .int lb)] := hl
  have f73 := hts (Cond.constantLong RX9 73 (3)) (List.mem_of_getElem? (i := 1) rfl)
  have f103 := hts (Cond.constantLong RX9 103 (23)) (List.mem_of_getElem? (i := 2) rfl)
  have f7 := hts (Cond.fieldLink RX9 7 "LentTermsModel" "book" "[I") (List.mem_of_getElem? (i := 3) rfl)
  have iX9 : ∀ w ∈ wsX90, w ∈ wsX9_want := by decide +kernel
  obtain ⟨⟨hn0, hn1, hn2, hn3, hn4, hn5⟩, hbB, hv0, hv1, hv2, hv3, hv4, hv5, hv6, hv7⟩ := id hWB
  have h256 := p256 hn0
  refine lv_iload_n hx hb dX9_want_0 rfl (lv_at hl 1 rfl) ?_
  refine roI hP hD hS hA [] rfl (runS (As := [.int pe]) (rest := []) (isC := []) ⟨hx, hb, hml, hown, hts⟩ hKK hP hD rfl (by decide) (c_X9_isOne l G tA pe PE hpe _) (va_cwS 1 hts gX9_want_X9_isOne rfl rfl rfl (by decide +kernel) ⟨Nat.le_of_ble_eq_true rfl, Nat.le_of_ble_eq_true rfl⟩) rfl rfl hl.1 rfl (lv_room (Nat.le_of_ble_eq_true rfl)) dX9_want_1 ⟨Nat.le_of_ble_eq_true rfl, Nat.le_of_ble_eq_true rfl⟩) (fun _ => rfl) (fun r_1 u_2 H locs q_3 hP hS => ?_)
  rcases q_3 with ⟨rfl, p_4⟩ | ⟨rfl, p_4⟩
  · have p_4 : 0 ≤ PE ∧ PE < 5 := p_4
    refine nv_if_eq (tgt := 63) (by omega) hx hb dX9_want_4 (by decide) (fun h => absurd h (by omega)) (fun _ => ?_)
    refine lv_aload_n hx hb dX9_want_7 rfl (lv_at hl 0 rfl) ?_
    refine lv_iload_n hx hb dX9_want_8 rfl (lv_at hl 2 rfl) ?_
    refine roI hP hD hS hA [0, 1] rfl (runV (As := [.int se]) (rest := []) (isC := [0, 1]) ⟨hx, hb, hml, hown, hts⟩ hKK hP hD rfl (by decide) (c_X9_isSet l G tA b qu ab bl tyd at0 sta tok val man B se SE (hWB) hse _) (cwV 1 hts gX9_want_X9_isSet rfl rfl rfl (by decide +kernel) ⟨Nat.le_of_ble_eq_true rfl, Nat.le_of_ble_eq_true rfl⟩) rfl rfl rfl rfl hl.1 rfl (lv_room (Nat.le_of_ble_eq_true rfl)) dX9_want_9 ⟨Nat.le_of_ble_eq_true rfl, Nat.le_of_ble_eq_true rfl⟩) (fun _ => rfl) (fun r_6 u_7 H locs q_8 hP hS => ?_)
    rcases q_8 with ⟨rfl, p_9⟩ | ⟨rfl, p_9⟩
    · have p_9 : 0 ≤ SE ∧ SE < ((2 ^ B 0 : Nat) : Int) := p_9
      refine nv_if_eq (tgt := 63) (by omega) hx hb dX9_want_12 (by decide) (fun h => absurd h (by omega)) (fun _ => ?_)
      obtain ⟨sen, h_sen, rfl⟩ := toN (x := se) (by omega)
      have t_sen : (nI sen).toInt = (sen : Int) := nI_toInt h_sen
      have z_sen : SE.toNat = sen := by omega
      refine lv_iload_n hx hb dX9_want_15 rfl (lv_at hl 2 rfl) ?_
      refine roI hP hD hS hA [] rfl (runS (As := [.int (nI sen)]) (rest := []) (isC := []) ⟨hx, hb, hml, hown, hts⟩ hKK hP hD rfl (by decide) (c_X9_bits l G tA sen (by first | assumption | omega) _) (va_cwS 1 hts gX9_want_X9_bits rfl rfl rfl (by decide +kernel) ⟨Nat.le_of_ble_eq_true rfl, Nat.le_of_ble_eq_true rfl⟩) rfl rfl hl.1 rfl (lv_room (Nat.le_of_ble_eq_true rfl)) dX9_want_16 ⟨Nat.le_of_ble_eq_true rfl, Nat.le_of_ble_eq_true rfl⟩) (fun _ => rfl) (fun r_11 u_12 H locs q_13 hP hS => ?_)
      obtain ⟨rfl, e_14⟩ := q_13
      have e_14 : popM sen 10 ≤ 10 := e_14
      refine lv_i2l hx hb dX9_want_19 rfl ?_
      refine lv_lconst (v := (nI 1).toInt64) hx hb dX9_want_20 (by decide +kernel) ?_
      refine lv_ldc2 (v := 3) hx hb hown f73 dX9_want_21 ?_
      refine nv_topl (y := (nI 3).toInt64) (by decide +kernel) ?_
      refine roI hP hD hS hA [] rfl (runS (As := [.long ((nI (popM sen 10)).toInt64), .long ((nI 1).toInt64), .long ((nI 3).toInt64)]) (rest := []) (isC := []) ⟨hx, hb, hml, hown, hts⟩ hKK hP hD rfl (by decide) (c_X9_is l G tA (nI (popM sen 10)) ((popM sen 10 : Nat) : Int) (nI 1) (1 : Int) (nI 3) (3 : Int) (nI_toIntC (by omega)) rfl rfl _) (va_cwS 3 hts gX9_want_X9_is rfl rfl rfl (by decide +kernel) ⟨Nat.le_of_ble_eq_true rfl, Nat.le_of_ble_eq_true rfl⟩) rfl rfl hl.1 rfl (lv_room (Nat.le_of_ble_eq_true rfl)) dX9_want_24 ⟨Nat.le_of_ble_eq_true rfl, Nat.le_of_ble_eq_true rfl⟩) (fun _ => rfl) (fun r_15 u_16 H locs q_17 hP hS => ?_)
      rcases q_17 with ⟨rfl, p_18⟩ | ⟨rfl, p_18⟩
      · have p_18 : (1 : Int) ≤ ((popM sen 10 : Nat) : Int) ∧ ((popM sen 10 : Nat) : Int) ≤ (3 : Int) := p_18
        refine nv_if_eq (tgt := 63) (by omega) hx hb dX9_want_27 (by decide) (fun h => absurd h (by omega)) (fun _ => ?_)
        refine lv_iload hx hb dX9_want_30 (lv_at hl 4 rfl) ?_
        refine lv_i2l hx hb dX9_want_32 rfl ?_
        refine lv_lconst (v := (nI 0).toInt64) hx hb dX9_want_33 (by decide +kernel) ?_
        refine lv_ldc2 (v := 23) hx hb hown f103 dX9_want_34 ?_
        refine nv_topl (y := (nI 23).toInt64) (by decide +kernel) ?_
        refine roI hP hD hS hA [] rfl (runS (As := [.long lb.toInt64, .long ((nI 0).toInt64), .long ((nI 23).toInt64)]) (rest := []) (isC := []) ⟨hx, hb, hml, hown, hts⟩ hKK hP hD rfl (by decide) (c_X9_is l G tA lb LB (nI 0) (0 : Int) (nI 23) (23 : Int) hlb rfl rfl _) (va_cwS 3 hts gX9_want_X9_is rfl rfl rfl (by decide +kernel) ⟨Nat.le_of_ble_eq_true rfl, Nat.le_of_ble_eq_true rfl⟩) rfl rfl hl.1 rfl (lv_room (Nat.le_of_ble_eq_true rfl)) dX9_want_37 ⟨Nat.le_of_ble_eq_true rfl, Nat.le_of_ble_eq_true rfl⟩) (fun _ => rfl) (fun r_20 u_21 H locs q_22 hP hS => ?_)
        rcases q_22 with ⟨rfl, p_23⟩ | ⟨rfl, p_23⟩
        · have p_23 : (0 : Int) ≤ LB ∧ LB ≤ (23 : Int) := p_23
          refine nv_if_eq (tgt := 63) (by omega) hx hb dX9_want_40 (by decide) (fun h => absurd h (by omega)) (fun _ => ?_)
          refine lv_iload_n hx hb dX9_want_43 rfl (lv_at hl 3 rfl) ?_
          refine lv_i2l hx hb dX9_want_44 rfl ?_
          refine lv_lconst (v := (nI 0).toInt64) hx hb dX9_want_45 (by decide +kernel) ?_
          refine lv_iload hx hb dX9_want_46 (lv_at hl 4 rfl) ?_
          refine lv_i2l hx hb dX9_want_48 rfl ?_
          refine roI hP hD hS hA [] rfl (runS (As := [.long fa.toInt64, .long ((nI 0).toInt64), .long lb.toInt64]) (rest := []) (isC := []) ⟨hx, hb, hml, hown, hts⟩ hKK hP hD rfl (by decide) (c_X9_is l G tA fa FA (nI 0) (0 : Int) lb LB hfa rfl hlb _) (va_cwS 3 hts gX9_want_X9_is rfl rfl rfl (by decide +kernel) ⟨Nat.le_of_ble_eq_true rfl, Nat.le_of_ble_eq_true rfl⟩) rfl rfl hl.1 rfl (lv_room (Nat.le_of_ble_eq_true rfl)) dX9_want_49 ⟨Nat.le_of_ble_eq_true rfl, Nat.le_of_ble_eq_true rfl⟩) (fun _ => rfl) (fun r_25 u_26 H locs q_27 hP hS => ?_)
          rcases q_27 with ⟨rfl, p_28⟩ | ⟨rfl, p_28⟩
          · have p_28 : (0 : Int) ≤ FA ∧ FA ≤ LB := p_28
            refine nv_if_eq (tgt := 63) (by omega) hx hb dX9_want_52 (by decide) (fun h => absurd h (by omega)) (fun _ => ?_)
            refine lv_iload hx hb dX9_want_55 (lv_at hl 4 rfl) ?_
            refine lv_iload_n hx hb dX9_want_57 rfl (lv_at hl 3 rfl) ?_
            refine lv_isub hx hb dX9_want_58 ?_
            have hsub : (lb - fa).toInt = LB - FA := subZ hlb hfa (by omega) (by omega) (by omega) (by omega)
            refine lv_iconst (v := nI 5) hx hb dX9_want_59 (by decide) ?_
            refine zv_icmp_le (tgt := 68) (X := LB - FA) (Y := (5 : Int)) hsub rfl hx hb dX9_want_60 (by decide) (fun c_30 => ?_) (fun c_30 => ?_)
            · have hok : okW (B 0) PE SE FA LB ((popM SE.toNat 10 : Nat) : Int) = true := by simp only [okW, decide_eq_true_eq, z_sen]; omega
              obtain ⟨pen, h_pen, rfl⟩ := toN (x := pe) (by omega)
              have t_pen : (nI pen).toInt = (pen : Int) := nI_toInt h_pen
              have z_pen : PE.toNat = pen := by omega
              obtain ⟨fan, h_fan, rfl⟩ := toN (x := fa) (by omega)
              have t_fan : (nI fan).toInt = (fan : Int) := nI_toInt h_fan
              have z_fan : FA.toNat = fan := by omega
              obtain ⟨lbn, h_lbn, rfl⟩ := toN (x := lb) (by omega)
              have t_lbn : (nI lbn).toInt = (lbn : Int) := nI_toInt h_lbn
              have z_lbn : LB.toNat = lbn := by omega
              refine lv_aload_n hx hb dX9_want_68 rfl (lv_at hl 0 rfl) ?_
              refine va_get (D := G) (ci := 7) (C := RX9) (T := TX9) (N := 23) hx hb hts iX9 hown hKK.1 hP 0 rfl rfl 0 (by decide) f7 (fun _ h9 => h9) rfl dX9_want_69 ?_
              refine lv_iconst (v := nI 4) hx hb dX9_want_72 (by decide) ?_
              refine nv_iald (i := 4) hx hb hKK.1 hP 1 0 rfl rfl (by omega) (by decide) dX9_want_73 ?_
              have b_31 := hbB 4
              refine lv_iconst (v := nI 5) hx hb dX9_want_74 (by decide) ?_
              refine nv_icmp_ne (tgt := 83) (by omega) (by omega) hx hb dX9_want_75 (by decide) (fun c_32 => ?_) (fun c_32 => ?_)
              · refine lv_bipush (v := nI 126) hx hb dX9_want_83 (by decide +kernel) ?_
                refine lv_iconst (v := nI 4) hx hb dX9_want_85 (by decide) ?_
                refine lv_aload_n hx hb dX9_want_86 rfl (lv_at hl 0 rfl) ?_
                refine va_get (D := G) (ci := 7) (C := RX9) (T := TX9) (N := 23) hx hb hts iX9 hown hKK.1 hP 0 rfl rfl 0 (by decide) f7 (fun _ h9 => h9) rfl dX9_want_87 ?_
                refine lv_iconst (v := nI 4) hx hb dX9_want_90 (by decide) ?_
                refine nv_iald (i := 4) hx hb hKK.1 hP 1 0 rfl rfl (by omega) (by decide) dX9_want_91 ?_
                have b_33 := hbB 4
                refine nv_imul hx hb dX9_want_92 ?_
                refine nv_iadd hx hb dX9_want_93 ?_
                refine lv_istore (lv' := [(5, .int (nI (126 + (4 * (B 4))))), (0, .ref (b 0)), (1, .int (nI pen)), (2, .int (nI sen)), (3, .int (nI fan)), (4, .int (nI lbn))]) hx hb dX9_want_94 hl (by decide) rfl (fun ls hl => ?_)
                refine lv_aload_n hx hb dX9_want_96 rfl (lv_at hl 1 rfl) ?_
                refine va_get (D := G) (ci := 7) (C := RX9) (T := TX9) (N := 23) hx hb hts iX9 hown hKK.1 hP 0 rfl rfl 0 (by decide) f7 (fun _ h9 => h9) rfl dX9_want_97 ?_
                refine lv_iload hx hb dX9_want_100 (lv_at hl 0 rfl) ?_
                refine lv_iload_n hx hb dX9_want_102 rfl (lv_at hl 2 rfl) ?_
                refine nv_iast (i := 126 + (4 * (B 4))) hx hb hKK.1 hP hD hS 1 0 rfl rfl (by omega) (by decide) dX9_want_103 [(b 0, .inr (7, [.ref (b 1), .ref (b 2), .ref (b 3), .ref (b 4), .ref (b 5), .int (nI qu), .long ab, .long bl, .ref (b 6), .int (nI tyd), .int (nI at0), .int (nI sta), .int (nI tok), .int (nI val), .ref (b 7), .int (nI man), .ref (b 8), .ref (b 9), .ref (b 10), .ref (b 11), .ref (b 12), .ref (b 13), .ref (b 14)])), (b 1, .inl (tA 0, 212, .inl (nF (updN B (126 + (4 * (B 4))) pen)))), (b 5, .inl (tA 0, 3, .inl rf))] rfl (fun H locs hP hD hS => ?_)
                have B_34 := updN_lt hbB (126 + (4 * (B 4))) (show pen < 1048576 from by omega)
                refine lv_aload_n hx hb dX9_want_104 rfl (lv_at hl 1 rfl) ?_
                refine va_get (D := G) (ci := 7) (C := RX9) (T := TX9) (N := 23) hx hb hts iX9 hown hKK.1 hP 0 rfl rfl 0 (by decide) f7 (fun _ h9 => h9) rfl dX9_want_105 ?_
                refine lv_iload hx hb dX9_want_108 (lv_at hl 0 rfl) ?_
                refine lv_iconst (v := nI 1) hx hb dX9_want_110 (by decide) ?_
                refine nv_iadd hx hb dX9_want_111 ?_
                refine lv_iload_n hx hb dX9_want_112 rfl (lv_at hl 3 rfl) ?_
                refine nv_iast (i := (126 + (4 * (B 4))) + 1) hx hb hKK.1 hP hD hS 1 0 rfl rfl (by omega) (by decide) dX9_want_113 [(b 0, .inr (7, [.ref (b 1), .ref (b 2), .ref (b 3), .ref (b 4), .ref (b 5), .int (nI qu), .long ab, .long bl, .ref (b 6), .int (nI tyd), .int (nI at0), .int (nI sta), .int (nI tok), .int (nI val), .ref (b 7), .int (nI man), .ref (b 8), .ref (b 9), .ref (b 10), .ref (b 11), .ref (b 12), .ref (b 13), .ref (b 14)])), (b 1, .inl (tA 0, 212, .inl (nF (updN (updN B (126 + (4 * (B 4))) pen) ((126 + (4 * (B 4))) + 1) sen)))), (b 5, .inl (tA 0, 3, .inl rf))] rfl (fun H locs hP hD hS => ?_)
                have B_35 := updN_lt B_34 ((126 + (4 * (B 4))) + 1) (show sen < 1048576 from by omega)
                refine lv_aload_n hx hb dX9_want_114 rfl (lv_at hl 1 rfl) ?_
                refine va_get (D := G) (ci := 7) (C := RX9) (T := TX9) (N := 23) hx hb hts iX9 hown hKK.1 hP 0 rfl rfl 0 (by decide) f7 (fun _ h9 => h9) rfl dX9_want_115 ?_
                refine lv_iload hx hb dX9_want_118 (lv_at hl 0 rfl) ?_
                refine lv_iconst (v := nI 2) hx hb dX9_want_120 (by decide) ?_
                refine nv_iadd hx hb dX9_want_121 ?_
                refine lv_iload_n hx hb dX9_want_122 rfl (lv_at hl 4 rfl) ?_
                refine nv_iast (i := (126 + (4 * (B 4))) + 2) hx hb hKK.1 hP hD hS 1 0 rfl rfl (by omega) (by decide) dX9_want_123 [(b 0, .inr (7, [.ref (b 1), .ref (b 2), .ref (b 3), .ref (b 4), .ref (b 5), .int (nI qu), .long ab, .long bl, .ref (b 6), .int (nI tyd), .int (nI at0), .int (nI sta), .int (nI tok), .int (nI val), .ref (b 7), .int (nI man), .ref (b 8), .ref (b 9), .ref (b 10), .ref (b 11), .ref (b 12), .ref (b 13), .ref (b 14)])), (b 1, .inl (tA 0, 212, .inl (nF (updN (updN (updN B (126 + (4 * (B 4))) pen) ((126 + (4 * (B 4))) + 1) sen) ((126 + (4 * (B 4))) + 2) fan)))), (b 5, .inl (tA 0, 3, .inl rf))] rfl (fun H locs hP hD hS => ?_)
                have B_36 := updN_lt B_35 ((126 + (4 * (B 4))) + 2) (show fan < 1048576 from by omega)
                refine lv_aload_n hx hb dX9_want_124 rfl (lv_at hl 1 rfl) ?_
                refine va_get (D := G) (ci := 7) (C := RX9) (T := TX9) (N := 23) hx hb hts iX9 hown hKK.1 hP 0 rfl rfl 0 (by decide) f7 (fun _ h9 => h9) rfl dX9_want_125 ?_
                refine lv_iload hx hb dX9_want_128 (lv_at hl 0 rfl) ?_
                refine lv_iconst (v := nI 3) hx hb dX9_want_130 (by decide) ?_
                refine nv_iadd hx hb dX9_want_131 ?_
                refine lv_iload hx hb dX9_want_132 (lv_at hl 5 rfl) ?_
                refine nv_iast (i := (126 + (4 * (B 4))) + 3) hx hb hKK.1 hP hD hS 1 0 rfl rfl (by omega) (by decide) dX9_want_134 [(b 0, .inr (7, [.ref (b 1), .ref (b 2), .ref (b 3), .ref (b 4), .ref (b 5), .int (nI qu), .long ab, .long bl, .ref (b 6), .int (nI tyd), .int (nI at0), .int (nI sta), .int (nI tok), .int (nI val), .ref (b 7), .int (nI man), .ref (b 8), .ref (b 9), .ref (b 10), .ref (b 11), .ref (b 12), .ref (b 13), .ref (b 14)])), (b 1, .inl (tA 0, 212, .inl (nF (updN (updN (updN (updN B (126 + (4 * (B 4))) pen) ((126 + (4 * (B 4))) + 1) sen) ((126 + (4 * (B 4))) + 2) fan) ((126 + (4 * (B 4))) + 3) lbn)))), (b 5, .inl (tA 0, 3, .inl rf))] rfl (fun H locs hP hD hS => ?_)
                have B_37 := updN_lt B_36 ((126 + (4 * (B 4))) + 3) (show lbn < 1048576 from by omega)
                refine lv_aload_n hx hb dX9_want_135 rfl (lv_at hl 1 rfl) ?_
                refine va_get (D := G) (ci := 7) (C := RX9) (T := TX9) (N := 23) hx hb hts iX9 hown hKK.1 hP 0 rfl rfl 0 (by decide) f7 (fun _ h9 => h9) rfl dX9_want_136 ?_
                refine lv_iconst (v := nI 4) hx hb dX9_want_139 (by decide) ?_
                refine lv_dup2_11 hx hb dX9_want_140 rfl rfl ?_
                refine nv_iald (i := 4) hx hb hKK.1 hP 1 0 rfl rfl (by omega) (by decide) dX9_want_141 ?_
                have b_38 := B_37 4
                refine nv_top (y := B 4) (congrArg nI (by simp only [updN]; (repeat' split) <;> omega)) ?_
                refine lv_iconst (v := nI 1) hx hb dX9_want_142 (by decide) ?_
                refine nv_iadd hx hb dX9_want_143 ?_
                refine nv_iast (i := 4) hx hb hKK.1 hP hD hS 1 0 rfl rfl (by omega) (by decide) dX9_want_144 [(b 0, .inr (7, [.ref (b 1), .ref (b 2), .ref (b 3), .ref (b 4), .ref (b 5), .int (nI qu), .long ab, .long bl, .ref (b 6), .int (nI tyd), .int (nI at0), .int (nI sta), .int (nI tok), .int (nI val), .ref (b 7), .int (nI man), .ref (b 8), .ref (b 9), .ref (b 10), .ref (b 11), .ref (b 12), .ref (b 13), .ref (b 14)])), (b 1, .inl (tA 0, 212, .inl (nF (updN (updN (updN (updN (updN B (126 + (4 * (B 4))) pen) ((126 + (4 * (B 4))) + 1) sen) ((126 + (4 * (B 4))) + 2) fan) ((126 + (4 * (B 4))) + 3) lbn) 4 ((B 4) + 1))))), (b 5, .inl (tA 0, 3, .inl rf))] rfl (fun H locs hP hD hS => ?_)
                have B_39 := updN_lt B_37 4 (show (B 4) + 1 < 1048576 from by omega)
                refine lv_aload_n hx hb dX9_want_145 rfl (lv_at hl 1 rfl) ?_
                refine va_get (D := G) (ci := 7) (C := RX9) (T := TX9) (N := 23) hx hb hts iX9 hown hKK.1 hP 0 rfl rfl 0 (by decide) f7 (fun _ h9 => h9) rfl dX9_want_146 ?_
                refine lv_iconst (v := nI 4) hx hb dX9_want_149 (by decide) ?_
                refine nv_iald (i := 4) hx hb hKK.1 hP 1 0 rfl rfl (by omega) (by decide) dX9_want_150 ?_
                have b_40 := B_39 4
                refine nv_top (y := B 4 + 1) (congrArg nI (updN_s _ _ _)) ?_
                refine lv_iconst (v := nI 1) hx hb dX9_want_151 (by decide) ?_
                refine nv_isub (show 1 ≤ B 4 + 1 from by omega) hx hb dX9_want_152 ?_
                exact retI hx hb hr hlocks hS hP hD () (by rw [hok]; unfold okB rfS; rw [if_pos rfl, if_pos (by omega), if_pos rfl, if_pos (by omega), z_pen, z_sen, z_fan, z_lbn]; try rfl) (by rw [hok]; unfold okR; rw [if_pos rfl, if_pos (by omega)]; try exact congrArg nI (by omega)) dX9_want_153
              · refine lv_aload_n hx hb dX9_want_78 rfl (lv_at hl 0 rfl) ?_
                refine rwI hP hD hS hA [0, 2] rfl (runV (As := []) (rest := []) (isC := [0, 2]) ⟨hx, hb, hml, hown, hts⟩ hKK hP hD rfl (by decide) (c_X9_full l G tA b qu ab bl tyd at0 sta tok val man rf (hqu) _) (cwV 0 hts gX9_want_X9_full rfl rfl rfl (by decide +kernel) ⟨Nat.le_of_ble_eq_true rfl, Nat.le_of_ble_eq_true rfl⟩) rfl rfl rfl rfl hl.1 rfl (lv_room (Nat.le_of_ble_eq_true rfl)) dX9_want_79 ⟨Nat.le_of_ble_eq_true rfl, Nat.le_of_ble_eq_true rfl⟩) (fun (_ : Unit) => [(b 0, .inr (7, [.ref (b 1), .ref (b 2), .ref (b 3), .ref (b 4), .ref (b 5), .int (nI qu), .long ab, .long bl, .ref (b 6), .int (nI tyd), .int (nI at0), .int (nI sta), .int (nI tok), .int (nI val), .ref (b 7), .int (nI man), .ref (b 8), .ref (b 9), .ref (b 10), .ref (b 11), .ref (b 12), .ref (b 13), .ref (b 14)])), (b 1, .inl (tA 0, 212, .inl (nF B))), (b 5, .inl (tA 0, 3, .inl (bump qu rf 2)))]) (fun _ => rfl) (fun _ => rfl) (fun _ => rfl) (fun r_41 u_42 H locs q_43 hP hD hS => ?_)
                subst q_43
                exact retI hx hb hr hlocks hS hP hD () (by rw [hok]; unfold okB rfS; rw [if_pos rfl, if_neg (by omega), if_pos rfl, if_neg (by omega)]) (by rw [hok]; unfold okR; rw [if_pos rfl, if_neg (by omega)]) dX9_want_82
            · refine lv_aload_n hx hb dX9_want_63 rfl (lv_at hl 0 rfl) ?_
              refine rwI hP hD hS hA [0, 2] rfl (runV (As := []) (rest := []) (isC := [0, 2]) ⟨hx, hb, hml, hown, hts⟩ hKK hP hD rfl (by decide) (c_X9_bad l G tA b qu ab bl tyd at0 sta tok val man rf (hqu) _) (cwV 0 hts gX9_want_X9_bad rfl rfl rfl (by decide +kernel) ⟨Nat.le_of_ble_eq_true rfl, Nat.le_of_ble_eq_true rfl⟩) rfl rfl rfl rfl hl.1 rfl (lv_room (Nat.le_of_ble_eq_true rfl)) dX9_want_64 ⟨Nat.le_of_ble_eq_true rfl, Nat.le_of_ble_eq_true rfl⟩) (fun (_ : Unit) => [(b 0, .inr (7, [.ref (b 1), .ref (b 2), .ref (b 3), .ref (b 4), .ref (b 5), .int (nI qu), .long ab, .long bl, .ref (b 6), .int (nI tyd), .int (nI at0), .int (nI sta), .int (nI tok), .int (nI val), .ref (b 7), .int (nI man), .ref (b 8), .ref (b 9), .ref (b 10), .ref (b 11), .ref (b 12), .ref (b 13), .ref (b 14)])), (b 1, .inl (tA 0, 212, .inl (nF B))), (b 5, .inl (tA 0, 3, .inl (bump qu rf 0)))]) (fun _ => rfl) (fun _ => rfl) (fun _ => rfl) (fun r_44 u_45 H locs q_46 hP hD hS => ?_)
              subst q_46
              have hok : okW (B 0) PE SE FA LB ((popM SE.toNat 10 : Nat) : Int) = false := by first | (simp only [okW, decide_eq_false_iff_not]; omega) | (simp only [okW, decide_eq_false_iff_not, z_sen]; omega)
              exact retI hx hb hr hlocks hS hP hD () (by rw [hok]; rfl) (by rw [hok]; rfl) dX9_want_67
          · have p_28 : ¬ ((0 : Int) ≤ FA ∧ FA ≤ LB) := p_28
            refine nv_if_eq (tgt := 63) (by omega) hx hb dX9_want_52 (by decide) (fun _ => ?_) (fun h => absurd h (by omega))
            refine lv_aload_n hx hb dX9_want_63 rfl (lv_at hl 0 rfl) ?_
            refine rwI hP hD hS hA [0, 2] rfl (runV (As := []) (rest := []) (isC := [0, 2]) ⟨hx, hb, hml, hown, hts⟩ hKK hP hD rfl (by decide) (c_X9_bad l G tA b qu ab bl tyd at0 sta tok val man rf (hqu) _) (cwV 0 hts gX9_want_X9_bad rfl rfl rfl (by decide +kernel) ⟨Nat.le_of_ble_eq_true rfl, Nat.le_of_ble_eq_true rfl⟩) rfl rfl rfl rfl hl.1 rfl (lv_room (Nat.le_of_ble_eq_true rfl)) dX9_want_64 ⟨Nat.le_of_ble_eq_true rfl, Nat.le_of_ble_eq_true rfl⟩) (fun (_ : Unit) => [(b 0, .inr (7, [.ref (b 1), .ref (b 2), .ref (b 3), .ref (b 4), .ref (b 5), .int (nI qu), .long ab, .long bl, .ref (b 6), .int (nI tyd), .int (nI at0), .int (nI sta), .int (nI tok), .int (nI val), .ref (b 7), .int (nI man), .ref (b 8), .ref (b 9), .ref (b 10), .ref (b 11), .ref (b 12), .ref (b 13), .ref (b 14)])), (b 1, .inl (tA 0, 212, .inl (nF B))), (b 5, .inl (tA 0, 3, .inl (bump qu rf 0)))]) (fun _ => rfl) (fun _ => rfl) (fun _ => rfl) (fun r_48 u_49 H locs q_50 hP hD hS => ?_)
            subst q_50
            have hok : okW (B 0) PE SE FA LB ((popM SE.toNat 10 : Nat) : Int) = false := by first | (simp only [okW, decide_eq_false_iff_not]; omega) | (simp only [okW, decide_eq_false_iff_not, z_sen]; omega)
            exact retI hx hb hr hlocks hS hP hD () (by rw [hok]; rfl) (by rw [hok]; rfl) dX9_want_67
        · have p_23 : ¬ ((0 : Int) ≤ LB ∧ LB ≤ (23 : Int)) := p_23
          refine nv_if_eq (tgt := 63) (by omega) hx hb dX9_want_40 (by decide) (fun _ => ?_) (fun h => absurd h (by omega))
          refine lv_aload_n hx hb dX9_want_63 rfl (lv_at hl 0 rfl) ?_
          refine rwI hP hD hS hA [0, 2] rfl (runV (As := []) (rest := []) (isC := [0, 2]) ⟨hx, hb, hml, hown, hts⟩ hKK hP hD rfl (by decide) (c_X9_bad l G tA b qu ab bl tyd at0 sta tok val man rf (hqu) _) (cwV 0 hts gX9_want_X9_bad rfl rfl rfl (by decide +kernel) ⟨Nat.le_of_ble_eq_true rfl, Nat.le_of_ble_eq_true rfl⟩) rfl rfl rfl rfl hl.1 rfl (lv_room (Nat.le_of_ble_eq_true rfl)) dX9_want_64 ⟨Nat.le_of_ble_eq_true rfl, Nat.le_of_ble_eq_true rfl⟩) (fun (_ : Unit) => [(b 0, .inr (7, [.ref (b 1), .ref (b 2), .ref (b 3), .ref (b 4), .ref (b 5), .int (nI qu), .long ab, .long bl, .ref (b 6), .int (nI tyd), .int (nI at0), .int (nI sta), .int (nI tok), .int (nI val), .ref (b 7), .int (nI man), .ref (b 8), .ref (b 9), .ref (b 10), .ref (b 11), .ref (b 12), .ref (b 13), .ref (b 14)])), (b 1, .inl (tA 0, 212, .inl (nF B))), (b 5, .inl (tA 0, 3, .inl (bump qu rf 0)))]) (fun _ => rfl) (fun _ => rfl) (fun _ => rfl) (fun r_52 u_53 H locs q_54 hP hD hS => ?_)
          subst q_54
          have hok : okW (B 0) PE SE FA LB ((popM SE.toNat 10 : Nat) : Int) = false := by first | (simp only [okW, decide_eq_false_iff_not]; omega) | (simp only [okW, decide_eq_false_iff_not, z_sen]; omega)
          exact retI hx hb hr hlocks hS hP hD () (by rw [hok]; rfl) (by rw [hok]; rfl) dX9_want_67
      · have p_18 : ¬ ((1 : Int) ≤ ((popM sen 10 : Nat) : Int) ∧ ((popM sen 10 : Nat) : Int) ≤ (3 : Int)) := p_18
        refine nv_if_eq (tgt := 63) (by omega) hx hb dX9_want_27 (by decide) (fun _ => ?_) (fun h => absurd h (by omega))
        refine lv_aload_n hx hb dX9_want_63 rfl (lv_at hl 0 rfl) ?_
        refine rwI hP hD hS hA [0, 2] rfl (runV (As := []) (rest := []) (isC := [0, 2]) ⟨hx, hb, hml, hown, hts⟩ hKK hP hD rfl (by decide) (c_X9_bad l G tA b qu ab bl tyd at0 sta tok val man rf (hqu) _) (cwV 0 hts gX9_want_X9_bad rfl rfl rfl (by decide +kernel) ⟨Nat.le_of_ble_eq_true rfl, Nat.le_of_ble_eq_true rfl⟩) rfl rfl rfl rfl hl.1 rfl (lv_room (Nat.le_of_ble_eq_true rfl)) dX9_want_64 ⟨Nat.le_of_ble_eq_true rfl, Nat.le_of_ble_eq_true rfl⟩) (fun (_ : Unit) => [(b 0, .inr (7, [.ref (b 1), .ref (b 2), .ref (b 3), .ref (b 4), .ref (b 5), .int (nI qu), .long ab, .long bl, .ref (b 6), .int (nI tyd), .int (nI at0), .int (nI sta), .int (nI tok), .int (nI val), .ref (b 7), .int (nI man), .ref (b 8), .ref (b 9), .ref (b 10), .ref (b 11), .ref (b 12), .ref (b 13), .ref (b 14)])), (b 1, .inl (tA 0, 212, .inl (nF B))), (b 5, .inl (tA 0, 3, .inl (bump qu rf 0)))]) (fun _ => rfl) (fun _ => rfl) (fun _ => rfl) (fun r_56 u_57 H locs q_58 hP hD hS => ?_)
        subst q_58
        have hok : okW (B 0) PE SE FA LB ((popM SE.toNat 10 : Nat) : Int) = false := by first | (simp only [okW, decide_eq_false_iff_not]; omega) | (simp only [okW, decide_eq_false_iff_not, z_sen]; omega)
        exact retI hx hb hr hlocks hS hP hD () (by rw [hok]; rfl) (by rw [hok]; rfl) dX9_want_67
    · have p_9 : ¬ (0 ≤ SE ∧ SE < ((2 ^ B 0 : Nat) : Int)) := p_9
      refine nv_if_eq (tgt := 63) (by omega) hx hb dX9_want_12 (by decide) (fun _ => ?_) (fun h => absurd h (by omega))
      refine lv_aload_n hx hb dX9_want_63 rfl (lv_at hl 0 rfl) ?_
      refine rwI hP hD hS hA [0, 2] rfl (runV (As := []) (rest := []) (isC := [0, 2]) ⟨hx, hb, hml, hown, hts⟩ hKK hP hD rfl (by decide) (c_X9_bad l G tA b qu ab bl tyd at0 sta tok val man rf (hqu) _) (cwV 0 hts gX9_want_X9_bad rfl rfl rfl (by decide +kernel) ⟨Nat.le_of_ble_eq_true rfl, Nat.le_of_ble_eq_true rfl⟩) rfl rfl rfl rfl hl.1 rfl (lv_room (Nat.le_of_ble_eq_true rfl)) dX9_want_64 ⟨Nat.le_of_ble_eq_true rfl, Nat.le_of_ble_eq_true rfl⟩) (fun (_ : Unit) => [(b 0, .inr (7, [.ref (b 1), .ref (b 2), .ref (b 3), .ref (b 4), .ref (b 5), .int (nI qu), .long ab, .long bl, .ref (b 6), .int (nI tyd), .int (nI at0), .int (nI sta), .int (nI tok), .int (nI val), .ref (b 7), .int (nI man), .ref (b 8), .ref (b 9), .ref (b 10), .ref (b 11), .ref (b 12), .ref (b 13), .ref (b 14)])), (b 1, .inl (tA 0, 212, .inl (nF B))), (b 5, .inl (tA 0, 3, .inl (bump qu rf 0)))]) (fun _ => rfl) (fun _ => rfl) (fun _ => rfl) (fun r_60 u_61 H locs q_62 hP hD hS => ?_)
      subst q_62
      have hok : okW (B 0) PE SE FA LB ((popM SE.toNat 10 : Nat) : Int) = false := by first | (simp only [okW, decide_eq_false_iff_not]; omega) | (simp only [okW, decide_eq_false_iff_not, z_sen]; omega)
      exact retI hx hb hr hlocks hS hP hD () (by rw [hok]; rfl) (by rw [hok]; rfl) dX9_want_67
  · have p_4 : ¬ (0 ≤ PE ∧ PE < 5) := p_4
    refine nv_if_eq (tgt := 63) (by omega) hx hb dX9_want_4 (by decide) (fun _ => ?_) (fun h => absurd h (by omega))
    refine lv_aload_n hx hb dX9_want_63 rfl (lv_at hl 0 rfl) ?_
    refine rwI hP hD hS hA [0, 2] rfl (runV (As := []) (rest := []) (isC := [0, 2]) ⟨hx, hb, hml, hown, hts⟩ hKK hP hD rfl (by decide) (c_X9_bad l G tA b qu ab bl tyd at0 sta tok val man rf (hqu) _) (cwV 0 hts gX9_want_X9_bad rfl rfl rfl (by decide +kernel) ⟨Nat.le_of_ble_eq_true rfl, Nat.le_of_ble_eq_true rfl⟩) rfl rfl rfl rfl hl.1 rfl (lv_room (Nat.le_of_ble_eq_true rfl)) dX9_want_64 ⟨Nat.le_of_ble_eq_true rfl, Nat.le_of_ble_eq_true rfl⟩) (fun (_ : Unit) => [(b 0, .inr (7, [.ref (b 1), .ref (b 2), .ref (b 3), .ref (b 4), .ref (b 5), .int (nI qu), .long ab, .long bl, .ref (b 6), .int (nI tyd), .int (nI at0), .int (nI sta), .int (nI tok), .int (nI val), .ref (b 7), .int (nI man), .ref (b 8), .ref (b 9), .ref (b 10), .ref (b 11), .ref (b 12), .ref (b 13), .ref (b 14)])), (b 1, .inl (tA 0, 212, .inl (nF B))), (b 5, .inl (tA 0, 3, .inl (bump qu rf 0)))]) (fun _ => rfl) (fun _ => rfl) (fun _ => rfl) (fun r_64 u_65 H locs q_66 hP hD hS => ?_)
    subst q_66
    have hok : okW (B 0) PE SE FA LB ((popM SE.toNat 10 : Nat) : Int) = false := by first | (simp only [okW, decide_eq_false_iff_not]; omega) | (simp only [okW, decide_eq_false_iff_not, z_sen]; omega)
    exact retI hx hb hr hlocks hS hP hD () (by rw [hok]; rfl) (by rw [hok]; rfl) dX9_want_67

set_option maxHeartbeats 4000000 in
set_option maxRecDepth 100000 in
theorem c_X9_close (l : Launch) (G : va_G) (tA : Nat → ClassId) (b : Nat → Nat) (qu : Nat) (ab : Int64) (bl : Int64) (tyd : Nat) (at0 : Nat) (sta : Nat) (tok : Nat) (val : Nat) (man : Nat) (B : Nat → Nat) (hWB : WB B) : CtI l yX9_close wsX9_close ({ frames := 0, cells := 0, slots := 0, locals := 0 }) G tA [.ref (b 0)] ([(b 0, .inr (7, [.ref (b 1), .ref (b 2), .ref (b 3), .ref (b 4), .ref (b 5), .int (nI qu), .long ab, .long bl, .ref (b 6), .int (nI tyd), .int (nI at0), .int (nI sta), .int (nI tok), .int (nI val), .ref (b 7), .int (nI man), .ref (b 8), .ref (b 9), .ref (b 10), .ref (b 11), .ref (b 12), .ref (b 13), .ref (b 14)])), (b 1, .inl (tA 0, 212, .inl (nF B)))]) (fun (r : Int32) (_ : Unit) => r = nI (B 1)) (fun (_ : Unit) => [(b 0, .inr (7, [.ref (b 1), .ref (b 2), .ref (b 3), .ref (b 4), .ref (b 5), .int (nI qu), .long ab, .long bl, .ref (b 6), .int (nI tyd), .int (nI at0), .int (nI sta), .int (nI tok), .int (nI val), .ref (b 7), .int (nI man), .ref (b 8), .ref (b 9), .ref (b 10), .ref (b 11), .ref (b 12), .ref (b 13), .ref (b 14)])), (b 1, .inl (tA 0, 212, .inl (nF (updN (updN B 1 0) 2 0))))]) 0 0 := by
  refine enterI (cc := cX9_close) (maxL := 2) (ret := (some .int)) (by decide) rfl (Nat.le_of_ble_eq_true rfl) ?_
  intro p0 e0 s m args below meth c0_ A ls hx hb hml hr hts hown hlocks hin hKK hA hP hD hl hS
  have hown : s.vm.findClass RX9 = some m.cls := hown
  have hl : lv_has ls 2 [(0, .ref (b 0))] := hl
  have f7 := hts (Cond.fieldLink RX9 7 "LentTermsModel" "book" "[I") (List.mem_of_getElem? (i := 1) rfl)
  have iX9 : ∀ w ∈ wsX90, w ∈ wsX9_close := by decide +kernel
  obtain ⟨⟨hn0, hn1, hn2, hn3, hn4, hn5⟩, hbB, hv0, hv1, hv2, hv3, hv4, hv5, hv6, hv7⟩ := id hWB
  refine lv_aload_n hx hb dX9_close_0 rfl (lv_at hl 0 rfl) ?_
  refine va_get (D := G) (ci := 7) (C := RX9) (T := TX9) (N := 23) hx hb hts iX9 hown hKK.1 hP 0 rfl rfl 0 (by decide) f7 (fun _ h9 => h9) rfl dX9_close_1 ?_
  refine lv_iconst (v := nI 1) hx hb dX9_close_4 (by decide) ?_
  refine nv_iald (i := 1) hx hb hKK.1 hP 1 0 rfl rfl (by omega) (by decide) dX9_close_5 ?_
  have b_1 := hbB 1
  refine lv_istore_n (lv' := [(1, .int (nI (B 1))), (0, .ref (b 0))]) hx hb dX9_close_6 rfl hl (by decide) rfl (fun ls hl => ?_)
  refine lv_aload_n hx hb dX9_close_7 rfl (lv_at hl 1 rfl) ?_
  refine va_get (D := G) (ci := 7) (C := RX9) (T := TX9) (N := 23) hx hb hts iX9 hown hKK.1 hP 0 rfl rfl 0 (by decide) f7 (fun _ h9 => h9) rfl dX9_close_8 ?_
  refine lv_iconst (v := nI 1) hx hb dX9_close_11 (by decide) ?_
  refine lv_iconst (v := nI 0) hx hb dX9_close_12 (by decide) ?_
  refine nv_iast (i := 1) hx hb hKK.1 hP hD hS 1 0 rfl rfl (by omega) (by decide) dX9_close_13 [(b 0, .inr (7, [.ref (b 1), .ref (b 2), .ref (b 3), .ref (b 4), .ref (b 5), .int (nI qu), .long ab, .long bl, .ref (b 6), .int (nI tyd), .int (nI at0), .int (nI sta), .int (nI tok), .int (nI val), .ref (b 7), .int (nI man), .ref (b 8), .ref (b 9), .ref (b 10), .ref (b 11), .ref (b 12), .ref (b 13), .ref (b 14)])), (b 1, .inl (tA 0, 212, .inl (nF (updN B 1 0))))] rfl (fun H locs hP hD hS => ?_)
  have B_2 := updN_lt hbB 1 (show 0 < 1048576 from by omega)
  refine lv_aload_n hx hb dX9_close_14 rfl (lv_at hl 1 rfl) ?_
  refine va_get (D := G) (ci := 7) (C := RX9) (T := TX9) (N := 23) hx hb hts iX9 hown hKK.1 hP 0 rfl rfl 0 (by decide) f7 (fun _ h9 => h9) rfl dX9_close_15 ?_
  refine lv_iconst (v := nI 2) hx hb dX9_close_18 (by decide) ?_
  refine lv_iconst (v := nI 0) hx hb dX9_close_19 (by decide) ?_
  refine nv_iast (i := 2) hx hb hKK.1 hP hD hS 1 0 rfl rfl (by omega) (by decide) dX9_close_20 [(b 0, .inr (7, [.ref (b 1), .ref (b 2), .ref (b 3), .ref (b 4), .ref (b 5), .int (nI qu), .long ab, .long bl, .ref (b 6), .int (nI tyd), .int (nI at0), .int (nI sta), .int (nI tok), .int (nI val), .ref (b 7), .int (nI man), .ref (b 8), .ref (b 9), .ref (b 10), .ref (b 11), .ref (b 12), .ref (b 13), .ref (b 14)])), (b 1, .inl (tA 0, 212, .inl (nF (updN (updN B 1 0) 2 0))))] rfl (fun H locs hP hD hS => ?_)
  have B_3 := updN_lt B_2 2 (show 0 < 1048576 from by omega)
  refine lv_iload_n hx hb dX9_close_21 rfl (lv_at hl 0 rfl) ?_
  exact retI hx hb hr hlocks hS hP hD () (rfl) (congrArg nI (show (B 1 : Nat) = B 1 from rfl)) dX9_close_22

def goodM (L : Prop) (bad : Nat → Prop) (a h : Nat) : Prop := ¬ L ∧ ∀ g, a ≤ g → g < h → ¬ bad g
theorem goodM_0 {L : Prop} {bad : Nat → Prop} {a : Nat} : goodM L bad a a ↔ ¬ L := ⟨fun h => h.1, fun h => ⟨h, fun g q1 q2 => by omega⟩⟩
theorem goodM_s {L : Prop} {bad : Nat → Prop} {a h : Nat} (ha : a ≤ h) : goodM L bad a (h + 1) ↔ goodM L bad a h ∧ ¬ bad h := ⟨fun q => ⟨⟨q.1, fun g q1 q2 => q.2 g q1 (by omega)⟩, q.2 h ha (by omega)⟩, fun q => ⟨q.1.1, fun g q1 q2 => by rcases Nat.lt_succ_iff_lt_or_eq.mp q2 with q3 | q3; exact q.1.2 g q1 q3; rw [q3]; exact q.2⟩⟩
def goodB (B : Nat → Nat) (k h : Nat) : Prop := goodM (longS (B (8 + 3 * B (32 + 4 * k + 1))) < B (32 + 4 * k + 3) - B (32 + 4 * k + 2) + 1) (fun g => mayM B (B (32 + 4 * k + 1)) < cntN (havB B (B (32 + 4 * k + 1)) g (-1)) (k + 1)) (B (32 + 4 * k + 2)) h
def wrongM (B : Nat → Nat) (k : Nat) : Prop := ¬ goodB B k (B (32 + 4 * k + 3) + 1)
def billM (B : Nat → Nat) (pp n : Nat) : Nat := it (fun k a => a + if B (32 + 4 * k) = pp then costS (B (8 + 3 * B (32 + 4 * k + 1))) (B (8 + 3 * B (32 + 4 * k + 1) + 2)) (B (32 + 4 * k + 3) - B (32 + 4 * k + 2) + 1) else 0) n 0

set_option maxHeartbeats 4000000 in
set_option maxRecDepth 100000 in
theorem c_X9_wrong (l : Launch) (G : va_G) (tA : Nat → ClassId) (b : Nat → Nat) (qu : Nat) (ab : Int64) (bl : Int64) (tyd : Nat) (at0 : Nat) (sta : Nat) (tok : Nat) (val : Nat) (man : Nat) (B : Nat → Nat) (hWB : WB B) : CtI l yX9_wrong wsX9_wrong ({ frames := 2, cells := 0, slots := 0, locals := 53 }) G tA [.ref (b 0)] ([(b 0, .inr (7, [.ref (b 1), .ref (b 2), .ref (b 3), .ref (b 4), .ref (b 5), .int (nI qu), .long ab, .long bl, .ref (b 6), .int (nI tyd), .int (nI at0), .int (nI sta), .int (nI tok), .int (nI val), .ref (b 7), .int (nI man), .ref (b 8), .ref (b 9), .ref (b 10), .ref (b 11), .ref (b 12), .ref (b 13), .ref (b 14)])), (b 1, .inl (tA 0, 212, .inl (nF B)))]) (fun (r : Int32) (_ : Unit) => r = firstI (fun k => pB (wrongM B k)) (B 1) 0) (fun (_ : Unit) => [(b 0, .inr (7, [.ref (b 1), .ref (b 2), .ref (b 3), .ref (b 4), .ref (b 5), .int (nI qu), .long ab, .long bl, .ref (b 6), .int (nI tyd), .int (nI at0), .int (nI sta), .int (nI tok), .int (nI val), .ref (b 7), .int (nI man), .ref (b 8), .ref (b 9), .ref (b 10), .ref (b 11), .ref (b 12), .ref (b 13), .ref (b 14)])), (b 1, .inl (tA 0, 212, .inl (nF B)))]) 0 0 := by
  refine enterI (cc := cX9_wrong) (maxL := 7) (ret := (some .int)) (by decide) rfl (Nat.le_of_ble_eq_true rfl) ?_
  intro p0 e0 s m args below meth c0_ A ls hx hb hml hr hts hown hlocks hin hKK hA hP hD hl hS
  have hown : s.vm.findClass RX9 = some m.cls := hown
  have hl : lv_has ls 7 [(0, .ref (b 0))] := hl
  have f7 := hts (Cond.fieldLink RX9 7 "LentTermsModel" "book" "[I") (List.mem_of_getElem? (i := 1) rfl)
  have iX9 : ∀ w ∈ wsX90, w ∈ wsX9_wrong := by decide +kernel
  obtain ⟨⟨hn0, hn1, hn2, hn3, hn4, hn5⟩, hbB, hv0, hv1, hv2, hv3, hv4, hv5, hv6, hv7⟩ := id hWB
  refine lv_iconst (v := nI 0) hx hb dX9_wrong_0 (by decide) ?_
  refine lv_istore_n (lv' := [(1, .int (nI 0)), (0, .ref (b 0))]) hx hb dX9_wrong_1 rfl hl (by decide) rfl (fun ls hl => ?_)
  refine wloop (σ := (Nat)) (fun | k => B 1 - k) (fun | k => (k ≤ B 1) ∧ (∀ j, j < k → ¬ wrongM B j)) (fun | k => [(1, .int (nI k)), (0, .ref (b 0))]) (fun | k => [(b 0, .inr (7, [.ref (b 1), .ref (b 2), .ref (b 3), .ref (b 4), .ref (b 5), .int (nI qu), .long ab, .long bl, .ref (b 6), .int (nI tyd), .int (nI at0), .int (nI sta), .int (nI tok), .int (nI val), .ref (b 7), .int (nI man), .ref (b 8), .ref (b 9), .ref (b 10), .ref (b 11), .ref (b 12), .ref (b 13), .ref (b 14)])), (b 1, .inl (tA 0, 212, .inl (nF B)))]) 0 ⟨(show 0 ≤ B 1 from by omega), (show ∀ j, j < 0 → ¬ wrongM B j from by intro j q; omega)⟩ (lv_sub hl [0, 1] rfl) hP hD hS ?_
  rintro k ⟨hk, hno⟩ ih_1 ls H locs hl hP hD hS
  have hl : lv_has ls 7 [(1, .int (nI k)), (0, .ref (b 0))] := hl
  have hP : va_P G vwCl [(b 0, .inr (7, [.ref (b 1), .ref (b 2), .ref (b 3), .ref (b 4), .ref (b 5), .int (nI qu), .long ab, .long bl, .ref (b 6), .int (nI tyd), .int (nI at0), .int (nI sta), .int (nI tok), .int (nI val), .ref (b 7), .int (nI man), .ref (b 8), .ref (b 9), .ref (b 10), .ref (b 11), .ref (b 12), .ref (b 13), .ref (b 14)])), (b 1, .inl (tA 0, 212, .inl (nF B)))] H := hP
  have hD : va_D A [(b 0, .inr (7, [.ref (b 1), .ref (b 2), .ref (b 3), .ref (b 4), .ref (b 5), .int (nI qu), .long ab, .long bl, .ref (b 6), .int (nI tyd), .int (nI at0), .int (nI sta), .int (nI tok), .int (nI val), .ref (b 7), .int (nI man), .ref (b 8), .ref (b 9), .ref (b 10), .ref (b 11), .ref (b 12), .ref (b 13), .ref (b 14)])), (b 1, .inl (tA 0, 212, .inl (nF B)))] := hD
  have hk : k ≤ B 1 := hk
  have hno : ∀ j, j < k → ¬ wrongM B j := hno
  refine lv_iload_n hx hb dX9_wrong_2 rfl (lv_at hl 0 rfl) ?_
  refine lv_aload_n hx hb dX9_wrong_3 rfl (lv_at hl 1 rfl) ?_
  refine va_get (D := G) (ci := 7) (C := RX9) (T := TX9) (N := 23) hx hb hts iX9 hown hKK.1 hP 0 rfl rfl 0 (by decide) f7 (fun _ h9 => h9) rfl dX9_wrong_4 ?_
  refine lv_iconst (v := nI 1) hx hb dX9_wrong_7 (by decide) ?_
  refine nv_iald (i := 1) hx hb hKK.1 hP 1 0 rfl rfl (by omega) (by decide) dX9_wrong_8 ?_
  have b_2 := hbB 1
  refine nv_icmp_ge (tgt := 136) (by omega) (by omega) hx hb dX9_wrong_9 (by decide) (fun c_3 => ?_) (fun c_3 => ?_)
  · refine lv_iconst (v := (-1)) hx hb dX9_wrong_136 (by decide) ?_
    exact retI hx hb hr hlocks hS hP hD () (rfl) ((firstI_no (B 1) 0 (fun j _ q => pB_f.mpr (hno j (by omega)))).symm) dX9_wrong_137
  · have hv := hv1 k (by omega)
    refine lv_aload_n hx hb dX9_wrong_12 rfl (lv_at hl 1 rfl) ?_
    refine va_get (D := G) (ci := 7) (C := RX9) (T := TX9) (N := 23) hx hb hts iX9 hown hKK.1 hP 0 rfl rfl 0 (by decide) f7 (fun _ h9 => h9) rfl dX9_wrong_13 ?_
    refine lv_bipush (v := nI 32) hx hb dX9_wrong_16 (by decide +kernel) ?_
    refine lv_iconst (v := nI 4) hx hb dX9_wrong_18 (by decide) ?_
    refine lv_iload_n hx hb dX9_wrong_19 rfl (lv_at hl 0 rfl) ?_
    refine nv_imul hx hb dX9_wrong_20 ?_
    refine nv_iadd hx hb dX9_wrong_21 ?_
    refine lv_iconst (v := nI 1) hx hb dX9_wrong_22 (by decide) ?_
    refine nv_iadd hx hb dX9_wrong_23 ?_
    refine nv_iald (i := (32 + (4 * k)) + 1) hx hb hKK.1 hP 1 0 rfl rfl (by omega) (by decide) dX9_wrong_24 ?_
    have b_4 := hbB ((32 + (4 * k)) + 1)
    refine lv_istore_n (lv' := [(2, .int (nI (B ((32 + (4 * k)) + 1)))), (1, .int (nI k)), (0, .ref (b 0))]) hx hb dX9_wrong_25 rfl hl (by decide) rfl (fun ls hl => ?_)
    refine lv_aload_n hx hb dX9_wrong_26 rfl (lv_at hl 2 rfl) ?_
    refine va_get (D := G) (ci := 7) (C := RX9) (T := TX9) (N := 23) hx hb hts iX9 hown hKK.1 hP 0 rfl rfl 0 (by decide) f7 (fun _ h9 => h9) rfl dX9_wrong_27 ?_
    refine lv_bipush (v := nI 32) hx hb dX9_wrong_30 (by decide +kernel) ?_
    refine lv_iconst (v := nI 4) hx hb dX9_wrong_32 (by decide) ?_
    refine lv_iload_n hx hb dX9_wrong_33 rfl (lv_at hl 1 rfl) ?_
    refine nv_imul hx hb dX9_wrong_34 ?_
    refine nv_iadd hx hb dX9_wrong_35 ?_
    refine lv_iconst (v := nI 2) hx hb dX9_wrong_36 (by decide) ?_
    refine nv_iadd hx hb dX9_wrong_37 ?_
    refine nv_iald (i := (32 + (4 * k)) + 2) hx hb hKK.1 hP 1 0 rfl rfl (by omega) (by decide) dX9_wrong_38 ?_
    have b_5 := hbB ((32 + (4 * k)) + 2)
    refine lv_istore_n (lv' := [(3, .int (nI (B ((32 + (4 * k)) + 2)))), (2, .int (nI (B ((32 + (4 * k)) + 1)))), (1, .int (nI k)), (0, .ref (b 0))]) hx hb dX9_wrong_39 rfl hl (by decide) rfl (fun ls hl => ?_)
    refine lv_aload_n hx hb dX9_wrong_40 rfl (lv_at hl 3 rfl) ?_
    refine va_get (D := G) (ci := 7) (C := RX9) (T := TX9) (N := 23) hx hb hts iX9 hown hKK.1 hP 0 rfl rfl 0 (by decide) f7 (fun _ h9 => h9) rfl dX9_wrong_41 ?_
    refine lv_bipush (v := nI 32) hx hb dX9_wrong_44 (by decide +kernel) ?_
    refine lv_iconst (v := nI 4) hx hb dX9_wrong_46 (by decide) ?_
    refine lv_iload_n hx hb dX9_wrong_47 rfl (lv_at hl 2 rfl) ?_
    refine nv_imul hx hb dX9_wrong_48 ?_
    refine nv_iadd hx hb dX9_wrong_49 ?_
    refine lv_iconst (v := nI 3) hx hb dX9_wrong_50 (by decide) ?_
    refine nv_iadd hx hb dX9_wrong_51 ?_
    refine nv_iald (i := (32 + (4 * k)) + 3) hx hb hKK.1 hP 1 0 rfl rfl (by omega) (by decide) dX9_wrong_52 ?_
    have b_6 := hbB ((32 + (4 * k)) + 3)
    refine lv_istore (lv' := [(4, .int (nI (B ((32 + (4 * k)) + 3)))), (3, .int (nI (B ((32 + (4 * k)) + 2)))), (2, .int (nI (B ((32 + (4 * k)) + 1)))), (1, .int (nI k)), (0, .ref (b 0))]) hx hb dX9_wrong_53 hl (by decide) rfl (fun ls hl => ?_)
    refine lv_iload hx hb dX9_wrong_55 (lv_at hl 0 rfl) ?_
    refine lv_iload_n hx hb dX9_wrong_57 rfl (lv_at hl 1 rfl) ?_
    refine nv_isub (show B ((32 + (4 * k)) + 2) ≤ B ((32 + (4 * k)) + 3) from hv.2.2.1) hx hb dX9_wrong_58 ?_
    refine lv_iconst (v := nI 1) hx hb dX9_wrong_59 (by decide) ?_
    refine nv_iadd hx hb dX9_wrong_60 ?_
    refine lv_aload_n hx hb dX9_wrong_61 rfl (lv_at hl 4 rfl) ?_
    refine lv_iload_n hx hb dX9_wrong_62 rfl (lv_at hl 2 rfl) ?_
    refine roI hP hD hS hA [0, 1] rfl (runV (As := [.int (nI (B ((32 + (4 * k)) + 1)))]) (rest := [.int (nI (((B ((32 + (4 * k)) + 3)) - (B ((32 + (4 * k)) + 2))) + 1))]) (isC := [0, 1]) ⟨hx, hb, hml, hown, hts⟩ hKK hP hD rfl (by decide) (c_X9_longOf l G tA b qu ab bl tyd at0 sta tok val man B (B ((32 + (4 * k)) + 1)) (hWB) (hv.2.1) _) (cwV 1 hts gX9_wrong_X9_longOf rfl rfl rfl (by decide +kernel) ⟨Nat.le_of_ble_eq_true rfl, Nat.le_of_ble_eq_true rfl⟩) rfl rfl rfl rfl hl.1 rfl (lv_room (Nat.le_of_ble_eq_true rfl)) dX9_wrong_63 ⟨Nat.le_of_ble_eq_true rfl, Nat.le_of_ble_eq_true rfl⟩) (fun _ => rfl) (fun r_7 u_8 H locs q_9 hP hS => ?_)
    obtain ⟨rfl, e_10⟩ := q_9
    have e_10 : longS (B (8 + 3 * (B ((32 + (4 * k)) + 1)))) ≤ 24 := e_10
    refine nv_icmp_gt (tgt := 73) (by omega) (by omega) hx hb dX9_wrong_66 (by decide) (fun c_11 => ?_) (fun c_11 => ?_)
    · refine lv_iconst (v := nI 0) hx hb dX9_wrong_73 (by decide) ?_
      refine lv_istore (lv' := [(5, .int (nI 0)), (4, .int (nI (B ((32 + (4 * k)) + 3)))), (3, .int (nI (B ((32 + (4 * k)) + 2)))), (2, .int (nI (B ((32 + (4 * k)) + 1)))), (1, .int (nI k)), (0, .ref (b 0))]) hx hb dX9_wrong_74 hl (by decide) rfl (fun ls hl => ?_)
      refine lv_iload_n hx hb dX9_wrong_76 rfl (lv_at hl 2 rfl) ?_
      refine lv_istore (lv' := [(6, .int (nI (B ((32 + (4 * k)) + 2)))), (5, .int (nI 0)), (4, .int (nI (B ((32 + (4 * k)) + 3)))), (3, .int (nI (B ((32 + (4 * k)) + 2)))), (2, .int (nI (B ((32 + (4 * k)) + 1)))), (1, .int (nI k)), (0, .ref (b 0))]) hx hb dX9_wrong_77 hl (by decide) rfl (fun ls hl => ?_)
      refine wloop (σ := (Nat) × (Nat)) (fun | (h, rg) => B (32 + 4 * k + 3) + 1 - h) (fun | (h, rg) => (B (32 + 4 * k + 2) ≤ h ∧ h ≤ B (32 + 4 * k + 3) + 1) ∧ ((rg = 1 ∧ goodB B k h) ∨ (rg = 0 ∧ ¬ goodB B k h))) (fun | (h, rg) => [(6, .int (nI h)), (5, .int (nI rg)), (4, .int (nI (B ((32 + (4 * k)) + 3)))), (3, .int (nI (B ((32 + (4 * k)) + 2)))), (2, .int (nI (B ((32 + (4 * k)) + 1)))), (1, .int (nI k)), (0, .ref (b 0))]) (fun | (h, rg) => [(b 0, .inr (7, [.ref (b 1), .ref (b 2), .ref (b 3), .ref (b 4), .ref (b 5), .int (nI qu), .long ab, .long bl, .ref (b 6), .int (nI tyd), .int (nI at0), .int (nI sta), .int (nI tok), .int (nI val), .ref (b 7), .int (nI man), .ref (b 8), .ref (b 9), .ref (b 10), .ref (b 11), .ref (b 12), .ref (b 13), .ref (b 14)])), (b 1, .inl (tA 0, 212, .inl (nF B)))]) (B ((32 + (4 * k)) + 2), 0) ⟨(show B (32 + 4 * k + 2) ≤ (B ((32 + (4 * k)) + 2)) ∧ (B ((32 + (4 * k)) + 2)) ≤ B (32 + 4 * k + 3) + 1 from by omega), (show (0 = 1 ∧ goodB B k (B ((32 + (4 * k)) + 2))) ∨ (0 = 0 ∧ ¬ goodB B k (B ((32 + (4 * k)) + 2))) from by first | exact Or.inl ⟨rfl, goodM_0.mpr (by omega)⟩ | exact Or.inr ⟨rfl, fun z => goodM_0.mp z (by omega)⟩)⟩ (lv_sub hl [0, 1, 2, 3, 4, 5, 6] rfl) hP hD hS ?_
      rintro ⟨h, rg⟩ ⟨h1, h2⟩ ih_12 ls H locs hl hP hD hS
      have hl : lv_has ls 7 [(6, .int (nI h)), (5, .int (nI rg)), (4, .int (nI (B ((32 + (4 * k)) + 3)))), (3, .int (nI (B ((32 + (4 * k)) + 2)))), (2, .int (nI (B ((32 + (4 * k)) + 1)))), (1, .int (nI k)), (0, .ref (b 0))] := hl
      have hP : va_P G vwCl [(b 0, .inr (7, [.ref (b 1), .ref (b 2), .ref (b 3), .ref (b 4), .ref (b 5), .int (nI qu), .long ab, .long bl, .ref (b 6), .int (nI tyd), .int (nI at0), .int (nI sta), .int (nI tok), .int (nI val), .ref (b 7), .int (nI man), .ref (b 8), .ref (b 9), .ref (b 10), .ref (b 11), .ref (b 12), .ref (b 13), .ref (b 14)])), (b 1, .inl (tA 0, 212, .inl (nF B)))] H := hP
      have hD : va_D A [(b 0, .inr (7, [.ref (b 1), .ref (b 2), .ref (b 3), .ref (b 4), .ref (b 5), .int (nI qu), .long ab, .long bl, .ref (b 6), .int (nI tyd), .int (nI at0), .int (nI sta), .int (nI tok), .int (nI val), .ref (b 7), .int (nI man), .ref (b 8), .ref (b 9), .ref (b 10), .ref (b 11), .ref (b 12), .ref (b 13), .ref (b 14)])), (b 1, .inl (tA 0, 212, .inl (nF B)))] := hD
      have h1 : B (32 + 4 * k + 2) ≤ h ∧ h ≤ B (32 + 4 * k + 3) + 1 := h1
      have h2 : (rg = 1 ∧ goodB B k h) ∨ (rg = 0 ∧ ¬ goodB B k h) := h2
      refine lv_iload hx hb dX9_wrong_79 (lv_at hl 0 rfl) ?_
      refine lv_iload hx hb dX9_wrong_81 (lv_at hl 2 rfl) ?_
      refine nv_icmp_gt (tgt := 123) (by omega) (by omega) hx hb dX9_wrong_83 (by decide) (fun c_13 => ?_) (fun c_13 => ?_)
      · have sx_14 : h = B (32 + 4 * k + 3) + 1 := by omega
        subst sx_14
        refine lv_iload hx hb dX9_wrong_123 (lv_at hl 1 rfl) ?_
        refine nv_if_ne (tgt := 130) (by omega) hx hb dX9_wrong_125 (by decide) (fun c_15 => ?_) (fun c_15 => ?_)
        · have hwr : ¬ wrongM B k := by (rcases h2 with z | z); exact fun y => y z.2; omega
          refine lv_iinc (v := (nI (k + 1))) (lv' := [(1, .int (nI (k + 1))), (6, .int (nI (B (32 + 4 * k + 3) + 1))), (5, .int (nI rg)), (4, .int (nI (B ((32 + (4 * k)) + 3)))), (3, .int (nI (B ((32 + (4 * k)) + 2)))), (2, .int (nI (B ((32 + (4 * k)) + 1)))), (0, .ref (b 0))]) hx hb dX9_wrong_130 hl (k := 5) rfl (nI_add k 1) (by decide) rfl (fun ls hl => ?_)
          refine lv_goto (tgt := 2) hx hb dX9_wrong_133 (by decide) ?_
          exact ih_1 (k + 1) (show B 1 - (k + 1) < B 1 - k from by omega) ⟨(show (k + 1) ≤ B 1 from by omega), (show ∀ j, j < (k + 1) → ¬ wrongM B j from by intro j q; rcases Nat.lt_succ_iff_lt_or_eq.mp q with q3 | q3; exact hno j q3; rw [q3]; first | assumption | exact fun z => z (by assumption))⟩ _ _ _ (lv_sub hl [0, 6] rfl) hP hD hS
        · have hwr : wrongM B k := by (rcases h2 with z | z); omega; exact z.2
          refine lv_iload_n hx hb dX9_wrong_128 rfl (lv_at hl 5 rfl) ?_
          exact retI hx hb hr hlocks hS hP hD () (rfl) ((firstI_at (B 1) 0 k (by omega) (by omega) (pB_t.mpr (by assumption)) (fun j _ q => pB_f.mpr (hno j q))).symm) dX9_wrong_129
      · refine lv_iload hx hb dX9_wrong_86 (lv_at hl 1 rfl) ?_
        refine nv_if_eq (tgt := 114) (by omega) hx hb dX9_wrong_88 (by decide) (fun c_16 => ?_) (fun c_16 => ?_)
        · refine lv_iconst (v := nI 0) hx hb dX9_wrong_114 (by decide) ?_
          refine lv_istore (lv' := [(5, .int (nI 0)), (6, .int (nI h)), (4, .int (nI (B ((32 + (4 * k)) + 3)))), (3, .int (nI (B ((32 + (4 * k)) + 2)))), (2, .int (nI (B ((32 + (4 * k)) + 1)))), (1, .int (nI k)), (0, .ref (b 0))]) hx hb dX9_wrong_115 hl (by decide) rfl (fun ls hl => ?_)
          refine lv_iinc (v := (nI (h + 1))) (lv' := [(6, .int (nI (h + 1))), (5, .int (nI 0)), (4, .int (nI (B ((32 + (4 * k)) + 3)))), (3, .int (nI (B ((32 + (4 * k)) + 2)))), (2, .int (nI (B ((32 + (4 * k)) + 1)))), (1, .int (nI k)), (0, .ref (b 0))]) hx hb dX9_wrong_117 hl (k := 1) rfl (nI_add h 1) (by decide) rfl (fun ls hl => ?_)
          refine lv_goto (tgt := 79) hx hb dX9_wrong_120 (by decide) ?_
          exact ih_12 (h + 1, 0) (show B (32 + 4 * k + 3) + 1 - (h + 1) < B (32 + 4 * k + 3) + 1 - h from by omega) ⟨(show B (32 + 4 * k + 2) ≤ (h + 1) ∧ (h + 1) ≤ B (32 + 4 * k + 3) + 1 from by omega), (show (0 = 1 ∧ goodB B k (h + 1)) ∨ (0 = 0 ∧ ¬ goodB B k (h + 1)) from by first | exact Or.inl ⟨rfl, (goodM_s h1.1).mpr ⟨by (rcases h2 with z | z); exact z.2; omega, by omega⟩⟩ | exact Or.inr ⟨rfl, fun z => ((goodM_s h1.1).mp z).2 (by omega)⟩ | exact Or.inr ⟨rfl, fun z => by (rcases h2 with y | y); omega; exact y.2 ((goodM_s h1.1).mp z).1⟩)⟩ _ _ _ (lv_sub hl [0, 1, 2, 3, 4, 5, 6] rfl) hP hD hS
        · have hn9 : k + 1 ≤ 10 := by omega
          refine lv_aload_n hx hb dX9_wrong_91 rfl (lv_at hl 6 rfl) ?_
          refine lv_iload_n hx hb dX9_wrong_92 rfl (lv_at hl 5 rfl) ?_
          refine lv_iconst (v := nI 1) hx hb dX9_wrong_93 (by decide) ?_
          refine nv_iadd hx hb dX9_wrong_94 ?_
          refine lv_iload_n hx hb dX9_wrong_95 rfl (lv_at hl 4 rfl) ?_
          refine lv_iload hx hb dX9_wrong_96 (lv_at hl 0 rfl) ?_
          refine lv_iconst (v := (-1)) hx hb dX9_wrong_98 (by decide) ?_
          refine roI hP hD hS hA [0, 1] rfl (runV (As := [.int (nI (k + 1)), .int (nI (B ((32 + (4 * k)) + 1))), .int (nI h), .int (-1)]) (rest := []) (isC := [0, 1]) ⟨hx, hb, hml, hown, hts⟩ hKK hP hD rfl (by decide) (c_X9_having l G tA b qu ab bl tyd at0 sta tok val man B (k + 1) (B ((32 + (4 * k)) + 1)) h (-1) (-1 : Int) (hWB) (by omega) (by omega) (by first | assumption | omega) rfl _) (cwV 4 hts gX9_wrong_X9_having rfl rfl rfl (by decide +kernel) ⟨Nat.le_of_ble_eq_true rfl, Nat.le_of_ble_eq_true rfl⟩) rfl rfl rfl rfl hl.1 rfl (lv_room (Nat.le_of_ble_eq_true rfl)) dX9_wrong_99 ⟨Nat.le_of_ble_eq_true rfl, Nat.le_of_ble_eq_true rfl⟩) (fun _ => rfl) (fun r_17 u_18 H locs q_19 hP hS => ?_)
          obtain ⟨rfl, e_20⟩ := q_19
          have e_20 : cntN (havB B (B ((32 + (4 * k)) + 1)) h (-1 : Int)) (k + 1) ≤ 10 := e_20
          refine lv_aload_n hx hb dX9_wrong_102 rfl (lv_at hl 6 rfl) ?_
          refine lv_iload_n hx hb dX9_wrong_103 rfl (lv_at hl 4 rfl) ?_
          refine roI hP hD hS hA [0, 1] rfl (runV (As := [.int (nI (B ((32 + (4 * k)) + 1)))]) (rest := [.int (nI (cntN (havB B (B ((32 + (4 * k)) + 1)) h (-1 : Int)) (k + 1)))]) (isC := [0, 1]) ⟨hx, hb, hml, hown, hts⟩ hKK hP hD rfl (by decide) (c_X9_mayOf l G tA b qu ab bl tyd at0 sta tok val man B (B ((32 + (4 * k)) + 1)) (hWB) (hv.2.1) _) (cwV 1 hts gX9_wrong_X9_mayOf rfl rfl rfl (by decide +kernel) ⟨Nat.le_of_ble_eq_true rfl, Nat.le_of_ble_eq_true rfl⟩) rfl rfl rfl rfl hl.1 rfl (lv_room (Nat.le_of_ble_eq_true rfl)) dX9_wrong_104 ⟨Nat.le_of_ble_eq_true rfl, Nat.le_of_ble_eq_true rfl⟩) (fun _ => rfl) (fun r_21 u_22 H locs q_23 hP hS => ?_)
          obtain ⟨rfl, e_24⟩ := q_23
          have e_24 : mayM B (B ((32 + (4 * k)) + 1)) < 4 := e_24
          refine nv_icmp_gt (tgt := 114) (by omega) (by omega) hx hb dX9_wrong_107 (by decide) (fun c_25 => ?_) (fun c_25 => ?_)
          · refine lv_iconst (v := nI 0) hx hb dX9_wrong_114 (by decide) ?_
            refine lv_istore (lv' := [(5, .int (nI 0)), (6, .int (nI h)), (4, .int (nI (B ((32 + (4 * k)) + 3)))), (3, .int (nI (B ((32 + (4 * k)) + 2)))), (2, .int (nI (B ((32 + (4 * k)) + 1)))), (1, .int (nI k)), (0, .ref (b 0))]) hx hb dX9_wrong_115 hl (by decide) rfl (fun ls hl => ?_)
            refine lv_iinc (v := (nI (h + 1))) (lv' := [(6, .int (nI (h + 1))), (5, .int (nI 0)), (4, .int (nI (B ((32 + (4 * k)) + 3)))), (3, .int (nI (B ((32 + (4 * k)) + 2)))), (2, .int (nI (B ((32 + (4 * k)) + 1)))), (1, .int (nI k)), (0, .ref (b 0))]) hx hb dX9_wrong_117 hl (k := 1) rfl (nI_add h 1) (by decide) rfl (fun ls hl => ?_)
            refine lv_goto (tgt := 79) hx hb dX9_wrong_120 (by decide) ?_
            exact ih_12 (h + 1, 0) (show B (32 + 4 * k + 3) + 1 - (h + 1) < B (32 + 4 * k + 3) + 1 - h from by omega) ⟨(show B (32 + 4 * k + 2) ≤ (h + 1) ∧ (h + 1) ≤ B (32 + 4 * k + 3) + 1 from by omega), (show (0 = 1 ∧ goodB B k (h + 1)) ∨ (0 = 0 ∧ ¬ goodB B k (h + 1)) from by first | exact Or.inl ⟨rfl, (goodM_s h1.1).mpr ⟨by (rcases h2 with z | z); exact z.2; omega, by omega⟩⟩ | exact Or.inr ⟨rfl, fun z => ((goodM_s h1.1).mp z).2 (by omega)⟩ | exact Or.inr ⟨rfl, fun z => by (rcases h2 with y | y); omega; exact y.2 ((goodM_s h1.1).mp z).1⟩)⟩ _ _ _ (lv_sub hl [0, 1, 2, 3, 4, 5, 6] rfl) hP hD hS
          · refine lv_iconst (v := nI 1) hx hb dX9_wrong_110 (by decide) ?_
            refine lv_goto (tgt := 115) hx hb dX9_wrong_111 (by decide) ?_
            refine lv_istore (lv' := [(5, .int (nI 1)), (6, .int (nI h)), (4, .int (nI (B ((32 + (4 * k)) + 3)))), (3, .int (nI (B ((32 + (4 * k)) + 2)))), (2, .int (nI (B ((32 + (4 * k)) + 1)))), (1, .int (nI k)), (0, .ref (b 0))]) hx hb dX9_wrong_115 hl (by decide) rfl (fun ls hl => ?_)
            refine lv_iinc (v := (nI (h + 1))) (lv' := [(6, .int (nI (h + 1))), (5, .int (nI 1)), (4, .int (nI (B ((32 + (4 * k)) + 3)))), (3, .int (nI (B ((32 + (4 * k)) + 2)))), (2, .int (nI (B ((32 + (4 * k)) + 1)))), (1, .int (nI k)), (0, .ref (b 0))]) hx hb dX9_wrong_117 hl (k := 1) rfl (nI_add h 1) (by decide) rfl (fun ls hl => ?_)
            refine lv_goto (tgt := 79) hx hb dX9_wrong_120 (by decide) ?_
            exact ih_12 (h + 1, 1) (show B (32 + 4 * k + 3) + 1 - (h + 1) < B (32 + 4 * k + 3) + 1 - h from by omega) ⟨(show B (32 + 4 * k + 2) ≤ (h + 1) ∧ (h + 1) ≤ B (32 + 4 * k + 3) + 1 from by omega), (show (1 = 1 ∧ goodB B k (h + 1)) ∨ (1 = 0 ∧ ¬ goodB B k (h + 1)) from by first | exact Or.inl ⟨rfl, (goodM_s h1.1).mpr ⟨by (rcases h2 with z | z); exact z.2; omega, by omega⟩⟩ | exact Or.inr ⟨rfl, fun z => ((goodM_s h1.1).mp z).2 (by omega)⟩ | exact Or.inr ⟨rfl, fun z => by (rcases h2 with y | y); omega; exact y.2 ((goodM_s h1.1).mp z).1⟩)⟩ _ _ _ (lv_sub hl [0, 1, 2, 3, 4, 5, 6] rfl) hP hD hS
    · refine lv_iconst (v := nI 1) hx hb dX9_wrong_69 (by decide) ?_
      refine lv_goto (tgt := 74) hx hb dX9_wrong_70 (by decide) ?_
      refine lv_istore (lv' := [(5, .int (nI 1)), (4, .int (nI (B ((32 + (4 * k)) + 3)))), (3, .int (nI (B ((32 + (4 * k)) + 2)))), (2, .int (nI (B ((32 + (4 * k)) + 1)))), (1, .int (nI k)), (0, .ref (b 0))]) hx hb dX9_wrong_74 hl (by decide) rfl (fun ls hl => ?_)
      refine lv_iload_n hx hb dX9_wrong_76 rfl (lv_at hl 2 rfl) ?_
      refine lv_istore (lv' := [(6, .int (nI (B ((32 + (4 * k)) + 2)))), (5, .int (nI 1)), (4, .int (nI (B ((32 + (4 * k)) + 3)))), (3, .int (nI (B ((32 + (4 * k)) + 2)))), (2, .int (nI (B ((32 + (4 * k)) + 1)))), (1, .int (nI k)), (0, .ref (b 0))]) hx hb dX9_wrong_77 hl (by decide) rfl (fun ls hl => ?_)
      refine wloop (σ := (Nat) × (Nat)) (fun | (h, rg) => B (32 + 4 * k + 3) + 1 - h) (fun | (h, rg) => (B (32 + 4 * k + 2) ≤ h ∧ h ≤ B (32 + 4 * k + 3) + 1) ∧ ((rg = 1 ∧ goodB B k h) ∨ (rg = 0 ∧ ¬ goodB B k h))) (fun | (h, rg) => [(6, .int (nI h)), (5, .int (nI rg)), (4, .int (nI (B ((32 + (4 * k)) + 3)))), (3, .int (nI (B ((32 + (4 * k)) + 2)))), (2, .int (nI (B ((32 + (4 * k)) + 1)))), (1, .int (nI k)), (0, .ref (b 0))]) (fun | (h, rg) => [(b 0, .inr (7, [.ref (b 1), .ref (b 2), .ref (b 3), .ref (b 4), .ref (b 5), .int (nI qu), .long ab, .long bl, .ref (b 6), .int (nI tyd), .int (nI at0), .int (nI sta), .int (nI tok), .int (nI val), .ref (b 7), .int (nI man), .ref (b 8), .ref (b 9), .ref (b 10), .ref (b 11), .ref (b 12), .ref (b 13), .ref (b 14)])), (b 1, .inl (tA 0, 212, .inl (nF B)))]) (B ((32 + (4 * k)) + 2), 1) ⟨(show B (32 + 4 * k + 2) ≤ (B ((32 + (4 * k)) + 2)) ∧ (B ((32 + (4 * k)) + 2)) ≤ B (32 + 4 * k + 3) + 1 from by omega), (show (1 = 1 ∧ goodB B k (B ((32 + (4 * k)) + 2))) ∨ (1 = 0 ∧ ¬ goodB B k (B ((32 + (4 * k)) + 2))) from by first | exact Or.inl ⟨rfl, goodM_0.mpr (by omega)⟩ | exact Or.inr ⟨rfl, fun z => goodM_0.mp z (by omega)⟩)⟩ (lv_sub hl [0, 1, 2, 3, 4, 5, 6] rfl) hP hD hS ?_
      rintro ⟨h, rg⟩ ⟨h1, h2⟩ ih_26 ls H locs hl hP hD hS
      have hl : lv_has ls 7 [(6, .int (nI h)), (5, .int (nI rg)), (4, .int (nI (B ((32 + (4 * k)) + 3)))), (3, .int (nI (B ((32 + (4 * k)) + 2)))), (2, .int (nI (B ((32 + (4 * k)) + 1)))), (1, .int (nI k)), (0, .ref (b 0))] := hl
      have hP : va_P G vwCl [(b 0, .inr (7, [.ref (b 1), .ref (b 2), .ref (b 3), .ref (b 4), .ref (b 5), .int (nI qu), .long ab, .long bl, .ref (b 6), .int (nI tyd), .int (nI at0), .int (nI sta), .int (nI tok), .int (nI val), .ref (b 7), .int (nI man), .ref (b 8), .ref (b 9), .ref (b 10), .ref (b 11), .ref (b 12), .ref (b 13), .ref (b 14)])), (b 1, .inl (tA 0, 212, .inl (nF B)))] H := hP
      have hD : va_D A [(b 0, .inr (7, [.ref (b 1), .ref (b 2), .ref (b 3), .ref (b 4), .ref (b 5), .int (nI qu), .long ab, .long bl, .ref (b 6), .int (nI tyd), .int (nI at0), .int (nI sta), .int (nI tok), .int (nI val), .ref (b 7), .int (nI man), .ref (b 8), .ref (b 9), .ref (b 10), .ref (b 11), .ref (b 12), .ref (b 13), .ref (b 14)])), (b 1, .inl (tA 0, 212, .inl (nF B)))] := hD
      have h1 : B (32 + 4 * k + 2) ≤ h ∧ h ≤ B (32 + 4 * k + 3) + 1 := h1
      have h2 : (rg = 1 ∧ goodB B k h) ∨ (rg = 0 ∧ ¬ goodB B k h) := h2
      refine lv_iload hx hb dX9_wrong_79 (lv_at hl 0 rfl) ?_
      refine lv_iload hx hb dX9_wrong_81 (lv_at hl 2 rfl) ?_
      refine nv_icmp_gt (tgt := 123) (by omega) (by omega) hx hb dX9_wrong_83 (by decide) (fun c_27 => ?_) (fun c_27 => ?_)
      · have sx_28 : h = B (32 + 4 * k + 3) + 1 := by omega
        subst sx_28
        refine lv_iload hx hb dX9_wrong_123 (lv_at hl 1 rfl) ?_
        refine nv_if_ne (tgt := 130) (by omega) hx hb dX9_wrong_125 (by decide) (fun c_29 => ?_) (fun c_29 => ?_)
        · have hwr : ¬ wrongM B k := by (rcases h2 with z | z); exact fun y => y z.2; omega
          refine lv_iinc (v := (nI (k + 1))) (lv' := [(1, .int (nI (k + 1))), (6, .int (nI (B (32 + 4 * k + 3) + 1))), (5, .int (nI rg)), (4, .int (nI (B ((32 + (4 * k)) + 3)))), (3, .int (nI (B ((32 + (4 * k)) + 2)))), (2, .int (nI (B ((32 + (4 * k)) + 1)))), (0, .ref (b 0))]) hx hb dX9_wrong_130 hl (k := 5) rfl (nI_add k 1) (by decide) rfl (fun ls hl => ?_)
          refine lv_goto (tgt := 2) hx hb dX9_wrong_133 (by decide) ?_
          exact ih_1 (k + 1) (show B 1 - (k + 1) < B 1 - k from by omega) ⟨(show (k + 1) ≤ B 1 from by omega), (show ∀ j, j < (k + 1) → ¬ wrongM B j from by intro j q; rcases Nat.lt_succ_iff_lt_or_eq.mp q with q3 | q3; exact hno j q3; rw [q3]; first | assumption | exact fun z => z (by assumption))⟩ _ _ _ (lv_sub hl [0, 6] rfl) hP hD hS
        · have hwr : wrongM B k := by (rcases h2 with z | z); omega; exact z.2
          refine lv_iload_n hx hb dX9_wrong_128 rfl (lv_at hl 5 rfl) ?_
          exact retI hx hb hr hlocks hS hP hD () (rfl) ((firstI_at (B 1) 0 k (by omega) (by omega) (pB_t.mpr (by assumption)) (fun j _ q => pB_f.mpr (hno j q))).symm) dX9_wrong_129
      · refine lv_iload hx hb dX9_wrong_86 (lv_at hl 1 rfl) ?_
        refine nv_if_eq (tgt := 114) (by omega) hx hb dX9_wrong_88 (by decide) (fun c_30 => ?_) (fun c_30 => ?_)
        · refine lv_iconst (v := nI 0) hx hb dX9_wrong_114 (by decide) ?_
          refine lv_istore (lv' := [(5, .int (nI 0)), (6, .int (nI h)), (4, .int (nI (B ((32 + (4 * k)) + 3)))), (3, .int (nI (B ((32 + (4 * k)) + 2)))), (2, .int (nI (B ((32 + (4 * k)) + 1)))), (1, .int (nI k)), (0, .ref (b 0))]) hx hb dX9_wrong_115 hl (by decide) rfl (fun ls hl => ?_)
          refine lv_iinc (v := (nI (h + 1))) (lv' := [(6, .int (nI (h + 1))), (5, .int (nI 0)), (4, .int (nI (B ((32 + (4 * k)) + 3)))), (3, .int (nI (B ((32 + (4 * k)) + 2)))), (2, .int (nI (B ((32 + (4 * k)) + 1)))), (1, .int (nI k)), (0, .ref (b 0))]) hx hb dX9_wrong_117 hl (k := 1) rfl (nI_add h 1) (by decide) rfl (fun ls hl => ?_)
          refine lv_goto (tgt := 79) hx hb dX9_wrong_120 (by decide) ?_
          exact ih_26 (h + 1, 0) (show B (32 + 4 * k + 3) + 1 - (h + 1) < B (32 + 4 * k + 3) + 1 - h from by omega) ⟨(show B (32 + 4 * k + 2) ≤ (h + 1) ∧ (h + 1) ≤ B (32 + 4 * k + 3) + 1 from by omega), (show (0 = 1 ∧ goodB B k (h + 1)) ∨ (0 = 0 ∧ ¬ goodB B k (h + 1)) from by first | exact Or.inl ⟨rfl, (goodM_s h1.1).mpr ⟨by (rcases h2 with z | z); exact z.2; omega, by omega⟩⟩ | exact Or.inr ⟨rfl, fun z => ((goodM_s h1.1).mp z).2 (by omega)⟩ | exact Or.inr ⟨rfl, fun z => by (rcases h2 with y | y); omega; exact y.2 ((goodM_s h1.1).mp z).1⟩)⟩ _ _ _ (lv_sub hl [0, 1, 2, 3, 4, 5, 6] rfl) hP hD hS
        · have hn9 : k + 1 ≤ 10 := by omega
          refine lv_aload_n hx hb dX9_wrong_91 rfl (lv_at hl 6 rfl) ?_
          refine lv_iload_n hx hb dX9_wrong_92 rfl (lv_at hl 5 rfl) ?_
          refine lv_iconst (v := nI 1) hx hb dX9_wrong_93 (by decide) ?_
          refine nv_iadd hx hb dX9_wrong_94 ?_
          refine lv_iload_n hx hb dX9_wrong_95 rfl (lv_at hl 4 rfl) ?_
          refine lv_iload hx hb dX9_wrong_96 (lv_at hl 0 rfl) ?_
          refine lv_iconst (v := (-1)) hx hb dX9_wrong_98 (by decide) ?_
          refine roI hP hD hS hA [0, 1] rfl (runV (As := [.int (nI (k + 1)), .int (nI (B ((32 + (4 * k)) + 1))), .int (nI h), .int (-1)]) (rest := []) (isC := [0, 1]) ⟨hx, hb, hml, hown, hts⟩ hKK hP hD rfl (by decide) (c_X9_having l G tA b qu ab bl tyd at0 sta tok val man B (k + 1) (B ((32 + (4 * k)) + 1)) h (-1) (-1 : Int) (hWB) (by omega) (by omega) (by first | assumption | omega) rfl _) (cwV 4 hts gX9_wrong_X9_having rfl rfl rfl (by decide +kernel) ⟨Nat.le_of_ble_eq_true rfl, Nat.le_of_ble_eq_true rfl⟩) rfl rfl rfl rfl hl.1 rfl (lv_room (Nat.le_of_ble_eq_true rfl)) dX9_wrong_99 ⟨Nat.le_of_ble_eq_true rfl, Nat.le_of_ble_eq_true rfl⟩) (fun _ => rfl) (fun r_31 u_32 H locs q_33 hP hS => ?_)
          obtain ⟨rfl, e_34⟩ := q_33
          have e_34 : cntN (havB B (B ((32 + (4 * k)) + 1)) h (-1 : Int)) (k + 1) ≤ 10 := e_34
          refine lv_aload_n hx hb dX9_wrong_102 rfl (lv_at hl 6 rfl) ?_
          refine lv_iload_n hx hb dX9_wrong_103 rfl (lv_at hl 4 rfl) ?_
          refine roI hP hD hS hA [0, 1] rfl (runV (As := [.int (nI (B ((32 + (4 * k)) + 1)))]) (rest := [.int (nI (cntN (havB B (B ((32 + (4 * k)) + 1)) h (-1 : Int)) (k + 1)))]) (isC := [0, 1]) ⟨hx, hb, hml, hown, hts⟩ hKK hP hD rfl (by decide) (c_X9_mayOf l G tA b qu ab bl tyd at0 sta tok val man B (B ((32 + (4 * k)) + 1)) (hWB) (hv.2.1) _) (cwV 1 hts gX9_wrong_X9_mayOf rfl rfl rfl (by decide +kernel) ⟨Nat.le_of_ble_eq_true rfl, Nat.le_of_ble_eq_true rfl⟩) rfl rfl rfl rfl hl.1 rfl (lv_room (Nat.le_of_ble_eq_true rfl)) dX9_wrong_104 ⟨Nat.le_of_ble_eq_true rfl, Nat.le_of_ble_eq_true rfl⟩) (fun _ => rfl) (fun r_35 u_36 H locs q_37 hP hS => ?_)
          obtain ⟨rfl, e_38⟩ := q_37
          have e_38 : mayM B (B ((32 + (4 * k)) + 1)) < 4 := e_38
          refine nv_icmp_gt (tgt := 114) (by omega) (by omega) hx hb dX9_wrong_107 (by decide) (fun c_39 => ?_) (fun c_39 => ?_)
          · refine lv_iconst (v := nI 0) hx hb dX9_wrong_114 (by decide) ?_
            refine lv_istore (lv' := [(5, .int (nI 0)), (6, .int (nI h)), (4, .int (nI (B ((32 + (4 * k)) + 3)))), (3, .int (nI (B ((32 + (4 * k)) + 2)))), (2, .int (nI (B ((32 + (4 * k)) + 1)))), (1, .int (nI k)), (0, .ref (b 0))]) hx hb dX9_wrong_115 hl (by decide) rfl (fun ls hl => ?_)
            refine lv_iinc (v := (nI (h + 1))) (lv' := [(6, .int (nI (h + 1))), (5, .int (nI 0)), (4, .int (nI (B ((32 + (4 * k)) + 3)))), (3, .int (nI (B ((32 + (4 * k)) + 2)))), (2, .int (nI (B ((32 + (4 * k)) + 1)))), (1, .int (nI k)), (0, .ref (b 0))]) hx hb dX9_wrong_117 hl (k := 1) rfl (nI_add h 1) (by decide) rfl (fun ls hl => ?_)
            refine lv_goto (tgt := 79) hx hb dX9_wrong_120 (by decide) ?_
            exact ih_26 (h + 1, 0) (show B (32 + 4 * k + 3) + 1 - (h + 1) < B (32 + 4 * k + 3) + 1 - h from by omega) ⟨(show B (32 + 4 * k + 2) ≤ (h + 1) ∧ (h + 1) ≤ B (32 + 4 * k + 3) + 1 from by omega), (show (0 = 1 ∧ goodB B k (h + 1)) ∨ (0 = 0 ∧ ¬ goodB B k (h + 1)) from by first | exact Or.inl ⟨rfl, (goodM_s h1.1).mpr ⟨by (rcases h2 with z | z); exact z.2; omega, by omega⟩⟩ | exact Or.inr ⟨rfl, fun z => ((goodM_s h1.1).mp z).2 (by omega)⟩ | exact Or.inr ⟨rfl, fun z => by (rcases h2 with y | y); omega; exact y.2 ((goodM_s h1.1).mp z).1⟩)⟩ _ _ _ (lv_sub hl [0, 1, 2, 3, 4, 5, 6] rfl) hP hD hS
          · refine lv_iconst (v := nI 1) hx hb dX9_wrong_110 (by decide) ?_
            refine lv_goto (tgt := 115) hx hb dX9_wrong_111 (by decide) ?_
            refine lv_istore (lv' := [(5, .int (nI 1)), (6, .int (nI h)), (4, .int (nI (B ((32 + (4 * k)) + 3)))), (3, .int (nI (B ((32 + (4 * k)) + 2)))), (2, .int (nI (B ((32 + (4 * k)) + 1)))), (1, .int (nI k)), (0, .ref (b 0))]) hx hb dX9_wrong_115 hl (by decide) rfl (fun ls hl => ?_)
            refine lv_iinc (v := (nI (h + 1))) (lv' := [(6, .int (nI (h + 1))), (5, .int (nI 1)), (4, .int (nI (B ((32 + (4 * k)) + 3)))), (3, .int (nI (B ((32 + (4 * k)) + 2)))), (2, .int (nI (B ((32 + (4 * k)) + 1)))), (1, .int (nI k)), (0, .ref (b 0))]) hx hb dX9_wrong_117 hl (k := 1) rfl (nI_add h 1) (by decide) rfl (fun ls hl => ?_)
            refine lv_goto (tgt := 79) hx hb dX9_wrong_120 (by decide) ?_
            exact ih_26 (h + 1, 1) (show B (32 + 4 * k + 3) + 1 - (h + 1) < B (32 + 4 * k + 3) + 1 - h from by omega) ⟨(show B (32 + 4 * k + 2) ≤ (h + 1) ∧ (h + 1) ≤ B (32 + 4 * k + 3) + 1 from by omega), (show (1 = 1 ∧ goodB B k (h + 1)) ∨ (1 = 0 ∧ ¬ goodB B k (h + 1)) from by first | exact Or.inl ⟨rfl, (goodM_s h1.1).mpr ⟨by (rcases h2 with z | z); exact z.2; omega, by omega⟩⟩ | exact Or.inr ⟨rfl, fun z => ((goodM_s h1.1).mp z).2 (by omega)⟩ | exact Or.inr ⟨rfl, fun z => by (rcases h2 with y | y); omega; exact y.2 ((goodM_s h1.1).mp z).1⟩)⟩ _ _ _ (lv_sub hl [0, 1, 2, 3, 4, 5, 6] rfl) hP hD hS

set_option maxHeartbeats 4000000 in
set_option maxRecDepth 100000 in
theorem c_X9_judge (l : Launch) (G : va_G) (tA : Nat → ClassId) (b : Nat → Nat) (qu : Nat) (ab : Int64) (bl : Int64) (tyd : Nat) (at0 : Nat) (sta : Nat) (tok : Nat) (val : Nat) (man : Nat) (B : Nat → Nat) (hWB : WB B) : CtI l yX9_judge wsX9_judge ({ frames := 2, cells := 0, slots := 0, locals := 53 }) G tA [.ref (b 0)] ([(b 0, .inr (7, [.ref (b 1), .ref (b 2), .ref (b 3), .ref (b 4), .ref (b 5), .int (nI qu), .long ab, .long bl, .ref (b 6), .int (nI tyd), .int (nI at0), .int (nI sta), .int (nI tok), .int (nI val), .ref (b 7), .int (nI man), .ref (b 8), .ref (b 9), .ref (b 10), .ref (b 11), .ref (b 12), .ref (b 13), .ref (b 14)])), (b 1, .inl (tA 0, 212, .inl (nF B)))]) (fun (r : Int32) (_ : Unit) => r = firstI (fun k => pB (cntN (havB B (B (72 + 3 * k + 1)) (B (72 + 3 * k + 2)) ((B (72 + 3 * k) : Nat) : Int)) (B 1) = 0)) (B 2) 0) (fun (_ : Unit) => [(b 0, .inr (7, [.ref (b 1), .ref (b 2), .ref (b 3), .ref (b 4), .ref (b 5), .int (nI qu), .long ab, .long bl, .ref (b 6), .int (nI tyd), .int (nI at0), .int (nI sta), .int (nI tok), .int (nI val), .ref (b 7), .int (nI man), .ref (b 8), .ref (b 9), .ref (b 10), .ref (b 11), .ref (b 12), .ref (b 13), .ref (b 14)])), (b 1, .inl (tA 0, 212, .inl (nF B)))]) 0 0 := by
  refine enterI (cc := cX9_judge) (maxL := 3) (ret := (some .int)) (by decide) rfl (Nat.le_of_ble_eq_true rfl) ?_
  intro p0 e0 s m args below meth c0_ A ls hx hb hml hr hts hown hlocks hin hKK hA hP hD hl hS
  have hown : s.vm.findClass RX9 = some m.cls := hown
  have hl : lv_has ls 3 [(0, .ref (b 0))] := hl
  have f7 := hts (Cond.fieldLink RX9 7 "LentTermsModel" "book" "[I") (List.mem_of_getElem? (i := 1) rfl)
  have iX9 : ∀ w ∈ wsX90, w ∈ wsX9_judge := by decide +kernel
  obtain ⟨⟨hn0, hn1, hn2, hn3, hn4, hn5⟩, hbB, hv0, hv1, hv2, hv3, hv4, hv5, hv6, hv7⟩ := id hWB
  refine lv_iconst (v := nI 0) hx hb dX9_judge_0 (by decide) ?_
  refine lv_istore_n (lv' := [(1, .int (nI 0)), (0, .ref (b 0))]) hx hb dX9_judge_1 rfl hl (by decide) rfl (fun ls hl => ?_)
  refine wloop (σ := (Nat)) (fun | k => B 2 - k) (fun | k => (k ≤ B 2) ∧ (∀ j, j < k → ¬ (cntN (havB B (B (72 + 3 * j + 1)) (B (72 + 3 * j + 2)) ((B (72 + 3 * j) : Nat) : Int)) (B 1) = 0))) (fun | k => [(1, .int (nI k)), (0, .ref (b 0))]) (fun | k => [(b 0, .inr (7, [.ref (b 1), .ref (b 2), .ref (b 3), .ref (b 4), .ref (b 5), .int (nI qu), .long ab, .long bl, .ref (b 6), .int (nI tyd), .int (nI at0), .int (nI sta), .int (nI tok), .int (nI val), .ref (b 7), .int (nI man), .ref (b 8), .ref (b 9), .ref (b 10), .ref (b 11), .ref (b 12), .ref (b 13), .ref (b 14)])), (b 1, .inl (tA 0, 212, .inl (nF B)))]) 0 ⟨(show 0 ≤ B 2 from by omega), (show ∀ j, j < 0 → ¬ (cntN (havB B (B (72 + 3 * j + 1)) (B (72 + 3 * j + 2)) ((B (72 + 3 * j) : Nat) : Int)) (B 1) = 0) from by intro j q; omega)⟩ (lv_sub hl [0, 1] rfl) hP hD hS ?_
  rintro k ⟨hk, hno⟩ ih_1 ls H locs hl hP hD hS
  have hl : lv_has ls 3 [(1, .int (nI k)), (0, .ref (b 0))] := hl
  have hP : va_P G vwCl [(b 0, .inr (7, [.ref (b 1), .ref (b 2), .ref (b 3), .ref (b 4), .ref (b 5), .int (nI qu), .long ab, .long bl, .ref (b 6), .int (nI tyd), .int (nI at0), .int (nI sta), .int (nI tok), .int (nI val), .ref (b 7), .int (nI man), .ref (b 8), .ref (b 9), .ref (b 10), .ref (b 11), .ref (b 12), .ref (b 13), .ref (b 14)])), (b 1, .inl (tA 0, 212, .inl (nF B)))] H := hP
  have hD : va_D A [(b 0, .inr (7, [.ref (b 1), .ref (b 2), .ref (b 3), .ref (b 4), .ref (b 5), .int (nI qu), .long ab, .long bl, .ref (b 6), .int (nI tyd), .int (nI at0), .int (nI sta), .int (nI tok), .int (nI val), .ref (b 7), .int (nI man), .ref (b 8), .ref (b 9), .ref (b 10), .ref (b 11), .ref (b 12), .ref (b 13), .ref (b 14)])), (b 1, .inl (tA 0, 212, .inl (nF B)))] := hD
  have hk : k ≤ B 2 := hk
  have hno : ∀ j, j < k → ¬ (cntN (havB B (B (72 + 3 * j + 1)) (B (72 + 3 * j + 2)) ((B (72 + 3 * j) : Nat) : Int)) (B 1) = 0) := hno
  refine lv_iload_n hx hb dX9_judge_2 rfl (lv_at hl 0 rfl) ?_
  refine lv_aload_n hx hb dX9_judge_3 rfl (lv_at hl 1 rfl) ?_
  refine va_get (D := G) (ci := 7) (C := RX9) (T := TX9) (N := 23) hx hb hts iX9 hown hKK.1 hP 0 rfl rfl 0 (by decide) f7 (fun _ h9 => h9) rfl dX9_judge_4 ?_
  refine lv_iconst (v := nI 2) hx hb dX9_judge_7 (by decide) ?_
  refine nv_iald (i := 2) hx hb hKK.1 hP 1 0 rfl rfl (by omega) (by decide) dX9_judge_8 ?_
  have b_2 := hbB 2
  refine nv_icmp_ge (tgt := 62) (by omega) (by omega) hx hb dX9_judge_9 (by decide) (fun c_3 => ?_) (fun c_3 => ?_)
  · refine lv_iconst (v := (-1)) hx hb dX9_judge_62 (by decide) ?_
    exact retI hx hb hr hlocks hS hP hD () (rfl) ((firstI_no (B 2) 0 (fun j _ q => pB_f.mpr (hno j (by omega)))).symm) dX9_judge_63
  · refine lv_bipush (v := nI 72) hx hb dX9_judge_12 (by decide +kernel) ?_
    refine lv_iconst (v := nI 3) hx hb dX9_judge_14 (by decide) ?_
    refine lv_iload_n hx hb dX9_judge_15 rfl (lv_at hl 0 rfl) ?_
    refine nv_imul hx hb dX9_judge_16 ?_
    refine nv_iadd hx hb dX9_judge_17 ?_
    refine lv_istore_n (lv' := [(2, .int (nI (72 + (3 * k)))), (1, .int (nI k)), (0, .ref (b 0))]) hx hb dX9_judge_18 rfl hl (by decide) rfl (fun ls hl => ?_)
    refine lv_aload_n hx hb dX9_judge_19 rfl (lv_at hl 2 rfl) ?_
    refine lv_aload_n hx hb dX9_judge_20 rfl (lv_at hl 2 rfl) ?_
    refine va_get (D := G) (ci := 7) (C := RX9) (T := TX9) (N := 23) hx hb hts iX9 hown hKK.1 hP 0 rfl rfl 0 (by decide) f7 (fun _ h9 => h9) rfl dX9_judge_21 ?_
    refine lv_iconst (v := nI 1) hx hb dX9_judge_24 (by decide) ?_
    refine nv_iald (i := 1) hx hb hKK.1 hP 1 0 rfl rfl (by omega) (by decide) dX9_judge_25 ?_
    have b_4 := hbB 1
    refine lv_aload_n hx hb dX9_judge_26 rfl (lv_at hl 2 rfl) ?_
    refine va_get (D := G) (ci := 7) (C := RX9) (T := TX9) (N := 23) hx hb hts iX9 hown hKK.1 hP 0 rfl rfl 0 (by decide) f7 (fun _ h9 => h9) rfl dX9_judge_27 ?_
    refine lv_iload_n hx hb dX9_judge_30 rfl (lv_at hl 0 rfl) ?_
    refine lv_iconst (v := nI 1) hx hb dX9_judge_31 (by decide) ?_
    refine nv_iadd hx hb dX9_judge_32 ?_
    refine nv_iald (i := (72 + (3 * k)) + 1) hx hb hKK.1 hP 1 0 rfl rfl (by omega) (by decide) dX9_judge_33 ?_
    have b_5 := hbB ((72 + (3 * k)) + 1)
    refine lv_aload_n hx hb dX9_judge_34 rfl (lv_at hl 2 rfl) ?_
    refine va_get (D := G) (ci := 7) (C := RX9) (T := TX9) (N := 23) hx hb hts iX9 hown hKK.1 hP 0 rfl rfl 0 (by decide) f7 (fun _ h9 => h9) rfl dX9_judge_35 ?_
    refine lv_iload_n hx hb dX9_judge_38 rfl (lv_at hl 0 rfl) ?_
    refine lv_iconst (v := nI 2) hx hb dX9_judge_39 (by decide) ?_
    refine nv_iadd hx hb dX9_judge_40 ?_
    refine nv_iald (i := (72 + (3 * k)) + 2) hx hb hKK.1 hP 1 0 rfl rfl (by omega) (by decide) dX9_judge_41 ?_
    have b_6 := hbB ((72 + (3 * k)) + 2)
    refine lv_aload_n hx hb dX9_judge_42 rfl (lv_at hl 2 rfl) ?_
    refine va_get (D := G) (ci := 7) (C := RX9) (T := TX9) (N := 23) hx hb hts iX9 hown hKK.1 hP 0 rfl rfl 0 (by decide) f7 (fun _ h9 => h9) rfl dX9_judge_43 ?_
    refine lv_iload_n hx hb dX9_judge_46 rfl (lv_at hl 0 rfl) ?_
    refine nv_iald (i := 72 + (3 * k)) hx hb hKK.1 hP 1 0 rfl rfl (by omega) (by decide) dX9_judge_47 ?_
    have b_7 := hbB (72 + (3 * k))
    refine roI hP hD hS hA [0, 1] rfl (runV (As := [.int (nI (B 1)), .int (nI (B ((72 + (3 * k)) + 1))), .int (nI (B ((72 + (3 * k)) + 2))), .int (nI (B (72 + (3 * k))))]) (rest := []) (isC := [0, 1]) ⟨hx, hb, hml, hown, hts⟩ hKK hP hD rfl (by decide) (c_X9_having l G tA b qu ab bl tyd at0 sta tok val man B (B 1) (B ((72 + (3 * k)) + 1)) (B ((72 + (3 * k)) + 2)) (nI (B (72 + (3 * k)))) ((B (72 + (3 * k)) : Nat) : Int) (hWB) (by omega) (by first | assumption | omega) (by first | assumption | omega) (nI_toIntC (by omega)) _) (cwV 4 hts gX9_judge_X9_having rfl rfl rfl (by decide +kernel) ⟨Nat.le_of_ble_eq_true rfl, Nat.le_of_ble_eq_true rfl⟩) rfl rfl rfl rfl hl.1 rfl (lv_room (Nat.le_of_ble_eq_true rfl)) dX9_judge_48 ⟨Nat.le_of_ble_eq_true rfl, Nat.le_of_ble_eq_true rfl⟩) (fun _ => rfl) (fun r_8 u_9 H locs q_10 hP hS => ?_)
    obtain ⟨rfl, e_11⟩ := q_10
    have e_11 : cntN (havB B (B ((72 + (3 * k)) + 1)) (B ((72 + (3 * k)) + 2)) ((B (72 + (3 * k)) : Nat) : Int)) (B 1) ≤ 10 := e_11
    refine nv_if_ne (tgt := 56) (by omega) hx hb dX9_judge_51 (by decide) (fun c_12 => ?_) (fun c_12 => ?_)
    · refine lv_iinc (v := (nI (k + 1))) (lv' := [(1, .int (nI (k + 1))), (2, .int (nI (72 + (3 * k)))), (0, .ref (b 0))]) hx hb dX9_judge_56 hl (k := 1) rfl (nI_add k 1) (by decide) rfl (fun ls hl => ?_)
      refine lv_goto (tgt := 2) hx hb dX9_judge_59 (by decide) ?_
      exact ih_1 (k + 1) (show B 2 - (k + 1) < B 2 - k from by omega) ⟨(show (k + 1) ≤ B 2 from by omega), (show ∀ j, j < (k + 1) → ¬ (cntN (havB B (B (72 + 3 * j + 1)) (B (72 + 3 * j + 2)) ((B (72 + 3 * j) : Nat) : Int)) (B 1) = 0) from by intro j q; rcases Nat.lt_succ_iff_lt_or_eq.mp q with q3 | q3; exact hno j q3; rw [q3]; first | assumption | exact fun z => z (by assumption))⟩ _ _ _ (lv_sub hl [0, 2] rfl) hP hD hS
    · refine lv_iload_n hx hb dX9_judge_54 rfl (lv_at hl 1 rfl) ?_
      exact retI hx hb hr hlocks hS hP hD () (rfl) ((firstI_at (B 2) 0 k (by omega) (by omega) (pB_t.mpr (by assumption)) (fun j _ q => pB_f.mpr (hno j q))).symm) dX9_judge_55

set_option maxHeartbeats 4000000 in
set_option maxRecDepth 100000 in
theorem c_X9_bill (l : Launch) (G : va_G) (tA : Nat → ClassId) (b : Nat → Nat) (qu : Nat) (ab : Int64) (bl : Int64) (tyd : Nat) (at0 : Nat) (sta : Nat) (tok : Nat) (val : Nat) (man : Nat) (B : Nat → Nat) (rf : Nat → Int32) (pe : Int32) (PE : Int) (hWB : WB B) (hqu : qu < 2) (hpe : pe.toInt = PE) : CtI l yX9_bill wsX9_bill ({ frames := 2, cells := 0, slots := 0, locals := 45 }) G tA [.ref (b 0), .int pe] ([(b 0, .inr (7, [.ref (b 1), .ref (b 2), .ref (b 3), .ref (b 4), .ref (b 5), .int (nI qu), .long ab, .long bl, .ref (b 6), .int (nI tyd), .int (nI at0), .int (nI sta), .int (nI tok), .int (nI val), .ref (b 7), .int (nI man), .ref (b 8), .ref (b 9), .ref (b 10), .ref (b 11), .ref (b 12), .ref (b 13), .ref (b 14)])), (b 1, .inl (tA 0, 212, .inl (nF B))), (b 5, .inl (tA 0, 3, .inl rf))]) (fun (r : Int32) (_ : Unit) => r = (if 0 ≤ PE ∧ PE < 5 then nI (billM B PE.toNat (B 1)) else -2)) (fun (_ : Unit) => [(b 0, .inr (7, [.ref (b 1), .ref (b 2), .ref (b 3), .ref (b 4), .ref (b 5), .int (nI qu), .long ab, .long bl, .ref (b 6), .int (nI tyd), .int (nI at0), .int (nI sta), .int (nI tok), .int (nI val), .ref (b 7), .int (nI man), .ref (b 8), .ref (b 9), .ref (b 10), .ref (b 11), .ref (b 12), .ref (b 13), .ref (b 14)])), (b 1, .inl (tA 0, 212, .inl (nF B))), (b 5, .inl (tA 0, 3, .inl (if 0 ≤ PE ∧ PE < 5 then rf else bump qu rf 0)))]) 0 0 := by
  refine enterI (cc := cX9_bill) (maxL := 5) (ret := (some .int)) (by decide) rfl (Nat.le_of_ble_eq_true rfl) ?_
  intro p0 e0 s m args below meth c0_ A ls hx hb hml hr hts hown hlocks hin hKK hA hP hD hl hS
  have hown : s.vm.findClass RX9 = some m.cls := hown
  have hl : lv_has ls 5 [(0, .ref (b 0)), (1, .int pe)] := hl
  have f7 := hts (Cond.fieldLink RX9 7 "LentTermsModel" "book" "[I") (List.mem_of_getElem? (i := 1) rfl)
  have iX9 : ∀ w ∈ wsX90, w ∈ wsX9_bill := by decide +kernel
  obtain ⟨⟨hn0, hn1, hn2, hn3, hn4, hn5⟩, hbB, hv0, hv1, hv2, hv3, hv4, hv5, hv6, hv7⟩ := id hWB
  refine lv_iload_n hx hb dX9_bill_0 rfl (lv_at hl 1 rfl) ?_
  refine roI hP hD hS hA [] rfl (runS (As := [.int pe]) (rest := []) (isC := []) ⟨hx, hb, hml, hown, hts⟩ hKK hP hD rfl (by decide) (c_X9_isOne l G tA pe PE hpe _) (va_cwS 1 hts gX9_bill_X9_isOne rfl rfl rfl (by decide +kernel) ⟨Nat.le_of_ble_eq_true rfl, Nat.le_of_ble_eq_true rfl⟩) rfl rfl hl.1 rfl (lv_room (Nat.le_of_ble_eq_true rfl)) dX9_bill_1 ⟨Nat.le_of_ble_eq_true rfl, Nat.le_of_ble_eq_true rfl⟩) (fun _ => rfl) (fun r_1 u_2 H locs q_3 hP hS => ?_)
  rcases q_3 with ⟨rfl, p_4⟩ | ⟨rfl, p_4⟩
  · have p_4 : 0 ≤ PE ∧ PE < 5 := p_4
    refine nv_if_ne (tgt := 12) (by omega) hx hb dX9_bill_4 (by decide) (fun _ => ?_) (fun h => absurd h (by omega))
    have hok : 0 ≤ PE ∧ PE < 5 := by omega
    obtain ⟨pen, h_pen, rfl⟩ := toN (x := pe) (by omega)
    have t_pen : (nI pen).toInt = (pen : Int) := nI_toInt h_pen
    have z_pen : PE.toNat = pen := by omega
    refine lv_iconst (v := nI 0) hx hb dX9_bill_12 (by decide) ?_
    refine lv_istore_n (lv' := [(2, .int (nI 0)), (0, .ref (b 0)), (1, .int (nI pen))]) hx hb dX9_bill_13 rfl hl (by decide) rfl (fun ls hl => ?_)
    refine lv_iconst (v := nI 0) hx hb dX9_bill_14 (by decide) ?_
    refine lv_istore_n (lv' := [(3, .int (nI 0)), (2, .int (nI 0)), (0, .ref (b 0)), (1, .int (nI pen))]) hx hb dX9_bill_15 rfl hl (by decide) rfl (fun ls hl => ?_)
    refine wloop (σ := (Nat) × (Nat)) (fun | (k, q) => B 1 - k) (fun | (k, q) => (k ≤ B 1) ∧ (q = billM B pen k)) (fun | (k, q) => [(3, .int (nI k)), (2, .int (nI q)), (0, .ref (b 0)), (1, .int (nI pen))]) (fun | (k, q) => [(b 0, .inr (7, [.ref (b 1), .ref (b 2), .ref (b 3), .ref (b 4), .ref (b 5), .int (nI qu), .long ab, .long bl, .ref (b 6), .int (nI tyd), .int (nI at0), .int (nI sta), .int (nI tok), .int (nI val), .ref (b 7), .int (nI man), .ref (b 8), .ref (b 9), .ref (b 10), .ref (b 11), .ref (b 12), .ref (b 13), .ref (b 14)])), (b 1, .inl (tA 0, 212, .inl (nF B))), (b 5, .inl (tA 0, 3, .inl rf))]) (0, 0) ⟨(show 0 ≤ B 1 from by omega), (show 0 = billM B pen 0 from rfl)⟩ (lv_sub hl [0, 1, 2, 3] rfl) hP hD hS ?_
    rintro ⟨k, q⟩ ⟨hk, hq⟩ ih_6 ls H locs hl hP hD hS
    have hl : lv_has ls 5 [(3, .int (nI k)), (2, .int (nI q)), (0, .ref (b 0)), (1, .int (nI pen))] := hl
    have hP : va_P G vwCl [(b 0, .inr (7, [.ref (b 1), .ref (b 2), .ref (b 3), .ref (b 4), .ref (b 5), .int (nI qu), .long ab, .long bl, .ref (b 6), .int (nI tyd), .int (nI at0), .int (nI sta), .int (nI tok), .int (nI val), .ref (b 7), .int (nI man), .ref (b 8), .ref (b 9), .ref (b 10), .ref (b 11), .ref (b 12), .ref (b 13), .ref (b 14)])), (b 1, .inl (tA 0, 212, .inl (nF B))), (b 5, .inl (tA 0, 3, .inl rf))] H := hP
    have hD : va_D A [(b 0, .inr (7, [.ref (b 1), .ref (b 2), .ref (b 3), .ref (b 4), .ref (b 5), .int (nI qu), .long ab, .long bl, .ref (b 6), .int (nI tyd), .int (nI at0), .int (nI sta), .int (nI tok), .int (nI val), .ref (b 7), .int (nI man), .ref (b 8), .ref (b 9), .ref (b 10), .ref (b 11), .ref (b 12), .ref (b 13), .ref (b 14)])), (b 1, .inl (tA 0, 212, .inl (nF B))), (b 5, .inl (tA 0, 3, .inl rf))] := hD
    have hk : k ≤ B 1 := hk
    have hq : q = billM B pen k := hq
    refine lv_iload_n hx hb dX9_bill_16 rfl (lv_at hl 0 rfl) ?_
    refine lv_aload_n hx hb dX9_bill_17 rfl (lv_at hl 2 rfl) ?_
    refine va_get (D := G) (ci := 7) (C := RX9) (T := TX9) (N := 23) hx hb hts iX9 hown hKK.1 hP 0 rfl rfl 0 (by decide) f7 (fun _ h9 => h9) rfl dX9_bill_18 ?_
    refine lv_iconst (v := nI 1) hx hb dX9_bill_21 (by decide) ?_
    refine nv_iald (i := 1) hx hb hKK.1 hP 1 0 rfl rfl (by omega) (by decide) dX9_bill_22 ?_
    have b_7 := hbB 1
    refine nv_icmp_ge (tgt := 92) (by omega) (by omega) hx hb dX9_bill_23 (by decide) (fun c_8 => ?_) (fun c_8 => ?_)
    · refine lv_iload_n hx hb dX9_bill_92 rfl (lv_at hl 1 rfl) ?_
      exact retI hx hb hr hlocks hS hP hD () (by rw [if_pos hok]) (by rw [if_pos hok, hq, z_pen, show k = B 1 from by omega]) dX9_bill_93
    · have hv := hv1 k (by omega)
      refine lv_bipush (v := nI 32) hx hb dX9_bill_26 (by decide +kernel) ?_
      refine lv_iconst (v := nI 4) hx hb dX9_bill_28 (by decide) ?_
      refine lv_iload_n hx hb dX9_bill_29 rfl (lv_at hl 0 rfl) ?_
      refine nv_imul hx hb dX9_bill_30 ?_
      refine nv_iadd hx hb dX9_bill_31 ?_
      refine lv_istore (lv' := [(4, .int (nI (32 + (4 * k)))), (3, .int (nI k)), (2, .int (nI q)), (0, .ref (b 0)), (1, .int (nI pen))]) hx hb dX9_bill_32 hl (by decide) rfl (fun ls hl => ?_)
      refine lv_iload_n hx hb dX9_bill_34 rfl (lv_at hl 2 rfl) ?_
      refine lv_aload_n hx hb dX9_bill_35 rfl (lv_at hl 3 rfl) ?_
      refine va_get (D := G) (ci := 7) (C := RX9) (T := TX9) (N := 23) hx hb hts iX9 hown hKK.1 hP 0 rfl rfl 0 (by decide) f7 (fun _ h9 => h9) rfl dX9_bill_36 ?_
      refine lv_iload hx hb dX9_bill_39 (lv_at hl 0 rfl) ?_
      refine nv_iald (i := 32 + (4 * k)) hx hb hKK.1 hP 1 0 rfl rfl (by omega) (by decide) dX9_bill_41 ?_
      have b_9 := hbB (32 + (4 * k))
      refine lv_iload_n hx hb dX9_bill_42 rfl (lv_at hl 4 rfl) ?_
      refine nv_icmp_ne (tgt := 83) (by omega) (by omega) hx hb dX9_bill_43 (by decide) (fun c_10 => ?_) (fun c_10 => ?_)
      · refine lv_iconst (v := nI 0) hx hb dX9_bill_83 (by decide) ?_
        refine nv_iadd hx hb dX9_bill_84 ?_
        refine lv_istore_n (lv' := [(2, .int (nI (q + 0))), (4, .int (nI (32 + (4 * k)))), (3, .int (nI k)), (0, .ref (b 0)), (1, .int (nI pen))]) hx hb dX9_bill_85 rfl hl (by decide) rfl (fun ls hl => ?_)
        refine lv_iinc (v := (nI (k + 1))) (lv' := [(3, .int (nI (k + 1))), (2, .int (nI (q + 0))), (4, .int (nI (32 + (4 * k)))), (0, .ref (b 0)), (1, .int (nI pen))]) hx hb dX9_bill_86 hl (k := 2) rfl (nI_add k 1) (by decide) rfl (fun ls hl => ?_)
        refine lv_goto (tgt := 16) hx hb dX9_bill_89 (by decide) ?_
        exact ih_6 (k + 1, q + 0) (show B 1 - (k + 1) < B 1 - k from by omega) ⟨(show (k + 1) ≤ B 1 from by omega), (show (q + 0) = billM B pen (k + 1) from by rw [hq]; first | exact congrArg (fun z => billM B pen k + z) (if_pos (by omega)).symm | exact congrArg (fun z => billM B pen k + z) (if_neg (by omega)).symm)⟩ _ _ _ (lv_sub hl [0, 1, 3, 4] rfl) hP hD hS
      · refine lv_aload_n hx hb dX9_bill_46 rfl (lv_at hl 3 rfl) ?_
        refine lv_aload_n hx hb dX9_bill_47 rfl (lv_at hl 3 rfl) ?_
        refine va_get (D := G) (ci := 7) (C := RX9) (T := TX9) (N := 23) hx hb hts iX9 hown hKK.1 hP 0 rfl rfl 0 (by decide) f7 (fun _ h9 => h9) rfl dX9_bill_48 ?_
        refine lv_iload hx hb dX9_bill_51 (lv_at hl 0 rfl) ?_
        refine lv_iconst (v := nI 1) hx hb dX9_bill_53 (by decide) ?_
        refine nv_iadd hx hb dX9_bill_54 ?_
        refine nv_iald (i := (32 + (4 * k)) + 1) hx hb hKK.1 hP 1 0 rfl rfl (by omega) (by decide) dX9_bill_55 ?_
        have b_11 := hbB ((32 + (4 * k)) + 1)
        refine lv_aload_n hx hb dX9_bill_56 rfl (lv_at hl 3 rfl) ?_
        refine va_get (D := G) (ci := 7) (C := RX9) (T := TX9) (N := 23) hx hb hts iX9 hown hKK.1 hP 0 rfl rfl 0 (by decide) f7 (fun _ h9 => h9) rfl dX9_bill_57 ?_
        refine lv_iload hx hb dX9_bill_60 (lv_at hl 0 rfl) ?_
        refine lv_iconst (v := nI 3) hx hb dX9_bill_62 (by decide) ?_
        refine nv_iadd hx hb dX9_bill_63 ?_
        refine nv_iald (i := (32 + (4 * k)) + 3) hx hb hKK.1 hP 1 0 rfl rfl (by omega) (by decide) dX9_bill_64 ?_
        have b_12 := hbB ((32 + (4 * k)) + 3)
        refine lv_aload_n hx hb dX9_bill_65 rfl (lv_at hl 3 rfl) ?_
        refine va_get (D := G) (ci := 7) (C := RX9) (T := TX9) (N := 23) hx hb hts iX9 hown hKK.1 hP 0 rfl rfl 0 (by decide) f7 (fun _ h9 => h9) rfl dX9_bill_66 ?_
        refine lv_iload hx hb dX9_bill_69 (lv_at hl 0 rfl) ?_
        refine lv_iconst (v := nI 2) hx hb dX9_bill_71 (by decide) ?_
        refine nv_iadd hx hb dX9_bill_72 ?_
        refine nv_iald (i := (32 + (4 * k)) + 2) hx hb hKK.1 hP 1 0 rfl rfl (by omega) (by decide) dX9_bill_73 ?_
        have b_13 := hbB ((32 + (4 * k)) + 2)
        refine nv_isub (show B ((32 + (4 * k)) + 2) ≤ B ((32 + (4 * k)) + 3) from by omega) hx hb dX9_bill_74 ?_
        refine lv_iconst (v := nI 1) hx hb dX9_bill_75 (by decide) ?_
        refine nv_iadd hx hb dX9_bill_76 ?_
        refine roI hP hD hS hA [0, 1] rfl (runV (As := [.int (nI (B ((32 + (4 * k)) + 1))), .int (nI (((B ((32 + (4 * k)) + 3)) - (B ((32 + (4 * k)) + 2))) + 1))]) (rest := [.int (nI q)]) (isC := [0, 1]) ⟨hx, hb, hml, hown, hts⟩ hKK hP hD rfl (by decide) (c_X9_costOf l G tA b qu ab bl tyd at0 sta tok val man B (B ((32 + (4 * k)) + 1)) (((B ((32 + (4 * k)) + 3)) - (B ((32 + (4 * k)) + 2))) + 1) (hWB) (hv.2.1) (by omega) _) (cwV 2 hts gX9_bill_X9_costOf rfl rfl rfl (by decide +kernel) ⟨Nat.le_of_ble_eq_true rfl, Nat.le_of_ble_eq_true rfl⟩) rfl rfl rfl rfl hl.1 rfl (lv_room (Nat.le_of_ble_eq_true rfl)) dX9_bill_77 ⟨Nat.le_of_ble_eq_true rfl, Nat.le_of_ble_eq_true rfl⟩) (fun _ => rfl) (fun r_14 u_15 H locs q_16 hP hS => ?_)
        obtain ⟨rfl, e_17⟩ := q_16
        have e_17 : costS (B (8 + 3 * (B ((32 + (4 * k)) + 1)))) (B (8 + 3 * (B ((32 + (4 * k)) + 1)) + 2)) (((B ((32 + (4 * k)) + 3)) - (B ((32 + (4 * k)) + 2))) + 1) < 150994936 := e_17
        refine lv_goto (tgt := 84) hx hb dX9_bill_80 (by decide) ?_
        refine nv_iadd hx hb dX9_bill_84 ?_
        refine lv_istore_n (lv' := [(2, .int (nI (q + (costS (B (8 + 3 * (B ((32 + (4 * k)) + 1)))) (B (8 + 3 * (B ((32 + (4 * k)) + 1)) + 2)) (((B ((32 + (4 * k)) + 3)) - (B ((32 + (4 * k)) + 2))) + 1))))), (4, .int (nI (32 + (4 * k)))), (3, .int (nI k)), (0, .ref (b 0)), (1, .int (nI pen))]) hx hb dX9_bill_85 rfl hl (by decide) rfl (fun ls hl => ?_)
        refine lv_iinc (v := (nI (k + 1))) (lv' := [(3, .int (nI (k + 1))), (2, .int (nI (q + (costS (B (8 + 3 * (B ((32 + (4 * k)) + 1)))) (B (8 + 3 * (B ((32 + (4 * k)) + 1)) + 2)) (((B ((32 + (4 * k)) + 3)) - (B ((32 + (4 * k)) + 2))) + 1))))), (4, .int (nI (32 + (4 * k)))), (0, .ref (b 0)), (1, .int (nI pen))]) hx hb dX9_bill_86 hl (k := 2) rfl (nI_add k 1) (by decide) rfl (fun ls hl => ?_)
        refine lv_goto (tgt := 16) hx hb dX9_bill_89 (by decide) ?_
        exact ih_6 (k + 1, q + (costS (B (8 + 3 * (B ((32 + (4 * k)) + 1)))) (B (8 + 3 * (B ((32 + (4 * k)) + 1)) + 2)) (((B ((32 + (4 * k)) + 3)) - (B ((32 + (4 * k)) + 2))) + 1))) (show B 1 - (k + 1) < B 1 - k from by omega) ⟨(show (k + 1) ≤ B 1 from by omega), (show (q + (costS (B (8 + 3 * (B ((32 + (4 * k)) + 1)))) (B (8 + 3 * (B ((32 + (4 * k)) + 1)) + 2)) (((B ((32 + (4 * k)) + 3)) - (B ((32 + (4 * k)) + 2))) + 1))) = billM B pen (k + 1) from by rw [hq]; first | exact congrArg (fun z => billM B pen k + z) (if_pos (by omega)).symm | exact congrArg (fun z => billM B pen k + z) (if_neg (by omega)).symm)⟩ _ _ _ (lv_sub hl [0, 1, 3, 4] rfl) hP hD hS
  · have p_4 : ¬ (0 ≤ PE ∧ PE < 5) := p_4
    refine nv_if_ne (tgt := 12) (by omega) hx hb dX9_bill_4 (by decide) (fun h => absurd h (by omega)) (fun _ => ?_)
    refine lv_aload_n hx hb dX9_bill_7 rfl (lv_at hl 0 rfl) ?_
    refine rwI hP hD hS hA [0, 2] rfl (runV (As := []) (rest := []) (isC := [0, 2]) ⟨hx, hb, hml, hown, hts⟩ hKK hP hD rfl (by decide) (c_X9_bad l G tA b qu ab bl tyd at0 sta tok val man rf (hqu) _) (cwV 0 hts gX9_bill_X9_bad rfl rfl rfl (by decide +kernel) ⟨Nat.le_of_ble_eq_true rfl, Nat.le_of_ble_eq_true rfl⟩) rfl rfl rfl rfl hl.1 rfl (lv_room (Nat.le_of_ble_eq_true rfl)) dX9_bill_8 ⟨Nat.le_of_ble_eq_true rfl, Nat.le_of_ble_eq_true rfl⟩) (fun (_ : Unit) => [(b 0, .inr (7, [.ref (b 1), .ref (b 2), .ref (b 3), .ref (b 4), .ref (b 5), .int (nI qu), .long ab, .long bl, .ref (b 6), .int (nI tyd), .int (nI at0), .int (nI sta), .int (nI tok), .int (nI val), .ref (b 7), .int (nI man), .ref (b 8), .ref (b 9), .ref (b 10), .ref (b 11), .ref (b 12), .ref (b 13), .ref (b 14)])), (b 1, .inl (tA 0, 212, .inl (nF B))), (b 5, .inl (tA 0, 3, .inl (bump qu rf 0)))]) (fun _ => rfl) (fun _ => rfl) (fun _ => rfl) (fun r_19 u_20 H locs q_21 hP hD hS => ?_)
    subst q_21
    exact retI hx hb hr hlocks hS hP hD () (by rw [if_neg (by omega)]) (by rw [if_neg (by omega)]) dX9_bill_11

set_option maxHeartbeats 4000000 in
set_option maxRecDepth 100000 in
theorem c_X9_in (l : Launch) (G : va_G) (tA : Nat → ClassId) (b : Nat → Nat) (qu : Nat) (ab : Int64) (bl : Int64) (tyd : Nat) (at0 : Nat) (sta : Nat) (tok : Nat) (val : Nat) (man : Nat) (B : Nat → Nat) (rf : Nat → Int32) (he : Int32) (HE : Int) (hWB : WB B) (hqu : qu < 2) (hhe : he.toInt = HE) : CtI l yX9_in wsX9_in ({ frames := 2, cells := 0, slots := 0, locals := 53 }) G tA [.ref (b 0), .int he] ([(b 0, .inr (7, [.ref (b 1), .ref (b 2), .ref (b 3), .ref (b 4), .ref (b 5), .int (nI qu), .long ab, .long bl, .ref (b 6), .int (nI tyd), .int (nI at0), .int (nI sta), .int (nI tok), .int (nI val), .ref (b 7), .int (nI man), .ref (b 8), .ref (b 9), .ref (b 10), .ref (b 11), .ref (b 12), .ref (b 13), .ref (b 14)])), (b 1, .inl (tA 0, 212, .inl (nF B))), (b 5, .inl (tA 0, 3, .inl rf))]) (fun (r : Int32) (_ : Unit) => r = (if 0 ≤ HE ∧ HE < 24 then nI (bitsN (fun t => decide (cntN (havB B t HE.toNat (-1)) (B 1) < mayM B t)) (B 0)) else -2)) (fun (_ : Unit) => [(b 0, .inr (7, [.ref (b 1), .ref (b 2), .ref (b 3), .ref (b 4), .ref (b 5), .int (nI qu), .long ab, .long bl, .ref (b 6), .int (nI tyd), .int (nI at0), .int (nI sta), .int (nI tok), .int (nI val), .ref (b 7), .int (nI man), .ref (b 8), .ref (b 9), .ref (b 10), .ref (b 11), .ref (b 12), .ref (b 13), .ref (b 14)])), (b 1, .inl (tA 0, 212, .inl (nF B))), (b 5, .inl (tA 0, 3, .inl (if 0 ≤ HE ∧ HE < 24 then rf else bump qu rf 0)))]) 0 0 := by
  refine enterI (cc := cX9_in) (maxL := 4) (ret := (some .int)) (by decide) rfl (Nat.le_of_ble_eq_true rfl) ?_
  intro p0 e0 s m args below meth c0_ A ls hx hb hml hr hts hown hlocks hin hKK hA hP hD hl hS
  have hown : s.vm.findClass RX9 = some m.cls := hown
  have hl : lv_has ls 4 [(0, .ref (b 0)), (1, .int he)] := hl
  have f103 := hts (Cond.constantLong RX9 103 (23)) (List.mem_of_getElem? (i := 1) rfl)
  have f7 := hts (Cond.fieldLink RX9 7 "LentTermsModel" "book" "[I") (List.mem_of_getElem? (i := 2) rfl)
  have iX9 : ∀ w ∈ wsX90, w ∈ wsX9_in := by decide +kernel
  obtain ⟨⟨hn0, hn1, hn2, hn3, hn4, hn5⟩, hbB, hv0, hv1, hv2, hv3, hv4, hv5, hv6, hv7⟩ := id hWB
  refine lv_iload_n hx hb dX9_in_0 rfl (lv_at hl 1 rfl) ?_
  refine lv_i2l hx hb dX9_in_1 rfl ?_
  refine lv_lconst (v := (nI 0).toInt64) hx hb dX9_in_2 (by decide +kernel) ?_
  refine lv_ldc2 (v := 23) hx hb hown f103 dX9_in_3 ?_
  refine nv_topl (y := (nI 23).toInt64) (by decide +kernel) ?_
  refine roI hP hD hS hA [] rfl (runS (As := [.long he.toInt64, .long ((nI 0).toInt64), .long ((nI 23).toInt64)]) (rest := []) (isC := []) ⟨hx, hb, hml, hown, hts⟩ hKK hP hD rfl (by decide) (c_X9_is l G tA he HE (nI 0) (0 : Int) (nI 23) (23 : Int) hhe rfl rfl _) (va_cwS 3 hts gX9_in_X9_is rfl rfl rfl (by decide +kernel) ⟨Nat.le_of_ble_eq_true rfl, Nat.le_of_ble_eq_true rfl⟩) rfl rfl hl.1 rfl (lv_room (Nat.le_of_ble_eq_true rfl)) dX9_in_6 ⟨Nat.le_of_ble_eq_true rfl, Nat.le_of_ble_eq_true rfl⟩) (fun _ => rfl) (fun r_1 u_2 H locs q_3 hP hS => ?_)
  rcases q_3 with ⟨rfl, p_4⟩ | ⟨rfl, p_4⟩
  · have p_4 : (0 : Int) ≤ HE ∧ HE ≤ (23 : Int) := p_4
    refine nv_if_ne (tgt := 17) (by omega) hx hb dX9_in_9 (by decide) (fun _ => ?_) (fun h => absurd h (by omega))
    have hok : 0 ≤ HE ∧ HE < 24 := by omega
    obtain ⟨hen, h_hen, rfl⟩ := toN (x := he) (by omega)
    have t_hen : (nI hen).toInt = (hen : Int) := nI_toInt h_hen
    have z_hen : HE.toNat = hen := by omega
    refine lv_iconst (v := nI 0) hx hb dX9_in_17 (by decide) ?_
    refine lv_istore_n (lv' := [(2, .int (nI 0)), (0, .ref (b 0)), (1, .int (nI hen))]) hx hb dX9_in_18 rfl hl (by decide) rfl (fun ls hl => ?_)
    refine lv_iconst (v := nI 0) hx hb dX9_in_19 (by decide) ?_
    refine lv_istore_n (lv' := [(3, .int (nI 0)), (2, .int (nI 0)), (0, .ref (b 0)), (1, .int (nI hen))]) hx hb dX9_in_20 rfl hl (by decide) rfl (fun ls hl => ?_)
    refine wloop (σ := (Nat) × (Nat)) (fun | (k, q) => B 0 - k) (fun | (k, q) => (k ≤ B 0) ∧ (q = bitsN (fun t => decide (cntN (havB B t hen (-1)) (B 1) < mayM B t)) k)) (fun | (k, q) => [(3, .int (nI k)), (2, .int (nI q)), (0, .ref (b 0)), (1, .int (nI hen))]) (fun | (k, q) => [(b 0, .inr (7, [.ref (b 1), .ref (b 2), .ref (b 3), .ref (b 4), .ref (b 5), .int (nI qu), .long ab, .long bl, .ref (b 6), .int (nI tyd), .int (nI at0), .int (nI sta), .int (nI tok), .int (nI val), .ref (b 7), .int (nI man), .ref (b 8), .ref (b 9), .ref (b 10), .ref (b 11), .ref (b 12), .ref (b 13), .ref (b 14)])), (b 1, .inl (tA 0, 212, .inl (nF B))), (b 5, .inl (tA 0, 3, .inl rf))]) (0, 0) ⟨(show 0 ≤ B 0 from by omega), (show 0 = bitsN (fun t => decide (cntN (havB B t hen (-1)) (B 1) < mayM B t)) 0 from rfl)⟩ (lv_sub hl [0, 1, 2, 3] rfl) hP hD hS ?_
    rintro ⟨k, q⟩ ⟨hk, hq⟩ ih_6 ls H locs hl hP hD hS
    have hl : lv_has ls 4 [(3, .int (nI k)), (2, .int (nI q)), (0, .ref (b 0)), (1, .int (nI hen))] := hl
    have hP : va_P G vwCl [(b 0, .inr (7, [.ref (b 1), .ref (b 2), .ref (b 3), .ref (b 4), .ref (b 5), .int (nI qu), .long ab, .long bl, .ref (b 6), .int (nI tyd), .int (nI at0), .int (nI sta), .int (nI tok), .int (nI val), .ref (b 7), .int (nI man), .ref (b 8), .ref (b 9), .ref (b 10), .ref (b 11), .ref (b 12), .ref (b 13), .ref (b 14)])), (b 1, .inl (tA 0, 212, .inl (nF B))), (b 5, .inl (tA 0, 3, .inl rf))] H := hP
    have hD : va_D A [(b 0, .inr (7, [.ref (b 1), .ref (b 2), .ref (b 3), .ref (b 4), .ref (b 5), .int (nI qu), .long ab, .long bl, .ref (b 6), .int (nI tyd), .int (nI at0), .int (nI sta), .int (nI tok), .int (nI val), .ref (b 7), .int (nI man), .ref (b 8), .ref (b 9), .ref (b 10), .ref (b 11), .ref (b 12), .ref (b 13), .ref (b 14)])), (b 1, .inl (tA 0, 212, .inl (nF B))), (b 5, .inl (tA 0, 3, .inl rf))] := hD
    have hk : k ≤ B 0 := hk
    have hq : q = bitsN (fun t => decide (cntN (havB B t hen (-1)) (B 1) < mayM B t)) k := hq
    refine lv_iload_n hx hb dX9_in_21 rfl (lv_at hl 0 rfl) ?_
    refine lv_aload_n hx hb dX9_in_22 rfl (lv_at hl 2 rfl) ?_
    refine va_get (D := G) (ci := 7) (C := RX9) (T := TX9) (N := 23) hx hb hts iX9 hown hKK.1 hP 0 rfl rfl 0 (by decide) f7 (fun _ h9 => h9) rfl dX9_in_23 ?_
    refine lv_iconst (v := nI 0) hx hb dX9_in_26 (by decide) ?_
    refine nv_iald (i := 0) hx hb hKK.1 hP 1 0 rfl rfl (by omega) (by decide) dX9_in_27 ?_
    have b_7 := hbB 0
    refine nv_icmp_ge (tgt := 68) (by omega) (by omega) hx hb dX9_in_28 (by decide) (fun c_8 => ?_) (fun c_8 => ?_)
    · refine lv_iload_n hx hb dX9_in_68 rfl (lv_at hl 1 rfl) ?_
      exact retI hx hb hr hlocks hS hP hD () (by rw [if_pos hok]) (by rw [if_pos hok, hq, z_hen, show k = B 0 from by omega]) dX9_in_69
    · refine lv_iload_n hx hb dX9_in_31 rfl (lv_at hl 1 rfl) ?_
      refine lv_aload_n hx hb dX9_in_32 rfl (lv_at hl 2 rfl) ?_
      refine lv_aload_n hx hb dX9_in_33 rfl (lv_at hl 2 rfl) ?_
      refine va_get (D := G) (ci := 7) (C := RX9) (T := TX9) (N := 23) hx hb hts iX9 hown hKK.1 hP 0 rfl rfl 0 (by decide) f7 (fun _ h9 => h9) rfl dX9_in_34 ?_
      refine lv_iconst (v := nI 1) hx hb dX9_in_37 (by decide) ?_
      refine nv_iald (i := 1) hx hb hKK.1 hP 1 0 rfl rfl (by omega) (by decide) dX9_in_38 ?_
      have b_9 := hbB 1
      refine lv_iload_n hx hb dX9_in_39 rfl (lv_at hl 0 rfl) ?_
      refine lv_iload_n hx hb dX9_in_40 rfl (lv_at hl 3 rfl) ?_
      refine lv_iconst (v := (-1)) hx hb dX9_in_41 (by decide) ?_
      refine roI hP hD hS hA [0, 1] rfl (runV (As := [.int (nI (B 1)), .int (nI k), .int (nI hen), .int (-1)]) (rest := [.int (nI q)]) (isC := [0, 1]) ⟨hx, hb, hml, hown, hts⟩ hKK hP hD rfl (by decide) (c_X9_having l G tA b qu ab bl tyd at0 sta tok val man B (B 1) k hen (-1) (-1 : Int) (hWB) (by omega) (by first | assumption | omega) (by first | assumption | omega) rfl _) (cwV 4 hts gX9_in_X9_having rfl rfl rfl (by decide +kernel) ⟨Nat.le_of_ble_eq_true rfl, Nat.le_of_ble_eq_true rfl⟩) rfl rfl rfl rfl hl.1 rfl (lv_room (Nat.le_of_ble_eq_true rfl)) dX9_in_42 ⟨Nat.le_of_ble_eq_true rfl, Nat.le_of_ble_eq_true rfl⟩) (fun _ => rfl) (fun r_10 u_11 H locs q_12 hP hS => ?_)
      obtain ⟨rfl, e_13⟩ := q_12
      have e_13 : cntN (havB B k hen (-1 : Int)) (B 1) ≤ 10 := e_13
      refine lv_aload_n hx hb dX9_in_45 rfl (lv_at hl 2 rfl) ?_
      refine lv_iload_n hx hb dX9_in_46 rfl (lv_at hl 0 rfl) ?_
      refine roI hP hD hS hA [0, 1] rfl (runV (As := [.int (nI k)]) (rest := [.int (nI (cntN (havB B k hen (-1 : Int)) (B 1))), .int (nI q)]) (isC := [0, 1]) ⟨hx, hb, hml, hown, hts⟩ hKK hP hD rfl (by decide) (c_X9_mayOf l G tA b qu ab bl tyd at0 sta tok val man B k (hWB) (by first | assumption | omega) _) (cwV 1 hts gX9_in_X9_mayOf rfl rfl rfl (by decide +kernel) ⟨Nat.le_of_ble_eq_true rfl, Nat.le_of_ble_eq_true rfl⟩) rfl rfl rfl rfl hl.1 rfl (lv_room (Nat.le_of_ble_eq_true rfl)) dX9_in_47 ⟨Nat.le_of_ble_eq_true rfl, Nat.le_of_ble_eq_true rfl⟩) (fun _ => rfl) (fun r_14 u_15 H locs q_16 hP hS => ?_)
      obtain ⟨rfl, e_17⟩ := q_16
      have e_17 : mayM B k < 4 := e_17
      refine nv_icmp_ge (tgt := 59) (by omega) (by omega) hx hb dX9_in_50 (by decide) (fun c_18 => ?_) (fun c_18 => ?_)
      · refine lv_iconst (v := nI 0) hx hb dX9_in_59 (by decide) ?_
        refine nv_ior hx hb dX9_in_60 ?_
        refine lv_istore_n (lv' := [(2, .int (nI (q ||| 0))), (3, .int (nI k)), (0, .ref (b 0)), (1, .int (nI hen))]) hx hb dX9_in_61 rfl hl (by decide) rfl (fun ls hl => ?_)
        refine lv_iinc (v := (nI (k + 1))) (lv' := [(3, .int (nI (k + 1))), (2, .int (nI (q ||| 0))), (0, .ref (b 0)), (1, .int (nI hen))]) hx hb dX9_in_62 hl (k := 1) rfl (nI_add k 1) (by decide) rfl (fun ls hl => ?_)
        refine lv_goto (tgt := 21) hx hb dX9_in_65 (by decide) ?_
        exact ih_6 (k + 1, q ||| 0) (show B 0 - (k + 1) < B 0 - k from by omega) ⟨(show (k + 1) ≤ B 0 from by omega), (show (q ||| 0) = bitsN (fun t => decide (cntN (havB B t hen (-1)) (B 1) < mayM B t)) (k + 1) from by rw [bitsN_s, hq]; first | rw [if_pos (decide_eq_true (by omega))] | rw [if_neg (fun z => absurd (of_decide_eq_true z) (by omega))])⟩ _ _ _ (lv_sub hl [0, 1, 2, 3] rfl) hP hD hS
      · refine lv_iconst (v := nI 1) hx hb dX9_in_53 (by decide) ?_
        refine lv_iload_n hx hb dX9_in_54 rfl (lv_at hl 0 rfl) ?_
        refine nv_shl1 (by omega) hx hb dX9_in_55 ?_
        refine lv_goto (tgt := 60) hx hb dX9_in_56 (by decide) ?_
        refine nv_ior hx hb dX9_in_60 ?_
        refine lv_istore_n (lv' := [(2, .int (nI (q ||| (2 ^ k)))), (3, .int (nI k)), (0, .ref (b 0)), (1, .int (nI hen))]) hx hb dX9_in_61 rfl hl (by decide) rfl (fun ls hl => ?_)
        refine lv_iinc (v := (nI (k + 1))) (lv' := [(3, .int (nI (k + 1))), (2, .int (nI (q ||| (2 ^ k)))), (0, .ref (b 0)), (1, .int (nI hen))]) hx hb dX9_in_62 hl (k := 1) rfl (nI_add k 1) (by decide) rfl (fun ls hl => ?_)
        refine lv_goto (tgt := 21) hx hb dX9_in_65 (by decide) ?_
        exact ih_6 (k + 1, q ||| (2 ^ k)) (show B 0 - (k + 1) < B 0 - k from by omega) ⟨(show (k + 1) ≤ B 0 from by omega), (show (q ||| (2 ^ k)) = bitsN (fun t => decide (cntN (havB B t hen (-1)) (B 1) < mayM B t)) (k + 1) from by rw [bitsN_s, hq]; first | rw [if_pos (decide_eq_true (by omega))] | rw [if_neg (fun z => absurd (of_decide_eq_true z) (by omega))])⟩ _ _ _ (lv_sub hl [0, 1, 2, 3] rfl) hP hD hS
  · have p_4 : ¬ ((0 : Int) ≤ HE ∧ HE ≤ (23 : Int)) := p_4
    refine nv_if_ne (tgt := 17) (by omega) hx hb dX9_in_9 (by decide) (fun h => absurd h (by omega)) (fun _ => ?_)
    refine lv_aload_n hx hb dX9_in_12 rfl (lv_at hl 0 rfl) ?_
    refine rwI hP hD hS hA [0, 2] rfl (runV (As := []) (rest := []) (isC := [0, 2]) ⟨hx, hb, hml, hown, hts⟩ hKK hP hD rfl (by decide) (c_X9_bad l G tA b qu ab bl tyd at0 sta tok val man rf (hqu) _) (cwV 0 hts gX9_in_X9_bad rfl rfl rfl (by decide +kernel) ⟨Nat.le_of_ble_eq_true rfl, Nat.le_of_ble_eq_true rfl⟩) rfl rfl rfl rfl hl.1 rfl (lv_room (Nat.le_of_ble_eq_true rfl)) dX9_in_13 ⟨Nat.le_of_ble_eq_true rfl, Nat.le_of_ble_eq_true rfl⟩) (fun (_ : Unit) => [(b 0, .inr (7, [.ref (b 1), .ref (b 2), .ref (b 3), .ref (b 4), .ref (b 5), .int (nI qu), .long ab, .long bl, .ref (b 6), .int (nI tyd), .int (nI at0), .int (nI sta), .int (nI tok), .int (nI val), .ref (b 7), .int (nI man), .ref (b 8), .ref (b 9), .ref (b 10), .ref (b 11), .ref (b 12), .ref (b 13), .ref (b 14)])), (b 1, .inl (tA 0, 212, .inl (nF B))), (b 5, .inl (tA 0, 3, .inl (bump qu rf 0)))]) (fun _ => rfl) (fun _ => rfl) (fun _ => rfl) (fun r_20 u_21 H locs q_22 hP hD hS => ?_)
    subst q_22
    exact retI hx hb hr hlocks hS hP hD () (by rw [if_neg (by omega)]) (by rw [if_neg (by omega)]) dX9_in_16

set_option maxHeartbeats 4000000 in
set_option maxRecDepth 100000 in
theorem c_X9_may (l : Launch) (G : va_G) (tA : Nat → ClassId) (b : Nat → Nat) (qu : Nat) (ab : Int64) (bl : Int64) (tyd : Nat) (at0 : Nat) (sta : Nat) (tok : Nat) (val : Nat) (man : Nat) (B : Nat → Nat) (rf : Nat → Int32) (te : Int32) (TE : Int) (we : Int32) (WE : Int) (hWB : WB B) (hqu : qu < 2) (hte : te.toInt = TE) (hwe : we.toInt = WE) : CtI l yX9_may wsX9_may ({ frames := 2, cells := 0, slots := 0, locals := 46 }) G tA [.ref (b 0), .int te, .int we] ([(b 0, .inr (7, [.ref (b 1), .ref (b 2), .ref (b 3), .ref (b 4), .ref (b 5), .int (nI qu), .long ab, .long bl, .ref (b 6), .int (nI tyd), .int (nI at0), .int (nI sta), .int (nI tok), .int (nI val), .ref (b 7), .int (nI man), .ref (b 8), .ref (b 9), .ref (b 10), .ref (b 11), .ref (b 12), .ref (b 13), .ref (b 14)])), (b 1, .inl (tA 0, 212, .inl (nF B))), (b 5, .inl (tA 0, 3, .inl rf))]) (fun (r : Int32) (_ : Unit) => r = (if (0 ≤ TE ∧ TE < ((B 0 : Nat) : Int)) ∧ 0 ≤ WE ∧ WE ≤ 1 then (if WE = 0 then nI (mayM B TE.toNat) else nI (longS (B (8 + 3 * TE.toNat)))) else -2)) (fun (_ : Unit) => [(b 0, .inr (7, [.ref (b 1), .ref (b 2), .ref (b 3), .ref (b 4), .ref (b 5), .int (nI qu), .long ab, .long bl, .ref (b 6), .int (nI tyd), .int (nI at0), .int (nI sta), .int (nI tok), .int (nI val), .ref (b 7), .int (nI man), .ref (b 8), .ref (b 9), .ref (b 10), .ref (b 11), .ref (b 12), .ref (b 13), .ref (b 14)])), (b 1, .inl (tA 0, 212, .inl (nF B))), (b 5, .inl (tA 0, 3, .inl (if (0 ≤ TE ∧ TE < ((B 0 : Nat) : Int)) ∧ 0 ≤ WE ∧ WE ≤ 1 then rf else bump qu rf 0)))]) 0 0 := by
  refine enterI (cc := cX9_may) (maxL := 3) (ret := (some .int)) (by decide) rfl (Nat.le_of_ble_eq_true rfl) ?_
  intro p0 e0 s m args below meth c0_ A ls hx hb hml hr hts hown hlocks hin hKK hA hP hD hl hS
  have hown : s.vm.findClass RX9 = some m.cls := hown
  have hl : lv_has ls 3 [(0, .ref (b 0)), (1, .int te), (2, .int we)] := hl
  obtain ⟨⟨hn0, hn1, hn2, hn3, hn4, hn5⟩, hbB, hv0, hv1, hv2, hv3, hv4, hv5, hv6, hv7⟩ := id hWB
  refine lv_aload_n hx hb dX9_may_0 rfl (lv_at hl 0 rfl) ?_
  refine lv_iload_n hx hb dX9_may_1 rfl (lv_at hl 1 rfl) ?_
  refine roI hP hD hS hA [0, 1] rfl (runV (As := [.int te]) (rest := []) (isC := [0, 1]) ⟨hx, hb, hml, hown, hts⟩ hKK hP hD rfl (by decide) (c_X9_isTerm l G tA b qu ab bl tyd at0 sta tok val man B te TE (hWB) hte _) (cwV 1 hts gX9_may_X9_isTerm rfl rfl rfl (by decide +kernel) ⟨Nat.le_of_ble_eq_true rfl, Nat.le_of_ble_eq_true rfl⟩) rfl rfl rfl rfl hl.1 rfl (lv_room (Nat.le_of_ble_eq_true rfl)) dX9_may_2 ⟨Nat.le_of_ble_eq_true rfl, Nat.le_of_ble_eq_true rfl⟩) (fun _ => rfl) (fun r_1 u_2 H locs q_3 hP hS => ?_)
  rcases q_3 with ⟨rfl, p_4⟩ | ⟨rfl, p_4⟩
  · have p_4 : 0 ≤ TE ∧ TE < ((B 0 : Nat) : Int) := p_4
    refine nv_if_eq (tgt := 18) (by omega) hx hb dX9_may_5 (by decide) (fun h => absurd h (by omega)) (fun _ => ?_)
    refine lv_iload_n hx hb dX9_may_8 rfl (lv_at hl 2 rfl) ?_
    refine lv_i2l hx hb dX9_may_9 rfl ?_
    refine lv_lconst (v := (nI 0).toInt64) hx hb dX9_may_10 (by decide +kernel) ?_
    refine lv_lconst (v := (nI 1).toInt64) hx hb dX9_may_11 (by decide +kernel) ?_
    refine roI hP hD hS hA [] rfl (runS (As := [.long we.toInt64, .long ((nI 0).toInt64), .long ((nI 1).toInt64)]) (rest := []) (isC := []) ⟨hx, hb, hml, hown, hts⟩ hKK hP hD rfl (by decide) (c_X9_is l G tA we WE (nI 0) (0 : Int) (nI 1) (1 : Int) hwe rfl rfl _) (va_cwS 3 hts gX9_may_X9_is rfl rfl rfl (by decide +kernel) ⟨Nat.le_of_ble_eq_true rfl, Nat.le_of_ble_eq_true rfl⟩) rfl rfl hl.1 rfl (lv_room (Nat.le_of_ble_eq_true rfl)) dX9_may_12 ⟨Nat.le_of_ble_eq_true rfl, Nat.le_of_ble_eq_true rfl⟩) (fun _ => rfl) (fun r_6 u_7 H locs q_8 hP hS => ?_)
    rcases q_8 with ⟨rfl, p_9⟩ | ⟨rfl, p_9⟩
    · have p_9 : (0 : Int) ≤ WE ∧ WE ≤ (1 : Int) := p_9
      refine nv_if_ne (tgt := 23) (by omega) hx hb dX9_may_15 (by decide) (fun _ => ?_) (fun h => absurd h (by omega))
      have hok : (0 ≤ TE ∧ TE < ((B 0 : Nat) : Int)) ∧ 0 ≤ WE ∧ WE ≤ 1 := by omega
      obtain ⟨ten, h_ten, rfl⟩ := toN (x := te) (by omega)
      have t_ten : (nI ten).toInt = (ten : Int) := nI_toInt h_ten
      have z_ten : TE.toNat = ten := by omega
      refine lv_iload_n hx hb dX9_may_23 rfl (lv_at hl 2 rfl) ?_
      refine zv_if_ne (tgt := 35) (X := WE) hwe hx hb dX9_may_24 (by decide) (fun c_11 => ?_) (fun c_11 => ?_)
      · refine lv_aload_n hx hb dX9_may_35 rfl (lv_at hl 0 rfl) ?_
        refine lv_iload_n hx hb dX9_may_36 rfl (lv_at hl 1 rfl) ?_
        refine roI hP hD hS hA [0, 1] rfl (runV (As := [.int (nI ten)]) (rest := []) (isC := [0, 1]) ⟨hx, hb, hml, hown, hts⟩ hKK hP hD rfl (by decide) (c_X9_longOf l G tA b qu ab bl tyd at0 sta tok val man B ten (hWB) (by first | assumption | omega) _) (cwV 1 hts gX9_may_X9_longOf rfl rfl rfl (by decide +kernel) ⟨Nat.le_of_ble_eq_true rfl, Nat.le_of_ble_eq_true rfl⟩) rfl rfl rfl rfl hl.1 rfl (lv_room (Nat.le_of_ble_eq_true rfl)) dX9_may_37 ⟨Nat.le_of_ble_eq_true rfl, Nat.le_of_ble_eq_true rfl⟩) (fun _ => rfl) (fun r_12 u_13 H locs q_14 hP hS => ?_)
        obtain ⟨rfl, e_15⟩ := q_14
        have e_15 : longS (B (8 + 3 * ten)) ≤ 24 := e_15
        exact retI hx hb hr hlocks hS hP hD () (by rw [if_pos hok]) (by rw [if_pos hok, z_ten]; first | rw [if_pos (by omega)] | rw [if_neg (by omega)]) dX9_may_40
      · refine lv_aload_n hx hb dX9_may_27 rfl (lv_at hl 0 rfl) ?_
        refine lv_iload_n hx hb dX9_may_28 rfl (lv_at hl 1 rfl) ?_
        refine roI hP hD hS hA [0, 1] rfl (runV (As := [.int (nI ten)]) (rest := []) (isC := [0, 1]) ⟨hx, hb, hml, hown, hts⟩ hKK hP hD rfl (by decide) (c_X9_mayOf l G tA b qu ab bl tyd at0 sta tok val man B ten (hWB) (by first | assumption | omega) _) (cwV 1 hts gX9_may_X9_mayOf rfl rfl rfl (by decide +kernel) ⟨Nat.le_of_ble_eq_true rfl, Nat.le_of_ble_eq_true rfl⟩) rfl rfl rfl rfl hl.1 rfl (lv_room (Nat.le_of_ble_eq_true rfl)) dX9_may_29 ⟨Nat.le_of_ble_eq_true rfl, Nat.le_of_ble_eq_true rfl⟩) (fun _ => rfl) (fun r_16 u_17 H locs q_18 hP hS => ?_)
        obtain ⟨rfl, e_19⟩ := q_18
        have e_19 : mayM B ten < 4 := e_19
        refine lv_goto (tgt := 40) hx hb dX9_may_32 (by decide) ?_
        exact retI hx hb hr hlocks hS hP hD () (by rw [if_pos hok]) (by rw [if_pos hok, z_ten]; first | rw [if_pos (by omega)] | rw [if_neg (by omega)]) dX9_may_40
    · have p_9 : ¬ ((0 : Int) ≤ WE ∧ WE ≤ (1 : Int)) := p_9
      refine nv_if_ne (tgt := 23) (by omega) hx hb dX9_may_15 (by decide) (fun h => absurd h (by omega)) (fun _ => ?_)
      refine lv_aload_n hx hb dX9_may_18 rfl (lv_at hl 0 rfl) ?_
      refine rwI hP hD hS hA [0, 2] rfl (runV (As := []) (rest := []) (isC := [0, 2]) ⟨hx, hb, hml, hown, hts⟩ hKK hP hD rfl (by decide) (c_X9_bad l G tA b qu ab bl tyd at0 sta tok val man rf (hqu) _) (cwV 0 hts gX9_may_X9_bad rfl rfl rfl (by decide +kernel) ⟨Nat.le_of_ble_eq_true rfl, Nat.le_of_ble_eq_true rfl⟩) rfl rfl rfl rfl hl.1 rfl (lv_room (Nat.le_of_ble_eq_true rfl)) dX9_may_19 ⟨Nat.le_of_ble_eq_true rfl, Nat.le_of_ble_eq_true rfl⟩) (fun (_ : Unit) => [(b 0, .inr (7, [.ref (b 1), .ref (b 2), .ref (b 3), .ref (b 4), .ref (b 5), .int (nI qu), .long ab, .long bl, .ref (b 6), .int (nI tyd), .int (nI at0), .int (nI sta), .int (nI tok), .int (nI val), .ref (b 7), .int (nI man), .ref (b 8), .ref (b 9), .ref (b 10), .ref (b 11), .ref (b 12), .ref (b 13), .ref (b 14)])), (b 1, .inl (tA 0, 212, .inl (nF B))), (b 5, .inl (tA 0, 3, .inl (bump qu rf 0)))]) (fun _ => rfl) (fun _ => rfl) (fun _ => rfl) (fun r_21 u_22 H locs q_23 hP hD hS => ?_)
      subst q_23
      exact retI hx hb hr hlocks hS hP hD () (by rw [if_neg (by omega)]) (by rw [if_neg (by omega)]) dX9_may_22
  · have p_4 : ¬ (0 ≤ TE ∧ TE < ((B 0 : Nat) : Int)) := p_4
    refine nv_if_eq (tgt := 18) (by omega) hx hb dX9_may_5 (by decide) (fun _ => ?_) (fun h => absurd h (by omega))
    refine lv_aload_n hx hb dX9_may_18 rfl (lv_at hl 0 rfl) ?_
    refine rwI hP hD hS hA [0, 2] rfl (runV (As := []) (rest := []) (isC := [0, 2]) ⟨hx, hb, hml, hown, hts⟩ hKK hP hD rfl (by decide) (c_X9_bad l G tA b qu ab bl tyd at0 sta tok val man rf (hqu) _) (cwV 0 hts gX9_may_X9_bad rfl rfl rfl (by decide +kernel) ⟨Nat.le_of_ble_eq_true rfl, Nat.le_of_ble_eq_true rfl⟩) rfl rfl rfl rfl hl.1 rfl (lv_room (Nat.le_of_ble_eq_true rfl)) dX9_may_19 ⟨Nat.le_of_ble_eq_true rfl, Nat.le_of_ble_eq_true rfl⟩) (fun (_ : Unit) => [(b 0, .inr (7, [.ref (b 1), .ref (b 2), .ref (b 3), .ref (b 4), .ref (b 5), .int (nI qu), .long ab, .long bl, .ref (b 6), .int (nI tyd), .int (nI at0), .int (nI sta), .int (nI tok), .int (nI val), .ref (b 7), .int (nI man), .ref (b 8), .ref (b 9), .ref (b 10), .ref (b 11), .ref (b 12), .ref (b 13), .ref (b 14)])), (b 1, .inl (tA 0, 212, .inl (nF B))), (b 5, .inl (tA 0, 3, .inl (bump qu rf 0)))]) (fun _ => rfl) (fun _ => rfl) (fun _ => rfl) (fun r_25 u_26 H locs q_27 hP hD hS => ?_)
    subst q_27
    exact retI hx hb hr hlocks hS hP hD () (by rw [if_neg (by omega)]) (by rw [if_neg (by omega)]) dX9_may_22

set_option maxHeartbeats 4000000 in
set_option maxRecDepth 100000 in
theorem c_X9_cost (l : Launch) (G : va_G) (tA : Nat → ClassId) (b : Nat → Nat) (qu : Nat) (ab : Int64) (bl : Int64) (tyd : Nat) (at0 : Nat) (sta : Nat) (tok : Nat) (val : Nat) (man : Nat) (B : Nat → Nat) (rf : Nat → Int32) (te : Int32) (TE : Int) (ne : Int32) (NE : Int) (hWB : WB B) (hqu : qu < 2) (hte : te.toInt = TE) (hne : ne.toInt = NE) : CtI l yX9_cost wsX9_cost ({ frames := 2, cells := 0, slots := 0, locals := 46 }) G tA [.ref (b 0), .int te, .int ne] ([(b 0, .inr (7, [.ref (b 1), .ref (b 2), .ref (b 3), .ref (b 4), .ref (b 5), .int (nI qu), .long ab, .long bl, .ref (b 6), .int (nI tyd), .int (nI at0), .int (nI sta), .int (nI tok), .int (nI val), .ref (b 7), .int (nI man), .ref (b 8), .ref (b 9), .ref (b 10), .ref (b 11), .ref (b 12), .ref (b 13), .ref (b 14)])), (b 1, .inl (tA 0, 212, .inl (nF B))), (b 5, .inl (tA 0, 3, .inl rf))]) (fun (r : Int32) (_ : Unit) => r = (if (0 ≤ TE ∧ TE < ((B 0 : Nat) : Int)) ∧ 1 ≤ NE ∧ NE ≤ 24 then nI (costS (B (8 + 3 * TE.toNat)) (B (8 + 3 * TE.toNat + 2)) NE.toNat) else -2)) (fun (_ : Unit) => [(b 0, .inr (7, [.ref (b 1), .ref (b 2), .ref (b 3), .ref (b 4), .ref (b 5), .int (nI qu), .long ab, .long bl, .ref (b 6), .int (nI tyd), .int (nI at0), .int (nI sta), .int (nI tok), .int (nI val), .ref (b 7), .int (nI man), .ref (b 8), .ref (b 9), .ref (b 10), .ref (b 11), .ref (b 12), .ref (b 13), .ref (b 14)])), (b 1, .inl (tA 0, 212, .inl (nF B))), (b 5, .inl (tA 0, 3, .inl (if (0 ≤ TE ∧ TE < ((B 0 : Nat) : Int)) ∧ 1 ≤ NE ∧ NE ≤ 24 then rf else bump qu rf 0)))]) 0 0 := by
  refine enterI (cc := cX9_cost) (maxL := 3) (ret := (some .int)) (by decide) rfl (Nat.le_of_ble_eq_true rfl) ?_
  intro p0 e0 s m args below meth c0_ A ls hx hb hml hr hts hown hlocks hin hKK hA hP hD hl hS
  have hown : s.vm.findClass RX9 = some m.cls := hown
  have hl : lv_has ls 3 [(0, .ref (b 0)), (1, .int te), (2, .int ne)] := hl
  have f95 := hts (Cond.constantLong RX9 95 (24)) (List.mem_of_getElem? (i := 1) rfl)
  obtain ⟨⟨hn0, hn1, hn2, hn3, hn4, hn5⟩, hbB, hv0, hv1, hv2, hv3, hv4, hv5, hv6, hv7⟩ := id hWB
  refine lv_aload_n hx hb dX9_cost_0 rfl (lv_at hl 0 rfl) ?_
  refine lv_iload_n hx hb dX9_cost_1 rfl (lv_at hl 1 rfl) ?_
  refine roI hP hD hS hA [0, 1] rfl (runV (As := [.int te]) (rest := []) (isC := [0, 1]) ⟨hx, hb, hml, hown, hts⟩ hKK hP hD rfl (by decide) (c_X9_isTerm l G tA b qu ab bl tyd at0 sta tok val man B te TE (hWB) hte _) (cwV 1 hts gX9_cost_X9_isTerm rfl rfl rfl (by decide +kernel) ⟨Nat.le_of_ble_eq_true rfl, Nat.le_of_ble_eq_true rfl⟩) rfl rfl rfl rfl hl.1 rfl (lv_room (Nat.le_of_ble_eq_true rfl)) dX9_cost_2 ⟨Nat.le_of_ble_eq_true rfl, Nat.le_of_ble_eq_true rfl⟩) (fun _ => rfl) (fun r_1 u_2 H locs q_3 hP hS => ?_)
  rcases q_3 with ⟨rfl, p_4⟩ | ⟨rfl, p_4⟩
  · have p_4 : 0 ≤ TE ∧ TE < ((B 0 : Nat) : Int) := p_4
    refine nv_if_eq (tgt := 29) (by omega) hx hb dX9_cost_5 (by decide) (fun h => absurd h (by omega)) (fun _ => ?_)
    refine lv_iload_n hx hb dX9_cost_8 rfl (lv_at hl 2 rfl) ?_
    refine lv_i2l hx hb dX9_cost_9 rfl ?_
    refine lv_lconst (v := (nI 1).toInt64) hx hb dX9_cost_10 (by decide +kernel) ?_
    refine lv_ldc2 (v := 24) hx hb hown f95 dX9_cost_11 ?_
    refine nv_topl (y := (nI 24).toInt64) (by decide +kernel) ?_
    refine roI hP hD hS hA [] rfl (runS (As := [.long ne.toInt64, .long ((nI 1).toInt64), .long ((nI 24).toInt64)]) (rest := []) (isC := []) ⟨hx, hb, hml, hown, hts⟩ hKK hP hD rfl (by decide) (c_X9_is l G tA ne NE (nI 1) (1 : Int) (nI 24) (24 : Int) hne rfl rfl _) (va_cwS 3 hts gX9_cost_X9_is rfl rfl rfl (by decide +kernel) ⟨Nat.le_of_ble_eq_true rfl, Nat.le_of_ble_eq_true rfl⟩) rfl rfl hl.1 rfl (lv_room (Nat.le_of_ble_eq_true rfl)) dX9_cost_14 ⟨Nat.le_of_ble_eq_true rfl, Nat.le_of_ble_eq_true rfl⟩) (fun _ => rfl) (fun r_6 u_7 H locs q_8 hP hS => ?_)
    rcases q_8 with ⟨rfl, p_9⟩ | ⟨rfl, p_9⟩
    · have p_9 : (1 : Int) ≤ NE ∧ NE ≤ (24 : Int) := p_9
      refine nv_if_eq (tgt := 29) (by omega) hx hb dX9_cost_17 (by decide) (fun h => absurd h (by omega)) (fun _ => ?_)
      have hok : (0 ≤ TE ∧ TE < ((B 0 : Nat) : Int)) ∧ 1 ≤ NE ∧ NE ≤ 24 := by omega
      obtain ⟨ten, h_ten, rfl⟩ := toN (x := te) (by omega)
      have t_ten : (nI ten).toInt = (ten : Int) := nI_toInt h_ten
      have z_ten : TE.toNat = ten := by omega
      obtain ⟨nen, h_nen, rfl⟩ := toN (x := ne) (by omega)
      have t_nen : (nI nen).toInt = (nen : Int) := nI_toInt h_nen
      have z_nen : NE.toNat = nen := by omega
      refine lv_aload_n hx hb dX9_cost_20 rfl (lv_at hl 0 rfl) ?_
      refine lv_iload_n hx hb dX9_cost_21 rfl (lv_at hl 1 rfl) ?_
      refine lv_iload_n hx hb dX9_cost_22 rfl (lv_at hl 2 rfl) ?_
      refine roI hP hD hS hA [0, 1] rfl (runV (As := [.int (nI ten), .int (nI nen)]) (rest := []) (isC := [0, 1]) ⟨hx, hb, hml, hown, hts⟩ hKK hP hD rfl (by decide) (c_X9_costOf l G tA b qu ab bl tyd at0 sta tok val man B ten nen (hWB) (by first | assumption | omega) (by first | assumption | omega) _) (cwV 2 hts gX9_cost_X9_costOf rfl rfl rfl (by decide +kernel) ⟨Nat.le_of_ble_eq_true rfl, Nat.le_of_ble_eq_true rfl⟩) rfl rfl rfl rfl hl.1 rfl (lv_room (Nat.le_of_ble_eq_true rfl)) dX9_cost_23 ⟨Nat.le_of_ble_eq_true rfl, Nat.le_of_ble_eq_true rfl⟩) (fun _ => rfl) (fun r_11 u_12 H locs q_13 hP hS => ?_)
      obtain ⟨rfl, e_14⟩ := q_13
      have e_14 : costS (B (8 + 3 * ten)) (B (8 + 3 * ten + 2)) nen < 150994936 := e_14
      refine lv_goto (tgt := 33) hx hb dX9_cost_26 (by decide) ?_
      exact retI hx hb hr hlocks hS hP hD () (by rw [if_pos hok]) (by rw [if_pos hok, z_ten, z_nen]) dX9_cost_33
    · have p_9 : ¬ ((1 : Int) ≤ NE ∧ NE ≤ (24 : Int)) := p_9
      refine nv_if_eq (tgt := 29) (by omega) hx hb dX9_cost_17 (by decide) (fun _ => ?_) (fun h => absurd h (by omega))
      refine lv_aload_n hx hb dX9_cost_29 rfl (lv_at hl 0 rfl) ?_
      refine rwI hP hD hS hA [0, 2] rfl (runV (As := []) (rest := []) (isC := [0, 2]) ⟨hx, hb, hml, hown, hts⟩ hKK hP hD rfl (by decide) (c_X9_bad l G tA b qu ab bl tyd at0 sta tok val man rf (hqu) _) (cwV 0 hts gX9_cost_X9_bad rfl rfl rfl (by decide +kernel) ⟨Nat.le_of_ble_eq_true rfl, Nat.le_of_ble_eq_true rfl⟩) rfl rfl rfl rfl hl.1 rfl (lv_room (Nat.le_of_ble_eq_true rfl)) dX9_cost_30 ⟨Nat.le_of_ble_eq_true rfl, Nat.le_of_ble_eq_true rfl⟩) (fun (_ : Unit) => [(b 0, .inr (7, [.ref (b 1), .ref (b 2), .ref (b 3), .ref (b 4), .ref (b 5), .int (nI qu), .long ab, .long bl, .ref (b 6), .int (nI tyd), .int (nI at0), .int (nI sta), .int (nI tok), .int (nI val), .ref (b 7), .int (nI man), .ref (b 8), .ref (b 9), .ref (b 10), .ref (b 11), .ref (b 12), .ref (b 13), .ref (b 14)])), (b 1, .inl (tA 0, 212, .inl (nF B))), (b 5, .inl (tA 0, 3, .inl (bump qu rf 0)))]) (fun _ => rfl) (fun _ => rfl) (fun _ => rfl) (fun r_16 u_17 H locs q_18 hP hD hS => ?_)
      subst q_18
      exact retI hx hb hr hlocks hS hP hD () (by rw [if_neg (by omega)]) (by rw [if_neg (by omega)]) dX9_cost_33
  · have p_4 : ¬ (0 ≤ TE ∧ TE < ((B 0 : Nat) : Int)) := p_4
    refine nv_if_eq (tgt := 29) (by omega) hx hb dX9_cost_5 (by decide) (fun _ => ?_) (fun h => absurd h (by omega))
    refine lv_aload_n hx hb dX9_cost_29 rfl (lv_at hl 0 rfl) ?_
    refine rwI hP hD hS hA [0, 2] rfl (runV (As := []) (rest := []) (isC := [0, 2]) ⟨hx, hb, hml, hown, hts⟩ hKK hP hD rfl (by decide) (c_X9_bad l G tA b qu ab bl tyd at0 sta tok val man rf (hqu) _) (cwV 0 hts gX9_cost_X9_bad rfl rfl rfl (by decide +kernel) ⟨Nat.le_of_ble_eq_true rfl, Nat.le_of_ble_eq_true rfl⟩) rfl rfl rfl rfl hl.1 rfl (lv_room (Nat.le_of_ble_eq_true rfl)) dX9_cost_30 ⟨Nat.le_of_ble_eq_true rfl, Nat.le_of_ble_eq_true rfl⟩) (fun (_ : Unit) => [(b 0, .inr (7, [.ref (b 1), .ref (b 2), .ref (b 3), .ref (b 4), .ref (b 5), .int (nI qu), .long ab, .long bl, .ref (b 6), .int (nI tyd), .int (nI at0), .int (nI sta), .int (nI tok), .int (nI val), .ref (b 7), .int (nI man), .ref (b 8), .ref (b 9), .ref (b 10), .ref (b 11), .ref (b 12), .ref (b 13), .ref (b 14)])), (b 1, .inl (tA 0, 212, .inl (nF B))), (b 5, .inl (tA 0, 3, .inl (bump qu rf 0)))]) (fun _ => rfl) (fun _ => rfl) (fun _ => rfl) (fun r_20 u_21 H locs q_22 hP hD hS => ?_)
    subst q_22
    exact retI hx hb hr hlocks hS hP hD () (by rw [if_neg (by omega)]) (by rw [if_neg (by omega)]) dX9_cost_33
