/-! the model: reading -/
theorem lgEq {a b : Int64} : lg_cmp a b = 0 ↔ a = b := by
  unfold lg_cmp
  constructor
  · intro h
    by_cases h1 : a > b
    · rw [if_pos h1] at h; exact absurd h (by decide)
    · rw [if_neg h1] at h
      by_cases h2 : a = b
      · exact h2
      · rw [if_neg h2] at h; exact absurd h (by decide)
  · intro h
    subst h
    rw [if_neg (show ¬ a > a from fun q => absurd q Int64.lt_irrefl), if_pos rfl]
def vbN (v : Int64) : Nat := if v = (nI 661069).toInt64 then 1 else if v = (nI 611717).toInt64 then 2 else if v = (nI 408622).toInt64 then 3 else if v = (nI 755156).toInt64 then 4 else if v = (nI 639411655).toInt64 then 5 else 0
theorem vbN_le (v : Int64) : vbN v ≤ 5 := by unfold vbN; (repeat' split) <;> omega

set_option maxHeartbeats 4000000 in
set_option maxRecDepth 100000 in
theorem c_X9_isAt (l : Launch) (G : va_G) (tA : Nat → ClassId) (b : Nat → Nat) (qu : Nat) (ab : Int64) (bl : Int64) (tyd : Nat) (at0 : Nat) (sta : Nat) (tok : Nat) (val : Nat) (man : Nat) (tx : Nat → Nat) (lo : Nat) (hi : Nat) (hty : tyd ≤ 250) (hat : at0 ≤ 250) (hlo : lo < 1048576) (hhi : hi < 1048576) (hbx : ∀ j, tx j < 1048576) : CtI l yX9_isAt wsX9_isAt ({ frames := 1, cells := 0, slots := 0, locals := 25 }) G tA [.ref (b 0), .int (nI lo), .int (nI hi)] ([(b 0, .inr (7, [.ref (b 1), .ref (b 2), .ref (b 3), .ref (b 4), .ref (b 5), .int (nI qu), .long ab, .long bl, .ref (b 6), .int (nI tyd), .int (nI at0), .int (nI sta), .int (nI tok), .int (nI val), .ref (b 7), .int (nI man), .ref (b 8), .ref (b 9), .ref (b 10), .ref (b 11), .ref (b 12), .ref (b 13), .ref (b 14)])), (b 6, .inl (tA 0, 250, .inl (nF tx)))]) (fun (r : Int32) (_ : Unit) => ((r = nI 1 ∧ (at0 < tyd ∧ lo ≤ tx at0 ∧ tx at0 ≤ hi)) ∨ (r = nI 0 ∧ ¬ (at0 < tyd ∧ lo ≤ tx at0 ∧ tx at0 ≤ hi)))) (fun (_ : Unit) => [(b 0, .inr (7, [.ref (b 1), .ref (b 2), .ref (b 3), .ref (b 4), .ref (b 5), .int (nI qu), .long ab, .long bl, .ref (b 6), .int (nI tyd), .int (nI at0), .int (nI sta), .int (nI tok), .int (nI val), .ref (b 7), .int (nI man), .ref (b 8), .ref (b 9), .ref (b 10), .ref (b 11), .ref (b 12), .ref (b 13), .ref (b 14)])), (b 6, .inl (tA 0, 250, .inl (nF tx)))]) 0 0 := by
  refine enterI (cc := cX9_isAt) (maxL := 3) (ret := (some .boolean)) (by decide) rfl (Nat.le_of_ble_eq_true rfl) ?_
  intro p0 e0 s m args below meth c0_ A ls hx hb hml hr hts hown hlocks hin hKK hA hP hD hl hS
  have hown : s.vm.findClass RX9 = some m.cls := hown
  have hl : lv_has ls 3 [(0, .ref (b 0)), (1, .int (nI lo)), (2, .int (nI hi))] := hl
  have f117 := hts (Cond.fieldLink RX9 117 "LentTermsModel" "at" "I") (List.mem_of_getElem? (i := 1) rfl)
  have iX9 : ∀ w ∈ wsX90, w ∈ wsX9_isAt := by decide +kernel
  have f111 := hts (Cond.fieldLink RX9 111 "LentTermsModel" "typed" "I") (List.mem_of_getElem? (i := 2) rfl)
  have f26 := hts (Cond.fieldLink RX9 26 "LentTermsModel" "text" "[I") (List.mem_of_getElem? (i := 3) rfl)
  refine lv_aload_n hx hb dX9_isAt_0 rfl (lv_at hl 0 rfl) ?_
  refine va_get (D := G) (ci := 7) (C := RX9) (T := TX9) (N := 23) hx hb hts iX9 hown hKK.1 hP 0 rfl rfl 10 (by decide) f117 (fun _ h9 => h9) rfl dX9_isAt_1 ?_
  refine lv_aload_n hx hb dX9_isAt_4 rfl (lv_at hl 0 rfl) ?_
  refine va_get (D := G) (ci := 7) (C := RX9) (T := TX9) (N := 23) hx hb hts iX9 hown hKK.1 hP 0 rfl rfl 9 (by decide) f111 (fun _ h9 => h9) rfl dX9_isAt_5 ?_
  refine nv_icmp_ge (tgt := 35) (by omega) (by omega) hx hb dX9_isAt_8 (by decide) (fun c_1 => ?_) (fun c_1 => ?_)
  · refine lv_iconst (v := nI 0) hx hb dX9_isAt_35 (by decide) ?_
    exact retZ (ty := .boolean) hx hb hr rfl hlocks hS hP hD () (rfl) (Or.inr ⟨rfl, by omega⟩) dX9_isAt_36
  · refine lv_aload_n hx hb dX9_isAt_11 rfl (lv_at hl 0 rfl) ?_
    refine va_get (D := G) (ci := 7) (C := RX9) (T := TX9) (N := 23) hx hb hts iX9 hown hKK.1 hP 0 rfl rfl 8 (by decide) f26 (fun _ h9 => h9) rfl dX9_isAt_12 ?_
    refine lv_aload_n hx hb dX9_isAt_15 rfl (lv_at hl 0 rfl) ?_
    refine va_get (D := G) (ci := 7) (C := RX9) (T := TX9) (N := 23) hx hb hts iX9 hown hKK.1 hP 0 rfl rfl 10 (by decide) f117 (fun _ h9 => h9) rfl dX9_isAt_16 ?_
    refine nv_iald (i := at0) hx hb hKK.1 hP 1 0 rfl rfl (by omega) (by decide) dX9_isAt_19 ?_
    have b_2 := hbx at0
    refine lv_i2l hx hb dX9_isAt_20 rfl ?_
    refine lv_iload_n hx hb dX9_isAt_21 rfl (lv_at hl 1 rfl) ?_
    refine lv_i2l hx hb dX9_isAt_22 rfl ?_
    refine lv_iload_n hx hb dX9_isAt_23 rfl (lv_at hl 2 rfl) ?_
    refine lv_i2l hx hb dX9_isAt_24 rfl ?_
    refine roI hP hD hS hA [] rfl (runS (As := [.long ((nI (tx at0)).toInt64), .long ((nI lo).toInt64), .long ((nI hi).toInt64)]) (rest := []) (isC := []) ⟨hx, hb, hml, hown, hts⟩ hKK hP hD rfl (by decide) (c_X9_is l G tA (nI (tx at0)) ((tx at0 : Nat) : Int) (nI lo) ((lo : Nat) : Int) (nI hi) ((hi : Nat) : Int) (nI_toIntC (by omega)) (nI_toIntC (by omega)) (nI_toIntC (by omega)) _) (va_cwS 3 hts gX9_isAt_X9_is rfl rfl rfl (by decide +kernel) ⟨Nat.le_of_ble_eq_true rfl, Nat.le_of_ble_eq_true rfl⟩) rfl rfl hl.1 rfl (lv_room (Nat.le_of_ble_eq_true rfl)) dX9_isAt_25 ⟨Nat.le_of_ble_eq_true rfl, Nat.le_of_ble_eq_true rfl⟩) (fun _ => rfl) (fun r_3 u_4 H locs q_5 hP hS => ?_)
    rcases q_5 with ⟨rfl, p_6⟩ | ⟨rfl, p_6⟩
    · have p_6 : ((lo : Nat) : Int) ≤ ((tx at0 : Nat) : Int) ∧ ((tx at0 : Nat) : Int) ≤ ((hi : Nat) : Int) := p_6
      refine nv_if_eq (tgt := 35) (by omega) hx hb dX9_isAt_28 (by decide) (fun h => absurd h (by omega)) (fun _ => ?_)
      refine lv_iconst (v := nI 1) hx hb dX9_isAt_31 (by decide) ?_
      refine lv_goto (tgt := 36) hx hb dX9_isAt_32 (by decide) ?_
      exact retZ (ty := .boolean) hx hb hr rfl hlocks hS hP hD () (rfl) (Or.inl ⟨rfl, by omega⟩) dX9_isAt_36
    · have p_6 : ¬ (((lo : Nat) : Int) ≤ ((tx at0 : Nat) : Int) ∧ ((tx at0 : Nat) : Int) ≤ ((hi : Nat) : Int)) := p_6
      refine nv_if_eq (tgt := 35) (by omega) hx hb dX9_isAt_28 (by decide) (fun _ => ?_) (fun h => absurd h (by omega))
      refine lv_iconst (v := nI 0) hx hb dX9_isAt_35 (by decide) ?_
      exact retZ (ty := .boolean) hx hb hr rfl hlocks hS hP hD () (rfl) (Or.inr ⟨rfl, by omega⟩) dX9_isAt_36

set_option maxHeartbeats 4000000 in
set_option maxRecDepth 100000 in
theorem c_X9_numbers (l : Launch) (G : va_G) (tA : Nat → ClassId) (vb : Nat) (hvb : vb < 1048576) : CtI l yX9_numbers wsX9_numbers ({ frames := 0, cells := 0, slots := 0, locals := 0 }) G tA [.int (nI vb)] ([]) (fun (r : Int32) (_ : Unit) => r = nI (if vb < 2 then 3 else if vb < 4 then 4 else 2)) (fun (_ : Unit) => []) 0 0 := by
  refine enterI (cc := cX9_numbers) (maxL := 1) (ret := (some .int)) (by decide) rfl (Nat.le_of_ble_eq_true rfl) ?_
  intro p0 e0 s m args below meth c0_ A ls hx hb hml hr hts hown hlocks hin hKK hA hP hD hl hS
  have hown : s.vm.findClass RX9 = some m.cls := hown
  have hl : lv_has ls 1 [(0, .int (nI vb))] := hl
  refine lv_iload_n hx hb dX9_numbers_0 rfl (lv_at hl 0 rfl) ?_
  refine lv_iconst (v := nI 2) hx hb dX9_numbers_1 (by decide) ?_
  refine nv_icmp_ge (tgt := 9) (by omega) (by omega) hx hb dX9_numbers_2 (by decide) (fun c_1 => ?_) (fun c_1 => ?_)
  · refine lv_iload_n hx hb dX9_numbers_9 rfl (lv_at hl 0 rfl) ?_
    refine lv_iconst (v := nI 4) hx hb dX9_numbers_10 (by decide) ?_
    refine nv_icmp_ge (tgt := 18) (by omega) (by omega) hx hb dX9_numbers_11 (by decide) (fun c_2 => ?_) (fun c_2 => ?_)
    · refine lv_iconst (v := nI 2) hx hb dX9_numbers_18 (by decide) ?_
      exact retI hx hb hr hlocks hS hP hD () (rfl) (congrArg nI (show (2 : Nat) = (if vb < 2 then 3 else if vb < 4 then 4 else 2) from by (repeat' split) <;> first | rfl | (exfalso; omega))) dX9_numbers_19
    · refine lv_iconst (v := nI 4) hx hb dX9_numbers_14 (by decide) ?_
      refine lv_goto (tgt := 19) hx hb dX9_numbers_15 (by decide) ?_
      exact retI hx hb hr hlocks hS hP hD () (rfl) (congrArg nI (show (4 : Nat) = (if vb < 2 then 3 else if vb < 4 then 4 else 2) from by (repeat' split) <;> first | rfl | (exfalso; omega))) dX9_numbers_19
  · refine lv_iconst (v := nI 3) hx hb dX9_numbers_5 (by decide) ?_
    refine lv_goto (tgt := 19) hx hb dX9_numbers_6 (by decide) ?_
    exact retI hx hb hr hlocks hS hP hD () (rfl) (congrArg nI (show (3 : Nat) = (if vb < 2 then 3 else if vb < 4 then 4 else 2) from by (repeat' split) <;> first | rfl | (exfalso; omega))) dX9_numbers_19

set_option maxHeartbeats 4000000 in
set_option maxRecDepth 100000 in
theorem c_X9_verbOf (l : Launch) (G : va_G) (tA : Nat → ClassId) (v : Int64)  : CtI l yX9_verbOf wsX9_verbOf ({ frames := 0, cells := 0, slots := 0, locals := 0 }) G tA [.long v] ([]) (fun (r : Int32) (_ : Unit) => r = (nI (vbN v)) + (-1)) (fun (_ : Unit) => []) 0 0 := by
  refine enterI (cc := cX9_verbOf) (maxL := 4) (ret := (some .int)) (by decide) rfl (Nat.le_of_ble_eq_true rfl) ?_
  intro p0 e0 s m args below meth c0_ A ls hx hb hml hr hts hown hlocks hin hKK hA hP hD hl hS
  have hown : s.vm.findClass RX9 = some m.cls := hown
  have hl : lv_has ls 4 [(0, .long v)] := hl
  have f120 := hts (Cond.constantLong RX9 120 (661069)) (List.mem_of_getElem? (i := 1) rfl)
  have f122 := hts (Cond.constantLong RX9 122 (611717)) (List.mem_of_getElem? (i := 2) rfl)
  have f124 := hts (Cond.constantLong RX9 124 (408622)) (List.mem_of_getElem? (i := 3) rfl)
  have f126 := hts (Cond.constantLong RX9 126 (755156)) (List.mem_of_getElem? (i := 4) rfl)
  have f128 := hts (Cond.constantLong RX9 128 (639411655)) (List.mem_of_getElem? (i := 5) rfl)
  refine lv_lload_n hx hb dX9_verbOf_0 rfl (lv_at hl 0 rfl) ?_
  refine lv_ldc2 (v := 661069) hx hb hown f120 dX9_verbOf_1 ?_
  refine nv_topl (y := (nI 661069).toInt64) (by decide +kernel) ?_
  refine W.lcmp hx hb dX9_verbOf_4 ?_
  refine lv_if_ne (tgt := 12) hx hb dX9_verbOf_5 (by decide) (fun c_1 => ?_) (fun c_1 => ?_)
  · have c_1 : ¬ (v = (nI 661069).toInt64) := fun q => c_1 ((lgEq).mpr q)
    refine lv_lload_n hx hb dX9_verbOf_12 rfl (lv_at hl 0 rfl) ?_
    refine lv_ldc2 (v := 611717) hx hb hown f122 dX9_verbOf_13 ?_
    refine nv_topl (y := (nI 611717).toInt64) (by decide +kernel) ?_
    refine W.lcmp hx hb dX9_verbOf_16 ?_
    refine lv_if_ne (tgt := 24) hx hb dX9_verbOf_17 (by decide) (fun c_2 => ?_) (fun c_2 => ?_)
    · have c_2 : ¬ (v = (nI 611717).toInt64) := fun q => c_2 ((lgEq).mpr q)
      refine lv_lload_n hx hb dX9_verbOf_24 rfl (lv_at hl 0 rfl) ?_
      refine lv_ldc2 (v := 408622) hx hb hown f124 dX9_verbOf_25 ?_
      refine nv_topl (y := (nI 408622).toInt64) (by decide +kernel) ?_
      refine W.lcmp hx hb dX9_verbOf_28 ?_
      refine lv_if_ne (tgt := 36) hx hb dX9_verbOf_29 (by decide) (fun c_3 => ?_) (fun c_3 => ?_)
      · have c_3 : ¬ (v = (nI 408622).toInt64) := fun q => c_3 ((lgEq).mpr q)
        refine lv_iconst (v := (-1)) hx hb dX9_verbOf_36 (by decide) ?_
        refine lv_istore_n (lv' := [(2, .int (-1)), (0, .long v)]) hx hb dX9_verbOf_37 rfl hl (by decide) rfl (fun ls hl => ?_)
        refine lv_lload_n hx hb dX9_verbOf_38 rfl (lv_at hl 1 rfl) ?_
        refine lv_ldc2 (v := 755156) hx hb hown f126 dX9_verbOf_39 ?_
        refine nv_topl (y := (nI 755156).toInt64) (by decide +kernel) ?_
        refine W.lcmp hx hb dX9_verbOf_42 ?_
        refine lv_if_ne (tgt := 50) hx hb dX9_verbOf_43 (by decide) (fun c_4 => ?_) (fun c_4 => ?_)
        · have c_4 : ¬ (v = (nI 755156).toInt64) := fun q => c_4 ((lgEq).mpr q)
          refine lv_lload_n hx hb dX9_verbOf_50 rfl (lv_at hl 1 rfl) ?_
          refine lv_ldc2 (v := 639411655) hx hb hown f128 dX9_verbOf_51 ?_
          refine nv_topl (y := (nI 639411655).toInt64) (by decide +kernel) ?_
          refine W.lcmp hx hb dX9_verbOf_54 ?_
          refine lv_if_ne (tgt := 62) hx hb dX9_verbOf_55 (by decide) (fun c_5 => ?_) (fun c_5 => ?_)
          · have c_5 : ¬ (v = (nI 639411655).toInt64) := fun q => c_5 ((lgEq).mpr q)
            refine lv_iconst (v := (-1)) hx hb dX9_verbOf_62 (by decide) ?_
            refine lv_istore_n (lv' := [(3, .int (-1)), (2, .int (-1)), (0, .long v)]) hx hb dX9_verbOf_63 rfl hl (by decide) rfl (fun ls hl => ?_)
            refine lv_iload_n hx hb dX9_verbOf_64 rfl (lv_at hl 1 rfl) ?_
            refine lv_iconst (v := (-1)) hx hb dX9_verbOf_65 (by decide) ?_
            refine zv_icmp_eq (tgt := 73) (X := (-1 : Int)) (Y := (-1 : Int)) rfl rfl hx hb dX9_verbOf_66 (by decide) (fun _ => ?_) (fun h => absurd h (by omega))
            refine lv_iload_n hx hb dX9_verbOf_73 rfl (lv_at hl 0 rfl) ?_
            exact retI hx hb hr hlocks hS hP hD () (rfl) (by unfold vbN; (repeat' split) <;> first | contradiction | exact (pk_m1 _).symm | decide) dX9_verbOf_74
          · have c_5 : v = (nI 639411655).toInt64 := (lgEq).mp c_5
            refine lv_iconst (v := nI 4) hx hb dX9_verbOf_58 (by decide) ?_
            refine lv_goto (tgt := 63) hx hb dX9_verbOf_59 (by decide) ?_
            refine lv_istore_n (lv' := [(3, .int (nI 4)), (2, .int (-1)), (0, .long v)]) hx hb dX9_verbOf_63 rfl hl (by decide) rfl (fun ls hl => ?_)
            refine lv_iload_n hx hb dX9_verbOf_64 rfl (lv_at hl 1 rfl) ?_
            refine lv_iconst (v := (-1)) hx hb dX9_verbOf_65 (by decide) ?_
            refine zv_icmp_eq (tgt := 73) (X := (-1 : Int)) (Y := (-1 : Int)) rfl rfl hx hb dX9_verbOf_66 (by decide) (fun _ => ?_) (fun h => absurd h (by omega))
            refine lv_iload_n hx hb dX9_verbOf_73 rfl (lv_at hl 0 rfl) ?_
            exact retI hx hb hr hlocks hS hP hD () (rfl) (by unfold vbN; (repeat' split) <;> first | contradiction | exact (pk_m1 _).symm | decide) dX9_verbOf_74
        · have c_4 : v = (nI 755156).toInt64 := (lgEq).mp c_4
          refine lv_iconst (v := nI 3) hx hb dX9_verbOf_46 (by decide) ?_
          refine lv_goto (tgt := 63) hx hb dX9_verbOf_47 (by decide) ?_
          refine lv_istore_n (lv' := [(3, .int (nI 3)), (2, .int (-1)), (0, .long v)]) hx hb dX9_verbOf_63 rfl hl (by decide) rfl (fun ls hl => ?_)
          refine lv_iload_n hx hb dX9_verbOf_64 rfl (lv_at hl 1 rfl) ?_
          refine lv_iconst (v := (-1)) hx hb dX9_verbOf_65 (by decide) ?_
          refine zv_icmp_eq (tgt := 73) (X := (-1 : Int)) (Y := (-1 : Int)) rfl rfl hx hb dX9_verbOf_66 (by decide) (fun _ => ?_) (fun h => absurd h (by omega))
          refine lv_iload_n hx hb dX9_verbOf_73 rfl (lv_at hl 0 rfl) ?_
          exact retI hx hb hr hlocks hS hP hD () (rfl) (by unfold vbN; (repeat' split) <;> first | contradiction | exact (pk_m1 _).symm | decide) dX9_verbOf_74
      · have c_3 : v = (nI 408622).toInt64 := (lgEq).mp c_3
        refine lv_iconst (v := nI 2) hx hb dX9_verbOf_32 (by decide) ?_
        refine lv_goto (tgt := 37) hx hb dX9_verbOf_33 (by decide) ?_
        refine lv_istore_n (lv' := [(2, .int (nI 2)), (0, .long v)]) hx hb dX9_verbOf_37 rfl hl (by decide) rfl (fun ls hl => ?_)
        refine lv_lload_n hx hb dX9_verbOf_38 rfl (lv_at hl 1 rfl) ?_
        refine lv_ldc2 (v := 755156) hx hb hown f126 dX9_verbOf_39 ?_
        refine nv_topl (y := (nI 755156).toInt64) (by decide +kernel) ?_
        refine W.lcmp hx hb dX9_verbOf_42 ?_
        refine lv_if_ne (tgt := 50) hx hb dX9_verbOf_43 (by decide) (fun c_9 => ?_) (fun c_9 => ?_)
        · have c_9 : ¬ (v = (nI 755156).toInt64) := fun q => c_9 ((lgEq).mpr q)
          refine lv_lload_n hx hb dX9_verbOf_50 rfl (lv_at hl 1 rfl) ?_
          refine lv_ldc2 (v := 639411655) hx hb hown f128 dX9_verbOf_51 ?_
          refine nv_topl (y := (nI 639411655).toInt64) (by decide +kernel) ?_
          refine W.lcmp hx hb dX9_verbOf_54 ?_
          refine lv_if_ne (tgt := 62) hx hb dX9_verbOf_55 (by decide) (fun c_10 => ?_) (fun c_10 => ?_)
          · have c_10 : ¬ (v = (nI 639411655).toInt64) := fun q => c_10 ((lgEq).mpr q)
            refine lv_iconst (v := (-1)) hx hb dX9_verbOf_62 (by decide) ?_
            refine lv_istore_n (lv' := [(3, .int (-1)), (2, .int (nI 2)), (0, .long v)]) hx hb dX9_verbOf_63 rfl hl (by decide) rfl (fun ls hl => ?_)
            refine lv_iload_n hx hb dX9_verbOf_64 rfl (lv_at hl 1 rfl) ?_
            refine lv_iconst (v := (-1)) hx hb dX9_verbOf_65 (by decide) ?_
            refine zv_icmp_eq (tgt := 73) (X := (2 : Int)) (Y := (-1 : Int)) rfl rfl hx hb dX9_verbOf_66 (by decide) (fun h => absurd h (by omega)) (fun _ => ?_)
            refine lv_iload_n hx hb dX9_verbOf_69 rfl (lv_at hl 1 rfl) ?_
            refine lv_goto (tgt := 74) hx hb dX9_verbOf_70 (by decide) ?_
            exact retI hx hb hr hlocks hS hP hD () (rfl) (by unfold vbN; (repeat' split) <;> first | contradiction | exact (pk_m1 _).symm | decide) dX9_verbOf_74
          · have c_10 : v = (nI 639411655).toInt64 := (lgEq).mp c_10
            refine lv_iconst (v := nI 4) hx hb dX9_verbOf_58 (by decide) ?_
            refine lv_goto (tgt := 63) hx hb dX9_verbOf_59 (by decide) ?_
            refine lv_istore_n (lv' := [(3, .int (nI 4)), (2, .int (nI 2)), (0, .long v)]) hx hb dX9_verbOf_63 rfl hl (by decide) rfl (fun ls hl => ?_)
            refine lv_iload_n hx hb dX9_verbOf_64 rfl (lv_at hl 1 rfl) ?_
            refine lv_iconst (v := (-1)) hx hb dX9_verbOf_65 (by decide) ?_
            refine zv_icmp_eq (tgt := 73) (X := (2 : Int)) (Y := (-1 : Int)) rfl rfl hx hb dX9_verbOf_66 (by decide) (fun h => absurd h (by omega)) (fun _ => ?_)
            refine lv_iload_n hx hb dX9_verbOf_69 rfl (lv_at hl 1 rfl) ?_
            refine lv_goto (tgt := 74) hx hb dX9_verbOf_70 (by decide) ?_
            exact retI hx hb hr hlocks hS hP hD () (rfl) (by unfold vbN; (repeat' split) <;> first | contradiction | exact (pk_m1 _).symm | decide) dX9_verbOf_74
        · have c_9 : v = (nI 755156).toInt64 := (lgEq).mp c_9
          refine lv_iconst (v := nI 3) hx hb dX9_verbOf_46 (by decide) ?_
          refine lv_goto (tgt := 63) hx hb dX9_verbOf_47 (by decide) ?_
          refine lv_istore_n (lv' := [(3, .int (nI 3)), (2, .int (nI 2)), (0, .long v)]) hx hb dX9_verbOf_63 rfl hl (by decide) rfl (fun ls hl => ?_)
          refine lv_iload_n hx hb dX9_verbOf_64 rfl (lv_at hl 1 rfl) ?_
          refine lv_iconst (v := (-1)) hx hb dX9_verbOf_65 (by decide) ?_
          refine zv_icmp_eq (tgt := 73) (X := (2 : Int)) (Y := (-1 : Int)) rfl rfl hx hb dX9_verbOf_66 (by decide) (fun h => absurd h (by omega)) (fun _ => ?_)
          refine lv_iload_n hx hb dX9_verbOf_69 rfl (lv_at hl 1 rfl) ?_
          refine lv_goto (tgt := 74) hx hb dX9_verbOf_70 (by decide) ?_
          exact retI hx hb hr hlocks hS hP hD () (rfl) (by unfold vbN; (repeat' split) <;> first | contradiction | exact (pk_m1 _).symm | decide) dX9_verbOf_74
    · have c_2 : v = (nI 611717).toInt64 := (lgEq).mp c_2
      refine lv_iconst (v := nI 1) hx hb dX9_verbOf_20 (by decide) ?_
      refine lv_goto (tgt := 37) hx hb dX9_verbOf_21 (by decide) ?_
      refine lv_istore_n (lv' := [(2, .int (nI 1)), (0, .long v)]) hx hb dX9_verbOf_37 rfl hl (by decide) rfl (fun ls hl => ?_)
      refine lv_lload_n hx hb dX9_verbOf_38 rfl (lv_at hl 1 rfl) ?_
      refine lv_ldc2 (v := 755156) hx hb hown f126 dX9_verbOf_39 ?_
      refine nv_topl (y := (nI 755156).toInt64) (by decide +kernel) ?_
      refine W.lcmp hx hb dX9_verbOf_42 ?_
      refine lv_if_ne (tgt := 50) hx hb dX9_verbOf_43 (by decide) (fun c_14 => ?_) (fun c_14 => ?_)
      · have c_14 : ¬ (v = (nI 755156).toInt64) := fun q => c_14 ((lgEq).mpr q)
        refine lv_lload_n hx hb dX9_verbOf_50 rfl (lv_at hl 1 rfl) ?_
        refine lv_ldc2 (v := 639411655) hx hb hown f128 dX9_verbOf_51 ?_
        refine nv_topl (y := (nI 639411655).toInt64) (by decide +kernel) ?_
        refine W.lcmp hx hb dX9_verbOf_54 ?_
        refine lv_if_ne (tgt := 62) hx hb dX9_verbOf_55 (by decide) (fun c_15 => ?_) (fun c_15 => ?_)
        · have c_15 : ¬ (v = (nI 639411655).toInt64) := fun q => c_15 ((lgEq).mpr q)
          refine lv_iconst (v := (-1)) hx hb dX9_verbOf_62 (by decide) ?_
          refine lv_istore_n (lv' := [(3, .int (-1)), (2, .int (nI 1)), (0, .long v)]) hx hb dX9_verbOf_63 rfl hl (by decide) rfl (fun ls hl => ?_)
          refine lv_iload_n hx hb dX9_verbOf_64 rfl (lv_at hl 1 rfl) ?_
          refine lv_iconst (v := (-1)) hx hb dX9_verbOf_65 (by decide) ?_
          refine zv_icmp_eq (tgt := 73) (X := (1 : Int)) (Y := (-1 : Int)) rfl rfl hx hb dX9_verbOf_66 (by decide) (fun h => absurd h (by omega)) (fun _ => ?_)
          refine lv_iload_n hx hb dX9_verbOf_69 rfl (lv_at hl 1 rfl) ?_
          refine lv_goto (tgt := 74) hx hb dX9_verbOf_70 (by decide) ?_
          exact retI hx hb hr hlocks hS hP hD () (rfl) (by unfold vbN; (repeat' split) <;> first | contradiction | exact (pk_m1 _).symm | decide) dX9_verbOf_74
        · have c_15 : v = (nI 639411655).toInt64 := (lgEq).mp c_15
          refine lv_iconst (v := nI 4) hx hb dX9_verbOf_58 (by decide) ?_
          refine lv_goto (tgt := 63) hx hb dX9_verbOf_59 (by decide) ?_
          refine lv_istore_n (lv' := [(3, .int (nI 4)), (2, .int (nI 1)), (0, .long v)]) hx hb dX9_verbOf_63 rfl hl (by decide) rfl (fun ls hl => ?_)
          refine lv_iload_n hx hb dX9_verbOf_64 rfl (lv_at hl 1 rfl) ?_
          refine lv_iconst (v := (-1)) hx hb dX9_verbOf_65 (by decide) ?_
          refine zv_icmp_eq (tgt := 73) (X := (1 : Int)) (Y := (-1 : Int)) rfl rfl hx hb dX9_verbOf_66 (by decide) (fun h => absurd h (by omega)) (fun _ => ?_)
          refine lv_iload_n hx hb dX9_verbOf_69 rfl (lv_at hl 1 rfl) ?_
          refine lv_goto (tgt := 74) hx hb dX9_verbOf_70 (by decide) ?_
          exact retI hx hb hr hlocks hS hP hD () (rfl) (by unfold vbN; (repeat' split) <;> first | contradiction | exact (pk_m1 _).symm | decide) dX9_verbOf_74
      · have c_14 : v = (nI 755156).toInt64 := (lgEq).mp c_14
        refine lv_iconst (v := nI 3) hx hb dX9_verbOf_46 (by decide) ?_
        refine lv_goto (tgt := 63) hx hb dX9_verbOf_47 (by decide) ?_
        refine lv_istore_n (lv' := [(3, .int (nI 3)), (2, .int (nI 1)), (0, .long v)]) hx hb dX9_verbOf_63 rfl hl (by decide) rfl (fun ls hl => ?_)
        refine lv_iload_n hx hb dX9_verbOf_64 rfl (lv_at hl 1 rfl) ?_
        refine lv_iconst (v := (-1)) hx hb dX9_verbOf_65 (by decide) ?_
        refine zv_icmp_eq (tgt := 73) (X := (1 : Int)) (Y := (-1 : Int)) rfl rfl hx hb dX9_verbOf_66 (by decide) (fun h => absurd h (by omega)) (fun _ => ?_)
        refine lv_iload_n hx hb dX9_verbOf_69 rfl (lv_at hl 1 rfl) ?_
        refine lv_goto (tgt := 74) hx hb dX9_verbOf_70 (by decide) ?_
        exact retI hx hb hr hlocks hS hP hD () (rfl) (by unfold vbN; (repeat' split) <;> first | contradiction | exact (pk_m1 _).symm | decide) dX9_verbOf_74
  · have c_1 : v = (nI 661069).toInt64 := (lgEq).mp c_1
    refine lv_iconst (v := nI 0) hx hb dX9_verbOf_8 (by decide) ?_
    refine lv_goto (tgt := 37) hx hb dX9_verbOf_9 (by decide) ?_
    refine lv_istore_n (lv' := [(2, .int (nI 0)), (0, .long v)]) hx hb dX9_verbOf_37 rfl hl (by decide) rfl (fun ls hl => ?_)
    refine lv_lload_n hx hb dX9_verbOf_38 rfl (lv_at hl 1 rfl) ?_
    refine lv_ldc2 (v := 755156) hx hb hown f126 dX9_verbOf_39 ?_
    refine nv_topl (y := (nI 755156).toInt64) (by decide +kernel) ?_
    refine W.lcmp hx hb dX9_verbOf_42 ?_
    refine lv_if_ne (tgt := 50) hx hb dX9_verbOf_43 (by decide) (fun c_19 => ?_) (fun c_19 => ?_)
    · have c_19 : ¬ (v = (nI 755156).toInt64) := fun q => c_19 ((lgEq).mpr q)
      refine lv_lload_n hx hb dX9_verbOf_50 rfl (lv_at hl 1 rfl) ?_
      refine lv_ldc2 (v := 639411655) hx hb hown f128 dX9_verbOf_51 ?_
      refine nv_topl (y := (nI 639411655).toInt64) (by decide +kernel) ?_
      refine W.lcmp hx hb dX9_verbOf_54 ?_
      refine lv_if_ne (tgt := 62) hx hb dX9_verbOf_55 (by decide) (fun c_20 => ?_) (fun c_20 => ?_)
      · have c_20 : ¬ (v = (nI 639411655).toInt64) := fun q => c_20 ((lgEq).mpr q)
        refine lv_iconst (v := (-1)) hx hb dX9_verbOf_62 (by decide) ?_
        refine lv_istore_n (lv' := [(3, .int (-1)), (2, .int (nI 0)), (0, .long v)]) hx hb dX9_verbOf_63 rfl hl (by decide) rfl (fun ls hl => ?_)
        refine lv_iload_n hx hb dX9_verbOf_64 rfl (lv_at hl 1 rfl) ?_
        refine lv_iconst (v := (-1)) hx hb dX9_verbOf_65 (by decide) ?_
        refine zv_icmp_eq (tgt := 73) (X := (0 : Int)) (Y := (-1 : Int)) rfl rfl hx hb dX9_verbOf_66 (by decide) (fun h => absurd h (by omega)) (fun _ => ?_)
        refine lv_iload_n hx hb dX9_verbOf_69 rfl (lv_at hl 1 rfl) ?_
        refine lv_goto (tgt := 74) hx hb dX9_verbOf_70 (by decide) ?_
        exact retI hx hb hr hlocks hS hP hD () (rfl) (by unfold vbN; (repeat' split) <;> first | contradiction | exact (pk_m1 _).symm | decide) dX9_verbOf_74
      · have c_20 : v = (nI 639411655).toInt64 := (lgEq).mp c_20
        refine lv_iconst (v := nI 4) hx hb dX9_verbOf_58 (by decide) ?_
        refine lv_goto (tgt := 63) hx hb dX9_verbOf_59 (by decide) ?_
        refine lv_istore_n (lv' := [(3, .int (nI 4)), (2, .int (nI 0)), (0, .long v)]) hx hb dX9_verbOf_63 rfl hl (by decide) rfl (fun ls hl => ?_)
        refine lv_iload_n hx hb dX9_verbOf_64 rfl (lv_at hl 1 rfl) ?_
        refine lv_iconst (v := (-1)) hx hb dX9_verbOf_65 (by decide) ?_
        refine zv_icmp_eq (tgt := 73) (X := (0 : Int)) (Y := (-1 : Int)) rfl rfl hx hb dX9_verbOf_66 (by decide) (fun h => absurd h (by omega)) (fun _ => ?_)
        refine lv_iload_n hx hb dX9_verbOf_69 rfl (lv_at hl 1 rfl) ?_
        refine lv_goto (tgt := 74) hx hb dX9_verbOf_70 (by decide) ?_
        exact retI hx hb hr hlocks hS hP hD () (rfl) (by unfold vbN; (repeat' split) <;> first | contradiction | exact (pk_m1 _).symm | decide) dX9_verbOf_74
    · have c_19 : v = (nI 755156).toInt64 := (lgEq).mp c_19
      refine lv_iconst (v := nI 3) hx hb dX9_verbOf_46 (by decide) ?_
      refine lv_goto (tgt := 63) hx hb dX9_verbOf_47 (by decide) ?_
      refine lv_istore_n (lv' := [(3, .int (nI 3)), (2, .int (nI 0)), (0, .long v)]) hx hb dX9_verbOf_63 rfl hl (by decide) rfl (fun ls hl => ?_)
      refine lv_iload_n hx hb dX9_verbOf_64 rfl (lv_at hl 1 rfl) ?_
      refine lv_iconst (v := (-1)) hx hb dX9_verbOf_65 (by decide) ?_
      refine zv_icmp_eq (tgt := 73) (X := (0 : Int)) (Y := (-1 : Int)) rfl rfl hx hb dX9_verbOf_66 (by decide) (fun h => absurd h (by omega)) (fun _ => ?_)
      refine lv_iload_n hx hb dX9_verbOf_69 rfl (lv_at hl 1 rfl) ?_
      refine lv_goto (tgt := 74) hx hb dX9_verbOf_70 (by decide) ?_
      exact retI hx hb hr hlocks hS hP hD () (rfl) (by unfold vbN; (repeat' split) <;> first | contradiction | exact (pk_m1 _).symm | decide) dX9_verbOf_74

def ruN (tx : Nat → Nat) (tyd lo hi : Nat) : Nat → Nat → Nat
  | 0, a => a
  | f + 1, a => if a < tyd ∧ lo ≤ tx a ∧ tx a ≤ hi then ruN tx tyd lo hi f (a + 1) else a
def ruE (tx : Nat → Nat) (tyd lo hi a : Nat) : Nat := ruN tx tyd lo hi (tyd - a) a
theorem ruE_1 {tx : Nat → Nat} {tyd lo hi a : Nat} (h : a < tyd ∧ lo ≤ tx a ∧ tx a ≤ hi) : ruE tx tyd lo hi (a + 1) = ruE tx tyd lo hi a := by
  unfold ruE
  rw [show tyd - a = (tyd - (a + 1)) + 1 from by omega]
  show _ = (if a < tyd ∧ lo ≤ tx a ∧ tx a ≤ hi then ruN tx tyd lo hi (tyd - (a + 1)) (a + 1) else a)
  rw [if_pos h]
theorem ruE_2 {tx : Nat → Nat} {tyd lo hi a : Nat} (h : ¬ (a < tyd ∧ lo ≤ tx a ∧ tx a ≤ hi)) : ruE tx tyd lo hi a = a := by
  unfold ruE
  cases tyd - a with
  | zero => rfl
  | succ f =>
    show (if a < tyd ∧ lo ≤ tx a ∧ tx a ≤ hi then ruN tx tyd lo hi f (a + 1) else a) = a
    rw [if_neg h]
theorem ruN_le (tx : Nat → Nat) (tyd lo hi : Nat) : ∀ f a, a ≤ tyd → a ≤ ruN tx tyd lo hi f a ∧ ruN tx tyd lo hi f a ≤ tyd := by
  intro f
  induction f with
  | zero => intro a h; exact ⟨Nat.le_refl a, h⟩
  | succ f ih =>
    intro a h
    show a ≤ (if a < tyd ∧ lo ≤ tx a ∧ tx a ≤ hi then ruN tx tyd lo hi f (a + 1) else a) ∧ (if a < tyd ∧ lo ≤ tx a ∧ tx a ≤ hi then ruN tx tyd lo hi f (a + 1) else a) ≤ tyd
    by_cases q : a < tyd ∧ lo ≤ tx a ∧ tx a ≤ hi
    · rw [if_pos q]; have := ih (a + 1) (by omega); omega
    · rw [if_neg q]; omega
theorem ruE_le (tx : Nat → Nat) (lo hi : Nat) {tyd a : Nat} (h : a ≤ tyd) : a ≤ ruE tx tyd lo hi a ∧ ruE tx tyd lo hi a ≤ tyd := ruN_le tx tyd lo hi _ a h
def hsS (tx : Nat → Nat) (st j : Nat) : Int64 := it (fun k v => if 6 < k then (nI 0).toInt64 else (nI 32).toInt64 * v + (nI (tx (st + k))).toInt64 - (nI 97).toInt64 + (nI 1).toInt64) j (nI 0).toInt64
theorem hsS_0 (tx : Nat → Nat) (st : Nat) : hsS tx st 0 = (nI 0).toInt64 := rfl
theorem hsS_s (tx : Nat → Nat) (st j : Nat) : hsS tx st (j + 1) = if 6 < j then (nI 0).toInt64 else (nI 32).toInt64 * hsS tx st j + (nI (tx (st + j))).toInt64 - (nI 97).toInt64 + (nI 1).toInt64 := rfl
def nuS (tx : Nat → Nat) (st j : Nat) : Nat := it (fun k v => if k < 3 then 10 * v + tx (st + k) - 48 else v) j 0
theorem nuS_0 (tx : Nat → Nat) (st : Nat) : nuS tx st 0 = 0 := rfl
theorem nuS_s (tx : Nat → Nat) (st j : Nat) : nuS tx st (j + 1) = if j < 3 then 10 * nuS tx st j + tx (st + j) - 48 else nuS tx st j := rfl
def scA (tx : Nat → Nat) (tyd b : Nat) : Nat := if b = tyd then b else if 97 ≤ tx b ∧ tx b ≤ 122 then ruE tx tyd 97 122 b else if 48 ≤ tx b ∧ tx b ≤ 57 then ruE tx tyd 48 57 b else b + 1
def scT (tx : Nat → Nat) (tyd b : Nat) : Nat := if b = tyd then 0 else if 97 ≤ tx b ∧ tx b ≤ 122 then (if 6 < ruE tx tyd 97 122 b - b ∨ vbN (hsS tx b (ruE tx tyd 97 122 b - b)) = 0 then 1 else vbN (hsS tx b (ruE tx tyd 97 122 b - b)) + 3) else if 48 ≤ tx b ∧ tx b ≤ 57 then (if 3 < ruE tx tyd 48 57 b - b then 1 else 2) else if tx b = 59 then 3 else 1
def scV (tx : Nat → Nat) (tyd val b : Nat) : Nat := if b = tyd then val else if 97 ≤ tx b ∧ tx b ≤ 122 then val else if 48 ≤ tx b ∧ tx b ≤ 57 then nuS tx b (ruE tx tyd 48 57 b - b) else val
def scN (tx : Nat → Nat) (tyd a v : Nat) : Nat × Nat × Nat × Nat := (scA tx tyd (ruE tx tyd 32 32 a), ruE tx tyd 32 32 a, scT tx tyd (ruE tx tyd 32 32 a), scV tx tyd v (ruE tx tyd 32 32 a))
theorem sc_0 {tx : Nat → Nat} {tyd b : Nat} (val : Nat) (h : b = tyd) : scA tx tyd b = b ∧ scT tx tyd b = 0 ∧ scV tx tyd val b = val := ⟨if_pos h, if_pos h, if_pos h⟩
theorem sc_1 {tx : Nat → Nat} {tyd b e : Nat} (val : Nat) (h : b < tyd ∧ 97 ≤ tx b ∧ tx b ≤ 122) (he : ruE tx tyd 97 122 b = e) : scA tx tyd b = e ∧ scT tx tyd b = (if 6 < e - b ∨ vbN (hsS tx b (e - b)) = 0 then 1 else vbN (hsS tx b (e - b)) + 3) ∧ scV tx tyd val b = val := by
  unfold scA scT scV
  subst he
  rw [if_neg (show ¬ b = tyd by omega), if_neg (show ¬ b = tyd by omega), if_neg (show ¬ b = tyd by omega), if_pos h.2, if_pos h.2, if_pos h.2]
  exact ⟨rfl, rfl, rfl⟩
theorem sc_2 {tx : Nat → Nat} {tyd b e : Nat} (val : Nat) (h : b < tyd ∧ 48 ≤ tx b ∧ tx b ≤ 57) (he : ruE tx tyd 48 57 b = e) : scA tx tyd b = e ∧ scT tx tyd b = (if 3 < e - b then 1 else 2) ∧ scV tx tyd val b = nuS tx b (e - b) := by
  unfold scA scT scV
  subst he
  have h2 : ¬ (97 ≤ tx b ∧ tx b ≤ 122) := by omega
  rw [if_neg (show ¬ b = tyd by omega), if_neg (show ¬ b = tyd by omega), if_neg (show ¬ b = tyd by omega), if_neg h2, if_neg h2, if_neg h2, if_pos h.2, if_pos h.2, if_pos h.2]
  exact ⟨rfl, rfl, rfl⟩
theorem sc_3 {tx : Nat → Nat} {tyd b : Nat} (val : Nat) (h : ¬ b = tyd) (h2 : ¬ (97 ≤ tx b ∧ tx b ≤ 122)) (h3 : ¬ (48 ≤ tx b ∧ tx b ≤ 57)) : scA tx tyd b = b + 1 ∧ scT tx tyd b = (if tx b = 59 then 3 else 1) ∧ scV tx tyd val b = val := by
  unfold scA scT scV
  rw [if_neg h, if_neg h, if_neg h, if_neg h2, if_neg h2, if_neg h2, if_neg h3, if_neg h3, if_neg h3]
  exact ⟨rfl, rfl, rfl⟩
theorem vb4 {y : Nat} (h : 0 < y) : nI 4 + (nI y + (-1)) = nI (y + 3) := by
  obtain ⟨z, rfl⟩ : ∃ z, y = z + 1 := ⟨y - 1, by omega⟩
  rw [pk_m1, nI_add]
  exact congrArg nI (by omega)

set_option maxHeartbeats 4000000 in
set_option maxRecDepth 100000 in
theorem c_X9_scans (l : Launch) (G : va_G) (tA : Nat → ClassId) (b : Nat → Nat) (qu : Nat) (ab : Int64) (bl : Int64) (tyd : Nat) (at0 : Nat) (sta : Nat) (tok : Nat) (val : Nat) (man : Nat) (tx : Nat → Nat) (hty : tyd ≤ 250) (hat : at0 ≤ tyd) (hbx : ∀ j, tx j < 1048576) (hvl : val < 1048576) : CtV l yX9_scans wsX9_scans ({ frames := 2, cells := 0, slots := 0, locals := 47 }) G tA [.ref (b 0)] ([(b 0, .inr (7, [.ref (b 1), .ref (b 2), .ref (b 3), .ref (b 4), .ref (b 5), .int (nI qu), .long ab, .long bl, .ref (b 6), .int (nI tyd), .int (nI at0), .int (nI sta), .int (nI tok), .int (nI val), .ref (b 7), .int (nI man), .ref (b 8), .ref (b 9), .ref (b 10), .ref (b 11), .ref (b 12), .ref (b 13), .ref (b 14)])), (b 6, .inl (tA 0, 250, .inl (nF tx)))]) (fun (_ : Unit) => (scN tx tyd at0 val).1 ≤ tyd ∧ (scN tx tyd at0 val).2.2.1 ≤ 8 ∧ (scN tx tyd at0 val).2.2.2 < 1048576 ∧ at0 ≤ (scN tx tyd at0 val).2.1 ∧ at0 ≤ (scN tx tyd at0 val).1 ∧ (scN tx tyd at0 val).2.1 ≤ tyd ∧ ((scN tx tyd at0 val).2.2.1 = 0 ∨ at0 + 1 ≤ (scN tx tyd at0 val).1)) (fun (_ : Unit) => [(b 0, .inr (7, [.ref (b 1), .ref (b 2), .ref (b 3), .ref (b 4), .ref (b 5), .int (nI qu), .long ab, .long bl, .ref (b 6), .int (nI tyd), .int (nI ((scN tx tyd at0 val).1)), .int (nI ((scN tx tyd at0 val).2.1)), .int (nI ((scN tx tyd at0 val).2.2.1)), .int (nI ((scN tx tyd at0 val).2.2.2)), .ref (b 7), .int (nI man), .ref (b 8), .ref (b 9), .ref (b 10), .ref (b 11), .ref (b 12), .ref (b 13), .ref (b 14)])), (b 6, .inl (tA 0, 250, .inl (nF tx)))]) 0 0 := by
  refine enterV (cc := cX9_scans) (maxL := 3) (ret := none) (by decide) rfl (Nat.le_of_ble_eq_true rfl) ?_
  intro p0 e0 s m args below meth c0_ A ls hx hb hml hr hts hown hlocks hin hKK hA hP hD hl hS
  have hown : s.vm.findClass RX9 = some m.cls := hown
  have hl : lv_has ls 3 [(0, .ref (b 0))] := hl
  have f117 := hts (Cond.fieldLink RX9 117 "LentTermsModel" "at" "I") (List.mem_of_getElem? (i := 1) rfl)
  have iX9 : ∀ w ∈ wsX90, w ∈ wsX9_scans := by decide +kernel
  have f134 := hts (Cond.fieldLink RX9 134 "LentTermsModel" "start" "I") (List.mem_of_getElem? (i := 2) rfl)
  have f111 := hts (Cond.fieldLink RX9 111 "LentTermsModel" "typed" "I") (List.mem_of_getElem? (i := 3) rfl)
  have f140 := hts (Cond.constantLong RX9 140 (32)) (List.mem_of_getElem? (i := 5) rfl)
  have f26 := hts (Cond.fieldLink RX9 26 "LentTermsModel" "text" "[I") (List.mem_of_getElem? (i := 6) rfl)
  have f142 := hts (Cond.constantLong RX9 142 (97)) (List.mem_of_getElem? (i := 7) rfl)
  have f137 := hts (Cond.fieldLink RX9 137 "LentTermsModel" "token" "I") (List.mem_of_getElem? (i := 4) rfl)
  have f148 := hts (Cond.fieldLink RX9 148 "LentTermsModel" "value" "I") (List.mem_of_getElem? (i := 8) rfl)
  refine wloop (σ := (Nat)) (fun | a1 => tyd - a1) (fun | a1 => (at0 ≤ a1 ∧ a1 ≤ tyd) ∧ (ruE tx tyd 32 32 a1 = ruE tx tyd 32 32 at0)) (fun | a1 => [(0, .ref (b 0))]) (fun | a1 => [(b 0, .inr (7, [.ref (b 1), .ref (b 2), .ref (b 3), .ref (b 4), .ref (b 5), .int (nI qu), .long ab, .long bl, .ref (b 6), .int (nI tyd), .int (nI a1), .int (nI sta), .int (nI tok), .int (nI val), .ref (b 7), .int (nI man), .ref (b 8), .ref (b 9), .ref (b 10), .ref (b 11), .ref (b 12), .ref (b 13), .ref (b 14)])), (b 6, .inl (tA 0, 250, .inl (nF tx)))]) at0 ⟨(show at0 ≤ at0 ∧ at0 ≤ tyd from ⟨by omega, by omega⟩), (show ruE tx tyd 32 32 at0 = ruE tx tyd 32 32 at0 from rfl)⟩ (lv_sub hl [0] rfl) hP hD hS ?_
  rintro a1 ⟨ha1, hr1⟩ ih_1 ls H locs hl hP hD hS
  have hl : lv_has ls 3 [(0, .ref (b 0))] := hl
  have hP : va_P G vwCl [(b 0, .inr (7, [.ref (b 1), .ref (b 2), .ref (b 3), .ref (b 4), .ref (b 5), .int (nI qu), .long ab, .long bl, .ref (b 6), .int (nI tyd), .int (nI a1), .int (nI sta), .int (nI tok), .int (nI val), .ref (b 7), .int (nI man), .ref (b 8), .ref (b 9), .ref (b 10), .ref (b 11), .ref (b 12), .ref (b 13), .ref (b 14)])), (b 6, .inl (tA 0, 250, .inl (nF tx)))] H := hP
  have hD : va_D A [(b 0, .inr (7, [.ref (b 1), .ref (b 2), .ref (b 3), .ref (b 4), .ref (b 5), .int (nI qu), .long ab, .long bl, .ref (b 6), .int (nI tyd), .int (nI a1), .int (nI sta), .int (nI tok), .int (nI val), .ref (b 7), .int (nI man), .ref (b 8), .ref (b 9), .ref (b 10), .ref (b 11), .ref (b 12), .ref (b 13), .ref (b 14)])), (b 6, .inl (tA 0, 250, .inl (nF tx)))] := hD
  have ha1 : at0 ≤ a1 ∧ a1 ≤ tyd := ha1
  have hr1 : ruE tx tyd 32 32 a1 = ruE tx tyd 32 32 at0 := hr1
  refine lv_aload_n hx hb dX9_scans_0 rfl (lv_at hl 0 rfl) ?_
  refine lv_bipush (v := nI 32) hx hb dX9_scans_1 (by decide +kernel) ?_
  refine lv_bipush (v := nI 32) hx hb dX9_scans_3 (by decide +kernel) ?_
  refine roI hP hD hS hA [0, 1] rfl (runV (As := [.int (nI 32), .int (nI 32)]) (rest := []) (isC := [0, 1]) ⟨hx, hb, hml, hown, hts⟩ hKK hP hD rfl (by decide) (c_X9_isAt l G tA b qu ab bl tyd a1 sta tok val man tx 32 32 (by first | assumption | omega) (by omega) (by first | assumption | omega) (by first | assumption | omega) (by first | assumption | omega) _) (cwV 2 hts gX9_scans_X9_isAt rfl rfl rfl (by decide +kernel) ⟨Nat.le_of_ble_eq_true rfl, Nat.le_of_ble_eq_true rfl⟩) rfl rfl rfl rfl hl.1 rfl (lv_room (Nat.le_of_ble_eq_true rfl)) dX9_scans_5 ⟨Nat.le_of_ble_eq_true rfl, Nat.le_of_ble_eq_true rfl⟩) (fun _ => rfl) (fun r_2 u_3 H locs q_4 hP hS => ?_)
  rcases q_4 with ⟨rfl, p_5⟩ | ⟨rfl, p_5⟩
  · have p_5 : a1 < tyd ∧ 32 ≤ tx a1 ∧ tx a1 ≤ 32 := p_5
    refine nv_if_eq (tgt := 24) (by omega) hx hb dX9_scans_8 (by decide) (fun h => absurd h (by omega)) (fun _ => ?_)
    refine lv_aload_n hx hb dX9_scans_11 rfl (lv_at hl 0 rfl) ?_
    refine lv_dup hx hb dX9_scans_12 rfl ?_
    refine va_get (D := G) (ci := 7) (C := RX9) (T := TX9) (N := 23) hx hb hts iX9 hown hKK.1 hP 0 rfl rfl 10 (by decide) f117 (fun _ h9 => h9) rfl dX9_scans_13 ?_
    refine lv_iconst (v := nI 1) hx hb dX9_scans_16 (by decide) ?_
    refine nv_iadd hx hb dX9_scans_17 ?_
    refine nv_put (D := G) (ci := 7) (v := .int (nI (a1 + 1))) (ty := (tyX9 10)) (C := RX9) (T := TX9) (N := 23) hx hb hts iX9 tyX9 tyX9_ok nmX9 hown hKK.1 hP hD hS 0 rfl rfl 10 (by decide) f117 (fun _ h9 => h9) rfl (by decide +kernel) rfl rfl (Nat.le_of_ble_eq_true rfl) dX9_scans_18 [(b 0, .inr (7, [.ref (b 1), .ref (b 2), .ref (b 3), .ref (b 4), .ref (b 5), .int (nI qu), .long ab, .long bl, .ref (b 6), .int (nI tyd), .int (nI (a1 + 1)), .int (nI sta), .int (nI tok), .int (nI val), .ref (b 7), .int (nI man), .ref (b 8), .ref (b 9), .ref (b 10), .ref (b 11), .ref (b 12), .ref (b 13), .ref (b 14)])), (b 6, .inl (tA 0, 250, .inl (nF tx)))] rfl (fun H locs hP hD hS => ?_)
    refine lv_goto (tgt := 0) hx hb dX9_scans_21 (by decide) ?_
    exact ih_1 (a1 + 1) (show tyd - (a1 + 1) < tyd - a1 from by omega) ⟨(show at0 ≤ (a1 + 1) ∧ (a1 + 1) ≤ tyd from ⟨by omega, by omega⟩), (show ruE tx tyd 32 32 (a1 + 1) = ruE tx tyd 32 32 at0 from by rw [ruE_1 (by omega), hr1])⟩ _ _ _ (lv_sub hl [0] rfl) hP hD hS
  · have p_5 : ¬ (a1 < tyd ∧ 32 ≤ tx a1 ∧ tx a1 ≤ 32) := p_5
    refine nv_if_eq (tgt := 24) (by omega) hx hb dX9_scans_8 (by decide) (fun _ => ?_) (fun h => absurd h (by omega))
    have hst : ruE tx tyd 32 32 at0 = a1 := by rw [← hr1]; exact ruE_2 (by omega)
    have hsc : scN tx tyd at0 val = (scA tx tyd a1, a1, scT tx tyd a1, scV tx tyd val a1) := by unfold scN; rw [hst]
    refine lv_aload_n hx hb dX9_scans_24 rfl (lv_at hl 0 rfl) ?_
    refine lv_aload_n hx hb dX9_scans_25 rfl (lv_at hl 0 rfl) ?_
    refine va_get (D := G) (ci := 7) (C := RX9) (T := TX9) (N := 23) hx hb hts iX9 hown hKK.1 hP 0 rfl rfl 10 (by decide) f117 (fun _ h9 => h9) rfl dX9_scans_26 ?_
    refine nv_put (D := G) (ci := 7) (v := .int (nI a1)) (ty := (tyX9 11)) (C := RX9) (T := TX9) (N := 23) hx hb hts iX9 tyX9 tyX9_ok nmX9 hown hKK.1 hP hD hS 0 rfl rfl 11 (by decide) f134 (fun _ h9 => h9) rfl (by decide +kernel) rfl rfl (Nat.le_of_ble_eq_true rfl) dX9_scans_29 [(b 0, .inr (7, [.ref (b 1), .ref (b 2), .ref (b 3), .ref (b 4), .ref (b 5), .int (nI qu), .long ab, .long bl, .ref (b 6), .int (nI tyd), .int (nI a1), .int (nI a1), .int (nI tok), .int (nI val), .ref (b 7), .int (nI man), .ref (b 8), .ref (b 9), .ref (b 10), .ref (b 11), .ref (b 12), .ref (b 13), .ref (b 14)])), (b 6, .inl (tA 0, 250, .inl (nF tx)))] rfl (fun H locs hP hD hS => ?_)
    refine lv_aload_n hx hb dX9_scans_32 rfl (lv_at hl 0 rfl) ?_
    refine va_get (D := G) (ci := 7) (C := RX9) (T := TX9) (N := 23) hx hb hts iX9 hown hKK.1 hP 0 rfl rfl 10 (by decide) f117 (fun _ h9 => h9) rfl dX9_scans_33 ?_
    refine lv_aload_n hx hb dX9_scans_36 rfl (lv_at hl 0 rfl) ?_
    refine va_get (D := G) (ci := 7) (C := RX9) (T := TX9) (N := 23) hx hb hts iX9 hown hKK.1 hP 0 rfl rfl 9 (by decide) f111 (fun _ h9 => h9) rfl dX9_scans_37 ?_
    refine nv_icmp_ne (tgt := 49) (by omega) (by omega) hx hb dX9_scans_40 (by decide) (fun c_8 => ?_) (fun c_8 => ?_)
    · refine lv_aload_n hx hb dX9_scans_49 rfl (lv_at hl 0 rfl) ?_
      refine lv_bipush (v := nI 97) hx hb dX9_scans_50 (by decide +kernel) ?_
      refine lv_bipush (v := nI 122) hx hb dX9_scans_52 (by decide +kernel) ?_
      refine roI hP hD hS hA [0, 1] rfl (runV (As := [.int (nI 97), .int (nI 122)]) (rest := []) (isC := [0, 1]) ⟨hx, hb, hml, hown, hts⟩ hKK hP hD rfl (by decide) (c_X9_isAt l G tA b qu ab bl tyd a1 a1 tok val man tx 97 122 (by first | assumption | omega) (by omega) (by first | assumption | omega) (by first | assumption | omega) (by first | assumption | omega) _) (cwV 2 hts gX9_scans_X9_isAt rfl rfl rfl (by decide +kernel) ⟨Nat.le_of_ble_eq_true rfl, Nat.le_of_ble_eq_true rfl⟩) rfl rfl rfl rfl hl.1 rfl (lv_room (Nat.le_of_ble_eq_true rfl)) dX9_scans_54 ⟨Nat.le_of_ble_eq_true rfl, Nat.le_of_ble_eq_true rfl⟩) (fun _ => rfl) (fun r_9 u_10 H locs q_11 hP hS => ?_)
      rcases q_11 with ⟨rfl, p_12⟩ | ⟨rfl, p_12⟩
      · have p_12 : a1 < tyd ∧ 97 ≤ tx a1 ∧ tx a1 ≤ 122 := p_12
        refine nv_if_eq (tgt := 164) (by omega) hx hb dX9_scans_57 (by decide) (fun h => absurd h (by omega)) (fun _ => ?_)
        refine lv_lconst (v := (nI 0).toInt64) hx hb dX9_scans_60 (by decide +kernel) ?_
        refine lv_lstore_n (lv' := [(1, .long ((nI 0).toInt64)), (0, .ref (b 0))]) hx hb dX9_scans_61 rfl hl (by decide) rfl (fun ls hl => ?_)
        refine wloop (σ := (Nat) × (Int64)) (fun | (a2, hh) => tyd - a2) (fun | (a2, hh) => (a1 ≤ a2 ∧ a2 ≤ tyd) ∧ (ruE tx tyd 97 122 a2 = ruE tx tyd 97 122 a1) ∧ (hh = hsS tx a1 (a2 - a1))) (fun | (a2, hh) => [(1, .long hh), (0, .ref (b 0))]) (fun | (a2, hh) => [(b 0, .inr (7, [.ref (b 1), .ref (b 2), .ref (b 3), .ref (b 4), .ref (b 5), .int (nI qu), .long ab, .long bl, .ref (b 6), .int (nI tyd), .int (nI a2), .int (nI a1), .int (nI tok), .int (nI val), .ref (b 7), .int (nI man), .ref (b 8), .ref (b 9), .ref (b 10), .ref (b 11), .ref (b 12), .ref (b 13), .ref (b 14)])), (b 6, .inl (tA 0, 250, .inl (nF tx)))]) (a1, (nI 0).toInt64) ⟨(show a1 ≤ a1 ∧ a1 ≤ tyd from ⟨by omega, by omega⟩), (show ruE tx tyd 97 122 a1 = ruE tx tyd 97 122 a1 from rfl), (show ((nI 0).toInt64) = hsS tx a1 (a1 - a1) from by rw [Nat.sub_self, hsS_0])⟩ (lv_sub hl [0, 1] rfl) hP hD hS ?_
        rintro ⟨a2, hh⟩ ⟨ha2, hr2, hh2⟩ ih_14 ls H locs hl hP hD hS
        have hl : lv_has ls 3 [(1, .long hh), (0, .ref (b 0))] := hl
        have hP : va_P G vwCl [(b 0, .inr (7, [.ref (b 1), .ref (b 2), .ref (b 3), .ref (b 4), .ref (b 5), .int (nI qu), .long ab, .long bl, .ref (b 6), .int (nI tyd), .int (nI a2), .int (nI a1), .int (nI tok), .int (nI val), .ref (b 7), .int (nI man), .ref (b 8), .ref (b 9), .ref (b 10), .ref (b 11), .ref (b 12), .ref (b 13), .ref (b 14)])), (b 6, .inl (tA 0, 250, .inl (nF tx)))] H := hP
        have hD : va_D A [(b 0, .inr (7, [.ref (b 1), .ref (b 2), .ref (b 3), .ref (b 4), .ref (b 5), .int (nI qu), .long ab, .long bl, .ref (b 6), .int (nI tyd), .int (nI a2), .int (nI a1), .int (nI tok), .int (nI val), .ref (b 7), .int (nI man), .ref (b 8), .ref (b 9), .ref (b 10), .ref (b 11), .ref (b 12), .ref (b 13), .ref (b 14)])), (b 6, .inl (tA 0, 250, .inl (nF tx)))] := hD
        have ha2 : a1 ≤ a2 ∧ a2 ≤ tyd := ha2
        have hr2 : ruE tx tyd 97 122 a2 = ruE tx tyd 97 122 a1 := hr2
        have hh2 : hh = hsS tx a1 (a2 - a1) := hh2
        refine lv_aload_n hx hb dX9_scans_62 rfl (lv_at hl 1 rfl) ?_
        refine lv_bipush (v := nI 97) hx hb dX9_scans_63 (by decide +kernel) ?_
        refine lv_bipush (v := nI 122) hx hb dX9_scans_65 (by decide +kernel) ?_
        refine roI hP hD hS hA [0, 1] rfl (runV (As := [.int (nI 97), .int (nI 122)]) (rest := []) (isC := [0, 1]) ⟨hx, hb, hml, hown, hts⟩ hKK hP hD rfl (by decide) (c_X9_isAt l G tA b qu ab bl tyd a2 a1 tok val man tx 97 122 (by first | assumption | omega) (by omega) (by first | assumption | omega) (by first | assumption | omega) (by first | assumption | omega) _) (cwV 2 hts gX9_scans_X9_isAt rfl rfl rfl (by decide +kernel) ⟨Nat.le_of_ble_eq_true rfl, Nat.le_of_ble_eq_true rfl⟩) rfl rfl rfl rfl hl.1 rfl (lv_room (Nat.le_of_ble_eq_true rfl)) dX9_scans_67 ⟨Nat.le_of_ble_eq_true rfl, Nat.le_of_ble_eq_true rfl⟩) (fun _ => rfl) (fun r_15 u_16 H locs q_17 hP hS => ?_)
        rcases q_17 with ⟨rfl, p_18⟩ | ⟨rfl, p_18⟩
        · have p_18 : a2 < tyd ∧ 97 ≤ tx a2 ∧ tx a2 ≤ 122 := p_18
          refine nv_if_eq (tgt := 127) (by omega) hx hb dX9_scans_70 (by decide) (fun h => absurd h (by omega)) (fun _ => ?_)
          refine lv_aload_n hx hb dX9_scans_73 rfl (lv_at hl 1 rfl) ?_
          refine va_get (D := G) (ci := 7) (C := RX9) (T := TX9) (N := 23) hx hb hts iX9 hown hKK.1 hP 0 rfl rfl 10 (by decide) f117 (fun _ h9 => h9) rfl dX9_scans_74 ?_
          refine lv_aload_n hx hb dX9_scans_77 rfl (lv_at hl 1 rfl) ?_
          refine va_get (D := G) (ci := 7) (C := RX9) (T := TX9) (N := 23) hx hb hts iX9 hown hKK.1 hP 0 rfl rfl 11 (by decide) f134 (fun _ h9 => h9) rfl dX9_scans_78 ?_
          refine nv_isub (show a1 ≤ a2 from by omega) hx hb dX9_scans_81 ?_
          refine lv_bipush (v := nI 6) hx hb dX9_scans_82 (by decide +kernel) ?_
          refine nv_icmp_le (tgt := 91) (by omega) (by omega) hx hb dX9_scans_84 (by decide) (fun c_20 => ?_) (fun c_20 => ?_)
          · refine lv_ldc2 (v := 32) hx hb hown f140 dX9_scans_91 ?_
            refine nv_topl (y := (nI 32).toInt64) (by decide +kernel) ?_
            refine lv_lload_n hx hb dX9_scans_94 rfl (lv_at hl 0 rfl) ?_
            refine lv_lmul hx hb dX9_scans_95 ?_
            refine lv_aload_n hx hb dX9_scans_96 rfl (lv_at hl 1 rfl) ?_
            refine va_get (D := G) (ci := 7) (C := RX9) (T := TX9) (N := 23) hx hb hts iX9 hown hKK.1 hP 0 rfl rfl 8 (by decide) f26 (fun _ h9 => h9) rfl dX9_scans_97 ?_
            refine lv_aload_n hx hb dX9_scans_100 rfl (lv_at hl 1 rfl) ?_
            refine va_get (D := G) (ci := 7) (C := RX9) (T := TX9) (N := 23) hx hb hts iX9 hown hKK.1 hP 0 rfl rfl 10 (by decide) f117 (fun _ h9 => h9) rfl dX9_scans_101 ?_
            refine nv_iald (i := a2) hx hb hKK.1 hP 1 0 rfl rfl (by omega) (by decide) dX9_scans_104 ?_
            have b_21 := hbx a2
            refine lv_i2l hx hb dX9_scans_105 rfl ?_
            refine lv_ladd hx hb dX9_scans_106 ?_
            refine lv_ldc2 (v := 97) hx hb hown f142 dX9_scans_107 ?_
            refine nv_topl (y := (nI 97).toInt64) (by decide +kernel) ?_
            refine lv_lsub hx hb dX9_scans_110 ?_
            refine lv_lconst (v := (nI 1).toInt64) hx hb dX9_scans_111 (by decide +kernel) ?_
            refine lv_ladd hx hb dX9_scans_112 ?_
            refine lv_lstore_n (lv' := [(1, .long ((((((nI 32).toInt64) * hh) + ((nI (tx a2)).toInt64)) - ((nI 97).toInt64)) + ((nI 1).toInt64))), (0, .ref (b 0))]) hx hb dX9_scans_113 rfl hl (by decide) rfl (fun ls hl => ?_)
            refine lv_aload_n hx hb dX9_scans_114 rfl (lv_at hl 1 rfl) ?_
            refine lv_dup hx hb dX9_scans_115 rfl ?_
            refine va_get (D := G) (ci := 7) (C := RX9) (T := TX9) (N := 23) hx hb hts iX9 hown hKK.1 hP 0 rfl rfl 10 (by decide) f117 (fun _ h9 => h9) rfl dX9_scans_116 ?_
            refine lv_iconst (v := nI 1) hx hb dX9_scans_119 (by decide) ?_
            refine nv_iadd hx hb dX9_scans_120 ?_
            refine nv_put (D := G) (ci := 7) (v := .int (nI (a2 + 1))) (ty := (tyX9 10)) (C := RX9) (T := TX9) (N := 23) hx hb hts iX9 tyX9 tyX9_ok nmX9 hown hKK.1 hP hD hS 0 rfl rfl 10 (by decide) f117 (fun _ h9 => h9) rfl (by decide +kernel) rfl rfl (Nat.le_of_ble_eq_true rfl) dX9_scans_121 [(b 0, .inr (7, [.ref (b 1), .ref (b 2), .ref (b 3), .ref (b 4), .ref (b 5), .int (nI qu), .long ab, .long bl, .ref (b 6), .int (nI tyd), .int (nI (a2 + 1)), .int (nI a1), .int (nI tok), .int (nI val), .ref (b 7), .int (nI man), .ref (b 8), .ref (b 9), .ref (b 10), .ref (b 11), .ref (b 12), .ref (b 13), .ref (b 14)])), (b 6, .inl (tA 0, 250, .inl (nF tx)))] rfl (fun H locs hP hD hS => ?_)
            refine lv_goto (tgt := 62) hx hb dX9_scans_124 (by decide) ?_
            exact ih_14 (a2 + 1, (((((nI 32).toInt64) * hh) + ((nI (tx a2)).toInt64)) - ((nI 97).toInt64)) + ((nI 1).toInt64)) (show tyd - (a2 + 1) < tyd - a2 from by omega) ⟨(show a1 ≤ (a2 + 1) ∧ (a2 + 1) ≤ tyd from ⟨by omega, by omega⟩), (show ruE tx tyd 97 122 (a2 + 1) = ruE tx tyd 97 122 a1 from by rw [ruE_1 (by omega), hr2]), (show ((((((nI 32).toInt64) * hh) + ((nI (tx a2)).toInt64)) - ((nI 97).toInt64)) + ((nI 1).toInt64)) = hsS tx a1 ((a2 + 1) - a1) from by rw [show a2 + 1 - a1 = (a2 - a1) + 1 from by omega, hsS_s, ← hh2, show a1 + (a2 - a1) = a2 from by omega]; first | rw [if_pos (by omega)] | rw [if_neg (by omega)])⟩ _ _ _ (lv_sub hl [0, 1] rfl) hP hD hS
          · refine lv_lconst (v := (nI 0).toInt64) hx hb dX9_scans_87 (by decide +kernel) ?_
            refine lv_goto (tgt := 113) hx hb dX9_scans_88 (by decide) ?_
            refine lv_lstore_n (lv' := [(1, .long ((nI 0).toInt64)), (0, .ref (b 0))]) hx hb dX9_scans_113 rfl hl (by decide) rfl (fun ls hl => ?_)
            refine lv_aload_n hx hb dX9_scans_114 rfl (lv_at hl 1 rfl) ?_
            refine lv_dup hx hb dX9_scans_115 rfl ?_
            refine va_get (D := G) (ci := 7) (C := RX9) (T := TX9) (N := 23) hx hb hts iX9 hown hKK.1 hP 0 rfl rfl 10 (by decide) f117 (fun _ h9 => h9) rfl dX9_scans_116 ?_
            refine lv_iconst (v := nI 1) hx hb dX9_scans_119 (by decide) ?_
            refine nv_iadd hx hb dX9_scans_120 ?_
            refine nv_put (D := G) (ci := 7) (v := .int (nI (a2 + 1))) (ty := (tyX9 10)) (C := RX9) (T := TX9) (N := 23) hx hb hts iX9 tyX9 tyX9_ok nmX9 hown hKK.1 hP hD hS 0 rfl rfl 10 (by decide) f117 (fun _ h9 => h9) rfl (by decide +kernel) rfl rfl (Nat.le_of_ble_eq_true rfl) dX9_scans_121 [(b 0, .inr (7, [.ref (b 1), .ref (b 2), .ref (b 3), .ref (b 4), .ref (b 5), .int (nI qu), .long ab, .long bl, .ref (b 6), .int (nI tyd), .int (nI (a2 + 1)), .int (nI a1), .int (nI tok), .int (nI val), .ref (b 7), .int (nI man), .ref (b 8), .ref (b 9), .ref (b 10), .ref (b 11), .ref (b 12), .ref (b 13), .ref (b 14)])), (b 6, .inl (tA 0, 250, .inl (nF tx)))] rfl (fun H locs hP hD hS => ?_)
            refine lv_goto (tgt := 62) hx hb dX9_scans_124 (by decide) ?_
            exact ih_14 (a2 + 1, (nI 0).toInt64) (show tyd - (a2 + 1) < tyd - a2 from by omega) ⟨(show a1 ≤ (a2 + 1) ∧ (a2 + 1) ≤ tyd from ⟨by omega, by omega⟩), (show ruE tx tyd 97 122 (a2 + 1) = ruE tx tyd 97 122 a1 from by rw [ruE_1 (by omega), hr2]), (show ((nI 0).toInt64) = hsS tx a1 ((a2 + 1) - a1) from by rw [show a2 + 1 - a1 = (a2 - a1) + 1 from by omega, hsS_s, ← hh2, show a1 + (a2 - a1) = a2 from by omega]; first | rw [if_pos (by omega)] | rw [if_neg (by omega)])⟩ _ _ _ (lv_sub hl [0, 1] rfl) hP hD hS
        · have p_18 : ¬ (a2 < tyd ∧ 97 ≤ tx a2 ∧ tx a2 ≤ 122) := p_18
          refine nv_if_eq (tgt := 127) (by omega) hx hb dX9_scans_70 (by decide) (fun _ => ?_) (fun h => absurd h (by omega))
          refine lv_aload_n hx hb dX9_scans_127 rfl (lv_at hl 1 rfl) ?_
          refine lv_aload_n hx hb dX9_scans_128 rfl (lv_at hl 1 rfl) ?_
          refine va_get (D := G) (ci := 7) (C := RX9) (T := TX9) (N := 23) hx hb hts iX9 hown hKK.1 hP 0 rfl rfl 10 (by decide) f117 (fun _ h9 => h9) rfl dX9_scans_129 ?_
          refine lv_aload_n hx hb dX9_scans_132 rfl (lv_at hl 1 rfl) ?_
          refine va_get (D := G) (ci := 7) (C := RX9) (T := TX9) (N := 23) hx hb hts iX9 hown hKK.1 hP 0 rfl rfl 11 (by decide) f134 (fun _ h9 => h9) rfl dX9_scans_133 ?_
          refine nv_isub (show a1 ≤ a2 from by omega) hx hb dX9_scans_136 ?_
          refine lv_bipush (v := nI 6) hx hb dX9_scans_137 (by decide +kernel) ?_
          refine nv_icmp_gt (tgt := 150) (by omega) (by omega) hx hb dX9_scans_139 (by decide) (fun c_23 => ?_) (fun c_23 => ?_)
          · refine lv_iconst (v := nI 1) hx hb dX9_scans_150 (by decide) ?_
            refine lv_goto (tgt := 160) hx hb dX9_scans_151 (by decide) ?_
            refine nv_put (D := G) (ci := 7) (v := .int (nI 1)) (ty := (tyX9 12)) (C := RX9) (T := TX9) (N := 23) hx hb hts iX9 tyX9 tyX9_ok nmX9 hown hKK.1 hP hD hS 0 rfl rfl 12 (by decide) f137 (fun _ h9 => h9) rfl (by decide +kernel) rfl rfl (Nat.le_of_ble_eq_true rfl) dX9_scans_160 [(b 0, .inr (7, [.ref (b 1), .ref (b 2), .ref (b 3), .ref (b 4), .ref (b 5), .int (nI qu), .long ab, .long bl, .ref (b 6), .int (nI tyd), .int (nI a2), .int (nI a1), .int (nI 1), .int (nI val), .ref (b 7), .int (nI man), .ref (b 8), .ref (b 9), .ref (b 10), .ref (b 11), .ref (b 12), .ref (b 13), .ref (b 14)])), (b 6, .inl (tA 0, 250, .inl (nF tx)))] rfl (fun H locs hP hD hS => ?_)
            exact retV hx hb hr hlocks hS hP hD () (by rw [hsc]; dsimp only; obtain ⟨q1, q2, q3⟩ := sc_1 val (show a1 < tyd ∧ 97 ≤ tx a1 ∧ tx a1 ≤ 122 from by omega) (show ruE tx tyd 97 122 a1 = a2 from by rw [← hr2]; exact ruE_2 (by omega)); rw [q1, q2, q3]; rw [← hh2]; first | rw [if_pos (by omega)] | rw [if_neg (by omega)]) (by rw [hsc]; dsimp only; obtain ⟨q1, q2, q3⟩ := sc_1 val (show a1 < tyd ∧ 97 ≤ tx a1 ∧ tx a1 ≤ 122 from by omega) (show ruE tx tyd 97 122 a1 = a2 from by rw [← hr2]; exact ruE_2 (by omega)); rw [q1, q2, q3]; have hvb9 := vbN_le (hsS tx a1 (a2 - a1)); have hne9 : ¬ a2 = a1 := (by intro z; subst z; omega); refine ⟨?_, ?_, ?_, ?_, ?_, ?_, ?_⟩ <;> (try split) <;> omega) dX9_scans_163
          · refine lv_lload_n hx hb dX9_scans_142 rfl (lv_at hl 0 rfl) ?_
            refine roI hP hD hS hA [] rfl (runS (As := [.long hh]) (rest := [.ref (b 0)]) (isC := []) ⟨hx, hb, hml, hown, hts⟩ hKK hP hD rfl (by decide) (c_X9_verbOf l G tA hh _) (va_cwS 1 hts gX9_scans_X9_verbOf rfl rfl rfl (by decide +kernel) ⟨Nat.le_of_ble_eq_true rfl, Nat.le_of_ble_eq_true rfl⟩) rfl rfl hl.1 rfl (lv_room (Nat.le_of_ble_eq_true rfl)) dX9_scans_143 ⟨Nat.le_of_ble_eq_true rfl, Nat.le_of_ble_eq_true rfl⟩) (fun _ => rfl) (fun r_24 u_25 H locs q_26 hP hS => ?_)
            subst q_26
            have hvb := vbN_le hh
            refine lv_iconst (v := (-1)) hx hb dX9_scans_146 (by decide) ?_
            refine zv_icmp_ne (tgt := 154) (X := ((vbN hh : Nat) : Int) - 1) (Y := (-1 : Int)) (predZ (by omega)) rfl hx hb dX9_scans_147 (by decide) (fun c_27 => ?_) (fun c_27 => ?_)
            · refine lv_iconst (v := nI 4) hx hb dX9_scans_154 (by decide) ?_
              refine lv_lload_n hx hb dX9_scans_155 rfl (lv_at hl 0 rfl) ?_
              refine roI hP hD hS hA [] rfl (runS (As := [.long hh]) (rest := [.int (nI 4), .ref (b 0)]) (isC := []) ⟨hx, hb, hml, hown, hts⟩ hKK hP hD rfl (by decide) (c_X9_verbOf l G tA hh _) (va_cwS 1 hts gX9_scans_X9_verbOf rfl rfl rfl (by decide +kernel) ⟨Nat.le_of_ble_eq_true rfl, Nat.le_of_ble_eq_true rfl⟩) rfl rfl hl.1 rfl (lv_room (Nat.le_of_ble_eq_true rfl)) dX9_scans_156 ⟨Nat.le_of_ble_eq_true rfl, Nat.le_of_ble_eq_true rfl⟩) (fun _ => rfl) (fun r_28 u_29 H locs q_30 hP hS => ?_)
              subst q_30
              refine lv_iadd hx hb dX9_scans_159 ?_
              refine nv_top (y := vbN hh + 3) (vb4 (by omega)) ?_
              refine nv_put (D := G) (ci := 7) (v := .int (nI (vbN hh + 3))) (ty := (tyX9 12)) (C := RX9) (T := TX9) (N := 23) hx hb hts iX9 tyX9 tyX9_ok nmX9 hown hKK.1 hP hD hS 0 rfl rfl 12 (by decide) f137 (fun _ h9 => h9) rfl (by decide +kernel) rfl rfl (Nat.le_of_ble_eq_true rfl) dX9_scans_160 [(b 0, .inr (7, [.ref (b 1), .ref (b 2), .ref (b 3), .ref (b 4), .ref (b 5), .int (nI qu), .long ab, .long bl, .ref (b 6), .int (nI tyd), .int (nI a2), .int (nI a1), .int (nI (vbN hh + 3)), .int (nI val), .ref (b 7), .int (nI man), .ref (b 8), .ref (b 9), .ref (b 10), .ref (b 11), .ref (b 12), .ref (b 13), .ref (b 14)])), (b 6, .inl (tA 0, 250, .inl (nF tx)))] rfl (fun H locs hP hD hS => ?_)
              exact retV hx hb hr hlocks hS hP hD () (by rw [hsc]; dsimp only; obtain ⟨q1, q2, q3⟩ := sc_1 val (show a1 < tyd ∧ 97 ≤ tx a1 ∧ tx a1 ≤ 122 from by omega) (show ruE tx tyd 97 122 a1 = a2 from by rw [← hr2]; exact ruE_2 (by omega)); rw [q1, q2, q3]; rw [← hh2]; first | rw [if_pos (by omega)] | rw [if_neg (by omega)]) (by rw [hsc]; dsimp only; obtain ⟨q1, q2, q3⟩ := sc_1 val (show a1 < tyd ∧ 97 ≤ tx a1 ∧ tx a1 ≤ 122 from by omega) (show ruE tx tyd 97 122 a1 = a2 from by rw [← hr2]; exact ruE_2 (by omega)); rw [q1, q2, q3]; have hvb9 := vbN_le (hsS tx a1 (a2 - a1)); have hne9 : ¬ a2 = a1 := (by intro z; subst z; omega); refine ⟨?_, ?_, ?_, ?_, ?_, ?_, ?_⟩ <;> (try split) <;> omega) dX9_scans_163
            · refine lv_iconst (v := nI 1) hx hb dX9_scans_150 (by decide) ?_
              refine lv_goto (tgt := 160) hx hb dX9_scans_151 (by decide) ?_
              refine nv_put (D := G) (ci := 7) (v := .int (nI 1)) (ty := (tyX9 12)) (C := RX9) (T := TX9) (N := 23) hx hb hts iX9 tyX9 tyX9_ok nmX9 hown hKK.1 hP hD hS 0 rfl rfl 12 (by decide) f137 (fun _ h9 => h9) rfl (by decide +kernel) rfl rfl (Nat.le_of_ble_eq_true rfl) dX9_scans_160 [(b 0, .inr (7, [.ref (b 1), .ref (b 2), .ref (b 3), .ref (b 4), .ref (b 5), .int (nI qu), .long ab, .long bl, .ref (b 6), .int (nI tyd), .int (nI a2), .int (nI a1), .int (nI 1), .int (nI val), .ref (b 7), .int (nI man), .ref (b 8), .ref (b 9), .ref (b 10), .ref (b 11), .ref (b 12), .ref (b 13), .ref (b 14)])), (b 6, .inl (tA 0, 250, .inl (nF tx)))] rfl (fun H locs hP hD hS => ?_)
              exact retV hx hb hr hlocks hS hP hD () (by rw [hsc]; dsimp only; obtain ⟨q1, q2, q3⟩ := sc_1 val (show a1 < tyd ∧ 97 ≤ tx a1 ∧ tx a1 ≤ 122 from by omega) (show ruE tx tyd 97 122 a1 = a2 from by rw [← hr2]; exact ruE_2 (by omega)); rw [q1, q2, q3]; rw [← hh2]; first | rw [if_pos (by omega)] | rw [if_neg (by omega)]) (by rw [hsc]; dsimp only; obtain ⟨q1, q2, q3⟩ := sc_1 val (show a1 < tyd ∧ 97 ≤ tx a1 ∧ tx a1 ≤ 122 from by omega) (show ruE tx tyd 97 122 a1 = a2 from by rw [← hr2]; exact ruE_2 (by omega)); rw [q1, q2, q3]; have hvb9 := vbN_le (hsS tx a1 (a2 - a1)); have hne9 : ¬ a2 = a1 := (by intro z; subst z; omega); refine ⟨?_, ?_, ?_, ?_, ?_, ?_, ?_⟩ <;> (try split) <;> omega) dX9_scans_163
      · have p_12 : ¬ (a1 < tyd ∧ 97 ≤ tx a1 ∧ tx a1 ≤ 122) := p_12
        refine nv_if_eq (tgt := 164) (by omega) hx hb dX9_scans_57 (by decide) (fun _ => ?_) (fun h => absurd h (by omega))
        refine lv_aload_n hx hb dX9_scans_164 rfl (lv_at hl 0 rfl) ?_
        refine lv_bipush (v := nI 48) hx hb dX9_scans_165 (by decide +kernel) ?_
        refine lv_bipush (v := nI 57) hx hb dX9_scans_167 (by decide +kernel) ?_
        refine roI hP hD hS hA [0, 1] rfl (runV (As := [.int (nI 48), .int (nI 57)]) (rest := []) (isC := [0, 1]) ⟨hx, hb, hml, hown, hts⟩ hKK hP hD rfl (by decide) (c_X9_isAt l G tA b qu ab bl tyd a1 a1 tok val man tx 48 57 (by first | assumption | omega) (by omega) (by first | assumption | omega) (by first | assumption | omega) (by first | assumption | omega) _) (cwV 2 hts gX9_scans_X9_isAt rfl rfl rfl (by decide +kernel) ⟨Nat.le_of_ble_eq_true rfl, Nat.le_of_ble_eq_true rfl⟩) rfl rfl rfl rfl hl.1 rfl (lv_room (Nat.le_of_ble_eq_true rfl)) dX9_scans_169 ⟨Nat.le_of_ble_eq_true rfl, Nat.le_of_ble_eq_true rfl⟩) (fun _ => rfl) (fun r_32 u_33 H locs q_34 hP hS => ?_)
        rcases q_34 with ⟨rfl, p_35⟩ | ⟨rfl, p_35⟩
        · have p_35 : a1 < tyd ∧ 48 ≤ tx a1 ∧ tx a1 ≤ 57 := p_35
          refine nv_if_eq (tgt := 271) (by omega) hx hb dX9_scans_172 (by decide) (fun h => absurd h (by omega)) (fun _ => ?_)
          refine lv_aload_n hx hb dX9_scans_175 rfl (lv_at hl 0 rfl) ?_
          refine lv_iconst (v := nI 0) hx hb dX9_scans_176 (by decide) ?_
          refine nv_put (D := G) (ci := 7) (v := .int (nI 0)) (ty := (tyX9 13)) (C := RX9) (T := TX9) (N := 23) hx hb hts iX9 tyX9 tyX9_ok nmX9 hown hKK.1 hP hD hS 0 rfl rfl 13 (by decide) f148 (fun _ h9 => h9) rfl (by decide +kernel) rfl rfl (Nat.le_of_ble_eq_true rfl) dX9_scans_177 [(b 0, .inr (7, [.ref (b 1), .ref (b 2), .ref (b 3), .ref (b 4), .ref (b 5), .int (nI qu), .long ab, .long bl, .ref (b 6), .int (nI tyd), .int (nI a1), .int (nI a1), .int (nI tok), .int (nI 0), .ref (b 7), .int (nI man), .ref (b 8), .ref (b 9), .ref (b 10), .ref (b 11), .ref (b 12), .ref (b 13), .ref (b 14)])), (b 6, .inl (tA 0, 250, .inl (nF tx)))] rfl (fun H locs hP hD hS => ?_)
          refine wloop (σ := (Nat) × (Nat)) (fun | (a3, vv) => tyd - a3) (fun | (a3, vv) => (a1 ≤ a3 ∧ a3 ≤ tyd) ∧ (ruE tx tyd 48 57 a3 = ruE tx tyd 48 57 a1) ∧ (vv = nuS tx a1 (a3 - a1)) ∧ ((a3 = a1 → vv < 1) ∧ (a3 = a1 + 1 → vv < 10) ∧ (a3 = a1 + 2 → vv < 100) ∧ vv < 1000)) (fun | (a3, vv) => [(0, .ref (b 0))]) (fun | (a3, vv) => [(b 0, .inr (7, [.ref (b 1), .ref (b 2), .ref (b 3), .ref (b 4), .ref (b 5), .int (nI qu), .long ab, .long bl, .ref (b 6), .int (nI tyd), .int (nI a3), .int (nI a1), .int (nI tok), .int (nI vv), .ref (b 7), .int (nI man), .ref (b 8), .ref (b 9), .ref (b 10), .ref (b 11), .ref (b 12), .ref (b 13), .ref (b 14)])), (b 6, .inl (tA 0, 250, .inl (nF tx)))]) (a1, 0) ⟨(show a1 ≤ a1 ∧ a1 ≤ tyd from ⟨by omega, by omega⟩), (show ruE tx tyd 48 57 a1 = ruE tx tyd 48 57 a1 from rfl), (show 0 = nuS tx a1 (a1 - a1) from by rw [Nat.sub_self, nuS_0]), (show (a1 = a1 → 0 < 1) ∧ (a1 = a1 + 1 → 0 < 10) ∧ (a1 = a1 + 2 → 0 < 100) ∧ 0 < 1000 from ⟨by omega, by omega, by omega, by omega⟩)⟩ (lv_sub hl [0] rfl) hP hD hS ?_
          rintro ⟨a3, vv⟩ ⟨ha3, hr3, hv3, hv4⟩ ih_37 ls H locs hl hP hD hS
          have hl : lv_has ls 3 [(0, .ref (b 0))] := hl
          have hP : va_P G vwCl [(b 0, .inr (7, [.ref (b 1), .ref (b 2), .ref (b 3), .ref (b 4), .ref (b 5), .int (nI qu), .long ab, .long bl, .ref (b 6), .int (nI tyd), .int (nI a3), .int (nI a1), .int (nI tok), .int (nI vv), .ref (b 7), .int (nI man), .ref (b 8), .ref (b 9), .ref (b 10), .ref (b 11), .ref (b 12), .ref (b 13), .ref (b 14)])), (b 6, .inl (tA 0, 250, .inl (nF tx)))] H := hP
          have hD : va_D A [(b 0, .inr (7, [.ref (b 1), .ref (b 2), .ref (b 3), .ref (b 4), .ref (b 5), .int (nI qu), .long ab, .long bl, .ref (b 6), .int (nI tyd), .int (nI a3), .int (nI a1), .int (nI tok), .int (nI vv), .ref (b 7), .int (nI man), .ref (b 8), .ref (b 9), .ref (b 10), .ref (b 11), .ref (b 12), .ref (b 13), .ref (b 14)])), (b 6, .inl (tA 0, 250, .inl (nF tx)))] := hD
          have ha3 : a1 ≤ a3 ∧ a3 ≤ tyd := ha3
          have hr3 : ruE tx tyd 48 57 a3 = ruE tx tyd 48 57 a1 := hr3
          have hv3 : vv = nuS tx a1 (a3 - a1) := hv3
          have hv4 : (a3 = a1 → vv < 1) ∧ (a3 = a1 + 1 → vv < 10) ∧ (a3 = a1 + 2 → vv < 100) ∧ vv < 1000 := hv4
          refine lv_aload_n hx hb dX9_scans_180 rfl (lv_at hl 0 rfl) ?_
          refine lv_bipush (v := nI 48) hx hb dX9_scans_181 (by decide +kernel) ?_
          refine lv_bipush (v := nI 57) hx hb dX9_scans_183 (by decide +kernel) ?_
          refine roI hP hD hS hA [0, 1] rfl (runV (As := [.int (nI 48), .int (nI 57)]) (rest := []) (isC := [0, 1]) ⟨hx, hb, hml, hown, hts⟩ hKK hP hD rfl (by decide) (c_X9_isAt l G tA b qu ab bl tyd a3 a1 tok vv man tx 48 57 (by first | assumption | omega) (by omega) (by first | assumption | omega) (by first | assumption | omega) (by first | assumption | omega) _) (cwV 2 hts gX9_scans_X9_isAt rfl rfl rfl (by decide +kernel) ⟨Nat.le_of_ble_eq_true rfl, Nat.le_of_ble_eq_true rfl⟩) rfl rfl rfl rfl hl.1 rfl (lv_room (Nat.le_of_ble_eq_true rfl)) dX9_scans_185 ⟨Nat.le_of_ble_eq_true rfl, Nat.le_of_ble_eq_true rfl⟩) (fun _ => rfl) (fun r_38 u_39 H locs q_40 hP hS => ?_)
          rcases q_40 with ⟨rfl, p_41⟩ | ⟨rfl, p_41⟩
          · have p_41 : a3 < tyd ∧ 48 ≤ tx a3 ∧ tx a3 ≤ 57 := p_41
            refine nv_if_eq (tgt := 248) (by omega) hx hb dX9_scans_188 (by decide) (fun h => absurd h (by omega)) (fun _ => ?_)
            refine lv_aload_n hx hb dX9_scans_191 rfl (lv_at hl 0 rfl) ?_
            refine lv_aload_n hx hb dX9_scans_192 rfl (lv_at hl 0 rfl) ?_
            refine va_get (D := G) (ci := 7) (C := RX9) (T := TX9) (N := 23) hx hb hts iX9 hown hKK.1 hP 0 rfl rfl 10 (by decide) f117 (fun _ h9 => h9) rfl dX9_scans_193 ?_
            refine lv_aload_n hx hb dX9_scans_196 rfl (lv_at hl 0 rfl) ?_
            refine va_get (D := G) (ci := 7) (C := RX9) (T := TX9) (N := 23) hx hb hts iX9 hown hKK.1 hP 0 rfl rfl 11 (by decide) f134 (fun _ h9 => h9) rfl dX9_scans_197 ?_
            refine nv_isub (show a1 ≤ a3 from by omega) hx hb dX9_scans_200 ?_
            refine lv_iconst (v := nI 3) hx hb dX9_scans_201 (by decide) ?_
            refine nv_icmp_ge (tgt := 228) (by omega) (by omega) hx hb dX9_scans_202 (by decide) (fun c_43 => ?_) (fun c_43 => ?_)
            · refine lv_aload_n hx hb dX9_scans_228 rfl (lv_at hl 0 rfl) ?_
              refine va_get (D := G) (ci := 7) (C := RX9) (T := TX9) (N := 23) hx hb hts iX9 hown hKK.1 hP 0 rfl rfl 13 (by decide) f148 (fun _ h9 => h9) rfl dX9_scans_229 ?_
              refine nv_put (D := G) (ci := 7) (v := .int (nI vv)) (ty := (tyX9 13)) (C := RX9) (T := TX9) (N := 23) hx hb hts iX9 tyX9 tyX9_ok nmX9 hown hKK.1 hP hD hS 0 rfl rfl 13 (by decide) f148 (fun _ h9 => h9) rfl (by decide +kernel) rfl rfl (Nat.le_of_ble_eq_true rfl) dX9_scans_232 [(b 0, .inr (7, [.ref (b 1), .ref (b 2), .ref (b 3), .ref (b 4), .ref (b 5), .int (nI qu), .long ab, .long bl, .ref (b 6), .int (nI tyd), .int (nI a3), .int (nI a1), .int (nI tok), .int (nI vv), .ref (b 7), .int (nI man), .ref (b 8), .ref (b 9), .ref (b 10), .ref (b 11), .ref (b 12), .ref (b 13), .ref (b 14)])), (b 6, .inl (tA 0, 250, .inl (nF tx)))] rfl (fun H locs hP hD hS => ?_)
              refine lv_aload_n hx hb dX9_scans_235 rfl (lv_at hl 0 rfl) ?_
              refine lv_dup hx hb dX9_scans_236 rfl ?_
              refine va_get (D := G) (ci := 7) (C := RX9) (T := TX9) (N := 23) hx hb hts iX9 hown hKK.1 hP 0 rfl rfl 10 (by decide) f117 (fun _ h9 => h9) rfl dX9_scans_237 ?_
              refine lv_iconst (v := nI 1) hx hb dX9_scans_240 (by decide) ?_
              refine nv_iadd hx hb dX9_scans_241 ?_
              refine nv_put (D := G) (ci := 7) (v := .int (nI (a3 + 1))) (ty := (tyX9 10)) (C := RX9) (T := TX9) (N := 23) hx hb hts iX9 tyX9 tyX9_ok nmX9 hown hKK.1 hP hD hS 0 rfl rfl 10 (by decide) f117 (fun _ h9 => h9) rfl (by decide +kernel) rfl rfl (Nat.le_of_ble_eq_true rfl) dX9_scans_242 [(b 0, .inr (7, [.ref (b 1), .ref (b 2), .ref (b 3), .ref (b 4), .ref (b 5), .int (nI qu), .long ab, .long bl, .ref (b 6), .int (nI tyd), .int (nI (a3 + 1)), .int (nI a1), .int (nI tok), .int (nI vv), .ref (b 7), .int (nI man), .ref (b 8), .ref (b 9), .ref (b 10), .ref (b 11), .ref (b 12), .ref (b 13), .ref (b 14)])), (b 6, .inl (tA 0, 250, .inl (nF tx)))] rfl (fun H locs hP hD hS => ?_)
              refine lv_goto (tgt := 180) hx hb dX9_scans_245 (by decide) ?_
              exact ih_37 (a3 + 1, vv) (show tyd - (a3 + 1) < tyd - a3 from by omega) ⟨(show a1 ≤ (a3 + 1) ∧ (a3 + 1) ≤ tyd from ⟨by omega, by omega⟩), (show ruE tx tyd 48 57 (a3 + 1) = ruE tx tyd 48 57 a1 from by rw [ruE_1 (by omega), hr3]), (show vv = nuS tx a1 ((a3 + 1) - a1) from by rw [show a3 + 1 - a1 = (a3 - a1) + 1 from by omega, nuS_s, ← hv3, show a1 + (a3 - a1) = a3 from by omega]; first | rw [if_pos (by omega)] | rw [if_neg (by omega)]), (show ((a3 + 1) = a1 → vv < 1) ∧ ((a3 + 1) = a1 + 1 → vv < 10) ∧ ((a3 + 1) = a1 + 2 → vv < 100) ∧ vv < 1000 from ⟨by omega, by omega, by omega, by omega⟩)⟩ _ _ _ (lv_sub hl [0] rfl) hP hD hS
            · refine lv_bipush (v := nI 10) hx hb dX9_scans_205 (by decide +kernel) ?_
              refine lv_aload_n hx hb dX9_scans_207 rfl (lv_at hl 0 rfl) ?_
              refine va_get (D := G) (ci := 7) (C := RX9) (T := TX9) (N := 23) hx hb hts iX9 hown hKK.1 hP 0 rfl rfl 13 (by decide) f148 (fun _ h9 => h9) rfl dX9_scans_208 ?_
              refine nv_imul hx hb dX9_scans_211 ?_
              refine lv_aload_n hx hb dX9_scans_212 rfl (lv_at hl 0 rfl) ?_
              refine va_get (D := G) (ci := 7) (C := RX9) (T := TX9) (N := 23) hx hb hts iX9 hown hKK.1 hP 0 rfl rfl 8 (by decide) f26 (fun _ h9 => h9) rfl dX9_scans_213 ?_
              refine lv_aload_n hx hb dX9_scans_216 rfl (lv_at hl 0 rfl) ?_
              refine va_get (D := G) (ci := 7) (C := RX9) (T := TX9) (N := 23) hx hb hts iX9 hown hKK.1 hP 0 rfl rfl 10 (by decide) f117 (fun _ h9 => h9) rfl dX9_scans_217 ?_
              refine nv_iald (i := a3) hx hb hKK.1 hP 1 0 rfl rfl (by omega) (by decide) dX9_scans_220 ?_
              have b_44 := hbx a3
              refine nv_iadd hx hb dX9_scans_221 ?_
              refine lv_bipush (v := nI 48) hx hb dX9_scans_222 (by decide +kernel) ?_
              refine nv_isub (show 48 ≤ (10 * vv) + (tx a3) from by omega) hx hb dX9_scans_224 ?_
              refine lv_goto (tgt := 232) hx hb dX9_scans_225 (by decide) ?_
              refine nv_put (D := G) (ci := 7) (v := .int (nI (((10 * vv) + (tx a3)) - 48))) (ty := (tyX9 13)) (C := RX9) (T := TX9) (N := 23) hx hb hts iX9 tyX9 tyX9_ok nmX9 hown hKK.1 hP hD hS 0 rfl rfl 13 (by decide) f148 (fun _ h9 => h9) rfl (by decide +kernel) rfl rfl (Nat.le_of_ble_eq_true rfl) dX9_scans_232 [(b 0, .inr (7, [.ref (b 1), .ref (b 2), .ref (b 3), .ref (b 4), .ref (b 5), .int (nI qu), .long ab, .long bl, .ref (b 6), .int (nI tyd), .int (nI a3), .int (nI a1), .int (nI tok), .int (nI (((10 * vv) + (tx a3)) - 48)), .ref (b 7), .int (nI man), .ref (b 8), .ref (b 9), .ref (b 10), .ref (b 11), .ref (b 12), .ref (b 13), .ref (b 14)])), (b 6, .inl (tA 0, 250, .inl (nF tx)))] rfl (fun H locs hP hD hS => ?_)
              refine lv_aload_n hx hb dX9_scans_235 rfl (lv_at hl 0 rfl) ?_
              refine lv_dup hx hb dX9_scans_236 rfl ?_
              refine va_get (D := G) (ci := 7) (C := RX9) (T := TX9) (N := 23) hx hb hts iX9 hown hKK.1 hP 0 rfl rfl 10 (by decide) f117 (fun _ h9 => h9) rfl dX9_scans_237 ?_
              refine lv_iconst (v := nI 1) hx hb dX9_scans_240 (by decide) ?_
              refine nv_iadd hx hb dX9_scans_241 ?_
              refine nv_put (D := G) (ci := 7) (v := .int (nI (a3 + 1))) (ty := (tyX9 10)) (C := RX9) (T := TX9) (N := 23) hx hb hts iX9 tyX9 tyX9_ok nmX9 hown hKK.1 hP hD hS 0 rfl rfl 10 (by decide) f117 (fun _ h9 => h9) rfl (by decide +kernel) rfl rfl (Nat.le_of_ble_eq_true rfl) dX9_scans_242 [(b 0, .inr (7, [.ref (b 1), .ref (b 2), .ref (b 3), .ref (b 4), .ref (b 5), .int (nI qu), .long ab, .long bl, .ref (b 6), .int (nI tyd), .int (nI (a3 + 1)), .int (nI a1), .int (nI tok), .int (nI (((10 * vv) + (tx a3)) - 48)), .ref (b 7), .int (nI man), .ref (b 8), .ref (b 9), .ref (b 10), .ref (b 11), .ref (b 12), .ref (b 13), .ref (b 14)])), (b 6, .inl (tA 0, 250, .inl (nF tx)))] rfl (fun H locs hP hD hS => ?_)
              refine lv_goto (tgt := 180) hx hb dX9_scans_245 (by decide) ?_
              exact ih_37 (a3 + 1, ((10 * vv) + (tx a3)) - 48) (show tyd - (a3 + 1) < tyd - a3 from by omega) ⟨(show a1 ≤ (a3 + 1) ∧ (a3 + 1) ≤ tyd from ⟨by omega, by omega⟩), (show ruE tx tyd 48 57 (a3 + 1) = ruE tx tyd 48 57 a1 from by rw [ruE_1 (by omega), hr3]), (show (((10 * vv) + (tx a3)) - 48) = nuS tx a1 ((a3 + 1) - a1) from by rw [show a3 + 1 - a1 = (a3 - a1) + 1 from by omega, nuS_s, ← hv3, show a1 + (a3 - a1) = a3 from by omega]; first | rw [if_pos (by omega)] | rw [if_neg (by omega)]), (show ((a3 + 1) = a1 → (((10 * vv) + (tx a3)) - 48) < 1) ∧ ((a3 + 1) = a1 + 1 → (((10 * vv) + (tx a3)) - 48) < 10) ∧ ((a3 + 1) = a1 + 2 → (((10 * vv) + (tx a3)) - 48) < 100) ∧ (((10 * vv) + (tx a3)) - 48) < 1000 from ⟨by omega, by omega, by omega, by omega⟩)⟩ _ _ _ (lv_sub hl [0] rfl) hP hD hS
          · have p_41 : ¬ (a3 < tyd ∧ 48 ≤ tx a3 ∧ tx a3 ≤ 57) := p_41
            refine nv_if_eq (tgt := 248) (by omega) hx hb dX9_scans_188 (by decide) (fun _ => ?_) (fun h => absurd h (by omega))
            refine lv_aload_n hx hb dX9_scans_248 rfl (lv_at hl 0 rfl) ?_
            refine lv_aload_n hx hb dX9_scans_249 rfl (lv_at hl 0 rfl) ?_
            refine va_get (D := G) (ci := 7) (C := RX9) (T := TX9) (N := 23) hx hb hts iX9 hown hKK.1 hP 0 rfl rfl 10 (by decide) f117 (fun _ h9 => h9) rfl dX9_scans_250 ?_
            refine lv_aload_n hx hb dX9_scans_253 rfl (lv_at hl 0 rfl) ?_
            refine va_get (D := G) (ci := 7) (C := RX9) (T := TX9) (N := 23) hx hb hts iX9 hown hKK.1 hP 0 rfl rfl 11 (by decide) f134 (fun _ h9 => h9) rfl dX9_scans_254 ?_
            refine nv_isub (show a1 ≤ a3 from by omega) hx hb dX9_scans_257 ?_
            refine lv_iconst (v := nI 3) hx hb dX9_scans_258 (by decide) ?_
            refine nv_icmp_le (tgt := 266) (by omega) (by omega) hx hb dX9_scans_259 (by decide) (fun c_46 => ?_) (fun c_46 => ?_)
            · refine lv_iconst (v := nI 2) hx hb dX9_scans_266 (by decide) ?_
              refine nv_put (D := G) (ci := 7) (v := .int (nI 2)) (ty := (tyX9 12)) (C := RX9) (T := TX9) (N := 23) hx hb hts iX9 tyX9 tyX9_ok nmX9 hown hKK.1 hP hD hS 0 rfl rfl 12 (by decide) f137 (fun _ h9 => h9) rfl (by decide +kernel) rfl rfl (Nat.le_of_ble_eq_true rfl) dX9_scans_267 [(b 0, .inr (7, [.ref (b 1), .ref (b 2), .ref (b 3), .ref (b 4), .ref (b 5), .int (nI qu), .long ab, .long bl, .ref (b 6), .int (nI tyd), .int (nI a3), .int (nI a1), .int (nI 2), .int (nI vv), .ref (b 7), .int (nI man), .ref (b 8), .ref (b 9), .ref (b 10), .ref (b 11), .ref (b 12), .ref (b 13), .ref (b 14)])), (b 6, .inl (tA 0, 250, .inl (nF tx)))] rfl (fun H locs hP hD hS => ?_)
              exact retV hx hb hr hlocks hS hP hD () (by rw [hsc]; dsimp only; obtain ⟨q1, q2, q3⟩ := sc_2 val (show a1 < tyd ∧ 48 ≤ tx a1 ∧ tx a1 ≤ 57 from by omega) (show ruE tx tyd 48 57 a1 = a3 from by rw [← hr3]; exact ruE_2 (by omega)); rw [q1, q2, q3]; rw [← hv3]; first | rw [if_pos (by omega)] | rw [if_neg (by omega)]) (by rw [hsc]; dsimp only; obtain ⟨q1, q2, q3⟩ := sc_2 val (show a1 < tyd ∧ 48 ≤ tx a1 ∧ tx a1 ≤ 57 from by omega) (show ruE tx tyd 48 57 a1 = a3 from by rw [← hr3]; exact ruE_2 (by omega)); rw [q1, q2, q3]; have hne9 : ¬ a3 = a1 := (by intro z; subst z; omega); refine ⟨?_, ?_, ?_, ?_, ?_, ?_, ?_⟩ <;> (try split) <;> omega) dX9_scans_270
            · refine lv_iconst (v := nI 1) hx hb dX9_scans_262 (by decide) ?_
              refine lv_goto (tgt := 267) hx hb dX9_scans_263 (by decide) ?_
              refine nv_put (D := G) (ci := 7) (v := .int (nI 1)) (ty := (tyX9 12)) (C := RX9) (T := TX9) (N := 23) hx hb hts iX9 tyX9 tyX9_ok nmX9 hown hKK.1 hP hD hS 0 rfl rfl 12 (by decide) f137 (fun _ h9 => h9) rfl (by decide +kernel) rfl rfl (Nat.le_of_ble_eq_true rfl) dX9_scans_267 [(b 0, .inr (7, [.ref (b 1), .ref (b 2), .ref (b 3), .ref (b 4), .ref (b 5), .int (nI qu), .long ab, .long bl, .ref (b 6), .int (nI tyd), .int (nI a3), .int (nI a1), .int (nI 1), .int (nI vv), .ref (b 7), .int (nI man), .ref (b 8), .ref (b 9), .ref (b 10), .ref (b 11), .ref (b 12), .ref (b 13), .ref (b 14)])), (b 6, .inl (tA 0, 250, .inl (nF tx)))] rfl (fun H locs hP hD hS => ?_)
              exact retV hx hb hr hlocks hS hP hD () (by rw [hsc]; dsimp only; obtain ⟨q1, q2, q3⟩ := sc_2 val (show a1 < tyd ∧ 48 ≤ tx a1 ∧ tx a1 ≤ 57 from by omega) (show ruE tx tyd 48 57 a1 = a3 from by rw [← hr3]; exact ruE_2 (by omega)); rw [q1, q2, q3]; rw [← hv3]; first | rw [if_pos (by omega)] | rw [if_neg (by omega)]) (by rw [hsc]; dsimp only; obtain ⟨q1, q2, q3⟩ := sc_2 val (show a1 < tyd ∧ 48 ≤ tx a1 ∧ tx a1 ≤ 57 from by omega) (show ruE tx tyd 48 57 a1 = a3 from by rw [← hr3]; exact ruE_2 (by omega)); rw [q1, q2, q3]; have hne9 : ¬ a3 = a1 := (by intro z; subst z; omega); refine ⟨?_, ?_, ?_, ?_, ?_, ?_, ?_⟩ <;> (try split) <;> omega) dX9_scans_270
        · have p_35 : ¬ (a1 < tyd ∧ 48 ≤ tx a1 ∧ tx a1 ≤ 57) := p_35
          refine nv_if_eq (tgt := 271) (by omega) hx hb dX9_scans_172 (by decide) (fun _ => ?_) (fun h => absurd h (by omega))
          refine lv_aload_n hx hb dX9_scans_271 rfl (lv_at hl 0 rfl) ?_
          refine lv_aload_n hx hb dX9_scans_272 rfl (lv_at hl 0 rfl) ?_
          refine lv_bipush (v := nI 59) hx hb dX9_scans_273 (by decide +kernel) ?_
          refine lv_bipush (v := nI 59) hx hb dX9_scans_275 (by decide +kernel) ?_
          refine roI hP hD hS hA [0, 1] rfl (runV (As := [.int (nI 59), .int (nI 59)]) (rest := [.ref (b 0)]) (isC := [0, 1]) ⟨hx, hb, hml, hown, hts⟩ hKK hP hD rfl (by decide) (c_X9_isAt l G tA b qu ab bl tyd a1 a1 tok val man tx 59 59 (by first | assumption | omega) (by omega) (by first | assumption | omega) (by first | assumption | omega) (by first | assumption | omega) _) (cwV 2 hts gX9_scans_X9_isAt rfl rfl rfl (by decide +kernel) ⟨Nat.le_of_ble_eq_true rfl, Nat.le_of_ble_eq_true rfl⟩) rfl rfl rfl rfl hl.1 rfl (lv_room (Nat.le_of_ble_eq_true rfl)) dX9_scans_277 ⟨Nat.le_of_ble_eq_true rfl, Nat.le_of_ble_eq_true rfl⟩) (fun _ => rfl) (fun r_48 u_49 H locs q_50 hP hS => ?_)
          rcases q_50 with ⟨rfl, p_51⟩ | ⟨rfl, p_51⟩
          · have p_51 : a1 < tyd ∧ 59 ≤ tx a1 ∧ tx a1 ≤ 59 := p_51
            refine nv_if_eq (tgt := 287) (by omega) hx hb dX9_scans_280 (by decide) (fun h => absurd h (by omega)) (fun _ => ?_)
            refine lv_iconst (v := nI 3) hx hb dX9_scans_283 (by decide) ?_
            refine lv_goto (tgt := 288) hx hb dX9_scans_284 (by decide) ?_
            refine nv_put (D := G) (ci := 7) (v := .int (nI 3)) (ty := (tyX9 12)) (C := RX9) (T := TX9) (N := 23) hx hb hts iX9 tyX9 tyX9_ok nmX9 hown hKK.1 hP hD hS 0 rfl rfl 12 (by decide) f137 (fun _ h9 => h9) rfl (by decide +kernel) rfl rfl (Nat.le_of_ble_eq_true rfl) dX9_scans_288 [(b 0, .inr (7, [.ref (b 1), .ref (b 2), .ref (b 3), .ref (b 4), .ref (b 5), .int (nI qu), .long ab, .long bl, .ref (b 6), .int (nI tyd), .int (nI a1), .int (nI a1), .int (nI 3), .int (nI val), .ref (b 7), .int (nI man), .ref (b 8), .ref (b 9), .ref (b 10), .ref (b 11), .ref (b 12), .ref (b 13), .ref (b 14)])), (b 6, .inl (tA 0, 250, .inl (nF tx)))] rfl (fun H locs hP hD hS => ?_)
            refine lv_aload_n hx hb dX9_scans_291 rfl (lv_at hl 0 rfl) ?_
            refine lv_dup hx hb dX9_scans_292 rfl ?_
            refine va_get (D := G) (ci := 7) (C := RX9) (T := TX9) (N := 23) hx hb hts iX9 hown hKK.1 hP 0 rfl rfl 10 (by decide) f117 (fun _ h9 => h9) rfl dX9_scans_293 ?_
            refine lv_iconst (v := nI 1) hx hb dX9_scans_296 (by decide) ?_
            refine nv_iadd hx hb dX9_scans_297 ?_
            refine nv_put (D := G) (ci := 7) (v := .int (nI (a1 + 1))) (ty := (tyX9 10)) (C := RX9) (T := TX9) (N := 23) hx hb hts iX9 tyX9 tyX9_ok nmX9 hown hKK.1 hP hD hS 0 rfl rfl 10 (by decide) f117 (fun _ h9 => h9) rfl (by decide +kernel) rfl rfl (Nat.le_of_ble_eq_true rfl) dX9_scans_298 [(b 0, .inr (7, [.ref (b 1), .ref (b 2), .ref (b 3), .ref (b 4), .ref (b 5), .int (nI qu), .long ab, .long bl, .ref (b 6), .int (nI tyd), .int (nI (a1 + 1)), .int (nI a1), .int (nI 3), .int (nI val), .ref (b 7), .int (nI man), .ref (b 8), .ref (b 9), .ref (b 10), .ref (b 11), .ref (b 12), .ref (b 13), .ref (b 14)])), (b 6, .inl (tA 0, 250, .inl (nF tx)))] rfl (fun H locs hP hD hS => ?_)
            exact retV hx hb hr hlocks hS hP hD () (by rw [hsc]; dsimp only; obtain ⟨q1, q2, q3⟩ := sc_3 val (show ¬ a1 = tyd from by omega) (show ¬ (97 ≤ tx a1 ∧ tx a1 ≤ 122) from by omega) (show ¬ (48 ≤ tx a1 ∧ tx a1 ≤ 57) from by omega); rw [q1, q2, q3]; first | rw [if_pos (by omega)] | rw [if_neg (by omega)]) (by rw [hsc]; dsimp only; obtain ⟨q1, q2, q3⟩ := sc_3 val (show ¬ a1 = tyd from by omega) (show ¬ (97 ≤ tx a1 ∧ tx a1 ≤ 122) from by omega) (show ¬ (48 ≤ tx a1 ∧ tx a1 ≤ 57) from by omega); rw [q1, q2, q3]; refine ⟨?_, ?_, ?_, ?_, ?_, ?_, ?_⟩ <;> (try split) <;> omega) dX9_scans_301
          · have p_51 : ¬ (a1 < tyd ∧ 59 ≤ tx a1 ∧ tx a1 ≤ 59) := p_51
            refine nv_if_eq (tgt := 287) (by omega) hx hb dX9_scans_280 (by decide) (fun _ => ?_) (fun h => absurd h (by omega))
            refine lv_iconst (v := nI 1) hx hb dX9_scans_287 (by decide) ?_
            refine nv_put (D := G) (ci := 7) (v := .int (nI 1)) (ty := (tyX9 12)) (C := RX9) (T := TX9) (N := 23) hx hb hts iX9 tyX9 tyX9_ok nmX9 hown hKK.1 hP hD hS 0 rfl rfl 12 (by decide) f137 (fun _ h9 => h9) rfl (by decide +kernel) rfl rfl (Nat.le_of_ble_eq_true rfl) dX9_scans_288 [(b 0, .inr (7, [.ref (b 1), .ref (b 2), .ref (b 3), .ref (b 4), .ref (b 5), .int (nI qu), .long ab, .long bl, .ref (b 6), .int (nI tyd), .int (nI a1), .int (nI a1), .int (nI 1), .int (nI val), .ref (b 7), .int (nI man), .ref (b 8), .ref (b 9), .ref (b 10), .ref (b 11), .ref (b 12), .ref (b 13), .ref (b 14)])), (b 6, .inl (tA 0, 250, .inl (nF tx)))] rfl (fun H locs hP hD hS => ?_)
            refine lv_aload_n hx hb dX9_scans_291 rfl (lv_at hl 0 rfl) ?_
            refine lv_dup hx hb dX9_scans_292 rfl ?_
            refine va_get (D := G) (ci := 7) (C := RX9) (T := TX9) (N := 23) hx hb hts iX9 hown hKK.1 hP 0 rfl rfl 10 (by decide) f117 (fun _ h9 => h9) rfl dX9_scans_293 ?_
            refine lv_iconst (v := nI 1) hx hb dX9_scans_296 (by decide) ?_
            refine nv_iadd hx hb dX9_scans_297 ?_
            refine nv_put (D := G) (ci := 7) (v := .int (nI (a1 + 1))) (ty := (tyX9 10)) (C := RX9) (T := TX9) (N := 23) hx hb hts iX9 tyX9 tyX9_ok nmX9 hown hKK.1 hP hD hS 0 rfl rfl 10 (by decide) f117 (fun _ h9 => h9) rfl (by decide +kernel) rfl rfl (Nat.le_of_ble_eq_true rfl) dX9_scans_298 [(b 0, .inr (7, [.ref (b 1), .ref (b 2), .ref (b 3), .ref (b 4), .ref (b 5), .int (nI qu), .long ab, .long bl, .ref (b 6), .int (nI tyd), .int (nI (a1 + 1)), .int (nI a1), .int (nI 1), .int (nI val), .ref (b 7), .int (nI man), .ref (b 8), .ref (b 9), .ref (b 10), .ref (b 11), .ref (b 12), .ref (b 13), .ref (b 14)])), (b 6, .inl (tA 0, 250, .inl (nF tx)))] rfl (fun H locs hP hD hS => ?_)
            exact retV hx hb hr hlocks hS hP hD () (by rw [hsc]; dsimp only; obtain ⟨q1, q2, q3⟩ := sc_3 val (show ¬ a1 = tyd from by omega) (show ¬ (97 ≤ tx a1 ∧ tx a1 ≤ 122) from by omega) (show ¬ (48 ≤ tx a1 ∧ tx a1 ≤ 57) from by omega); rw [q1, q2, q3]; first | rw [if_pos (by omega)] | rw [if_neg (by omega)]) (by rw [hsc]; dsimp only; obtain ⟨q1, q2, q3⟩ := sc_3 val (show ¬ a1 = tyd from by omega) (show ¬ (97 ≤ tx a1 ∧ tx a1 ≤ 122) from by omega) (show ¬ (48 ≤ tx a1 ∧ tx a1 ≤ 57) from by omega); rw [q1, q2, q3]; refine ⟨?_, ?_, ?_, ?_, ?_, ?_, ?_⟩ <;> (try split) <;> omega) dX9_scans_301
    · refine lv_aload_n hx hb dX9_scans_43 rfl (lv_at hl 0 rfl) ?_
      refine lv_iconst (v := nI 0) hx hb dX9_scans_44 (by decide) ?_
      refine nv_put (D := G) (ci := 7) (v := .int (nI 0)) (ty := (tyX9 12)) (C := RX9) (T := TX9) (N := 23) hx hb hts iX9 tyX9 tyX9_ok nmX9 hown hKK.1 hP hD hS 0 rfl rfl 12 (by decide) f137 (fun _ h9 => h9) rfl (by decide +kernel) rfl rfl (Nat.le_of_ble_eq_true rfl) dX9_scans_45 [(b 0, .inr (7, [.ref (b 1), .ref (b 2), .ref (b 3), .ref (b 4), .ref (b 5), .int (nI qu), .long ab, .long bl, .ref (b 6), .int (nI tyd), .int (nI a1), .int (nI a1), .int (nI 0), .int (nI val), .ref (b 7), .int (nI man), .ref (b 8), .ref (b 9), .ref (b 10), .ref (b 11), .ref (b 12), .ref (b 13), .ref (b 14)])), (b 6, .inl (tA 0, 250, .inl (nF tx)))] rfl (fun H locs hP hD hS => ?_)
      exact retV hx hb hr hlocks hS hP hD () (by rw [hsc]; dsimp only; obtain ⟨q1, q2, q3⟩ := sc_0 val (show a1 = tyd from by omega); rw [q1, q2, q3]) (by rw [hsc]; dsimp only; obtain ⟨q1, q2, q3⟩ := sc_0 val (show a1 = tyd from by omega); rw [q1, q2, q3]; refine ⟨?_, ?_, ?_, ?_, ?_, ?_, ?_⟩ <;> (try split) <;> omega) dX9_scans_48

def nuV (vb : Nat) : Nat := if vb < 2 then 3 else if vb < 4 then 4 else 2
theorem nuV_ge (vb : Nat) : 2 ≤ nuV vb ∧ nuV vb ≤ 4 := by unfold nuV; (repeat' split) <;> omega
def nmS (tx : Nat → Nat) (tyd m : Nat) : Nat → Nat → (Nat × Nat × Nat × Nat) → (Nat → Nat) → Bool × (Nat × Nat × Nat × Nat) × (Nat → Nat)
  | 0, _, r, I => (true, r, I)
  | j + 1, k, r, I => if r.2.2.1 ≠ 2 then (false, r, I) else nmS tx tyd m j (k + 1) (scN tx tyd r.1 r.2.2.2) (updN I (5 * m + 1 + k) r.2.2.2)
def rdS (tx : Nat → Nat) (tyd : Nat) : Nat → (Nat × Nat × Nat × Nat) → Nat → (Nat → Nat) → Bool × (Nat × Nat × Nat × Nat) × Nat × (Nat → Nat)
  | 0, r, m, I => (true, r, m, I)
  | f + 1, r, m, I => if r.2.2.1 = 0 then (true, r, m, I) else if r.2.2.1 < 4 then (false, r, m, I) else
    (fun z : Bool × (Nat × Nat × Nat × Nat) × (Nat → Nat) => if z.1 = false then (false, z.2.1, m, z.2.2) else if z.2.1.2.2.1 ≠ 3 then (false, z.2.1, m, z.2.2) else rdS tx tyd f (scN tx tyd z.2.1.1 z.2.1.2.2.2) (m + 1) z.2.2) (nmS tx tyd m (nuV (r.2.2.1 - 4)) 0 (scN tx tyd r.1 r.2.2.2) (updN I (5 * m) (r.2.2.1 - 4)))
theorem nmS_0 (tx : Nat → Nat) (tyd m k : Nat) (r : Nat × Nat × Nat × Nat) (I : Nat → Nat) : nmS tx tyd m 0 k r I = (true, r, I) := rfl
theorem nmS_1 (tx : Nat → Nat) (tyd m j k : Nat) {r : Nat × Nat × Nat × Nat} (I : Nat → Nat) (h : r.2.2.1 ≠ 2) : nmS tx tyd m (j + 1) k r I = (false, r, I) := if_pos h
theorem nmS_2 (tx : Nat → Nat) (tyd m j k : Nat) {r : Nat × Nat × Nat × Nat} (I : Nat → Nat) (h : r.2.2.1 = 2) : nmS tx tyd m (j + 1) k r I = nmS tx tyd m j (k + 1) (scN tx tyd r.1 r.2.2.2) (updN I (5 * m + 1 + k) r.2.2.2) := if_neg (fun z => z h)
theorem rdS_0 (tx : Nat → Nat) (tyd f m : Nat) {r : Nat × Nat × Nat × Nat} (I : Nat → Nat) (h : r.2.2.1 = 0) : rdS tx tyd (f + 1) r m I = (true, r, m, I) := if_pos h
theorem rdS_1 (tx : Nat → Nat) (tyd f m : Nat) {r : Nat × Nat × Nat × Nat} (I : Nat → Nat) (h : r.2.2.1 ≠ 0) (h2 : r.2.2.1 < 4) : rdS tx tyd (f + 1) r m I = (false, r, m, I) := (if_neg h).trans (if_pos h2)
theorem rdS_2 (tx : Nat → Nat) (tyd f m : Nat) {r s9 : Nat × Nat × Nat × Nat} {I J : Nat → Nat} (h2 : 4 ≤ r.2.2.1) (e : nmS tx tyd m (nuV (r.2.2.1 - 4)) 0 (scN tx tyd r.1 r.2.2.2) (updN I (5 * m) (r.2.2.1 - 4)) = (false, s9, J)) : rdS tx tyd (f + 1) r m I = (false, s9, m, J) := by
  refine (if_neg (by omega)).trans ((if_neg (by omega)).trans ?_)
  rw [e]; rfl
theorem rdS_3 (tx : Nat → Nat) (tyd f m : Nat) {r s9 : Nat × Nat × Nat × Nat} {I J : Nat → Nat} (h2 : 4 ≤ r.2.2.1) (e : nmS tx tyd m (nuV (r.2.2.1 - 4)) 0 (scN tx tyd r.1 r.2.2.2) (updN I (5 * m) (r.2.2.1 - 4)) = (true, s9, J)) (h3 : s9.2.2.1 ≠ 3) : rdS tx tyd (f + 1) r m I = (false, s9, m, J) := by
  refine (if_neg (by omega)).trans ((if_neg (by omega)).trans ?_)
  rw [e]
  exact if_pos h3
theorem rdS_4 (tx : Nat → Nat) (tyd f m : Nat) {r s9 : Nat × Nat × Nat × Nat} {I J : Nat → Nat} (h2 : 4 ≤ r.2.2.1) (e : nmS tx tyd m (nuV (r.2.2.1 - 4)) 0 (scN tx tyd r.1 r.2.2.2) (updN I (5 * m) (r.2.2.1 - 4)) = (true, s9, J)) (h3 : s9.2.2.1 = 3) : rdS tx tyd (f + 1) r m I = rdS tx tyd f (scN tx tyd s9.1 s9.2.2.2) (m + 1) J := by
  refine (if_neg (by omega)).trans ((if_neg (by omega)).trans ?_)
  rw [e]
  exact if_neg (show ¬ (s9.2.2.1 ≠ 3) from fun z => z h3)
theorem sb4 {y : Nat} (h : 4 ≤ y) : nI y - nI 4 = nI (y - 4) := by
  obtain ⟨z, rfl⟩ : ∃ z, y = z + 4 := ⟨y - 4, by omega⟩
  rw [Nat.add_sub_cancel, ← nI_add, Int32.add_sub_cancel]
theorem updN_lt9 {I : Nat → Nat} {k v N : Nat} (h : ∀ j, I j < N) (hv : v < N) : ∀ j, updN I k v j < N := by
  intro j
  unfold updN
  split
  · exact hv
  · exact h j

set_option maxHeartbeats 4000000 in
set_option maxRecDepth 100000 in
theorem c_X9_reads (l : Launch) (G : va_G) (tA : Nat → ClassId) (b : Nat → Nat) (qu : Nat) (ab : Int64) (bl : Int64) (tyd : Nat) (at0 : Nat) (sta : Nat) (tok : Nat) (val : Nat) (man : Nat) (tx : Nat → Nat) (itm : Nat → Nat) (hty : tyd ≤ 250) (hbx : ∀ j, tx j < 1048576) (hvl : val < 1048576) (hbi : ∀ j, itm j < 1048576) : CtI l yX9_reads wsX9_reads ({ frames := 3, cells := 0, slots := 0, locals := 69 }) G tA [.ref (b 0)] ([(b 0, .inr (7, [.ref (b 1), .ref (b 2), .ref (b 3), .ref (b 4), .ref (b 5), .int (nI qu), .long ab, .long bl, .ref (b 6), .int (nI tyd), .int (nI at0), .int (nI sta), .int (nI tok), .int (nI val), .ref (b 7), .int (nI man), .ref (b 8), .ref (b 9), .ref (b 10), .ref (b 11), .ref (b 12), .ref (b 13), .ref (b 14)])), (b 6, .inl (tA 0, 250, .inl (nF tx))), (b 7, .inl (tA 0, 500, .inl (nF itm)))]) (fun (r : Int32) (_ : Unit) => ((r = nI 1 ∧ ((rdS tx tyd 251 (scN tx tyd 0 val) 0 itm).1 = true)) ∨ (r = nI 0 ∧ ¬ ((rdS tx tyd 251 (scN tx tyd 0 val) 0 itm).1 = true))) ∧ (rdS tx tyd 251 (scN tx tyd 0 val) 0 itm).2.1.1 ≤ tyd ∧ (rdS tx tyd 251 (scN tx tyd 0 val) 0 itm).2.1.2.1 ≤ tyd ∧ (rdS tx tyd 251 (scN tx tyd 0 val) 0 itm).2.1.2.2.1 ≤ 8 ∧ (rdS tx tyd 251 (scN tx tyd 0 val) 0 itm).2.1.2.2.2 < 1048576 ∧ (rdS tx tyd 251 (scN tx tyd 0 val) 0 itm).2.2.1 ≤ 62 ∧ (∀ j, (rdS tx tyd 251 (scN tx tyd 0 val) 0 itm).2.2.2 j < 1048576)) (fun (_ : Unit) => [(b 0, .inr (7, [.ref (b 1), .ref (b 2), .ref (b 3), .ref (b 4), .ref (b 5), .int (nI qu), .long ab, .long bl, .ref (b 6), .int (nI tyd), .int (nI ((rdS tx tyd 251 (scN tx tyd 0 val) 0 itm).2.1.1)), .int (nI ((rdS tx tyd 251 (scN tx tyd 0 val) 0 itm).2.1.2.1)), .int (nI ((rdS tx tyd 251 (scN tx tyd 0 val) 0 itm).2.1.2.2.1)), .int (nI ((rdS tx tyd 251 (scN tx tyd 0 val) 0 itm).2.1.2.2.2)), .ref (b 7), .int (nI ((rdS tx tyd 251 (scN tx tyd 0 val) 0 itm).2.2.1)), .ref (b 8), .ref (b 9), .ref (b 10), .ref (b 11), .ref (b 12), .ref (b 13), .ref (b 14)])), (b 6, .inl (tA 0, 250, .inl (nF tx))), (b 7, .inl (tA 0, 500, .inl (nF ((rdS tx tyd 251 (scN tx tyd 0 val) 0 itm).2.2.2))))]) 0 0 := by
  refine enterI (cc := cX9_reads) (maxL := 3) (ret := (some .boolean)) (by decide) rfl (Nat.le_of_ble_eq_true rfl) ?_
  intro p0 e0 s m args below meth c0_ A ls hx hb hml hr hts hown hlocks hin hKK hA hP hD hl hS
  have hown : s.vm.findClass RX9 = some m.cls := hown
  have hl : lv_has ls 3 [(0, .ref (b 0))] := hl
  have f117 := hts (Cond.fieldLink RX9 117 "LentTermsModel" "at" "I") (List.mem_of_getElem? (i := 1) rfl)
  have iX9 : ∀ w ∈ wsX90, w ∈ wsX9_reads := by decide +kernel
  have f151 := hts (Cond.fieldLink RX9 151 "LentTermsModel" "many" "I") (List.mem_of_getElem? (i := 2) rfl)
  have f137 := hts (Cond.fieldLink RX9 137 "LentTermsModel" "token" "I") (List.mem_of_getElem? (i := 3) rfl)
  have f29 := hts (Cond.fieldLink RX9 29 "LentTermsModel" "items" "[I") (List.mem_of_getElem? (i := 4) rfl)
  have f148 := hts (Cond.fieldLink RX9 148 "LentTermsModel" "value" "I") (List.mem_of_getElem? (i := 5) rfl)
  refine lv_aload_n hx hb dX9_reads_0 rfl (lv_at hl 0 rfl) ?_
  refine lv_iconst (v := nI 0) hx hb dX9_reads_1 (by decide) ?_
  refine nv_put (D := G) (ci := 7) (v := .int (nI 0)) (ty := (tyX9 10)) (C := RX9) (T := TX9) (N := 23) hx hb hts iX9 tyX9 tyX9_ok nmX9 hown hKK.1 hP hD hS 0 rfl rfl 10 (by decide) f117 (fun _ h9 => h9) rfl (by decide +kernel) rfl rfl (Nat.le_of_ble_eq_true rfl) dX9_reads_2 [(b 0, .inr (7, [.ref (b 1), .ref (b 2), .ref (b 3), .ref (b 4), .ref (b 5), .int (nI qu), .long ab, .long bl, .ref (b 6), .int (nI tyd), .int (nI 0), .int (nI sta), .int (nI tok), .int (nI val), .ref (b 7), .int (nI man), .ref (b 8), .ref (b 9), .ref (b 10), .ref (b 11), .ref (b 12), .ref (b 13), .ref (b 14)])), (b 6, .inl (tA 0, 250, .inl (nF tx))), (b 7, .inl (tA 0, 500, .inl (nF itm)))] rfl (fun H locs hP hD hS => ?_)
  refine lv_aload_n hx hb dX9_reads_5 rfl (lv_at hl 0 rfl) ?_
  refine lv_iconst (v := nI 0) hx hb dX9_reads_6 (by decide) ?_
  refine nv_put (D := G) (ci := 7) (v := .int (nI 0)) (ty := (tyX9 15)) (C := RX9) (T := TX9) (N := 23) hx hb hts iX9 tyX9 tyX9_ok nmX9 hown hKK.1 hP hD hS 0 rfl rfl 15 (by decide) f151 (fun _ h9 => h9) rfl (by decide +kernel) rfl rfl (Nat.le_of_ble_eq_true rfl) dX9_reads_7 [(b 0, .inr (7, [.ref (b 1), .ref (b 2), .ref (b 3), .ref (b 4), .ref (b 5), .int (nI qu), .long ab, .long bl, .ref (b 6), .int (nI tyd), .int (nI 0), .int (nI sta), .int (nI tok), .int (nI val), .ref (b 7), .int (nI 0), .ref (b 8), .ref (b 9), .ref (b 10), .ref (b 11), .ref (b 12), .ref (b 13), .ref (b 14)])), (b 6, .inl (tA 0, 250, .inl (nF tx))), (b 7, .inl (tA 0, 500, .inl (nF itm)))] rfl (fun H locs hP hD hS => ?_)
  refine lv_aload_n hx hb dX9_reads_10 rfl (lv_at hl 0 rfl) ?_
  refine rwV hP hD hS hA [0, 1] rfl (runV (As := []) (rest := []) (isC := [0, 1]) ⟨hx, hb, hml, hown, hts⟩ hKK hP hD rfl (by decide) (c_X9_scans l G tA b qu ab bl tyd 0 sta tok val 0 tx (by first | assumption | omega) (by omega) (by first | assumption | omega) (by omega) _) (cwV 0 hts gX9_reads_X9_scans rfl rfl rfl (by decide +kernel) ⟨Nat.le_of_ble_eq_true rfl, Nat.le_of_ble_eq_true rfl⟩) rfl rfl rfl rfl hl.1 rfl (lv_room (Nat.le_of_ble_eq_true rfl)) dX9_reads_11 ⟨Nat.le_of_ble_eq_true rfl, Nat.le_of_ble_eq_true rfl⟩) (fun (_ : Unit) => [(b 0, .inr (7, [.ref (b 1), .ref (b 2), .ref (b 3), .ref (b 4), .ref (b 5), .int (nI qu), .long ab, .long bl, .ref (b 6), .int (nI tyd), .int (nI ((scN tx tyd 0 val).1)), .int (nI ((scN tx tyd 0 val).2.1)), .int (nI ((scN tx tyd 0 val).2.2.1)), .int (nI ((scN tx tyd 0 val).2.2.2)), .ref (b 7), .int (nI 0), .ref (b 8), .ref (b 9), .ref (b 10), .ref (b 11), .ref (b 12), .ref (b 13), .ref (b 14)])), (b 6, .inl (tA 0, 250, .inl (nF tx))), (b 7, .inl (tA 0, 500, .inl (nF itm)))]) (fun _ => rfl) (fun _ => rfl) (fun _ => rfl) (fun u_2 H locs q_3 hP hD hS => ?_)
  obtain ⟨e_4, e_5, e_6, e_7, e_8, e_9, e_10⟩ := q_3
  have e_4 : (scN tx tyd 0 val).1 ≤ tyd := e_4
  have e_5 : (scN tx tyd 0 val).2.2.1 ≤ 8 := e_5
  have e_6 : (scN tx tyd 0 val).2.2.2 < 1048576 := e_6
  have e_7 : 0 ≤ (scN tx tyd 0 val).2.1 := e_7
  have e_8 : 0 ≤ (scN tx tyd 0 val).1 := e_8
  have e_9 : (scN tx tyd 0 val).2.1 ≤ tyd := e_9
  have e_10 : (scN tx tyd 0 val).2.2.1 = 0 ∨ 0 + 1 ≤ (scN tx tyd 0 val).1 := e_10
  refine wloop (σ := (Nat × Nat × Nat × Nat) × (Nat) × (Nat → Nat) × (Nat)) (fun | (r9, m9, J9, f9) => tyd - r9.1) (fun | (r9, m9, J9, f9) => (r9.1 ≤ tyd ∧ r9.2.1 ≤ tyd ∧ r9.2.2.1 ≤ 8 ∧ r9.2.2.2 < 1048576) ∧ ((r9.2.2.1 = 0 ∨ 4 * m9 + 1 ≤ r9.1) ∧ m9 ≤ 62) ∧ (∀ j, J9 j < 1048576) ∧ (tyd < r9.1 + f9) ∧ (rdS tx tyd f9 r9 m9 J9 = (rdS tx tyd 251 (scN tx tyd 0 val) 0 itm))) (fun | (r9, m9, J9, f9) => [(0, .ref (b 0))]) (fun | (r9, m9, J9, f9) => [(b 0, .inr (7, [.ref (b 1), .ref (b 2), .ref (b 3), .ref (b 4), .ref (b 5), .int (nI qu), .long ab, .long bl, .ref (b 6), .int (nI tyd), .int (nI r9.1), .int (nI r9.2.1), .int (nI r9.2.2.1), .int (nI r9.2.2.2), .ref (b 7), .int (nI m9), .ref (b 8), .ref (b 9), .ref (b 10), .ref (b 11), .ref (b 12), .ref (b 13), .ref (b 14)])), (b 6, .inl (tA 0, 250, .inl (nF tx))), (b 7, .inl (tA 0, 500, .inl (nF J9)))]) ((scN tx tyd 0 val), 0, itm, 251) ⟨(show (scN tx tyd 0 val).1 ≤ tyd ∧ (scN tx tyd 0 val).2.1 ≤ tyd ∧ (scN tx tyd 0 val).2.2.1 ≤ 8 ∧ (scN tx tyd 0 val).2.2.2 < 1048576 from ⟨by omega, by omega, by omega, by omega⟩), (show ((scN tx tyd 0 val).2.2.1 = 0 ∨ 4 * 0 + 1 ≤ (scN tx tyd 0 val).1) ∧ 0 ≤ 62 from ⟨by omega, by omega⟩), (show ∀ j, itm j < 1048576 from hbi), (show tyd < (scN tx tyd 0 val).1 + 251 from by omega), (show rdS tx tyd 251 (scN tx tyd 0 val) 0 itm = (rdS tx tyd 251 (scN tx tyd 0 val) 0 itm) from rfl)⟩ (lv_sub hl [0] rfl) hP hD hS ?_
  rintro ⟨r9, m9, J9, f9⟩ ⟨hr9, hm9, hJ9, hf9, hrd⟩ ih_11 ls H locs hl hP hD hS
  have hl : lv_has ls 3 [(0, .ref (b 0))] := hl
  have hP : va_P G vwCl [(b 0, .inr (7, [.ref (b 1), .ref (b 2), .ref (b 3), .ref (b 4), .ref (b 5), .int (nI qu), .long ab, .long bl, .ref (b 6), .int (nI tyd), .int (nI r9.1), .int (nI r9.2.1), .int (nI r9.2.2.1), .int (nI r9.2.2.2), .ref (b 7), .int (nI m9), .ref (b 8), .ref (b 9), .ref (b 10), .ref (b 11), .ref (b 12), .ref (b 13), .ref (b 14)])), (b 6, .inl (tA 0, 250, .inl (nF tx))), (b 7, .inl (tA 0, 500, .inl (nF J9)))] H := hP
  have hD : va_D A [(b 0, .inr (7, [.ref (b 1), .ref (b 2), .ref (b 3), .ref (b 4), .ref (b 5), .int (nI qu), .long ab, .long bl, .ref (b 6), .int (nI tyd), .int (nI r9.1), .int (nI r9.2.1), .int (nI r9.2.2.1), .int (nI r9.2.2.2), .ref (b 7), .int (nI m9), .ref (b 8), .ref (b 9), .ref (b 10), .ref (b 11), .ref (b 12), .ref (b 13), .ref (b 14)])), (b 6, .inl (tA 0, 250, .inl (nF tx))), (b 7, .inl (tA 0, 500, .inl (nF J9)))] := hD
  have hr9 : r9.1 ≤ tyd ∧ r9.2.1 ≤ tyd ∧ r9.2.2.1 ≤ 8 ∧ r9.2.2.2 < 1048576 := hr9
  have hm9 : (r9.2.2.1 = 0 ∨ 4 * m9 + 1 ≤ r9.1) ∧ m9 ≤ 62 := hm9
  have hJ9 : ∀ j, J9 j < 1048576 := hJ9
  have hf9 : tyd < r9.1 + f9 := hf9
  have hrd : rdS tx tyd f9 r9 m9 J9 = (rdS tx tyd 251 (scN tx tyd 0 val) 0 itm) := hrd
  refine lv_aload_n hx hb dX9_reads_14 rfl (lv_at hl 0 rfl) ?_
  refine va_get (D := G) (ci := 7) (C := RX9) (T := TX9) (N := 23) hx hb hts iX9 hown hKK.1 hP 0 rfl rfl 12 (by decide) f137 (fun _ h9 => h9) rfl dX9_reads_15 ?_
  refine nv_if_eq (tgt := 126) (by omega) hx hb dX9_reads_18 (by decide) (fun c_12 => ?_) (fun c_12 => ?_)
  · refine lv_iconst (v := nI 1) hx hb dX9_reads_126 (by decide) ?_
    exact retZ (ty := .boolean) hx hb hr rfl hlocks hS hP hD () (by rw [(show (rdS tx tyd 251 (scN tx tyd 0 val) 0 itm) = (true, r9, m9, J9) from by rw [← hrd]; obtain ⟨f8, rfl⟩ : ∃ z, f9 = z + 1 := ⟨f9 - 1, by omega⟩; exact rdS_0 _ _ _ _ _ (by omega))]) (⟨Or.inl ⟨rfl, by rw [(show (rdS tx tyd 251 (scN tx tyd 0 val) 0 itm) = (true, r9, m9, J9) from by rw [← hrd]; obtain ⟨f8, rfl⟩ : ∃ z, f9 = z + 1 := ⟨f9 - 1, by omega⟩; exact rdS_0 _ _ _ _ _ (by omega))]⟩, by first | (rw [(show (rdS tx tyd 251 (scN tx tyd 0 val) 0 itm) = (false, r9, m9, J9) from by rw [← hrd]; obtain ⟨f8, rfl⟩ : ∃ z, f9 = z + 1 := ⟨f9 - 1, by omega⟩; exact rdS_1 _ _ _ _ _ (by omega) (by omega))]; exact ⟨by dsimp only; omega, by dsimp only; omega, by dsimp only; omega, by dsimp only; omega, by dsimp only; omega, hJ9⟩) | (rw [(show (rdS tx tyd 251 (scN tx tyd 0 val) 0 itm) = (false, s9, m9, K9) from by rw [← hrd]; obtain ⟨f8, rfl⟩ : ∃ z, f9 = z + 1 := ⟨f9 - 1, by omega⟩; exact rdS_2 tx tyd f8 m9 (by omega) (by rw [← hnm, show nuV (r9.2.2.1 - 4) - k9 = (nuV (r9.2.2.1 - 4) - (k9 + 1)) + 1 from by omega]; exact nmS_1 _ _ _ _ _ _ (by omega)))]; exact ⟨by dsimp only; omega, by dsimp only; omega, by dsimp only; omega, by dsimp only; omega, by dsimp only; omega, hK9⟩) | (rw [(show (rdS tx tyd 251 (scN tx tyd 0 val) 0 itm) = (false, s9, m9, K9) from by rw [← hrd]; obtain ⟨f8, rfl⟩ : ∃ z, f9 = z + 1 := ⟨f9 - 1, by omega⟩; exact rdS_3 tx tyd f8 m9 (by omega) (by rw [← hnm, show nuV (r9.2.2.1 - 4) - k9 = 0 from by omega]; exact nmS_0 _ _ _ _ _ _) (by omega))]; exact ⟨by dsimp only; omega, by dsimp only; omega, by dsimp only; omega, by dsimp only; omega, by dsimp only; omega, hK9⟩) | (rw [(show (rdS tx tyd 251 (scN tx tyd 0 val) 0 itm) = (true, r9, m9, J9) from by rw [← hrd]; obtain ⟨f8, rfl⟩ : ∃ z, f9 = z + 1 := ⟨f9 - 1, by omega⟩; exact rdS_0 _ _ _ _ _ (by omega))]; exact ⟨by dsimp only; omega, by dsimp only; omega, by dsimp only; omega, by dsimp only; omega, by dsimp only; omega, hJ9⟩)⟩) dX9_reads_127
  · refine lv_aload_n hx hb dX9_reads_21 rfl (lv_at hl 0 rfl) ?_
    refine va_get (D := G) (ci := 7) (C := RX9) (T := TX9) (N := 23) hx hb hts iX9 hown hKK.1 hP 0 rfl rfl 12 (by decide) f137 (fun _ h9 => h9) rfl dX9_reads_22 ?_
    refine lv_iconst (v := nI 4) hx hb dX9_reads_25 (by decide) ?_
    refine lv_isub hx hb dX9_reads_26 ?_
    refine lv_istore_n (lv' := [(1, .int ((nI r9.2.2.1) - (nI 4))), (0, .ref (b 0))]) hx hb dX9_reads_27 rfl hl (by decide) rfl (fun ls hl => ?_)
    refine lv_iload_n hx hb dX9_reads_28 rfl (lv_at hl 0 rfl) ?_
    refine zv_if_ge (tgt := 34) (X := ((r9.2.2.1 : Nat) : Int) - ((4 : Nat) : Int)) (pk_sub_toInt (by omega) (by omega)) hx hb dX9_reads_29 (by decide) (fun c_13 => ?_) (fun c_13 => ?_)
    · have hl : lv_has ls 3 [(1, .int (nI (r9.2.2.1 - 4))), (0, .ref (b 0))] := by rw [sb4 (by omega)] at hl; exact hl
      have hnv := nuV_ge (r9.2.2.1 - 4)
      refine lv_aload_n hx hb dX9_reads_34 rfl (lv_at hl 1 rfl) ?_
      refine va_get (D := G) (ci := 7) (C := RX9) (T := TX9) (N := 23) hx hb hts iX9 hown hKK.1 hP 0 rfl rfl 14 (by decide) f29 (fun _ h9 => h9) rfl dX9_reads_35 ?_
      refine lv_iconst (v := nI 5) hx hb dX9_reads_38 (by decide) ?_
      refine lv_aload_n hx hb dX9_reads_39 rfl (lv_at hl 1 rfl) ?_
      refine va_get (D := G) (ci := 7) (C := RX9) (T := TX9) (N := 23) hx hb hts iX9 hown hKK.1 hP 0 rfl rfl 15 (by decide) f151 (fun _ h9 => h9) rfl dX9_reads_40 ?_
      refine nv_imul hx hb dX9_reads_43 ?_
      refine lv_iload_n hx hb dX9_reads_44 rfl (lv_at hl 0 rfl) ?_
      refine nv_iast (i := 5 * m9) hx hb hKK.1 hP hD hS 2 0 rfl rfl (by omega) (by decide) dX9_reads_45 [(b 0, .inr (7, [.ref (b 1), .ref (b 2), .ref (b 3), .ref (b 4), .ref (b 5), .int (nI qu), .long ab, .long bl, .ref (b 6), .int (nI tyd), .int (nI r9.1), .int (nI r9.2.1), .int (nI r9.2.2.1), .int (nI r9.2.2.2), .ref (b 7), .int (nI m9), .ref (b 8), .ref (b 9), .ref (b 10), .ref (b 11), .ref (b 12), .ref (b 13), .ref (b 14)])), (b 6, .inl (tA 0, 250, .inl (nF tx))), (b 7, .inl (tA 0, 500, .inl (nF (updN J9 (5 * m9) (r9.2.2.1 - 4)))))] rfl (fun H locs hP hD hS => ?_)
      have B_14 := updN_lt hJ9 (5 * m9) (show r9.2.2.1 - 4 < 1048576 from by omega)
      refine lv_aload_n hx hb dX9_reads_46 rfl (lv_at hl 1 rfl) ?_
      refine rwV hP hD hS hA [0, 1] rfl (runV (As := []) (rest := []) (isC := [0, 1]) ⟨hx, hb, hml, hown, hts⟩ hKK hP hD rfl (by decide) (c_X9_scans l G tA b qu ab bl tyd r9.1 r9.2.1 r9.2.2.1 r9.2.2.2 m9 tx (by first | assumption | omega) (by omega) (by first | assumption | omega) (by omega) _) (cwV 0 hts gX9_reads_X9_scans rfl rfl rfl (by decide +kernel) ⟨Nat.le_of_ble_eq_true rfl, Nat.le_of_ble_eq_true rfl⟩) rfl rfl rfl rfl hl.1 rfl (lv_room (Nat.le_of_ble_eq_true rfl)) dX9_reads_47 ⟨Nat.le_of_ble_eq_true rfl, Nat.le_of_ble_eq_true rfl⟩) (fun (_ : Unit) => [(b 0, .inr (7, [.ref (b 1), .ref (b 2), .ref (b 3), .ref (b 4), .ref (b 5), .int (nI qu), .long ab, .long bl, .ref (b 6), .int (nI tyd), .int (nI ((scN tx tyd r9.1 r9.2.2.2).1)), .int (nI ((scN tx tyd r9.1 r9.2.2.2).2.1)), .int (nI ((scN tx tyd r9.1 r9.2.2.2).2.2.1)), .int (nI ((scN tx tyd r9.1 r9.2.2.2).2.2.2)), .ref (b 7), .int (nI m9), .ref (b 8), .ref (b 9), .ref (b 10), .ref (b 11), .ref (b 12), .ref (b 13), .ref (b 14)])), (b 6, .inl (tA 0, 250, .inl (nF tx))), (b 7, .inl (tA 0, 500, .inl (nF (updN J9 (5 * m9) (r9.2.2.1 - 4)))))]) (fun _ => rfl) (fun _ => rfl) (fun _ => rfl) (fun u_16 H locs q_17 hP hD hS => ?_)
      obtain ⟨e_18, e_19, e_20, e_21, e_22, e_23, e_24⟩ := q_17
      have e_18 : (scN tx tyd r9.1 r9.2.2.2).1 ≤ tyd := e_18
      have e_19 : (scN tx tyd r9.1 r9.2.2.2).2.2.1 ≤ 8 := e_19
      have e_20 : (scN tx tyd r9.1 r9.2.2.2).2.2.2 < 1048576 := e_20
      have e_21 : r9.1 ≤ (scN tx tyd r9.1 r9.2.2.2).2.1 := e_21
      have e_22 : r9.1 ≤ (scN tx tyd r9.1 r9.2.2.2).1 := e_22
      have e_23 : (scN tx tyd r9.1 r9.2.2.2).2.1 ≤ tyd := e_23
      have e_24 : (scN tx tyd r9.1 r9.2.2.2).2.2.1 = 0 ∨ r9.1 + 1 ≤ (scN tx tyd r9.1 r9.2.2.2).1 := e_24
      refine lv_iconst (v := nI 0) hx hb dX9_reads_50 (by decide) ?_
      refine lv_istore_n (lv' := [(2, .int (nI 0)), (1, .int (nI (r9.2.2.1 - 4))), (0, .ref (b 0))]) hx hb dX9_reads_51 rfl hl (by decide) rfl (fun ls hl => ?_)
      refine wloop (σ := (Nat) × (Nat × Nat × Nat × Nat) × (Nat → Nat)) (fun | (k9, s9, K9) => nuV (r9.2.2.1 - 4) - k9) (fun | (k9, s9, K9) => (k9 ≤ nuV (r9.2.2.1 - 4)) ∧ (s9.1 ≤ tyd ∧ s9.2.1 ≤ tyd ∧ s9.2.2.1 ≤ 8 ∧ s9.2.2.2 < 1048576) ∧ (r9.1 ≤ s9.1 ∧ (s9.2.2.1 = 0 ∨ r9.1 + k9 + 1 ≤ s9.1)) ∧ (∀ j, K9 j < 1048576) ∧ (nmS tx tyd m9 (nuV (r9.2.2.1 - 4) - k9) k9 s9 K9 = nmS tx tyd m9 (nuV (r9.2.2.1 - 4)) 0 (scN tx tyd r9.1 r9.2.2.2) (updN J9 (5 * m9) (r9.2.2.1 - 4)))) (fun | (k9, s9, K9) => [(2, .int (nI k9)), (1, .int (nI (r9.2.2.1 - 4))), (0, .ref (b 0))]) (fun | (k9, s9, K9) => [(b 0, .inr (7, [.ref (b 1), .ref (b 2), .ref (b 3), .ref (b 4), .ref (b 5), .int (nI qu), .long ab, .long bl, .ref (b 6), .int (nI tyd), .int (nI s9.1), .int (nI s9.2.1), .int (nI s9.2.2.1), .int (nI s9.2.2.2), .ref (b 7), .int (nI m9), .ref (b 8), .ref (b 9), .ref (b 10), .ref (b 11), .ref (b 12), .ref (b 13), .ref (b 14)])), (b 6, .inl (tA 0, 250, .inl (nF tx))), (b 7, .inl (tA 0, 500, .inl (nF K9)))]) (0, (scN tx tyd r9.1 r9.2.2.2), updN J9 (5 * m9) (r9.2.2.1 - 4)) ⟨(show 0 ≤ nuV (r9.2.2.1 - 4) from by omega), (show (scN tx tyd r9.1 r9.2.2.2).1 ≤ tyd ∧ (scN tx tyd r9.1 r9.2.2.2).2.1 ≤ tyd ∧ (scN tx tyd r9.1 r9.2.2.2).2.2.1 ≤ 8 ∧ (scN tx tyd r9.1 r9.2.2.2).2.2.2 < 1048576 from ⟨by omega, by omega, by omega, by omega⟩), (show r9.1 ≤ (scN tx tyd r9.1 r9.2.2.2).1 ∧ ((scN tx tyd r9.1 r9.2.2.2).2.2.1 = 0 ∨ r9.1 + 0 + 1 ≤ (scN tx tyd r9.1 r9.2.2.2).1) from ⟨by omega, by omega⟩), (show ∀ j, (updN J9 (5 * m9) (r9.2.2.1 - 4)) j < 1048576 from updN_lt9 hJ9 (by omega)), (show nmS tx tyd m9 (nuV (r9.2.2.1 - 4) - 0) 0 (scN tx tyd r9.1 r9.2.2.2) (updN J9 (5 * m9) (r9.2.2.1 - 4)) = nmS tx tyd m9 (nuV (r9.2.2.1 - 4)) 0 (scN tx tyd r9.1 r9.2.2.2) (updN J9 (5 * m9) (r9.2.2.1 - 4)) from rfl)⟩ (lv_sub hl [0, 1, 2] rfl) hP hD hS ?_
      rintro ⟨k9, s9, K9⟩ ⟨hk9, hs9, hs8, hK9, hnm⟩ ih_25 ls H locs hl hP hD hS
      have hl : lv_has ls 3 [(2, .int (nI k9)), (1, .int (nI (r9.2.2.1 - 4))), (0, .ref (b 0))] := hl
      have hP : va_P G vwCl [(b 0, .inr (7, [.ref (b 1), .ref (b 2), .ref (b 3), .ref (b 4), .ref (b 5), .int (nI qu), .long ab, .long bl, .ref (b 6), .int (nI tyd), .int (nI s9.1), .int (nI s9.2.1), .int (nI s9.2.2.1), .int (nI s9.2.2.2), .ref (b 7), .int (nI m9), .ref (b 8), .ref (b 9), .ref (b 10), .ref (b 11), .ref (b 12), .ref (b 13), .ref (b 14)])), (b 6, .inl (tA 0, 250, .inl (nF tx))), (b 7, .inl (tA 0, 500, .inl (nF K9)))] H := hP
      have hD : va_D A [(b 0, .inr (7, [.ref (b 1), .ref (b 2), .ref (b 3), .ref (b 4), .ref (b 5), .int (nI qu), .long ab, .long bl, .ref (b 6), .int (nI tyd), .int (nI s9.1), .int (nI s9.2.1), .int (nI s9.2.2.1), .int (nI s9.2.2.2), .ref (b 7), .int (nI m9), .ref (b 8), .ref (b 9), .ref (b 10), .ref (b 11), .ref (b 12), .ref (b 13), .ref (b 14)])), (b 6, .inl (tA 0, 250, .inl (nF tx))), (b 7, .inl (tA 0, 500, .inl (nF K9)))] := hD
      have hk9 : k9 ≤ nuV (r9.2.2.1 - 4) := hk9
      have hs9 : s9.1 ≤ tyd ∧ s9.2.1 ≤ tyd ∧ s9.2.2.1 ≤ 8 ∧ s9.2.2.2 < 1048576 := hs9
      have hs8 : r9.1 ≤ s9.1 ∧ (s9.2.2.1 = 0 ∨ r9.1 + k9 + 1 ≤ s9.1) := hs8
      have hK9 : ∀ j, K9 j < 1048576 := hK9
      have hnm : nmS tx tyd m9 (nuV (r9.2.2.1 - 4) - k9) k9 s9 K9 = nmS tx tyd m9 (nuV (r9.2.2.1 - 4)) 0 (scN tx tyd r9.1 r9.2.2.2) (updN J9 (5 * m9) (r9.2.2.1 - 4)) := hnm
      refine lv_iload_n hx hb dX9_reads_52 rfl (lv_at hl 0 rfl) ?_
      refine lv_iload_n hx hb dX9_reads_53 rfl (lv_at hl 1 rfl) ?_
      refine roI hP hD hS hA [] rfl (runS (As := [.int (nI (r9.2.2.1 - 4))]) (rest := [.int (nI k9)]) (isC := []) ⟨hx, hb, hml, hown, hts⟩ hKK hP hD rfl (by decide) (c_X9_numbers l G tA (r9.2.2.1 - 4) (by first | assumption | omega) _) (va_cwS 1 hts gX9_reads_X9_numbers rfl rfl rfl (by decide +kernel) ⟨Nat.le_of_ble_eq_true rfl, Nat.le_of_ble_eq_true rfl⟩) rfl rfl hl.1 rfl (lv_room (Nat.le_of_ble_eq_true rfl)) dX9_reads_54 ⟨Nat.le_of_ble_eq_true rfl, Nat.le_of_ble_eq_true rfl⟩) (fun _ => rfl) (fun r_26 u_27 H locs q_28 hP hS => ?_)
      subst q_28
      refine nv_top (y := nuV (r9.2.2.1 - 4)) (rfl) ?_
      refine nv_icmp_ge (tgt := 99) (by omega) (by omega) hx hb dX9_reads_57 (by decide) (fun c_29 => ?_) (fun c_29 => ?_)
      · refine lv_aload_n hx hb dX9_reads_99 rfl (lv_at hl 2 rfl) ?_
        refine va_get (D := G) (ci := 7) (C := RX9) (T := TX9) (N := 23) hx hb hts iX9 hown hKK.1 hP 0 rfl rfl 12 (by decide) f137 (fun _ h9 => h9) rfl dX9_reads_100 ?_
        refine lv_iconst (v := nI 3) hx hb dX9_reads_103 (by decide) ?_
        refine nv_icmp_eq (tgt := 109) (by omega) (by omega) hx hb dX9_reads_104 (by decide) (fun c_30 => ?_) (fun c_30 => ?_)
        · refine lv_aload_n hx hb dX9_reads_109 rfl (lv_at hl 2 rfl) ?_
          refine lv_dup hx hb dX9_reads_110 rfl ?_
          refine va_get (D := G) (ci := 7) (C := RX9) (T := TX9) (N := 23) hx hb hts iX9 hown hKK.1 hP 0 rfl rfl 15 (by decide) f151 (fun _ h9 => h9) rfl dX9_reads_111 ?_
          refine lv_iconst (v := nI 1) hx hb dX9_reads_114 (by decide) ?_
          refine nv_iadd hx hb dX9_reads_115 ?_
          refine nv_put (D := G) (ci := 7) (v := .int (nI (m9 + 1))) (ty := (tyX9 15)) (C := RX9) (T := TX9) (N := 23) hx hb hts iX9 tyX9 tyX9_ok nmX9 hown hKK.1 hP hD hS 0 rfl rfl 15 (by decide) f151 (fun _ h9 => h9) rfl (by decide +kernel) rfl rfl (Nat.le_of_ble_eq_true rfl) dX9_reads_116 [(b 0, .inr (7, [.ref (b 1), .ref (b 2), .ref (b 3), .ref (b 4), .ref (b 5), .int (nI qu), .long ab, .long bl, .ref (b 6), .int (nI tyd), .int (nI s9.1), .int (nI s9.2.1), .int (nI s9.2.2.1), .int (nI s9.2.2.2), .ref (b 7), .int (nI (m9 + 1)), .ref (b 8), .ref (b 9), .ref (b 10), .ref (b 11), .ref (b 12), .ref (b 13), .ref (b 14)])), (b 6, .inl (tA 0, 250, .inl (nF tx))), (b 7, .inl (tA 0, 500, .inl (nF K9)))] rfl (fun H locs hP hD hS => ?_)
          refine lv_aload_n hx hb dX9_reads_119 rfl (lv_at hl 2 rfl) ?_
          refine rwV hP hD hS hA [0, 1] rfl (runV (As := []) (rest := []) (isC := [0, 1]) ⟨hx, hb, hml, hown, hts⟩ hKK hP hD rfl (by decide) (c_X9_scans l G tA b qu ab bl tyd s9.1 s9.2.1 s9.2.2.1 s9.2.2.2 (m9 + 1) tx (by first | assumption | omega) (by omega) (by first | assumption | omega) (by omega) _) (cwV 0 hts gX9_reads_X9_scans rfl rfl rfl (by decide +kernel) ⟨Nat.le_of_ble_eq_true rfl, Nat.le_of_ble_eq_true rfl⟩) rfl rfl rfl rfl hl.1 rfl (lv_room (Nat.le_of_ble_eq_true rfl)) dX9_reads_120 ⟨Nat.le_of_ble_eq_true rfl, Nat.le_of_ble_eq_true rfl⟩) (fun (_ : Unit) => [(b 0, .inr (7, [.ref (b 1), .ref (b 2), .ref (b 3), .ref (b 4), .ref (b 5), .int (nI qu), .long ab, .long bl, .ref (b 6), .int (nI tyd), .int (nI ((scN tx tyd s9.1 s9.2.2.2).1)), .int (nI ((scN tx tyd s9.1 s9.2.2.2).2.1)), .int (nI ((scN tx tyd s9.1 s9.2.2.2).2.2.1)), .int (nI ((scN tx tyd s9.1 s9.2.2.2).2.2.2)), .ref (b 7), .int (nI (m9 + 1)), .ref (b 8), .ref (b 9), .ref (b 10), .ref (b 11), .ref (b 12), .ref (b 13), .ref (b 14)])), (b 6, .inl (tA 0, 250, .inl (nF tx))), (b 7, .inl (tA 0, 500, .inl (nF K9)))]) (fun _ => rfl) (fun _ => rfl) (fun _ => rfl) (fun u_32 H locs q_33 hP hD hS => ?_)
          obtain ⟨e_34, e_35, e_36, e_37, e_38, e_39, e_40⟩ := q_33
          have e_34 : (scN tx tyd s9.1 s9.2.2.2).1 ≤ tyd := e_34
          have e_35 : (scN tx tyd s9.1 s9.2.2.2).2.2.1 ≤ 8 := e_35
          have e_36 : (scN tx tyd s9.1 s9.2.2.2).2.2.2 < 1048576 := e_36
          have e_37 : s9.1 ≤ (scN tx tyd s9.1 s9.2.2.2).2.1 := e_37
          have e_38 : s9.1 ≤ (scN tx tyd s9.1 s9.2.2.2).1 := e_38
          have e_39 : (scN tx tyd s9.1 s9.2.2.2).2.1 ≤ tyd := e_39
          have e_40 : (scN tx tyd s9.1 s9.2.2.2).2.2.1 = 0 ∨ s9.1 + 1 ≤ (scN tx tyd s9.1 s9.2.2.2).1 := e_40
          refine lv_goto (tgt := 14) hx hb dX9_reads_123 (by decide) ?_
          exact ih_11 ((scN tx tyd s9.1 s9.2.2.2), (m9 + 1), K9, (f9 - 1)) (show tyd - (scN tx tyd s9.1 s9.2.2.2).1 < tyd - r9.1 from by omega) ⟨(show (scN tx tyd s9.1 s9.2.2.2).1 ≤ tyd ∧ (scN tx tyd s9.1 s9.2.2.2).2.1 ≤ tyd ∧ (scN tx tyd s9.1 s9.2.2.2).2.2.1 ≤ 8 ∧ (scN tx tyd s9.1 s9.2.2.2).2.2.2 < 1048576 from ⟨by omega, by omega, by omega, by omega⟩), (show ((scN tx tyd s9.1 s9.2.2.2).2.2.1 = 0 ∨ 4 * (m9 + 1) + 1 ≤ (scN tx tyd s9.1 s9.2.2.2).1) ∧ (m9 + 1) ≤ 62 from ⟨by omega, by omega⟩), (show ∀ j, K9 j < 1048576 from hK9), (show tyd < (scN tx tyd s9.1 s9.2.2.2).1 + (f9 - 1) from by omega), (show rdS tx tyd (f9 - 1) (scN tx tyd s9.1 s9.2.2.2) (m9 + 1) K9 = (rdS tx tyd 251 (scN tx tyd 0 val) 0 itm) from by rw [← hrd]; obtain ⟨f8, rfl⟩ : ∃ z, f9 = z + 1 := ⟨f9 - 1, by omega⟩; exact (rdS_4 tx tyd f8 m9 (by omega) (by rw [← hnm, show nuV (r9.2.2.1 - 4) - k9 = 0 from by omega]; exact nmS_0 _ _ _ _ _ _) (by omega)).symm)⟩ _ _ _ (lv_sub hl [2] rfl) hP hD hS
        · refine lv_iconst (v := nI 0) hx hb dX9_reads_107 (by decide) ?_
          exact retZ (ty := .boolean) hx hb hr rfl hlocks hS hP hD () (by rw [(show (rdS tx tyd 251 (scN tx tyd 0 val) 0 itm) = (false, s9, m9, K9) from by rw [← hrd]; obtain ⟨f8, rfl⟩ : ∃ z, f9 = z + 1 := ⟨f9 - 1, by omega⟩; exact rdS_3 tx tyd f8 m9 (by omega) (by rw [← hnm, show nuV (r9.2.2.1 - 4) - k9 = 0 from by omega]; exact nmS_0 _ _ _ _ _ _) (by omega))]) (⟨Or.inr ⟨rfl, by rw [(show (rdS tx tyd 251 (scN tx tyd 0 val) 0 itm) = (false, s9, m9, K9) from by rw [← hrd]; obtain ⟨f8, rfl⟩ : ∃ z, f9 = z + 1 := ⟨f9 - 1, by omega⟩; exact rdS_3 tx tyd f8 m9 (by omega) (by rw [← hnm, show nuV (r9.2.2.1 - 4) - k9 = 0 from by omega]; exact nmS_0 _ _ _ _ _ _) (by omega))]; exact Bool.false_ne_true⟩, by first | (rw [(show (rdS tx tyd 251 (scN tx tyd 0 val) 0 itm) = (false, r9, m9, J9) from by rw [← hrd]; obtain ⟨f8, rfl⟩ : ∃ z, f9 = z + 1 := ⟨f9 - 1, by omega⟩; exact rdS_1 _ _ _ _ _ (by omega) (by omega))]; exact ⟨by dsimp only; omega, by dsimp only; omega, by dsimp only; omega, by dsimp only; omega, by dsimp only; omega, hJ9⟩) | (rw [(show (rdS tx tyd 251 (scN tx tyd 0 val) 0 itm) = (false, s9, m9, K9) from by rw [← hrd]; obtain ⟨f8, rfl⟩ : ∃ z, f9 = z + 1 := ⟨f9 - 1, by omega⟩; exact rdS_2 tx tyd f8 m9 (by omega) (by rw [← hnm, show nuV (r9.2.2.1 - 4) - k9 = (nuV (r9.2.2.1 - 4) - (k9 + 1)) + 1 from by omega]; exact nmS_1 _ _ _ _ _ _ (by omega)))]; exact ⟨by dsimp only; omega, by dsimp only; omega, by dsimp only; omega, by dsimp only; omega, by dsimp only; omega, hK9⟩) | (rw [(show (rdS tx tyd 251 (scN tx tyd 0 val) 0 itm) = (false, s9, m9, K9) from by rw [← hrd]; obtain ⟨f8, rfl⟩ : ∃ z, f9 = z + 1 := ⟨f9 - 1, by omega⟩; exact rdS_3 tx tyd f8 m9 (by omega) (by rw [← hnm, show nuV (r9.2.2.1 - 4) - k9 = 0 from by omega]; exact nmS_0 _ _ _ _ _ _) (by omega))]; exact ⟨by dsimp only; omega, by dsimp only; omega, by dsimp only; omega, by dsimp only; omega, by dsimp only; omega, hK9⟩) | (rw [(show (rdS tx tyd 251 (scN tx tyd 0 val) 0 itm) = (true, r9, m9, J9) from by rw [← hrd]; obtain ⟨f8, rfl⟩ : ∃ z, f9 = z + 1 := ⟨f9 - 1, by omega⟩; exact rdS_0 _ _ _ _ _ (by omega))]; exact ⟨by dsimp only; omega, by dsimp only; omega, by dsimp only; omega, by dsimp only; omega, by dsimp only; omega, hJ9⟩)⟩) dX9_reads_108
      · refine lv_aload_n hx hb dX9_reads_60 rfl (lv_at hl 2 rfl) ?_
        refine va_get (D := G) (ci := 7) (C := RX9) (T := TX9) (N := 23) hx hb hts iX9 hown hKK.1 hP 0 rfl rfl 12 (by decide) f137 (fun _ h9 => h9) rfl dX9_reads_61 ?_
        refine lv_iconst (v := nI 2) hx hb dX9_reads_64 (by decide) ?_
        refine nv_icmp_eq (tgt := 70) (by omega) (by omega) hx hb dX9_reads_65 (by decide) (fun c_41 => ?_) (fun c_41 => ?_)
        · refine lv_aload_n hx hb dX9_reads_70 rfl (lv_at hl 2 rfl) ?_
          refine va_get (D := G) (ci := 7) (C := RX9) (T := TX9) (N := 23) hx hb hts iX9 hown hKK.1 hP 0 rfl rfl 14 (by decide) f29 (fun _ h9 => h9) rfl dX9_reads_71 ?_
          refine lv_iconst (v := nI 5) hx hb dX9_reads_74 (by decide) ?_
          refine lv_aload_n hx hb dX9_reads_75 rfl (lv_at hl 2 rfl) ?_
          refine va_get (D := G) (ci := 7) (C := RX9) (T := TX9) (N := 23) hx hb hts iX9 hown hKK.1 hP 0 rfl rfl 15 (by decide) f151 (fun _ h9 => h9) rfl dX9_reads_76 ?_
          refine nv_imul hx hb dX9_reads_79 ?_
          refine lv_iconst (v := nI 1) hx hb dX9_reads_80 (by decide) ?_
          refine nv_iadd hx hb dX9_reads_81 ?_
          refine lv_iload_n hx hb dX9_reads_82 rfl (lv_at hl 0 rfl) ?_
          refine nv_iadd hx hb dX9_reads_83 ?_
          refine lv_aload_n hx hb dX9_reads_84 rfl (lv_at hl 2 rfl) ?_
          refine va_get (D := G) (ci := 7) (C := RX9) (T := TX9) (N := 23) hx hb hts iX9 hown hKK.1 hP 0 rfl rfl 13 (by decide) f148 (fun _ h9 => h9) rfl dX9_reads_85 ?_
          refine nv_iast (i := ((5 * m9) + 1) + k9) hx hb hKK.1 hP hD hS 2 0 rfl rfl (by omega) (by decide) dX9_reads_88 [(b 0, .inr (7, [.ref (b 1), .ref (b 2), .ref (b 3), .ref (b 4), .ref (b 5), .int (nI qu), .long ab, .long bl, .ref (b 6), .int (nI tyd), .int (nI s9.1), .int (nI s9.2.1), .int (nI s9.2.2.1), .int (nI s9.2.2.2), .ref (b 7), .int (nI m9), .ref (b 8), .ref (b 9), .ref (b 10), .ref (b 11), .ref (b 12), .ref (b 13), .ref (b 14)])), (b 6, .inl (tA 0, 250, .inl (nF tx))), (b 7, .inl (tA 0, 500, .inl (nF (updN K9 (((5 * m9) + 1) + k9) s9.2.2.2))))] rfl (fun H locs hP hD hS => ?_)
          have B_42 := updN_lt hK9 (((5 * m9) + 1) + k9) (show s9.2.2.2 < 1048576 from by omega)
          refine lv_aload_n hx hb dX9_reads_89 rfl (lv_at hl 2 rfl) ?_
          refine rwV hP hD hS hA [0, 1] rfl (runV (As := []) (rest := []) (isC := [0, 1]) ⟨hx, hb, hml, hown, hts⟩ hKK hP hD rfl (by decide) (c_X9_scans l G tA b qu ab bl tyd s9.1 s9.2.1 s9.2.2.1 s9.2.2.2 m9 tx (by first | assumption | omega) (by omega) (by first | assumption | omega) (by omega) _) (cwV 0 hts gX9_reads_X9_scans rfl rfl rfl (by decide +kernel) ⟨Nat.le_of_ble_eq_true rfl, Nat.le_of_ble_eq_true rfl⟩) rfl rfl rfl rfl hl.1 rfl (lv_room (Nat.le_of_ble_eq_true rfl)) dX9_reads_90 ⟨Nat.le_of_ble_eq_true rfl, Nat.le_of_ble_eq_true rfl⟩) (fun (_ : Unit) => [(b 0, .inr (7, [.ref (b 1), .ref (b 2), .ref (b 3), .ref (b 4), .ref (b 5), .int (nI qu), .long ab, .long bl, .ref (b 6), .int (nI tyd), .int (nI ((scN tx tyd s9.1 s9.2.2.2).1)), .int (nI ((scN tx tyd s9.1 s9.2.2.2).2.1)), .int (nI ((scN tx tyd s9.1 s9.2.2.2).2.2.1)), .int (nI ((scN tx tyd s9.1 s9.2.2.2).2.2.2)), .ref (b 7), .int (nI m9), .ref (b 8), .ref (b 9), .ref (b 10), .ref (b 11), .ref (b 12), .ref (b 13), .ref (b 14)])), (b 6, .inl (tA 0, 250, .inl (nF tx))), (b 7, .inl (tA 0, 500, .inl (nF (updN K9 (((5 * m9) + 1) + k9) s9.2.2.2))))]) (fun _ => rfl) (fun _ => rfl) (fun _ => rfl) (fun u_44 H locs q_45 hP hD hS => ?_)
          obtain ⟨e_46, e_47, e_48, e_49, e_50, e_51, e_52⟩ := q_45
          have e_46 : (scN tx tyd s9.1 s9.2.2.2).1 ≤ tyd := e_46
          have e_47 : (scN tx tyd s9.1 s9.2.2.2).2.2.1 ≤ 8 := e_47
          have e_48 : (scN tx tyd s9.1 s9.2.2.2).2.2.2 < 1048576 := e_48
          have e_49 : s9.1 ≤ (scN tx tyd s9.1 s9.2.2.2).2.1 := e_49
          have e_50 : s9.1 ≤ (scN tx tyd s9.1 s9.2.2.2).1 := e_50
          have e_51 : (scN tx tyd s9.1 s9.2.2.2).2.1 ≤ tyd := e_51
          have e_52 : (scN tx tyd s9.1 s9.2.2.2).2.2.1 = 0 ∨ s9.1 + 1 ≤ (scN tx tyd s9.1 s9.2.2.2).1 := e_52
          refine lv_iinc (v := (nI (k9 + 1))) (lv' := [(2, .int (nI (k9 + 1))), (1, .int (nI (r9.2.2.1 - 4))), (0, .ref (b 0))]) hx hb dX9_reads_93 hl (k := 0) rfl (nI_add k9 1) (by decide) rfl (fun ls hl => ?_)
          refine lv_goto (tgt := 52) hx hb dX9_reads_96 (by decide) ?_
          exact ih_25 (k9 + 1, (scN tx tyd s9.1 s9.2.2.2), updN K9 (((5 * m9) + 1) + k9) s9.2.2.2) (show nuV (r9.2.2.1 - 4) - (k9 + 1) < nuV (r9.2.2.1 - 4) - k9 from by omega) ⟨(show (k9 + 1) ≤ nuV (r9.2.2.1 - 4) from by omega), (show (scN tx tyd s9.1 s9.2.2.2).1 ≤ tyd ∧ (scN tx tyd s9.1 s9.2.2.2).2.1 ≤ tyd ∧ (scN tx tyd s9.1 s9.2.2.2).2.2.1 ≤ 8 ∧ (scN tx tyd s9.1 s9.2.2.2).2.2.2 < 1048576 from ⟨by omega, by omega, by omega, by omega⟩), (show r9.1 ≤ (scN tx tyd s9.1 s9.2.2.2).1 ∧ ((scN tx tyd s9.1 s9.2.2.2).2.2.1 = 0 ∨ r9.1 + (k9 + 1) + 1 ≤ (scN tx tyd s9.1 s9.2.2.2).1) from ⟨by omega, by omega⟩), (show ∀ j, (updN K9 (((5 * m9) + 1) + k9) s9.2.2.2) j < 1048576 from updN_lt9 hK9 (by omega)), (show nmS tx tyd m9 (nuV (r9.2.2.1 - 4) - (k9 + 1)) (k9 + 1) (scN tx tyd s9.1 s9.2.2.2) (updN K9 (((5 * m9) + 1) + k9) s9.2.2.2) = nmS tx tyd m9 (nuV (r9.2.2.1 - 4)) 0 (scN tx tyd r9.1 r9.2.2.2) (updN J9 (5 * m9) (r9.2.2.1 - 4)) from by rw [← hnm, show nuV (r9.2.2.1 - 4) - k9 = (nuV (r9.2.2.1 - 4) - (k9 + 1)) + 1 from by omega]; exact (nmS_2 _ _ _ _ _ _ (by omega)).symm)⟩ _ _ _ (lv_sub hl [0, 1, 2] rfl) hP hD hS
        · refine lv_iconst (v := nI 0) hx hb dX9_reads_68 (by decide) ?_
          exact retZ (ty := .boolean) hx hb hr rfl hlocks hS hP hD () (by rw [(show (rdS tx tyd 251 (scN tx tyd 0 val) 0 itm) = (false, s9, m9, K9) from by rw [← hrd]; obtain ⟨f8, rfl⟩ : ∃ z, f9 = z + 1 := ⟨f9 - 1, by omega⟩; exact rdS_2 tx tyd f8 m9 (by omega) (by rw [← hnm, show nuV (r9.2.2.1 - 4) - k9 = (nuV (r9.2.2.1 - 4) - (k9 + 1)) + 1 from by omega]; exact nmS_1 _ _ _ _ _ _ (by omega)))]) (⟨Or.inr ⟨rfl, by rw [(show (rdS tx tyd 251 (scN tx tyd 0 val) 0 itm) = (false, s9, m9, K9) from by rw [← hrd]; obtain ⟨f8, rfl⟩ : ∃ z, f9 = z + 1 := ⟨f9 - 1, by omega⟩; exact rdS_2 tx tyd f8 m9 (by omega) (by rw [← hnm, show nuV (r9.2.2.1 - 4) - k9 = (nuV (r9.2.2.1 - 4) - (k9 + 1)) + 1 from by omega]; exact nmS_1 _ _ _ _ _ _ (by omega)))]; exact Bool.false_ne_true⟩, by first | (rw [(show (rdS tx tyd 251 (scN tx tyd 0 val) 0 itm) = (false, r9, m9, J9) from by rw [← hrd]; obtain ⟨f8, rfl⟩ : ∃ z, f9 = z + 1 := ⟨f9 - 1, by omega⟩; exact rdS_1 _ _ _ _ _ (by omega) (by omega))]; exact ⟨by dsimp only; omega, by dsimp only; omega, by dsimp only; omega, by dsimp only; omega, by dsimp only; omega, hJ9⟩) | (rw [(show (rdS tx tyd 251 (scN tx tyd 0 val) 0 itm) = (false, s9, m9, K9) from by rw [← hrd]; obtain ⟨f8, rfl⟩ : ∃ z, f9 = z + 1 := ⟨f9 - 1, by omega⟩; exact rdS_2 tx tyd f8 m9 (by omega) (by rw [← hnm, show nuV (r9.2.2.1 - 4) - k9 = (nuV (r9.2.2.1 - 4) - (k9 + 1)) + 1 from by omega]; exact nmS_1 _ _ _ _ _ _ (by omega)))]; exact ⟨by dsimp only; omega, by dsimp only; omega, by dsimp only; omega, by dsimp only; omega, by dsimp only; omega, hK9⟩) | (rw [(show (rdS tx tyd 251 (scN tx tyd 0 val) 0 itm) = (false, s9, m9, K9) from by rw [← hrd]; obtain ⟨f8, rfl⟩ : ∃ z, f9 = z + 1 := ⟨f9 - 1, by omega⟩; exact rdS_3 tx tyd f8 m9 (by omega) (by rw [← hnm, show nuV (r9.2.2.1 - 4) - k9 = 0 from by omega]; exact nmS_0 _ _ _ _ _ _) (by omega))]; exact ⟨by dsimp only; omega, by dsimp only; omega, by dsimp only; omega, by dsimp only; omega, by dsimp only; omega, hK9⟩) | (rw [(show (rdS tx tyd 251 (scN tx tyd 0 val) 0 itm) = (true, r9, m9, J9) from by rw [← hrd]; obtain ⟨f8, rfl⟩ : ∃ z, f9 = z + 1 := ⟨f9 - 1, by omega⟩; exact rdS_0 _ _ _ _ _ (by omega))]; exact ⟨by dsimp only; omega, by dsimp only; omega, by dsimp only; omega, by dsimp only; omega, by dsimp only; omega, hJ9⟩)⟩) dX9_reads_69
    · refine lv_iconst (v := nI 0) hx hb dX9_reads_32 (by decide) ?_
      exact retZ (ty := .boolean) hx hb hr rfl hlocks hS hP hD () (by rw [(show (rdS tx tyd 251 (scN tx tyd 0 val) 0 itm) = (false, r9, m9, J9) from by rw [← hrd]; obtain ⟨f8, rfl⟩ : ∃ z, f9 = z + 1 := ⟨f9 - 1, by omega⟩; exact rdS_1 _ _ _ _ _ (by omega) (by omega))]) (⟨Or.inr ⟨rfl, by rw [(show (rdS tx tyd 251 (scN tx tyd 0 val) 0 itm) = (false, r9, m9, J9) from by rw [← hrd]; obtain ⟨f8, rfl⟩ : ∃ z, f9 = z + 1 := ⟨f9 - 1, by omega⟩; exact rdS_1 _ _ _ _ _ (by omega) (by omega))]; exact Bool.false_ne_true⟩, by first | (rw [(show (rdS tx tyd 251 (scN tx tyd 0 val) 0 itm) = (false, r9, m9, J9) from by rw [← hrd]; obtain ⟨f8, rfl⟩ : ∃ z, f9 = z + 1 := ⟨f9 - 1, by omega⟩; exact rdS_1 _ _ _ _ _ (by omega) (by omega))]; exact ⟨by dsimp only; omega, by dsimp only; omega, by dsimp only; omega, by dsimp only; omega, by dsimp only; omega, hJ9⟩) | (rw [(show (rdS tx tyd 251 (scN tx tyd 0 val) 0 itm) = (false, s9, m9, K9) from by rw [← hrd]; obtain ⟨f8, rfl⟩ : ∃ z, f9 = z + 1 := ⟨f9 - 1, by omega⟩; exact rdS_2 tx tyd f8 m9 (by omega) (by rw [← hnm, show nuV (r9.2.2.1 - 4) - k9 = (nuV (r9.2.2.1 - 4) - (k9 + 1)) + 1 from by omega]; exact nmS_1 _ _ _ _ _ _ (by omega)))]; exact ⟨by dsimp only; omega, by dsimp only; omega, by dsimp only; omega, by dsimp only; omega, by dsimp only; omega, hK9⟩) | (rw [(show (rdS tx tyd 251 (scN tx tyd 0 val) 0 itm) = (false, s9, m9, K9) from by rw [← hrd]; obtain ⟨f8, rfl⟩ : ∃ z, f9 = z + 1 := ⟨f9 - 1, by omega⟩; exact rdS_3 tx tyd f8 m9 (by omega) (by rw [← hnm, show nuV (r9.2.2.1 - 4) - k9 = 0 from by omega]; exact nmS_0 _ _ _ _ _ _) (by omega))]; exact ⟨by dsimp only; omega, by dsimp only; omega, by dsimp only; omega, by dsimp only; omega, by dsimp only; omega, hK9⟩) | (rw [(show (rdS tx tyd 251 (scN tx tyd 0 val) 0 itm) = (true, r9, m9, J9) from by rw [← hrd]; obtain ⟨f8, rfl⟩ : ∃ z, f9 = z + 1 := ⟨f9 - 1, by omega⟩; exact rdS_0 _ _ _ _ _ (by omega))]; exact ⟨by dsimp only; omega, by dsimp only; omega, by dsimp only; omega, by dsimp only; omega, by dsimp only; omega, hJ9⟩)⟩) dX9_reads_33

def tlR (B : Nat → Nat) (vb a b c d : Nat) : Int32 := if vb = 0 then okR (okT ((a : Nat) : Int) ((b : Nat) : Int) ((c : Nat) : Int)) (B 0) 8 else if vb = 1 then okR (okU (B 0) ((a : Nat) : Int) ((b : Nat) : Int) ((c : Nat) : Int)) (B 3) 8 else if vb = 2 then okR (okL (B 0) ((a : Nat) : Int) ((b : Nat) : Int) ((c : Nat) : Int) ((d : Nat) : Int)) (B 1) 10 else if vb = 3 then okR (okW (B 0) ((a : Nat) : Int) ((b : Nat) : Int) ((c : Nat) : Int) ((d : Nat) : Int) ((popM ((b : Nat) : Int).toNat 10 : Nat) : Int)) (B 4) 5 else okR (okY (B 0) ((a : Nat) : Int) ((b : Nat) : Int)) (B 5) 8
def tlB (B : Nat → Nat) (vb a b c d : Nat) : Nat → Nat := if vb = 0 then okB (okT ((a : Nat) : Int) ((b : Nat) : Int) ((c : Nat) : Int)) (B 0) 8 (termB B ((a : Nat) : Int).toNat ((b : Nat) : Int).toNat ((c : Nat) : Int).toNat) B else if vb = 1 then okB (okU (B 0) ((a : Nat) : Int) ((b : Nat) : Int) ((c : Nat) : Int)) (B 3) 8 (rowM3 B (102 + 3 * B 3) 3 ((a : Nat) : Int).toNat ((b : Nat) : Int).toNat ((c : Nat) : Int).toNat) B else if vb = 2 then okB (okL (B 0) ((a : Nat) : Int) ((b : Nat) : Int) ((c : Nat) : Int) ((d : Nat) : Int)) (B 1) 10 (rowM4 B (32 + 4 * B 1) 1 ((a : Nat) : Int).toNat ((b : Nat) : Int).toNat ((c : Nat) : Int).toNat ((d : Nat) : Int).toNat) B else if vb = 3 then okB (okW (B 0) ((a : Nat) : Int) ((b : Nat) : Int) ((c : Nat) : Int) ((d : Nat) : Int) ((popM ((b : Nat) : Int).toNat 10 : Nat) : Int)) (B 4) 5 (rowM4 B (126 + 4 * B 4) 4 ((a : Nat) : Int).toNat ((b : Nat) : Int).toNat ((c : Nat) : Int).toNat ((d : Nat) : Int).toNat) B else okB (okY (B 0) ((a : Nat) : Int) ((b : Nat) : Int)) (B 5) 8 (rowM2 B (196 + 2 * B 5) 5 ((a : Nat) : Int).toNat ((b : Nat) : Int).toNat) B
def tlF (B : Nat → Nat) (qu : Nat) (rf : Nat → Int32) (vb a b c d : Nat) : Nat → Int32 := if vb = 0 then rfS (okT ((a : Nat) : Int) ((b : Nat) : Int) ((c : Nat) : Int)) (B 0) 8 qu rf else if vb = 1 then rfS (okU (B 0) ((a : Nat) : Int) ((b : Nat) : Int) ((c : Nat) : Int)) (B 3) 8 qu rf else if vb = 2 then rfS (okL (B 0) ((a : Nat) : Int) ((b : Nat) : Int) ((c : Nat) : Int) ((d : Nat) : Int)) (B 1) 10 qu rf else if vb = 3 then rfS (okW (B 0) ((a : Nat) : Int) ((b : Nat) : Int) ((c : Nat) : Int) ((d : Nat) : Int) ((popM ((b : Nat) : Int).toNat 10 : Nat) : Int)) (B 4) 5 qu rf else rfS (okY (B 0) ((a : Nat) : Int) ((b : Nat) : Int)) (B 5) 8 qu rf
set_option maxHeartbeats 4000000 in
set_option maxRecDepth 100000 in
theorem c_X9_tellsItem (l : Launch) (G : va_G) (tA : Nat → ClassId) (b : Nat → Nat) (qu : Nat) (ab : Int64) (bl : Int64) (tyd : Nat) (at0 : Nat) (sta : Nat) (tok : Nat) (val : Nat) (man : Nat) (B : Nat → Nat) (rf : Nat → Int32) (itm : Nat → Nat) (ii : Nat) (hWB : WB B) (hqu : qu < 2) (hii : ii < 100) (hbi : ∀ j, itm j < 1048576) : CtI l yX9_tellsItem wsX9_tellsItem ({ frames := 3, cells := 0, slots := 0, locals := 71 }) G tA [.ref (b 0), .int (nI ii)] ([(b 0, .inr (7, [.ref (b 1), .ref (b 2), .ref (b 3), .ref (b 4), .ref (b 5), .int (nI qu), .long ab, .long bl, .ref (b 6), .int (nI tyd), .int (nI at0), .int (nI sta), .int (nI tok), .int (nI val), .ref (b 7), .int (nI man), .ref (b 8), .ref (b 9), .ref (b 10), .ref (b 11), .ref (b 12), .ref (b 13), .ref (b 14)])), (b 1, .inl (tA 0, 212, .inl (nF B))), (b 5, .inl (tA 0, 3, .inl rf)), (b 7, .inl (tA 0, 500, .inl (nF itm)))]) (fun (r : Int32) (_ : Unit) => ((r = nI 1 ∧ (0 ≤ (tlR B (itm (5 * ii)) (itm (5 * ii + 1)) (itm (5 * ii + 2)) (itm (5 * ii + 3)) (itm (5 * ii + 4))).toInt)) ∨ (r = nI 0 ∧ ¬ (0 ≤ (tlR B (itm (5 * ii)) (itm (5 * ii + 1)) (itm (5 * ii + 2)) (itm (5 * ii + 3)) (itm (5 * ii + 4))).toInt)))) (fun (_ : Unit) => [(b 0, .inr (7, [.ref (b 1), .ref (b 2), .ref (b 3), .ref (b 4), .ref (b 5), .int (nI qu), .long ab, .long bl, .ref (b 6), .int (nI tyd), .int (nI at0), .int (nI sta), .int (nI tok), .int (nI val), .ref (b 7), .int (nI man), .ref (b 8), .ref (b 9), .ref (b 10), .ref (b 11), .ref (b 12), .ref (b 13), .ref (b 14)])), (b 1, .inl (tA 0, 212, .inl (nF (tlB B (itm (5 * ii)) (itm (5 * ii + 1)) (itm (5 * ii + 2)) (itm (5 * ii + 3)) (itm (5 * ii + 4)))))), (b 5, .inl (tA 0, 3, .inl (tlF B qu rf (itm (5 * ii)) (itm (5 * ii + 1)) (itm (5 * ii + 2)) (itm (5 * ii + 3)) (itm (5 * ii + 4))))), (b 7, .inl (tA 0, 500, .inl (nF itm)))]) 0 0 := by
  refine enterI (cc := cX9_tellsItem) (maxL := 8) (ret := (some .boolean)) (by decide) rfl (Nat.le_of_ble_eq_true rfl) ?_
  intro p0 e0 s m args below meth c0_ A ls hx hb hml hr hts hown hlocks hin hKK hA hP hD hl hS
  have hown : s.vm.findClass RX9 = some m.cls := hown
  have hl : lv_has ls 8 [(0, .ref (b 0)), (1, .int (nI ii))] := hl
  have f29 := hts (Cond.fieldLink RX9 29 "LentTermsModel" "items" "[I") (List.mem_of_getElem? (i := 1) rfl)
  have iX9 : ∀ w ∈ wsX90, w ∈ wsX9_tellsItem := by decide +kernel
  obtain ⟨⟨hn0, hn1, hn2, hn3, hn4, hn5⟩, hbB, hv0, hv1, hv2, hv3, hv4, hv5, hv6, hv7⟩ := id hWB
  have h256 := p256 hn0
  refine lv_aload_n hx hb dX9_tellsItem_0 rfl (lv_at hl 0 rfl) ?_
  refine va_get (D := G) (ci := 7) (C := RX9) (T := TX9) (N := 23) hx hb hts iX9 hown hKK.1 hP 0 rfl rfl 14 (by decide) f29 (fun _ h9 => h9) rfl dX9_tellsItem_1 ?_
  refine lv_iconst (v := nI 5) hx hb dX9_tellsItem_4 (by decide) ?_
  refine lv_iload_n hx hb dX9_tellsItem_5 rfl (lv_at hl 1 rfl) ?_
  refine nv_imul hx hb dX9_tellsItem_6 ?_
  refine lv_iconst (v := nI 1) hx hb dX9_tellsItem_7 (by decide) ?_
  refine nv_iadd hx hb dX9_tellsItem_8 ?_
  refine nv_iald (i := (5 * ii) + 1) hx hb hKK.1 hP 3 0 rfl rfl (by omega) (by decide) dX9_tellsItem_9 ?_
  have b_1 := hbi ((5 * ii) + 1)
  refine lv_istore_n (lv' := [(2, .int (nI (itm ((5 * ii) + 1)))), (0, .ref (b 0)), (1, .int (nI ii))]) hx hb dX9_tellsItem_10 rfl hl (by decide) rfl (fun ls hl => ?_)
  refine lv_aload_n hx hb dX9_tellsItem_11 rfl (lv_at hl 1 rfl) ?_
  refine va_get (D := G) (ci := 7) (C := RX9) (T := TX9) (N := 23) hx hb hts iX9 hown hKK.1 hP 0 rfl rfl 14 (by decide) f29 (fun _ h9 => h9) rfl dX9_tellsItem_12 ?_
  refine lv_iconst (v := nI 5) hx hb dX9_tellsItem_15 (by decide) ?_
  refine lv_iload_n hx hb dX9_tellsItem_16 rfl (lv_at hl 2 rfl) ?_
  refine nv_imul hx hb dX9_tellsItem_17 ?_
  refine lv_iconst (v := nI 2) hx hb dX9_tellsItem_18 (by decide) ?_
  refine nv_iadd hx hb dX9_tellsItem_19 ?_
  refine nv_iald (i := (5 * ii) + 2) hx hb hKK.1 hP 3 0 rfl rfl (by omega) (by decide) dX9_tellsItem_20 ?_
  have b_2 := hbi ((5 * ii) + 2)
  refine lv_istore_n (lv' := [(3, .int (nI (itm ((5 * ii) + 2)))), (2, .int (nI (itm ((5 * ii) + 1)))), (0, .ref (b 0)), (1, .int (nI ii))]) hx hb dX9_tellsItem_21 rfl hl (by decide) rfl (fun ls hl => ?_)
  refine lv_aload_n hx hb dX9_tellsItem_22 rfl (lv_at hl 2 rfl) ?_
  refine va_get (D := G) (ci := 7) (C := RX9) (T := TX9) (N := 23) hx hb hts iX9 hown hKK.1 hP 0 rfl rfl 14 (by decide) f29 (fun _ h9 => h9) rfl dX9_tellsItem_23 ?_
  refine lv_iconst (v := nI 5) hx hb dX9_tellsItem_26 (by decide) ?_
  refine lv_iload_n hx hb dX9_tellsItem_27 rfl (lv_at hl 3 rfl) ?_
  refine nv_imul hx hb dX9_tellsItem_28 ?_
  refine lv_iconst (v := nI 3) hx hb dX9_tellsItem_29 (by decide) ?_
  refine nv_iadd hx hb dX9_tellsItem_30 ?_
  refine nv_iald (i := (5 * ii) + 3) hx hb hKK.1 hP 3 0 rfl rfl (by omega) (by decide) dX9_tellsItem_31 ?_
  have b_3 := hbi ((5 * ii) + 3)
  refine lv_istore (lv' := [(4, .int (nI (itm ((5 * ii) + 3)))), (3, .int (nI (itm ((5 * ii) + 2)))), (2, .int (nI (itm ((5 * ii) + 1)))), (0, .ref (b 0)), (1, .int (nI ii))]) hx hb dX9_tellsItem_32 hl (by decide) rfl (fun ls hl => ?_)
  refine lv_aload_n hx hb dX9_tellsItem_34 rfl (lv_at hl 3 rfl) ?_
  refine va_get (D := G) (ci := 7) (C := RX9) (T := TX9) (N := 23) hx hb hts iX9 hown hKK.1 hP 0 rfl rfl 14 (by decide) f29 (fun _ h9 => h9) rfl dX9_tellsItem_35 ?_
  refine lv_iconst (v := nI 5) hx hb dX9_tellsItem_38 (by decide) ?_
  refine lv_iload_n hx hb dX9_tellsItem_39 rfl (lv_at hl 4 rfl) ?_
  refine nv_imul hx hb dX9_tellsItem_40 ?_
  refine lv_iconst (v := nI 4) hx hb dX9_tellsItem_41 (by decide) ?_
  refine nv_iadd hx hb dX9_tellsItem_42 ?_
  refine nv_iald (i := (5 * ii) + 4) hx hb hKK.1 hP 3 0 rfl rfl (by omega) (by decide) dX9_tellsItem_43 ?_
  have b_4 := hbi ((5 * ii) + 4)
  refine lv_istore (lv' := [(5, .int (nI (itm ((5 * ii) + 4)))), (4, .int (nI (itm ((5 * ii) + 3)))), (3, .int (nI (itm ((5 * ii) + 2)))), (2, .int (nI (itm ((5 * ii) + 1)))), (0, .ref (b 0)), (1, .int (nI ii))]) hx hb dX9_tellsItem_44 hl (by decide) rfl (fun ls hl => ?_)
  refine lv_aload_n hx hb dX9_tellsItem_46 rfl (lv_at hl 4 rfl) ?_
  refine va_get (D := G) (ci := 7) (C := RX9) (T := TX9) (N := 23) hx hb hts iX9 hown hKK.1 hP 0 rfl rfl 14 (by decide) f29 (fun _ h9 => h9) rfl dX9_tellsItem_47 ?_
  refine lv_iconst (v := nI 5) hx hb dX9_tellsItem_50 (by decide) ?_
  refine lv_iload_n hx hb dX9_tellsItem_51 rfl (lv_at hl 5 rfl) ?_
  refine nv_imul hx hb dX9_tellsItem_52 ?_
  refine nv_iald (i := 5 * ii) hx hb hKK.1 hP 3 0 rfl rfl (by omega) (by decide) dX9_tellsItem_53 ?_
  have b_5 := hbi (5 * ii)
  refine lv_istore (lv' := [(6, .int (nI (itm (5 * ii)))), (5, .int (nI (itm ((5 * ii) + 4)))), (4, .int (nI (itm ((5 * ii) + 3)))), (3, .int (nI (itm ((5 * ii) + 2)))), (2, .int (nI (itm ((5 * ii) + 1)))), (0, .ref (b 0)), (1, .int (nI ii))]) hx hb dX9_tellsItem_54 hl (by decide) rfl (fun ls hl => ?_)
  refine lv_iload hx hb dX9_tellsItem_56 (lv_at hl 0 rfl) ?_
  refine nv_if_ne (tgt := 72) (by omega) hx hb dX9_tellsItem_58 (by decide) (fun c_6 => ?_) (fun c_6 => ?_)
  · refine lv_iload hx hb dX9_tellsItem_72 (lv_at hl 0 rfl) ?_
    refine lv_iconst (v := nI 1) hx hb dX9_tellsItem_74 (by decide) ?_
    refine nv_icmp_ne (tgt := 89) (by omega) (by omega) hx hb dX9_tellsItem_75 (by decide) (fun c_7 => ?_) (fun c_7 => ?_)
    · refine lv_iload hx hb dX9_tellsItem_89 (lv_at hl 0 rfl) ?_
      refine lv_iconst (v := nI 2) hx hb dX9_tellsItem_91 (by decide) ?_
      refine nv_icmp_ne (tgt := 108) (by omega) (by omega) hx hb dX9_tellsItem_92 (by decide) (fun c_8 => ?_) (fun c_8 => ?_)
      · refine lv_iload hx hb dX9_tellsItem_108 (lv_at hl 0 rfl) ?_
        refine lv_iconst (v := nI 3) hx hb dX9_tellsItem_110 (by decide) ?_
        refine nv_icmp_ne (tgt := 127) (by omega) (by omega) hx hb dX9_tellsItem_111 (by decide) (fun c_9 => ?_) (fun c_9 => ?_)
        · refine lv_aload_n hx hb dX9_tellsItem_127 rfl (lv_at hl 5 rfl) ?_
          refine lv_iload_n hx hb dX9_tellsItem_128 rfl (lv_at hl 4 rfl) ?_
          refine lv_iload_n hx hb dX9_tellsItem_129 rfl (lv_at hl 3 rfl) ?_
          refine rwI hP hD hS hA [0, 1, 2] rfl (runV (As := [.int (nI (itm ((5 * ii) + 1))), .int (nI (itm ((5 * ii) + 2)))]) (rest := []) (isC := [0, 1, 2]) ⟨hx, hb, hml, hown, hts⟩ hKK hP hD rfl (by decide) (c_X9_saying l G tA b qu ab bl tyd at0 sta tok val man B rf (nI (itm ((5 * ii) + 1))) ((itm ((5 * ii) + 1) : Nat) : Int) (nI (itm ((5 * ii) + 2))) ((itm ((5 * ii) + 2) : Nat) : Int) (hWB) (hqu) (nI_toIntC (by omega)) (nI_toIntC (by omega)) _) (cwV 2 hts gX9_tellsItem_X9_saying rfl rfl rfl (by decide +kernel) ⟨Nat.le_of_ble_eq_true rfl, Nat.le_of_ble_eq_true rfl⟩) rfl rfl rfl rfl hl.1 rfl (lv_room (Nat.le_of_ble_eq_true rfl)) dX9_tellsItem_130 ⟨Nat.le_of_ble_eq_true rfl, Nat.le_of_ble_eq_true rfl⟩) (fun (_ : Unit) => [(b 0, .inr (7, [.ref (b 1), .ref (b 2), .ref (b 3), .ref (b 4), .ref (b 5), .int (nI qu), .long ab, .long bl, .ref (b 6), .int (nI tyd), .int (nI at0), .int (nI sta), .int (nI tok), .int (nI val), .ref (b 7), .int (nI man), .ref (b 8), .ref (b 9), .ref (b 10), .ref (b 11), .ref (b 12), .ref (b 13), .ref (b 14)])), (b 1, .inl (tA 0, 212, .inl (nF (okB (okY (B 0) ((itm ((5 * ii) + 1) : Nat) : Int) ((itm ((5 * ii) + 2) : Nat) : Int)) (B 5) 8 (rowM2 B (196 + 2 * B 5) 5 ((itm ((5 * ii) + 1) : Nat) : Int).toNat ((itm ((5 * ii) + 2) : Nat) : Int).toNat) B)))), (b 5, .inl (tA 0, 3, .inl (rfS (okY (B 0) ((itm ((5 * ii) + 1) : Nat) : Int) ((itm ((5 * ii) + 2) : Nat) : Int)) (B 5) 8 qu rf))), (b 7, .inl (tA 0, 500, .inl (nF itm)))]) (fun _ => rfl) (fun _ => rfl) (fun _ => rfl) (fun r_10 u_11 H locs q_12 hP hD hS => ?_)
          subst q_12
          refine lv_istore (lv' := [(7, .int (okR (okY (B 0) ((itm ((5 * ii) + 1) : Nat) : Int) ((itm ((5 * ii) + 2) : Nat) : Int)) (B 5) 8)), (6, .int (nI (itm (5 * ii)))), (5, .int (nI (itm ((5 * ii) + 4)))), (4, .int (nI (itm ((5 * ii) + 3)))), (3, .int (nI (itm ((5 * ii) + 2)))), (2, .int (nI (itm ((5 * ii) + 1)))), (0, .ref (b 0)), (1, .int (nI ii))]) hx hb dX9_tellsItem_133 hl (by decide) rfl (fun ls hl => ?_)
          refine lv_iload hx hb dX9_tellsItem_135 (lv_at hl 0 rfl) ?_
          refine zv_if_lt (tgt := 144) (X := (okR (okY (B 0) ((itm ((5 * ii) + 1) : Nat) : Int) ((itm ((5 * ii) + 2) : Nat) : Int)) (B 5) 8).toInt) rfl hx hb dX9_tellsItem_137 (by decide) (fun c_13 => ?_) (fun c_13 => ?_)
          · refine lv_iconst (v := nI 0) hx hb dX9_tellsItem_144 (by decide) ?_
            exact retZ (ty := .boolean) hx hb hr rfl hlocks hS hP hD () (by unfold tlB tlF; (repeat' split) <;> first | rfl | (exfalso; omega)) (Or.inr ⟨rfl, by unfold tlR; (repeat' split) <;> first | omega | (exfalso; omega)⟩) dX9_tellsItem_145
          · refine lv_iconst (v := nI 1) hx hb dX9_tellsItem_140 (by decide) ?_
            refine lv_goto (tgt := 145) hx hb dX9_tellsItem_141 (by decide) ?_
            exact retZ (ty := .boolean) hx hb hr rfl hlocks hS hP hD () (by unfold tlB tlF; (repeat' split) <;> first | rfl | (exfalso; omega)) (Or.inl ⟨rfl, by unfold tlR; (repeat' split) <;> first | omega | (exfalso; omega)⟩) dX9_tellsItem_145
        · refine lv_aload_n hx hb dX9_tellsItem_114 rfl (lv_at hl 5 rfl) ?_
          refine lv_iload_n hx hb dX9_tellsItem_115 rfl (lv_at hl 4 rfl) ?_
          refine lv_iload_n hx hb dX9_tellsItem_116 rfl (lv_at hl 3 rfl) ?_
          refine lv_iload hx hb dX9_tellsItem_117 (lv_at hl 2 rfl) ?_
          refine lv_iload hx hb dX9_tellsItem_119 (lv_at hl 1 rfl) ?_
          refine rwI hP hD hS hA [0, 1, 2] rfl (runV (As := [.int (nI (itm ((5 * ii) + 1))), .int (nI (itm ((5 * ii) + 2))), .int (nI (itm ((5 * ii) + 3))), .int (nI (itm ((5 * ii) + 4)))]) (rest := []) (isC := [0, 1, 2]) ⟨hx, hb, hml, hown, hts⟩ hKK hP hD rfl (by decide) (c_X9_want l G tA b qu ab bl tyd at0 sta tok val man B rf (nI (itm ((5 * ii) + 1))) ((itm ((5 * ii) + 1) : Nat) : Int) (nI (itm ((5 * ii) + 2))) ((itm ((5 * ii) + 2) : Nat) : Int) (nI (itm ((5 * ii) + 3))) ((itm ((5 * ii) + 3) : Nat) : Int) (nI (itm ((5 * ii) + 4))) ((itm ((5 * ii) + 4) : Nat) : Int) (hWB) (hqu) (nI_toIntC (by omega)) (nI_toIntC (by omega)) (nI_toIntC (by omega)) (nI_toIntC (by omega)) _) (cwV 4 hts gX9_tellsItem_X9_want rfl rfl rfl (by decide +kernel) ⟨Nat.le_of_ble_eq_true rfl, Nat.le_of_ble_eq_true rfl⟩) rfl rfl rfl rfl hl.1 rfl (lv_room (Nat.le_of_ble_eq_true rfl)) dX9_tellsItem_121 ⟨Nat.le_of_ble_eq_true rfl, Nat.le_of_ble_eq_true rfl⟩) (fun (_ : Unit) => [(b 0, .inr (7, [.ref (b 1), .ref (b 2), .ref (b 3), .ref (b 4), .ref (b 5), .int (nI qu), .long ab, .long bl, .ref (b 6), .int (nI tyd), .int (nI at0), .int (nI sta), .int (nI tok), .int (nI val), .ref (b 7), .int (nI man), .ref (b 8), .ref (b 9), .ref (b 10), .ref (b 11), .ref (b 12), .ref (b 13), .ref (b 14)])), (b 1, .inl (tA 0, 212, .inl (nF (okB (okW (B 0) ((itm ((5 * ii) + 1) : Nat) : Int) ((itm ((5 * ii) + 2) : Nat) : Int) ((itm ((5 * ii) + 3) : Nat) : Int) ((itm ((5 * ii) + 4) : Nat) : Int) ((popM ((itm ((5 * ii) + 2) : Nat) : Int).toNat 10 : Nat) : Int)) (B 4) 5 (rowM4 B (126 + 4 * B 4) 4 ((itm ((5 * ii) + 1) : Nat) : Int).toNat ((itm ((5 * ii) + 2) : Nat) : Int).toNat ((itm ((5 * ii) + 3) : Nat) : Int).toNat ((itm ((5 * ii) + 4) : Nat) : Int).toNat) B)))), (b 5, .inl (tA 0, 3, .inl (rfS (okW (B 0) ((itm ((5 * ii) + 1) : Nat) : Int) ((itm ((5 * ii) + 2) : Nat) : Int) ((itm ((5 * ii) + 3) : Nat) : Int) ((itm ((5 * ii) + 4) : Nat) : Int) ((popM ((itm ((5 * ii) + 2) : Nat) : Int).toNat 10 : Nat) : Int)) (B 4) 5 qu rf))), (b 7, .inl (tA 0, 500, .inl (nF itm)))]) (fun _ => rfl) (fun _ => rfl) (fun _ => rfl) (fun r_14 u_15 H locs q_16 hP hD hS => ?_)
          subst q_16
          refine lv_goto (tgt := 133) hx hb dX9_tellsItem_124 (by decide) ?_
          refine lv_istore (lv' := [(7, .int (okR (okW (B 0) ((itm ((5 * ii) + 1) : Nat) : Int) ((itm ((5 * ii) + 2) : Nat) : Int) ((itm ((5 * ii) + 3) : Nat) : Int) ((itm ((5 * ii) + 4) : Nat) : Int) ((popM ((itm ((5 * ii) + 2) : Nat) : Int).toNat 10 : Nat) : Int)) (B 4) 5)), (6, .int (nI (itm (5 * ii)))), (5, .int (nI (itm ((5 * ii) + 4)))), (4, .int (nI (itm ((5 * ii) + 3)))), (3, .int (nI (itm ((5 * ii) + 2)))), (2, .int (nI (itm ((5 * ii) + 1)))), (0, .ref (b 0)), (1, .int (nI ii))]) hx hb dX9_tellsItem_133 hl (by decide) rfl (fun ls hl => ?_)
          refine lv_iload hx hb dX9_tellsItem_135 (lv_at hl 0 rfl) ?_
          refine zv_if_lt (tgt := 144) (X := (okR (okW (B 0) ((itm ((5 * ii) + 1) : Nat) : Int) ((itm ((5 * ii) + 2) : Nat) : Int) ((itm ((5 * ii) + 3) : Nat) : Int) ((itm ((5 * ii) + 4) : Nat) : Int) ((popM ((itm ((5 * ii) + 2) : Nat) : Int).toNat 10 : Nat) : Int)) (B 4) 5).toInt) rfl hx hb dX9_tellsItem_137 (by decide) (fun c_17 => ?_) (fun c_17 => ?_)
          · refine lv_iconst (v := nI 0) hx hb dX9_tellsItem_144 (by decide) ?_
            exact retZ (ty := .boolean) hx hb hr rfl hlocks hS hP hD () (by unfold tlB tlF; (repeat' split) <;> first | rfl | (exfalso; omega)) (Or.inr ⟨rfl, by unfold tlR; (repeat' split) <;> first | omega | (exfalso; omega)⟩) dX9_tellsItem_145
          · refine lv_iconst (v := nI 1) hx hb dX9_tellsItem_140 (by decide) ?_
            refine lv_goto (tgt := 145) hx hb dX9_tellsItem_141 (by decide) ?_
            exact retZ (ty := .boolean) hx hb hr rfl hlocks hS hP hD () (by unfold tlB tlF; (repeat' split) <;> first | rfl | (exfalso; omega)) (Or.inl ⟨rfl, by unfold tlR; (repeat' split) <;> first | omega | (exfalso; omega)⟩) dX9_tellsItem_145
      · refine lv_aload_n hx hb dX9_tellsItem_95 rfl (lv_at hl 5 rfl) ?_
        refine lv_iload_n hx hb dX9_tellsItem_96 rfl (lv_at hl 4 rfl) ?_
        refine lv_iload_n hx hb dX9_tellsItem_97 rfl (lv_at hl 3 rfl) ?_
        refine lv_iload hx hb dX9_tellsItem_98 (lv_at hl 2 rfl) ?_
        refine lv_iload hx hb dX9_tellsItem_100 (lv_at hl 1 rfl) ?_
        refine rwI hP hD hS hA [0, 1, 2] rfl (runV (As := [.int (nI (itm ((5 * ii) + 1))), .int (nI (itm ((5 * ii) + 2))), .int (nI (itm ((5 * ii) + 3))), .int (nI (itm ((5 * ii) + 4)))]) (rest := []) (isC := [0, 1, 2]) ⟨hx, hb, hml, hown, hts⟩ hKK hP hD rfl (by decide) (c_X9_loan l G tA b qu ab bl tyd at0 sta tok val man B rf (nI (itm ((5 * ii) + 1))) ((itm ((5 * ii) + 1) : Nat) : Int) (nI (itm ((5 * ii) + 2))) ((itm ((5 * ii) + 2) : Nat) : Int) (nI (itm ((5 * ii) + 3))) ((itm ((5 * ii) + 3) : Nat) : Int) (nI (itm ((5 * ii) + 4))) ((itm ((5 * ii) + 4) : Nat) : Int) (hWB) (hqu) (nI_toIntC (by omega)) (nI_toIntC (by omega)) (nI_toIntC (by omega)) (nI_toIntC (by omega)) _) (cwV 4 hts gX9_tellsItem_X9_loan rfl rfl rfl (by decide +kernel) ⟨Nat.le_of_ble_eq_true rfl, Nat.le_of_ble_eq_true rfl⟩) rfl rfl rfl rfl hl.1 rfl (lv_room (Nat.le_of_ble_eq_true rfl)) dX9_tellsItem_102 ⟨Nat.le_of_ble_eq_true rfl, Nat.le_of_ble_eq_true rfl⟩) (fun (_ : Unit) => [(b 0, .inr (7, [.ref (b 1), .ref (b 2), .ref (b 3), .ref (b 4), .ref (b 5), .int (nI qu), .long ab, .long bl, .ref (b 6), .int (nI tyd), .int (nI at0), .int (nI sta), .int (nI tok), .int (nI val), .ref (b 7), .int (nI man), .ref (b 8), .ref (b 9), .ref (b 10), .ref (b 11), .ref (b 12), .ref (b 13), .ref (b 14)])), (b 1, .inl (tA 0, 212, .inl (nF (okB (okL (B 0) ((itm ((5 * ii) + 1) : Nat) : Int) ((itm ((5 * ii) + 2) : Nat) : Int) ((itm ((5 * ii) + 3) : Nat) : Int) ((itm ((5 * ii) + 4) : Nat) : Int)) (B 1) 10 (rowM4 B (32 + 4 * B 1) 1 ((itm ((5 * ii) + 1) : Nat) : Int).toNat ((itm ((5 * ii) + 2) : Nat) : Int).toNat ((itm ((5 * ii) + 3) : Nat) : Int).toNat ((itm ((5 * ii) + 4) : Nat) : Int).toNat) B)))), (b 5, .inl (tA 0, 3, .inl (rfS (okL (B 0) ((itm ((5 * ii) + 1) : Nat) : Int) ((itm ((5 * ii) + 2) : Nat) : Int) ((itm ((5 * ii) + 3) : Nat) : Int) ((itm ((5 * ii) + 4) : Nat) : Int)) (B 1) 10 qu rf))), (b 7, .inl (tA 0, 500, .inl (nF itm)))]) (fun _ => rfl) (fun _ => rfl) (fun _ => rfl) (fun r_18 u_19 H locs q_20 hP hD hS => ?_)
        subst q_20
        refine lv_goto (tgt := 133) hx hb dX9_tellsItem_105 (by decide) ?_
        refine lv_istore (lv' := [(7, .int (okR (okL (B 0) ((itm ((5 * ii) + 1) : Nat) : Int) ((itm ((5 * ii) + 2) : Nat) : Int) ((itm ((5 * ii) + 3) : Nat) : Int) ((itm ((5 * ii) + 4) : Nat) : Int)) (B 1) 10)), (6, .int (nI (itm (5 * ii)))), (5, .int (nI (itm ((5 * ii) + 4)))), (4, .int (nI (itm ((5 * ii) + 3)))), (3, .int (nI (itm ((5 * ii) + 2)))), (2, .int (nI (itm ((5 * ii) + 1)))), (0, .ref (b 0)), (1, .int (nI ii))]) hx hb dX9_tellsItem_133 hl (by decide) rfl (fun ls hl => ?_)
        refine lv_iload hx hb dX9_tellsItem_135 (lv_at hl 0 rfl) ?_
        refine zv_if_lt (tgt := 144) (X := (okR (okL (B 0) ((itm ((5 * ii) + 1) : Nat) : Int) ((itm ((5 * ii) + 2) : Nat) : Int) ((itm ((5 * ii) + 3) : Nat) : Int) ((itm ((5 * ii) + 4) : Nat) : Int)) (B 1) 10).toInt) rfl hx hb dX9_tellsItem_137 (by decide) (fun c_21 => ?_) (fun c_21 => ?_)
        · refine lv_iconst (v := nI 0) hx hb dX9_tellsItem_144 (by decide) ?_
          exact retZ (ty := .boolean) hx hb hr rfl hlocks hS hP hD () (by unfold tlB tlF; (repeat' split) <;> first | rfl | (exfalso; omega)) (Or.inr ⟨rfl, by unfold tlR; (repeat' split) <;> first | omega | (exfalso; omega)⟩) dX9_tellsItem_145
        · refine lv_iconst (v := nI 1) hx hb dX9_tellsItem_140 (by decide) ?_
          refine lv_goto (tgt := 145) hx hb dX9_tellsItem_141 (by decide) ?_
          exact retZ (ty := .boolean) hx hb hr rfl hlocks hS hP hD () (by unfold tlB tlF; (repeat' split) <;> first | rfl | (exfalso; omega)) (Or.inl ⟨rfl, by unfold tlR; (repeat' split) <;> first | omega | (exfalso; omega)⟩) dX9_tellsItem_145
    · refine lv_aload_n hx hb dX9_tellsItem_78 rfl (lv_at hl 5 rfl) ?_
      refine lv_iload_n hx hb dX9_tellsItem_79 rfl (lv_at hl 4 rfl) ?_
      refine lv_iload_n hx hb dX9_tellsItem_80 rfl (lv_at hl 3 rfl) ?_
      refine lv_iload hx hb dX9_tellsItem_81 (lv_at hl 2 rfl) ?_
      refine rwI hP hD hS hA [0, 1, 2] rfl (runV (As := [.int (nI (itm ((5 * ii) + 1))), .int (nI (itm ((5 * ii) + 2))), .int (nI (itm ((5 * ii) + 3)))]) (rest := []) (isC := [0, 1, 2]) ⟨hx, hb, hml, hown, hts⟩ hKK hP hD rfl (by decide) (c_X9_rule l G tA b qu ab bl tyd at0 sta tok val man B rf (nI (itm ((5 * ii) + 1))) ((itm ((5 * ii) + 1) : Nat) : Int) (nI (itm ((5 * ii) + 2))) ((itm ((5 * ii) + 2) : Nat) : Int) (nI (itm ((5 * ii) + 3))) ((itm ((5 * ii) + 3) : Nat) : Int) (hWB) (hqu) (nI_toIntC (by omega)) (nI_toIntC (by omega)) (nI_toIntC (by omega)) _) (cwV 3 hts gX9_tellsItem_X9_rule rfl rfl rfl (by decide +kernel) ⟨Nat.le_of_ble_eq_true rfl, Nat.le_of_ble_eq_true rfl⟩) rfl rfl rfl rfl hl.1 rfl (lv_room (Nat.le_of_ble_eq_true rfl)) dX9_tellsItem_83 ⟨Nat.le_of_ble_eq_true rfl, Nat.le_of_ble_eq_true rfl⟩) (fun (_ : Unit) => [(b 0, .inr (7, [.ref (b 1), .ref (b 2), .ref (b 3), .ref (b 4), .ref (b 5), .int (nI qu), .long ab, .long bl, .ref (b 6), .int (nI tyd), .int (nI at0), .int (nI sta), .int (nI tok), .int (nI val), .ref (b 7), .int (nI man), .ref (b 8), .ref (b 9), .ref (b 10), .ref (b 11), .ref (b 12), .ref (b 13), .ref (b 14)])), (b 1, .inl (tA 0, 212, .inl (nF (okB (okU (B 0) ((itm ((5 * ii) + 1) : Nat) : Int) ((itm ((5 * ii) + 2) : Nat) : Int) ((itm ((5 * ii) + 3) : Nat) : Int)) (B 3) 8 (rowM3 B (102 + 3 * B 3) 3 ((itm ((5 * ii) + 1) : Nat) : Int).toNat ((itm ((5 * ii) + 2) : Nat) : Int).toNat ((itm ((5 * ii) + 3) : Nat) : Int).toNat) B)))), (b 5, .inl (tA 0, 3, .inl (rfS (okU (B 0) ((itm ((5 * ii) + 1) : Nat) : Int) ((itm ((5 * ii) + 2) : Nat) : Int) ((itm ((5 * ii) + 3) : Nat) : Int)) (B 3) 8 qu rf))), (b 7, .inl (tA 0, 500, .inl (nF itm)))]) (fun _ => rfl) (fun _ => rfl) (fun _ => rfl) (fun r_22 u_23 H locs q_24 hP hD hS => ?_)
      subst q_24
      refine lv_goto (tgt := 133) hx hb dX9_tellsItem_86 (by decide) ?_
      refine lv_istore (lv' := [(7, .int (okR (okU (B 0) ((itm ((5 * ii) + 1) : Nat) : Int) ((itm ((5 * ii) + 2) : Nat) : Int) ((itm ((5 * ii) + 3) : Nat) : Int)) (B 3) 8)), (6, .int (nI (itm (5 * ii)))), (5, .int (nI (itm ((5 * ii) + 4)))), (4, .int (nI (itm ((5 * ii) + 3)))), (3, .int (nI (itm ((5 * ii) + 2)))), (2, .int (nI (itm ((5 * ii) + 1)))), (0, .ref (b 0)), (1, .int (nI ii))]) hx hb dX9_tellsItem_133 hl (by decide) rfl (fun ls hl => ?_)
      refine lv_iload hx hb dX9_tellsItem_135 (lv_at hl 0 rfl) ?_
      refine zv_if_lt (tgt := 144) (X := (okR (okU (B 0) ((itm ((5 * ii) + 1) : Nat) : Int) ((itm ((5 * ii) + 2) : Nat) : Int) ((itm ((5 * ii) + 3) : Nat) : Int)) (B 3) 8).toInt) rfl hx hb dX9_tellsItem_137 (by decide) (fun c_25 => ?_) (fun c_25 => ?_)
      · refine lv_iconst (v := nI 0) hx hb dX9_tellsItem_144 (by decide) ?_
        exact retZ (ty := .boolean) hx hb hr rfl hlocks hS hP hD () (by unfold tlB tlF; (repeat' split) <;> first | rfl | (exfalso; omega)) (Or.inr ⟨rfl, by unfold tlR; (repeat' split) <;> first | omega | (exfalso; omega)⟩) dX9_tellsItem_145
      · refine lv_iconst (v := nI 1) hx hb dX9_tellsItem_140 (by decide) ?_
        refine lv_goto (tgt := 145) hx hb dX9_tellsItem_141 (by decide) ?_
        exact retZ (ty := .boolean) hx hb hr rfl hlocks hS hP hD () (by unfold tlB tlF; (repeat' split) <;> first | rfl | (exfalso; omega)) (Or.inl ⟨rfl, by unfold tlR; (repeat' split) <;> first | omega | (exfalso; omega)⟩) dX9_tellsItem_145
  · refine lv_aload_n hx hb dX9_tellsItem_61 rfl (lv_at hl 5 rfl) ?_
    refine lv_iload_n hx hb dX9_tellsItem_62 rfl (lv_at hl 4 rfl) ?_
    refine lv_iload_n hx hb dX9_tellsItem_63 rfl (lv_at hl 3 rfl) ?_
    refine lv_iload hx hb dX9_tellsItem_64 (lv_at hl 2 rfl) ?_
    refine rwI hP hD hS hA [0, 1, 2] rfl (runV (As := [.int (nI (itm ((5 * ii) + 1))), .int (nI (itm ((5 * ii) + 2))), .int (nI (itm ((5 * ii) + 3)))]) (rest := []) (isC := [0, 1, 2]) ⟨hx, hb, hml, hown, hts⟩ hKK hP hD rfl (by decide) (c_X9_term l G tA b qu ab bl tyd at0 sta tok val man B rf (nI (itm ((5 * ii) + 1))) ((itm ((5 * ii) + 1) : Nat) : Int) (nI (itm ((5 * ii) + 2))) ((itm ((5 * ii) + 2) : Nat) : Int) (nI (itm ((5 * ii) + 3))) ((itm ((5 * ii) + 3) : Nat) : Int) (hWB) (hqu) (nI_toIntC (by omega)) (nI_toIntC (by omega)) (nI_toIntC (by omega)) _) (cwV 3 hts gX9_tellsItem_X9_term rfl rfl rfl (by decide +kernel) ⟨Nat.le_of_ble_eq_true rfl, Nat.le_of_ble_eq_true rfl⟩) rfl rfl rfl rfl hl.1 rfl (lv_room (Nat.le_of_ble_eq_true rfl)) dX9_tellsItem_66 ⟨Nat.le_of_ble_eq_true rfl, Nat.le_of_ble_eq_true rfl⟩) (fun (_ : Unit) => [(b 0, .inr (7, [.ref (b 1), .ref (b 2), .ref (b 3), .ref (b 4), .ref (b 5), .int (nI qu), .long ab, .long bl, .ref (b 6), .int (nI tyd), .int (nI at0), .int (nI sta), .int (nI tok), .int (nI val), .ref (b 7), .int (nI man), .ref (b 8), .ref (b 9), .ref (b 10), .ref (b 11), .ref (b 12), .ref (b 13), .ref (b 14)])), (b 1, .inl (tA 0, 212, .inl (nF (okB (okT ((itm ((5 * ii) + 1) : Nat) : Int) ((itm ((5 * ii) + 2) : Nat) : Int) ((itm ((5 * ii) + 3) : Nat) : Int)) (B 0) 8 (termB B ((itm ((5 * ii) + 1) : Nat) : Int).toNat ((itm ((5 * ii) + 2) : Nat) : Int).toNat ((itm ((5 * ii) + 3) : Nat) : Int).toNat) B)))), (b 5, .inl (tA 0, 3, .inl (rfS (okT ((itm ((5 * ii) + 1) : Nat) : Int) ((itm ((5 * ii) + 2) : Nat) : Int) ((itm ((5 * ii) + 3) : Nat) : Int)) (B 0) 8 qu rf))), (b 7, .inl (tA 0, 500, .inl (nF itm)))]) (fun _ => rfl) (fun _ => rfl) (fun _ => rfl) (fun r_26 u_27 H locs q_28 hP hD hS => ?_)
    subst q_28
    refine lv_goto (tgt := 133) hx hb dX9_tellsItem_69 (by decide) ?_
    refine lv_istore (lv' := [(7, .int (okR (okT ((itm ((5 * ii) + 1) : Nat) : Int) ((itm ((5 * ii) + 2) : Nat) : Int) ((itm ((5 * ii) + 3) : Nat) : Int)) (B 0) 8)), (6, .int (nI (itm (5 * ii)))), (5, .int (nI (itm ((5 * ii) + 4)))), (4, .int (nI (itm ((5 * ii) + 3)))), (3, .int (nI (itm ((5 * ii) + 2)))), (2, .int (nI (itm ((5 * ii) + 1)))), (0, .ref (b 0)), (1, .int (nI ii))]) hx hb dX9_tellsItem_133 hl (by decide) rfl (fun ls hl => ?_)
    refine lv_iload hx hb dX9_tellsItem_135 (lv_at hl 0 rfl) ?_
    refine zv_if_lt (tgt := 144) (X := (okR (okT ((itm ((5 * ii) + 1) : Nat) : Int) ((itm ((5 * ii) + 2) : Nat) : Int) ((itm ((5 * ii) + 3) : Nat) : Int)) (B 0) 8).toInt) rfl hx hb dX9_tellsItem_137 (by decide) (fun c_29 => ?_) (fun c_29 => ?_)
    · refine lv_iconst (v := nI 0) hx hb dX9_tellsItem_144 (by decide) ?_
      exact retZ (ty := .boolean) hx hb hr rfl hlocks hS hP hD () (by unfold tlB tlF; (repeat' split) <;> first | rfl | (exfalso; omega)) (Or.inr ⟨rfl, by unfold tlR; (repeat' split) <;> first | omega | (exfalso; omega)⟩) dX9_tellsItem_145
    · refine lv_iconst (v := nI 1) hx hb dX9_tellsItem_140 (by decide) ?_
      refine lv_goto (tgt := 145) hx hb dX9_tellsItem_141 (by decide) ?_
      exact retZ (ty := .boolean) hx hb hr rfl hlocks hS hP hD () (by unfold tlB tlF; (repeat' split) <;> first | rfl | (exfalso; omega)) (Or.inl ⟨rfl, by unfold tlR; (repeat' split) <;> first | omega | (exfalso; omega)⟩) dX9_tellsItem_145
