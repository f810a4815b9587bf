/-! the model: reading -/
theorem lgEq {a b : Int64} : lg_cmp a b = 0 ↔ a = b := by
  unfold lg_cmp
  constructor
  · intro h
    by_cases h1 : a > b
    · rw [if_pos h1] at h; exact absurd h (by decide)
    · rw [if_neg h1] at h
      by_cases h2 : a = b
      · exact h2
      · rw [if_neg h2] at h; exact absurd h (by decide)
  · intro h
    subst h
    rw [if_neg (show ¬ a > a from fun q => absurd q Int64.lt_irrefl), if_pos rfl]
def vbN (v : Int64) : Nat := if v = (nI 661069).toInt64 then 1 else if v = (nI 611717).toInt64 then 2 else if v = (nI 408622).toInt64 then 3 else if v = (nI 755156).toInt64 then 4 else if v = (nI 639411655).toInt64 then 5 else 0
theorem vbN_le (v : Int64) : vbN v ≤ 5 := by unfold vbN; (repeat' split) <;> omega

set_option maxHeartbeats 4000000 in
set_option maxRecDepth 100000 in
theorem c_X9_isAt (l : Launch) (G : va_G) (tA : Nat → ClassId) (b : Nat → Nat) (qu : Nat) (ab : Int64) (bl : Int64) (tyd : Nat) (at0 : Nat) (sta : Nat) (tok : Nat) (val : Nat) (man : Nat) (tx : Nat → Nat) (lo : Nat) (hi : Nat) (hty : tyd ≤ 250) (hat : at0 ≤ 250) (hlo : lo < 1048576) (hhi : hi < 1048576) (hbx : ∀ j, tx j < 1048576) : CtI l yX9_isAt wsX9_isAt ({ frames := 1, cells := 0, slots := 0, locals := 25 }) G tA [.ref (b 0), .int (nI lo), .int (nI hi)] ([(b 0, .inr (7, [.ref (b 1), .ref (b 2), .ref (b 3), .ref (b 4), .ref (b 5), .int (nI qu), .long ab, .long bl, .ref (b 6), .int (nI tyd), .int (nI at0), .int (nI sta), .int (nI tok), .int (nI val), .ref (b 7), .int (nI man), .ref (b 8), .ref (b 9), .ref (b 10), .ref (b 11), .ref (b 12), .ref (b 13), .ref (b 14)])), (b 6, .inl (tA 0, 250, .inl (nF tx)))]) (fun (r : Int32) (_ : Unit) => ((r = nI 1 ∧ (at0 < tyd ∧ lo ≤ tx at0 ∧ tx at0 ≤ hi)) ∨ (r = nI 0 ∧ ¬ (at0 < tyd ∧ lo ≤ tx at0 ∧ tx at0 ≤ hi)))) (fun (_ : Unit) => [(b 0, .inr (7, [.ref (b 1), .ref (b 2), .ref (b 3), .ref (b 4), .ref (b 5), .int (nI qu), .long ab, .long bl, .ref (b 6), .int (nI tyd), .int (nI at0), .int (nI sta), .int (nI tok), .int (nI val), .ref (b 7), .int (nI man), .ref (b 8), .ref (b 9), .ref (b 10), .ref (b 11), .ref (b 12), .ref (b 13), .ref (b 14)])), (b 6, .inl (tA 0, 250, .inl (nF tx)))]) 0 0 := by
  refine enterI (cc := cX9_isAt) (maxL := 3) (ret := (some .boolean)) (by decide) rfl (Nat.le_of_ble_eq_true rfl) ?_
  intro p0 e0 s m args below meth c0_ A ls hx hb hml hr hts hown hlocks hin hKK hA hP hD hl hS
  have hown : s.vm.findClass RX9 = some m.cls := hown
  have hl : lv_has ls 3 [(0, .ref (b 0)), (1, .int (nI lo)), (2, .int (nI hi))] := hl
  have f117 := hts (Cond.fieldLink RX9 117 "LentTermsModel" "at" "I") (List.mem_of_getElem? (i := 1) rfl)
  have iX9 : ∀ w ∈ wsX90, w ∈ wsX9_isAt := by decide +kernel
  have f111 := hts (Cond.fieldLink RX9 111 "LentTermsModel" "typed" "I") (List.mem_of_getElem? (i := 2) rfl)
  have f26 := hts (Cond.fieldLink RX9 26 "LentTermsModel" "text" "[I") (List.mem_of_getElem? (i := 3) rfl)
  refine lv_aload_n hx hb dX9_isAt_0 rfl (lv_at hl 0 rfl) ?_
  refine va_get (D := G) (ci := 7) (C := RX9) (T := TX9) (N := 23) hx hb hts iX9 hown hKK.1 hP 0 rfl rfl 10 (by decide) f117 (fun _ h9 => h9) rfl dX9_isAt_1 ?_
  refine lv_aload_n hx hb dX9_isAt_4 rfl (lv_at hl 0 rfl) ?_
  refine va_get (D := G) (ci := 7) (C := RX9) (T := TX9) (N := 23) hx hb hts iX9 hown hKK.1 hP 0 rfl rfl 9 (by decide) f111 (fun _ h9 => h9) rfl dX9_isAt_5 ?_
  refine nv_icmp_ge (tgt := 35) (by omega) (by omega) hx hb dX9_isAt_8 (by decide) (fun c_1 => ?_) (fun c_1 => ?_)
  · refine lv_iconst (v := nI 0) hx hb dX9_isAt_35 (by decide) ?_
    exact retZ (ty := .boolean) hx hb hr rfl hlocks hS hP hD () (rfl) (Or.inr ⟨rfl, by omega⟩) dX9_isAt_36
  · refine lv_aload_n hx hb dX9_isAt_11 rfl (lv_at hl 0 rfl) ?_
    refine va_get (D := G) (ci := 7) (C := RX9) (T := TX9) (N := 23) hx hb hts iX9 hown hKK.1 hP 0 rfl rfl 8 (by decide) f26 (fun _ h9 => h9) rfl dX9_isAt_12 ?_
    refine lv_aload_n hx hb dX9_isAt_15 rfl (lv_at hl 0 rfl) ?_
    refine va_get (D := G) (ci := 7) (C := RX9) (T := TX9) (N := 23) hx hb hts iX9 hown hKK.1 hP 0 rfl rfl 10 (by decide) f117 (fun _ h9 => h9) rfl dX9_isAt_16 ?_
    refine nv_iald (i := at0) hx hb hKK.1 hP 1 0 rfl rfl (by omega) (by decide) dX9_isAt_19 ?_
    have b_2 := hbx at0
    refine lv_i2l hx hb dX9_isAt_20 rfl ?_
    refine lv_iload_n hx hb dX9_isAt_21 rfl (lv_at hl 1 rfl) ?_
    refine lv_i2l hx hb dX9_isAt_22 rfl ?_
    refine lv_iload_n hx hb dX9_isAt_23 rfl (lv_at hl 2 rfl) ?_
    refine lv_i2l hx hb dX9_isAt_24 rfl ?_
    refine roI hP hD hS hA [] rfl (runS (As := [.long ((nI (tx at0)).toInt64), .long ((nI lo).toInt64), .long ((nI hi).toInt64)]) (rest := []) (isC := []) ⟨hx, hb, hml, hown, hts⟩ hKK hP hD rfl (by decide) (c_X9_is l G tA (nI (tx at0)) ((tx at0 : Nat) : Int) (nI lo) ((lo : Nat) : Int) (nI hi) ((hi : Nat) : Int) (nI_toIntC (by omega)) (nI_toIntC (by omega)) (nI_toIntC (by omega)) _) (va_cwS 3 hts gX9_isAt_X9_is rfl rfl rfl (by decide +kernel) ⟨Nat.le_of_ble_eq_true rfl, Nat.le_of_ble_eq_true rfl⟩) rfl rfl hl.1 rfl (lv_room (Nat.le_of_ble_eq_true rfl)) dX9_isAt_25 ⟨Nat.le_of_ble_eq_true rfl, Nat.le_of_ble_eq_true rfl⟩) (fun _ => rfl) (fun r_3 u_4 H locs q_5 hP hS => ?_)
    rcases q_5 with ⟨rfl, p_6⟩ | ⟨rfl, p_6⟩
    · have p_6 : ((lo : Nat) : Int) ≤ ((tx at0 : Nat) : Int) ∧ ((tx at0 : Nat) : Int) ≤ ((hi : Nat) : Int) := p_6
      refine nv_if_eq (tgt := 35) (by omega) hx hb dX9_isAt_28 (by decide) (fun h => absurd h (by omega)) (fun _ => ?_)
      refine lv_iconst (v := nI 1) hx hb dX9_isAt_31 (by decide) ?_
      refine lv_goto (tgt := 36) hx hb dX9_isAt_32 (by decide) ?_
      exact retZ (ty := .boolean) hx hb hr rfl hlocks hS hP hD () (rfl) (Or.inl ⟨rfl, by omega⟩) dX9_isAt_36
    · have p_6 : ¬ (((lo : Nat) : Int) ≤ ((tx at0 : Nat) : Int) ∧ ((tx at0 : Nat) : Int) ≤ ((hi : Nat) : Int)) := p_6
      refine nv_if_eq (tgt := 35) (by omega) hx hb dX9_isAt_28 (by decide) (fun _ => ?_) (fun h => absurd h (by omega))
      refine lv_iconst (v := nI 0) hx hb dX9_isAt_35 (by decide) ?_
      exact retZ (ty := .boolean) hx hb hr rfl hlocks hS hP hD () (rfl) (Or.inr ⟨rfl, by omega⟩) dX9_isAt_36

set_option maxHeartbeats 4000000 in
set_option maxRecDepth 100000 in
theorem c_X9_numbers (l : Launch) (G : va_G) (tA : Nat → ClassId) (vb : Nat) (hvb : vb < 1048576) : CtI l yX9_numbers wsX9_numbers ({ frames := 0, cells := 0, slots := 0, locals := 0 }) G tA [.int (nI vb)] ([]) (fun (r : Int32) (_ : Unit) => r = nI (if vb < 2 then 3 else if vb < 4 then 4 else 2)) (fun (_ : Unit) => []) 0 0 := by
  refine enterI (cc := cX9_numbers) (maxL := 1) (ret := (some .int)) (by decide) rfl (Nat.le_of_ble_eq_true rfl) ?_
  intro p0 e0 s m args below meth c0_ A ls hx hb hml hr hts hown hlocks hin hKK hA hP hD hl hS
  have hown : s.vm.findClass RX9 = some m.cls := hown
  have hl : lv_has ls 1 [(0, .int (nI vb))] := hl
  refine lv_iload_n hx hb dX9_numbers_0 rfl (lv_at hl 0 rfl) ?_
  refine lv_iconst (v := nI 2) hx hb dX9_numbers_1 (by decide) ?_
  refine nv_icmp_ge (tgt := 9) (by omega) (by omega) hx hb dX9_numbers_2 (by decide) (fun c_1 => ?_) (fun c_1 => ?_)
  · refine lv_iload_n hx hb dX9_numbers_9 rfl (lv_at hl 0 rfl) ?_
    refine lv_iconst (v := nI 4) hx hb dX9_numbers_10 (by decide) ?_
    refine nv_icmp_ge (tgt := 18) (by omega) (by omega) hx hb dX9_numbers_11 (by decide) (fun c_2 => ?_) (fun c_2 => ?_)
    · refine lv_iconst (v := nI 2) hx hb dX9_numbers_18 (by decide) ?_
      exact retI hx hb hr hlocks hS hP hD () (rfl) (congrArg nI (show (2 : Nat) = (if vb < 2 then 3 else if vb < 4 then 4 else 2) from by (repeat' split) <;> first | rfl | (exfalso; omega))) dX9_numbers_19
    · refine lv_iconst (v := nI 4) hx hb dX9_numbers_14 (by decide) ?_
      refine lv_goto (tgt := 19) hx hb dX9_numbers_15 (by decide) ?_
      exact retI hx hb hr hlocks hS hP hD () (rfl) (congrArg nI (show (4 : Nat) = (if vb < 2 then 3 else if vb < 4 then 4 else 2) from by (repeat' split) <;> first | rfl | (exfalso; omega))) dX9_numbers_19
  · refine lv_iconst (v := nI 3) hx hb dX9_numbers_5 (by decide) ?_
    refine lv_goto (tgt := 19) hx hb dX9_numbers_6 (by decide) ?_
    exact retI hx hb hr hlocks hS hP hD () (rfl) (congrArg nI (show (3 : Nat) = (if vb < 2 then 3 else if vb < 4 then 4 else 2) from by (repeat' split) <;> first | rfl | (exfalso; omega))) dX9_numbers_19

set_option maxHeartbeats 4000000 in
set_option maxRecDepth 100000 in
theorem c_X9_verbOf (l : Launch) (G : va_G) (tA : Nat → ClassId) (v : Int64)  : CtI l yX9_verbOf wsX9_verbOf ({ frames := 0, cells := 0, slots := 0, locals := 0 }) G tA [.long v] ([]) (fun (r : Int32) (_ : Unit) => r = (nI (vbN v)) + (-1)) (fun (_ : Unit) => []) 0 0 := by
  refine enterI (cc := cX9_verbOf) (maxL := 4) (ret := (some .int)) (by decide) rfl (Nat.le_of_ble_eq_true rfl) ?_
  intro p0 e0 s m args below meth c0_ A ls hx hb hml hr hts hown hlocks hin hKK hA hP hD hl hS
  have hown : s.vm.findClass RX9 = some m.cls := hown
  have hl : lv_has ls 4 [(0, .long v)] := hl
  have f120 := hts (Cond.constantLong RX9 120 (661069)) (List.mem_of_getElem? (i := 1) rfl)
  have f122 := hts (Cond.constantLong RX9 122 (611717)) (List.mem_of_getElem? (i := 2) rfl)
  have f124 := hts (Cond.constantLong RX9 124 (408622)) (List.mem_of_getElem? (i := 3) rfl)
  have f126 := hts (Cond.constantLong RX9 126 (755156)) (List.mem_of_getElem? (i := 4) rfl)
  have f128 := hts (Cond.constantLong RX9 128 (639411655)) (List.mem_of_getElem? (i := 5) rfl)
  refine lv_lload_n hx hb dX9_verbOf_0 rfl (lv_at hl 0 rfl) ?_
  refine lv_ldc2 (v := 661069) hx hb hown f120 dX9_verbOf_1 ?_
  refine nv_topl (y := (nI 661069).toInt64) (by decide +kernel) ?_
  refine W.lcmp hx hb dX9_verbOf_4 ?_
  refine lv_if_ne (tgt := 12) hx hb dX9_verbOf_5 (by decide) (fun c_1 => ?_) (fun c_1 => ?_)
  · have c_1 : ¬ (v = (nI 661069).toInt64) := fun q => c_1 ((lgEq).mpr q)
    refine lv_lload_n hx hb dX9_verbOf_12 rfl (lv_at hl 0 rfl) ?_
    refine lv_ldc2 (v := 611717) hx hb hown f122 dX9_verbOf_13 ?_
    refine nv_topl (y := (nI 611717).toInt64) (by decide +kernel) ?_
    refine W.lcmp hx hb dX9_verbOf_16 ?_
    refine lv_if_ne (tgt := 24) hx hb dX9_verbOf_17 (by decide) (fun c_2 => ?_) (fun c_2 => ?_)
    · have c_2 : ¬ (v = (nI 611717).toInt64) := fun q => c_2 ((lgEq).mpr q)
      refine lv_lload_n hx hb dX9_verbOf_24 rfl (lv_at hl 0 rfl) ?_
      refine lv_ldc2 (v := 408622) hx hb hown f124 dX9_verbOf_25 ?_
      refine nv_topl (y := (nI 408622).toInt64) (by decide +kernel) ?_
      refine W.lcmp hx hb dX9_verbOf_28 ?_
      refine lv_if_ne (tgt := 36) hx hb dX9_verbOf_29 (by decide) (fun c_3 => ?_) (fun c_3 => ?_)
      · have c_3 : ¬ (v = (nI 408622).toInt64) := fun q => c_3 ((lgEq).mpr q)
        refine lv_iconst (v := (-1)) hx hb dX9_verbOf_36 (by decide) ?_
        refine lv_istore_n (lv' := [(2, .int (-1)), (0, .long v)]) hx hb dX9_verbOf_37 rfl hl (by decide) rfl (fun ls hl => ?_)
        refine lv_lload_n hx hb dX9_verbOf_38 rfl (lv_at hl 1 rfl) ?_
        refine lv_ldc2 (v := 755156) hx hb hown f126 dX9_verbOf_39 ?_
        refine nv_topl (y := (nI 755156).toInt64) (by decide +kernel) ?_
        refine W.lcmp hx hb dX9_verbOf_42 ?_
        refine lv_if_ne (tgt := 50) hx hb dX9_verbOf_43 (by decide) (fun c_4 => ?_) (fun c_4 => ?_)
        · have c_4 : ¬ (v = (nI 755156).toInt64) := fun q => c_4 ((lgEq).mpr q)
          refine lv_lload_n hx hb dX9_verbOf_50 rfl (lv_at hl 1 rfl) ?_
          refine lv_ldc2 (v := 639411655) hx hb hown f128 dX9_verbOf_51 ?_
          refine nv_topl (y := (nI 639411655).toInt64) (by decide +kernel) ?_
          refine W.lcmp hx hb dX9_verbOf_54 ?_
          refine lv_if_ne (tgt := 62) hx hb dX9_verbOf_55 (by decide) (fun c_5 => ?_) (fun c_5 => ?_)
          · have c_5 : ¬ (v = (nI 639411655).toInt64) := fun q => c_5 ((lgEq).mpr q)
            refine lv_iconst (v := (-1)) hx hb dX9_verbOf_62 (by decide) ?_
            refine lv_istore_n (lv' := [(3, .int (-1)), (2, .int (-1)), (0, .long v)]) hx hb dX9_verbOf_63 rfl hl (by decide) rfl (fun ls hl => ?_)
            refine lv_iload_n hx hb dX9_verbOf_64 rfl (lv_at hl 1 rfl) ?_
            refine lv_iconst (v := (-1)) hx hb dX9_verbOf_65 (by decide) ?_
            refine zv_icmp_eq (tgt := 73) (X := (-1 : Int)) (Y := (-1 : Int)) rfl rfl hx hb dX9_verbOf_66 (by decide) (fun _ => ?_) (fun h => absurd h (by omega))
            refine lv_iload_n hx hb dX9_verbOf_73 rfl (lv_at hl 0 rfl) ?_
            exact retI hx hb hr hlocks hS hP hD () (rfl) (by unfold vbN; (repeat' split) <;> first | contradiction | exact (pk_m1 _).symm | decide) dX9_verbOf_74
          · have c_5 : v = (nI 639411655).toInt64 := (lgEq).mp c_5
            refine lv_iconst (v := nI 4) hx hb dX9_verbOf_58 (by decide) ?_
            refine lv_goto (tgt := 63) hx hb dX9_verbOf_59 (by decide) ?_
            refine lv_istore_n (lv' := [(3, .int (nI 4)), (2, .int (-1)), (0, .long v)]) hx hb dX9_verbOf_63 rfl hl (by decide) rfl (fun ls hl => ?_)
            refine lv_iload_n hx hb dX9_verbOf_64 rfl (lv_at hl 1 rfl) ?_
            refine lv_iconst (v := (-1)) hx hb dX9_verbOf_65 (by decide) ?_
            refine zv_icmp_eq (tgt := 73) (X := (-1 : Int)) (Y := (-1 : Int)) rfl rfl hx hb dX9_verbOf_66 (by decide) (fun _ => ?_) (fun h => absurd h (by omega))
            refine lv_iload_n hx hb dX9_verbOf_73 rfl (lv_at hl 0 rfl) ?_
            exact retI hx hb hr hlocks hS hP hD () (rfl) (by unfold vbN; (repeat' split) <;> first | contradiction | exact (pk_m1 _).symm | decide) dX9_verbOf_74
        · have c_4 : v = (nI 755156).toInt64 := (lgEq).mp c_4
          refine lv_iconst (v := nI 3) hx hb dX9_verbOf_46 (by decide) ?_
          refine lv_goto (tgt := 63) hx hb dX9_verbOf_47 (by decide) ?_
          refine lv_istore_n (lv' := [(3, .int (nI 3)), (2, .int (-1)), (0, .long v)]) hx hb dX9_verbOf_63 rfl hl (by decide) rfl (fun ls hl => ?_)
          refine lv_iload_n hx hb dX9_verbOf_64 rfl (lv_at hl 1 rfl) ?_
          refine lv_iconst (v := (-1)) hx hb dX9_verbOf_65 (by decide) ?_
          refine zv_icmp_eq (tgt := 73) (X := (-1 : Int)) (Y := (-1 : Int)) rfl rfl hx hb dX9_verbOf_66 (by decide) (fun _ => ?_) (fun h => absurd h (by omega))
          refine lv_iload_n hx hb dX9_verbOf_73 rfl (lv_at hl 0 rfl) ?_
          exact retI hx hb hr hlocks hS hP hD () (rfl) (by unfold vbN; (repeat' split) <;> first | contradiction | exact (pk_m1 _).symm | decide) dX9_verbOf_74
      · have c_3 : v = (nI 408622).toInt64 := (lgEq).mp c_3
        refine lv_iconst (v := nI 2) hx hb dX9_verbOf_32 (by decide) ?_
        refine lv_goto (tgt := 37) hx hb dX9_verbOf_33 (by decide) ?_
        refine lv_istore_n (lv' := [(2, .int (nI 2)), (0, .long v)]) hx hb dX9_verbOf_37 rfl hl (by decide) rfl (fun ls hl => ?_)
        refine lv_lload_n hx hb dX9_verbOf_38 rfl (lv_at hl 1 rfl) ?_
        refine lv_ldc2 (v := 755156) hx hb hown f126 dX9_verbOf_39 ?_
        refine nv_topl (y := (nI 755156).toInt64) (by decide +kernel) ?_
        refine W.lcmp hx hb dX9_verbOf_42 ?_
        refine lv_if_ne (tgt := 50) hx hb dX9_verbOf_43 (by decide) (fun c_9 => ?_) (fun c_9 => ?_)
        · have c_9 : ¬ (v = (nI 755156).toInt64) := fun q => c_9 ((lgEq).mpr q)
          refine lv_lload_n hx hb dX9_verbOf_50 rfl (lv_at hl 1 rfl) ?_
          refine lv_ldc2 (v := 639411655) hx hb hown f128 dX9_verbOf_51 ?_
          refine nv_topl (y := (nI 639411655).toInt64) (by decide +kernel) ?_
          refine W.lcmp hx hb dX9_verbOf_54 ?_
          refine lv_if_ne (tgt := 62) hx hb dX9_verbOf_55 (by decide) (fun c_10 => ?_) (fun c_10 => ?_)
          · have c_10 : ¬ (v = (nI 639411655).toInt64) := fun q => c_10 ((lgEq).mpr q)
            refine lv_iconst (v := (-1)) hx hb dX9_verbOf_62 (by decide) ?_
            refine lv_istore_n (lv' := [(3, .int (-1)), (2, .int (nI 2)), (0, .long v)]) hx hb dX9_verbOf_63 rfl hl (by decide) rfl (fun ls hl => ?_)
            refine lv_iload_n hx hb dX9_verbOf_64 rfl (lv_at hl 1 rfl) ?_
            refine lv_iconst (v := (-1)) hx hb dX9_verbOf_65 (by decide) ?_
            refine zv_icmp_eq (tgt := 73) (X := (2 : Int)) (Y := (-1 : Int)) rfl rfl hx hb dX9_verbOf_66 (by decide) (fun h => absurd h (by omega)) (fun _ => ?_)
            refine lv_iload_n hx hb dX9_verbOf_69 rfl (lv_at hl 1 rfl) ?_
            refine lv_goto (tgt := 74) hx hb dX9_verbOf_70 (by decide) ?_
            exact retI hx hb hr hlocks hS hP hD () (rfl) (by unfold vbN; (repeat' split) <;> first | contradiction | exact (pk_m1 _).symm | decide) dX9_verbOf_74
          · have c_10 : v = (nI 639411655).toInt64 := (lgEq).mp c_10
            refine lv_iconst (v := nI 4) hx hb dX9_verbOf_58 (by decide) ?_
            refine lv_goto (tgt := 63) hx hb dX9_verbOf_59 (by decide) ?_
            refine lv_istore_n (lv' := [(3, .int (nI 4)), (2, .int (nI 2)), (0, .long v)]) hx hb dX9_verbOf_63 rfl hl (by decide) rfl (fun ls hl => ?_)
            refine lv_iload_n hx hb dX9_verbOf_64 rfl (lv_at hl 1 rfl) ?_
            refine lv_iconst (v := (-1)) hx hb dX9_verbOf_65 (by decide) ?_
            refine zv_icmp_eq (tgt := 73) (X := (2 : Int)) (Y := (-1 : Int)) rfl rfl hx hb dX9_verbOf_66 (by decide) (fun h => absurd h (by omega)) (fun _ => ?_)
            refine lv_iload_n hx hb dX9_verbOf_69 rfl (lv_at hl 1 rfl) ?_
            refine lv_goto (tgt := 74) hx hb dX9_verbOf_70 (by decide) ?_
            exact retI hx hb hr hlocks hS hP hD () (rfl) (by unfold vbN; (repeat' split) <;> first | contradiction | exact (pk_m1 _).symm | decide) dX9_verbOf_74
        · have c_9 : v = (nI 755156).toInt64 := (lgEq).mp c_9
          refine lv_iconst (v := nI 3) hx hb dX9_verbOf_46 (by decide) ?_
          refine lv_goto (tgt := 63) hx hb dX9_verbOf_47 (by decide) ?_
          refine lv_istore_n (lv' := [(3, .int (nI 3)), (2, .int (nI 2)), (0, .long v)]) hx hb dX9_verbOf_63 rfl hl (by decide) rfl (fun ls hl => ?_)
          refine lv_iload_n hx hb dX9_verbOf_64 rfl (lv_at hl 1 rfl) ?_
          refine lv_iconst (v := (-1)) hx hb dX9_verbOf_65 (by decide) ?_
          refine zv_icmp_eq (tgt := 73) (X := (2 : Int)) (Y := (-1 : Int)) rfl rfl hx hb dX9_verbOf_66 (by decide) (fun h => absurd h (by omega)) (fun _ => ?_)
          refine lv_iload_n hx hb dX9_verbOf_69 rfl (lv_at hl 1 rfl) ?_
          refine lv_goto (tgt := 74) hx hb dX9_verbOf_70 (by decide) ?_
          exact retI hx hb hr hlocks hS hP hD () (rfl) (by unfold vbN; (repeat' split) <;> first | contradiction | exact (pk_m1 _).symm | decide) dX9_verbOf_74
    · have c_2 : v = (nI 611717).toInt64 := (lgEq).mp c_2
      refine lv_iconst (v := nI 1) hx hb dX9_verbOf_20 (by decide) ?_
      refine lv_goto (tgt := 37) hx hb dX9_verbOf_21 (by decide) ?_
      refine lv_istore_n (lv' := [(2, .int (nI 1)), (0, .long v)]) hx hb dX9_verbOf_37 rfl hl (by decide) rfl (fun ls hl => ?_)
      refine lv_lload_n hx hb dX9_verbOf_38 rfl (lv_at hl 1 rfl) ?_
      refine lv_ldc2 (v := 755156) hx hb hown f126 dX9_verbOf_39 ?_
      refine nv_topl (y := (nI 755156).toInt64) (by decide +kernel) ?_
      refine W.lcmp hx hb dX9_verbOf_42 ?_
      refine lv_if_ne (tgt := 50) hx hb dX9_verbOf_43 (by decide) (fun c_14 => ?_) (fun c_14 => ?_)
      · have c_14 : ¬ (v = (nI 755156).toInt64) := fun q => c_14 ((lgEq).mpr q)
        refine lv_lload_n hx hb dX9_verbOf_50 rfl (lv_at hl 1 rfl) ?_
        refine lv_ldc2 (v := 639411655) hx hb hown f128 dX9_verbOf_51 ?_
        refine nv_topl (y := (nI 639411655).toInt64) (by decide +kernel) ?_
        refine W.lcmp hx hb dX9_verbOf_54 ?_
        refine lv_if_ne (tgt := 62) hx hb dX9_verbOf_55 (by decide) (fun c_15 => ?_) (fun c_15 => ?_)
        · have c_15 : ¬ (v = (nI 639411655).toInt64) := fun q => c_15 ((lgEq).mpr q)
          refine lv_iconst (v := (-1)) hx hb dX9_verbOf_62 (by decide) ?_
          refine lv_istore_n (lv' := [(3, .int (-1)), (2, .int (nI 1)), (0, .long v)]) hx hb dX9_verbOf_63 rfl hl (by decide) rfl (fun ls hl => ?_)
          refine lv_iload_n hx hb dX9_verbOf_64 rfl (lv_at hl 1 rfl) ?_
          refine lv_iconst (v := (-1)) hx hb dX9_verbOf_65 (by decide) ?_
          refine zv_icmp_eq (tgt := 73) (X := (1 : Int)) (Y := (-1 : Int)) rfl rfl hx hb dX9_verbOf_66 (by decide) (fun h => absurd h (by omega)) (fun _ => ?_)
          refine lv_iload_n hx hb dX9_verbOf_69 rfl (lv_at hl 1 rfl) ?_
          refine lv_goto (tgt := 74) hx hb dX9_verbOf_70 (by decide) ?_
          exact retI hx hb hr hlocks hS hP hD () (rfl) (by unfold vbN; (repeat' split) <;> first | contradiction | exact (pk_m1 _).symm | decide) dX9_verbOf_74
        · have c_15 : v = (nI 639411655).toInt64 := (lgEq).mp c_15
          refine lv_iconst (v := nI 4) hx hb dX9_verbOf_58 (by decide) ?_
          refine lv_goto (tgt := 63) hx hb dX9_verbOf_59 (by decide) ?_
          refine lv_istore_n (lv' := [(3, .int (nI 4)), (2, .int (nI 1)), (0, .long v)]) hx hb dX9_verbOf_63 rfl hl (by decide) rfl (fun ls hl => ?_)
          refine lv_iload_n hx hb dX9_verbOf_64 rfl (lv_at hl 1 rfl) ?_
          refine lv_iconst (v := (-1)) hx hb dX9_verbOf_65 (by decide) ?_
          refine zv_icmp_eq (tgt := 73) (X := (1 : Int)) (Y := (-1 : Int)) rfl rfl hx hb dX9_verbOf_66 (by decide) (fun h => absurd h (by omega)) (fun _ => ?_)
          refine lv_iload_n hx hb dX9_verbOf_69 rfl (lv_at hl 1 rfl) ?_
          refine lv_goto (tgt := 74) hx hb dX9_verbOf_70 (by decide) ?_
          exact retI hx hb hr hlocks hS hP hD () (rfl) (by unfold vbN; (repeat' split) <;> first | contradiction | exact (pk_m1 _).symm | decide) dX9_verbOf_74
      · have c_14 : v = (nI 755156).toInt64 := (lgEq).mp c_14
        refine lv_iconst (v := nI 3) hx hb dX9_verbOf_46 (by decide) ?_
        refine lv_goto (tgt := 63) hx hb dX9_verbOf_47 (by decide) ?_
        refine lv_istore_n (lv' := [(3, .int (nI 3)), (2, .int (nI 1)), (0, .long v)]) hx hb dX9_verbOf_63 rfl hl (by decide) rfl (fun ls hl => ?_)
        refine lv_iload_n hx hb dX9_verbOf_64 rfl (lv_at hl 1 rfl) ?_
        refine lv_iconst (v := (-1)) hx hb dX9_verbOf_65 (by decide) ?_
        refine zv_icmp_eq (tgt := 73) (X := (1 : Int)) (Y := (-1 : Int)) rfl rfl hx hb dX9_verbOf_66 (by decide) (fun h => absurd h (by omega)) (fun _ => ?_)
        refine lv_iload_n hx hb dX9_verbOf_69 rfl (lv_at hl 1 rfl) ?_
        refine lv_goto (tgt := 74) hx hb dX9_verbOf_70 (by decide) ?_
        exact retI hx hb hr hlocks hS hP hD () (rfl) (by unfold vbN; (repeat' split) <;> first | contradiction | exact (pk_m1 _).symm | decide) dX9_verbOf_74
  · have c_1 : v = (nI 661069).toInt64 := (lgEq).mp c_1
    refine lv_iconst (v := nI 0) hx hb dX9_verbOf_8 (by decide) ?_
    refine lv_goto (tgt := 37) hx hb dX9_verbOf_9 (by decide) ?_
    refine lv_istore_n (lv' := [(2, .int (nI 0)), (0, .long v)]) hx hb dX9_verbOf_37 rfl hl (by decide) rfl (fun ls hl => ?_)
    refine lv_lload_n hx hb dX9_verbOf_38 rfl (lv_at hl 1 rfl) ?_
    refine lv_ldc2 (v := 755156) hx hb hown f126 dX9_verbOf_39 ?_
    refine nv_topl (y := (nI 755156).toInt64) (by decide +kernel) ?_
    refine W.lcmp hx hb dX9_verbOf_42 ?_
    refine lv_if_ne (tgt := 50) hx hb dX9_verbOf_43 (by decide) (fun c_19 => ?_) (fun c_19 => ?_)
    · have c_19 : ¬ (v = (nI 755156).toInt64) := fun q => c_19 ((lgEq).mpr q)
      refine lv_lload_n hx hb dX9_verbOf_50 rfl (lv_at hl 1 rfl) ?_
      refine lv_ldc2 (v := 639411655) hx hb hown f128 dX9_verbOf_51 ?_
      refine nv_topl (y := (nI 639411655).toInt64) (by decide +kernel) ?_
      refine W.lcmp hx hb dX9_verbOf_54 ?_
      refine lv_if_ne (tgt := 62) hx hb dX9_verbOf_55 (by decide) (fun c_20 => ?_) (fun c_20 => ?_)
      · have c_20 : ¬ (v = (nI 639411655).toInt64) := fun q => c_20 ((lgEq).mpr q)
        refine lv_iconst (v := (-1)) hx hb dX9_verbOf_62 (by decide) ?_
        refine lv_istore_n (lv' := [(3, .int (-1)), (2, .int (nI 0)), (0, .long v)]) hx hb dX9_verbOf_63 rfl hl (by decide) rfl (fun ls hl => ?_)
        refine lv_iload_n hx hb dX9_verbOf_64 rfl (lv_at hl 1 rfl) ?_
        refine lv_iconst (v := (-1)) hx hb dX9_verbOf_65 (by decide) ?_
        refine zv_icmp_eq (tgt := 73) (X := (0 : Int)) (Y := (-1 : Int)) rfl rfl hx hb dX9_verbOf_66 (by decide) (fun h => absurd h (by omega)) (fun _ => ?_)
        refine lv_iload_n hx hb dX9_verbOf_69 rfl (lv_at hl 1 rfl) ?_
        refine lv_goto (tgt := 74) hx hb dX9_verbOf_70 (by decide) ?_
        exact retI hx hb hr hlocks hS hP hD () (rfl) (by unfold vbN; (repeat' split) <;> first | contradiction | exact (pk_m1 _).symm | decide) dX9_verbOf_74
      · have c_20 : v = (nI 639411655).toInt64 := (lgEq).mp c_20
        refine lv_iconst (v := nI 4) hx hb dX9_verbOf_58 (by decide) ?_
        refine lv_goto (tgt := 63) hx hb dX9_verbOf_59 (by decide) ?_
        refine lv_istore_n (lv' := [(3, .int (nI 4)), (2, .int (nI 0)), (0, .long v)]) hx hb dX9_verbOf_63 rfl hl (by decide) rfl (fun ls hl => ?_)
        refine lv_iload_n hx hb dX9_verbOf_64 rfl (lv_at hl 1 rfl) ?_
        refine lv_iconst (v := (-1)) hx hb dX9_verbOf_65 (by decide) ?_
        refine zv_icmp_eq (tgt := 73) (X := (0 : Int)) (Y := (-1 : Int)) rfl rfl hx hb dX9_verbOf_66 (by decide) (fun h => absurd h (by omega)) (fun _ => ?_)
        refine lv_iload_n hx hb dX9_verbOf_69 rfl (lv_at hl 1 rfl) ?_
        refine lv_goto (tgt := 74) hx hb dX9_verbOf_70 (by decide) ?_
        exact retI hx hb hr hlocks hS hP hD () (rfl) (by unfold vbN; (repeat' split) <;> first | contradiction | exact (pk_m1 _).symm | decide) dX9_verbOf_74
    · have c_19 : v = (nI 755156).toInt64 := (lgEq).mp c_19
      refine lv_iconst (v := nI 3) hx hb dX9_verbOf_46 (by decide) ?_
      refine lv_goto (tgt := 63) hx hb dX9_verbOf_47 (by decide) ?_
      refine lv_istore_n (lv' := [(3, .int (nI 3)), (2, .int (nI 0)), (0, .long v)]) hx hb dX9_verbOf_63 rfl hl (by decide) rfl (fun ls hl => ?_)
      refine lv_iload_n hx hb dX9_verbOf_64 rfl (lv_at hl 1 rfl) ?_
      refine lv_iconst (v := (-1)) hx hb dX9_verbOf_65 (by decide) ?_
      refine zv_icmp_eq (tgt := 73) (X := (0 : Int)) (Y := (-1 : Int)) rfl rfl hx hb dX9_verbOf_66 (by decide) (fun h => absurd h (by omega)) (fun _ => ?_)
      refine lv_iload_n hx hb dX9_verbOf_69 rfl (lv_at hl 1 rfl) ?_
      refine lv_goto (tgt := 74) hx hb dX9_verbOf_70 (by decide) ?_
      exact retI hx hb hr hlocks hS hP hD () (rfl) (by unfold vbN; (repeat' split) <;> first | contradiction | exact (pk_m1 _).symm | decide) dX9_verbOf_74

def ruN (tx : Nat → Nat) (tyd lo hi : Nat) : Nat → Nat → Nat
  | 0, a => a
  | f + 1, a => if a < tyd ∧ lo ≤ tx a ∧ tx a ≤ hi then ruN tx tyd lo hi f (a + 1) else a
def ruE (tx : Nat → Nat) (tyd lo hi a : Nat) : Nat := ruN tx tyd lo hi (tyd - a) a
theorem ruE_1 {tx : Nat → Nat} {tyd lo hi a : Nat} (h : a < tyd ∧ lo ≤ tx a ∧ tx a ≤ hi) : ruE tx tyd lo hi (a + 1) = ruE tx tyd lo hi a := by
  unfold ruE
  rw [show tyd - a = (tyd - (a + 1)) + 1 from by omega]
  show _ = (if a < tyd ∧ lo ≤ tx a ∧ tx a ≤ hi then ruN tx tyd lo hi (tyd - (a + 1)) (a + 1) else a)
  rw [if_pos h]
theorem ruE_2 {tx : Nat → Nat} {tyd lo hi a : Nat} (h : ¬ (a < tyd ∧ lo ≤ tx a ∧ tx a ≤ hi)) : ruE tx tyd lo hi a = a := by
  unfold ruE
  cases tyd - a with
  | zero => rfl
  | succ f =>
    show (if a < tyd ∧ lo ≤ tx a ∧ tx a ≤ hi then ruN tx tyd lo hi f (a + 1) else a) = a
    rw [if_neg h]
theorem ruN_le (tx : Nat → Nat) (tyd lo hi : Nat) : ∀ f a, a ≤ tyd → a ≤ ruN tx tyd lo hi f a ∧ ruN tx tyd lo hi f a ≤ tyd := by
  intro f
  induction f with
  | zero => intro a h; exact ⟨Nat.le_refl a, h⟩
  | succ f ih =>
    intro a h
    show a ≤ (if a < tyd ∧ lo ≤ tx a ∧ tx a ≤ hi then ruN tx tyd lo hi f (a + 1) else a) ∧ (if a < tyd ∧ lo ≤ tx a ∧ tx a ≤ hi then ruN tx tyd lo hi f (a + 1) else a) ≤ tyd
    by_cases q : a < tyd ∧ lo ≤ tx a ∧ tx a ≤ hi
    · rw [if_pos q]; have := ih (a + 1) (by omega); omega
    · rw [if_neg q]; omega
theorem ruE_le (tx : Nat → Nat) (lo hi : Nat) {tyd a : Nat} (h : a ≤ tyd) : a ≤ ruE tx tyd lo hi a ∧ ruE tx tyd lo hi a ≤ tyd := ruN_le tx tyd lo hi _ a h
def hsS (tx : Nat → Nat) (st j : Nat) : Int64 := it (fun k v => if 6 < k then (nI 0).toInt64 else (nI 32).toInt64 * v + (nI (tx (st + k))).toInt64 - (nI 97).toInt64 + (nI 1).toInt64) j (nI 0).toInt64
theorem hsS_0 (tx : Nat → Nat) (st : Nat) : hsS tx st 0 = (nI 0).toInt64 := rfl
theorem hsS_s (tx : Nat → Nat) (st j : Nat) : hsS tx st (j + 1) = if 6 < j then (nI 0).toInt64 else (nI 32).toInt64 * hsS tx st j + (nI (tx (st + j))).toInt64 - (nI 97).toInt64 + (nI 1).toInt64 := rfl
def nuS (tx : Nat → Nat) (st j : Nat) : Nat := it (fun k v => if k < 3 then 10 * v + tx (st + k) - 48 else v) j 0
theorem nuS_0 (tx : Nat → Nat) (st : Nat) : nuS tx st 0 = 0 := rfl
theorem nuS_s (tx : Nat → Nat) (st j : Nat) : nuS tx st (j + 1) = if j < 3 then 10 * nuS tx st j + tx (st + j) - 48 else nuS tx st j := rfl
def scA (tx : Nat → Nat) (tyd b : Nat) : Nat := if b = tyd then b else if 97 ≤ tx b ∧ tx b ≤ 122 then ruE tx tyd 97 122 b else if 48 ≤ tx b ∧ tx b ≤ 57 then ruE tx tyd 48 57 b else b + 1
def scT (tx : Nat → Nat) (tyd b : Nat) : Nat := if b = tyd then 0 else if 97 ≤ tx b ∧ tx b ≤ 122 then (if 6 < ruE tx tyd 97 122 b - b ∨ vbN (hsS tx b (ruE tx tyd 97 122 b - b)) = 0 then 1 else vbN (hsS tx b (ruE tx tyd 97 122 b - b)) + 3) else if 48 ≤ tx b ∧ tx b ≤ 57 then (if 3 < ruE tx tyd 48 57 b - b then 1 else 2) else if tx b = 59 then 3 else 1
def scV (tx : Nat → Nat) (tyd val b : Nat) : Nat := if b = tyd then val else if 97 ≤ tx b ∧ tx b ≤ 122 then val else if 48 ≤ tx b ∧ tx b ≤ 57 then nuS tx b (ruE tx tyd 48 57 b - b) else val
theorem sc_0 {tx : Nat → Nat} {tyd b : Nat} (val : Nat) (h : b = tyd) : scA tx tyd b = b ∧ scT tx tyd b = 0 ∧ scV tx tyd val b = val := ⟨if_pos h, if_pos h, if_pos h⟩
theorem sc_1 {tx : Nat → Nat} {tyd b e : Nat} (val : Nat) (h : b < tyd ∧ 97 ≤ tx b ∧ tx b ≤ 122) (he : ruE tx tyd 97 122 b = e) : scA tx tyd b = e ∧ scT tx tyd b = (if 6 < e - b ∨ vbN (hsS tx b (e - b)) = 0 then 1 else vbN (hsS tx b (e - b)) + 3) ∧ scV tx tyd val b = val := by
  unfold scA scT scV
  subst he
  rw [if_neg (show ¬ b = tyd by omega), if_neg (show ¬ b = tyd by omega), if_neg (show ¬ b = tyd by omega), if_pos h.2, if_pos h.2, if_pos h.2]
  exact ⟨rfl, rfl, rfl⟩
theorem sc_2 {tx : Nat → Nat} {tyd b e : Nat} (val : Nat) (h : b < tyd ∧ 48 ≤ tx b ∧ tx b ≤ 57) (he : ruE tx tyd 48 57 b = e) : scA tx tyd b = e ∧ scT tx tyd b = (if 3 < e - b then 1 else 2) ∧ scV tx tyd val b = nuS tx b (e - b) := by
  unfold scA scT scV
  subst he
  have h2 : ¬ (97 ≤ tx b ∧ tx b ≤ 122) := by omega
  rw [if_neg (show ¬ b = tyd by omega), if_neg (show ¬ b = tyd by omega), if_neg (show ¬ b = tyd by omega), if_neg h2, if_neg h2, if_neg h2, if_pos h.2, if_pos h.2, if_pos h.2]
  exact ⟨rfl, rfl, rfl⟩
theorem sc_3 {tx : Nat → Nat} {tyd b : Nat} (val : Nat) (h : ¬ b = tyd) (h2 : ¬ (97 ≤ tx b ∧ tx b ≤ 122)) (h3 : ¬ (48 ≤ tx b ∧ tx b ≤ 57)) : scA tx tyd b = b + 1 ∧ scT tx tyd b = (if tx b = 59 then 3 else 1) ∧ scV tx tyd val b = val := by
  unfold scA scT scV
  rw [if_neg h, if_neg h, if_neg h, if_neg h2, if_neg h2, if_neg h2, if_neg h3, if_neg h3, if_neg h3]
  exact ⟨rfl, rfl, rfl⟩
theorem vb4 {y : Nat} (h : 0 < y) : nI 4 + (nI y + (-1)) = nI (y + 3) := by
  obtain ⟨z, rfl⟩ : ∃ z, y = z + 1 := ⟨y - 1, by omega⟩
  rw [pk_m1, nI_add]
  exact congrArg nI (by omega)

set_option maxHeartbeats 4000000 in
set_option maxRecDepth 100000 in
theorem c_X9_scans (l : Launch) (G : va_G) (tA : Nat → ClassId) (b : Nat → Nat) (qu : Nat) (ab : Int64) (bl : Int64) (tyd : Nat) (at0 : Nat) (sta : Nat) (tok : Nat) (val : Nat) (man : Nat) (tx : Nat → Nat) (hty : tyd ≤ 250) (hat : at0 ≤ tyd) (hbx : ∀ j, tx j < 1048576) (hvl : val < 1048576) : CtV l yX9_scans wsX9_scans ({ frames := 2, cells := 0, slots := 0, locals := 47 }) G tA [.ref (b 0)] ([(b 0, .inr (7, [.ref (b 1), .ref (b 2), .ref (b 3), .ref (b 4), .ref (b 5), .int (nI qu), .long ab, .long bl, .ref (b 6), .int (nI tyd), .int (nI at0), .int (nI sta), .int (nI tok), .int (nI val), .ref (b 7), .int (nI man), .ref (b 8), .ref (b 9), .ref (b 10), .ref (b 11), .ref (b 12), .ref (b 13), .ref (b 14)])), (b 6, .inl (tA 0, 250, .inl (nF tx)))]) (fun (_ : Unit) => scA tx tyd (ruE tx tyd 32 32 at0) ≤ tyd ∧ scT tx tyd (ruE tx tyd 32 32 at0) ≤ 8 ∧ scV tx tyd val (ruE tx tyd 32 32 at0) < 1048576 ∧ at0 ≤ (ruE tx tyd 32 32 at0) ∧ (ruE tx tyd 32 32 at0) ≤ tyd) (fun (_ : Unit) => [(b 0, .inr (7, [.ref (b 1), .ref (b 2), .ref (b 3), .ref (b 4), .ref (b 5), .int (nI qu), .long ab, .long bl, .ref (b 6), .int (nI tyd), .int (nI (scA tx tyd (ruE tx tyd 32 32 at0))), .int (nI (ruE tx tyd 32 32 at0)), .int (nI (scT tx tyd (ruE tx tyd 32 32 at0))), .int (nI (scV tx tyd val (ruE tx tyd 32 32 at0))), .ref (b 7), .int (nI man), .ref (b 8), .ref (b 9), .ref (b 10), .ref (b 11), .ref (b 12), .ref (b 13), .ref (b 14)])), (b 6, .inl (tA 0, 250, .inl (nF tx)))]) 0 0 := by
  refine enterV (cc := cX9_scans) (maxL := 3) (ret := none) (by decide) rfl (Nat.le_of_ble_eq_true rfl) ?_
  intro p0 e0 s m args below meth c0_ A ls hx hb hml hr hts hown hlocks hin hKK hA hP hD hl hS
  have hown : s.vm.findClass RX9 = some m.cls := hown
  have hl : lv_has ls 3 [(0, .ref (b 0))] := hl
  have f117 := hts (Cond.fieldLink RX9 117 "LentTermsModel" "at" "I") (List.mem_of_getElem? (i := 1) rfl)
  have iX9 : ∀ w ∈ wsX90, w ∈ wsX9_scans := by decide +kernel
  have f134 := hts (Cond.fieldLink RX9 134 "LentTermsModel" "start" "I") (List.mem_of_getElem? (i := 2) rfl)
  have f111 := hts (Cond.fieldLink RX9 111 "LentTermsModel" "typed" "I") (List.mem_of_getElem? (i := 3) rfl)
  have f140 := hts (Cond.constantLong RX9 140 (32)) (List.mem_of_getElem? (i := 5) rfl)
  have f26 := hts (Cond.fieldLink RX9 26 "LentTermsModel" "text" "[I") (List.mem_of_getElem? (i := 6) rfl)
  have f142 := hts (Cond.constantLong RX9 142 (97)) (List.mem_of_getElem? (i := 7) rfl)
  have f137 := hts (Cond.fieldLink RX9 137 "LentTermsModel" "token" "I") (List.mem_of_getElem? (i := 4) rfl)
  have f148 := hts (Cond.fieldLink RX9 148 "LentTermsModel" "value" "I") (List.mem_of_getElem? (i := 8) rfl)
  refine wloop (σ := (Nat)) (fun | a1 => tyd - a1) (fun | a1 => (at0 ≤ a1 ∧ a1 ≤ tyd) ∧ (ruE tx tyd 32 32 a1 = ruE tx tyd 32 32 at0)) (fun | a1 => [(0, .ref (b 0))]) (fun | a1 => [(b 0, .inr (7, [.ref (b 1), .ref (b 2), .ref (b 3), .ref (b 4), .ref (b 5), .int (nI qu), .long ab, .long bl, .ref (b 6), .int (nI tyd), .int (nI a1), .int (nI sta), .int (nI tok), .int (nI val), .ref (b 7), .int (nI man), .ref (b 8), .ref (b 9), .ref (b 10), .ref (b 11), .ref (b 12), .ref (b 13), .ref (b 14)])), (b 6, .inl (tA 0, 250, .inl (nF tx)))]) at0 ⟨(show at0 ≤ at0 ∧ at0 ≤ tyd from ⟨by omega, by omega⟩), (show ruE tx tyd 32 32 at0 = ruE tx tyd 32 32 at0 from rfl)⟩ (lv_sub hl [0] rfl) hP hD hS ?_
  rintro a1 ⟨ha1, hr1⟩ ih_1 ls H locs hl hP hD hS
  have hl : lv_has ls 3 [(0, .ref (b 0))] := hl
  have hP : va_P G vwCl [(b 0, .inr (7, [.ref (b 1), .ref (b 2), .ref (b 3), .ref (b 4), .ref (b 5), .int (nI qu), .long ab, .long bl, .ref (b 6), .int (nI tyd), .int (nI a1), .int (nI sta), .int (nI tok), .int (nI val), .ref (b 7), .int (nI man), .ref (b 8), .ref (b 9), .ref (b 10), .ref (b 11), .ref (b 12), .ref (b 13), .ref (b 14)])), (b 6, .inl (tA 0, 250, .inl (nF tx)))] H := hP
  have hD : va_D A [(b 0, .inr (7, [.ref (b 1), .ref (b 2), .ref (b 3), .ref (b 4), .ref (b 5), .int (nI qu), .long ab, .long bl, .ref (b 6), .int (nI tyd), .int (nI a1), .int (nI sta), .int (nI tok), .int (nI val), .ref (b 7), .int (nI man), .ref (b 8), .ref (b 9), .ref (b 10), .ref (b 11), .ref (b 12), .ref (b 13), .ref (b 14)])), (b 6, .inl (tA 0, 250, .inl (nF tx)))] := hD
  have ha1 : at0 ≤ a1 ∧ a1 ≤ tyd := ha1
  have hr1 : ruE tx tyd 32 32 a1 = ruE tx tyd 32 32 at0 := hr1
  refine lv_aload_n hx hb dX9_scans_0 rfl (lv_at hl 0 rfl) ?_
  refine lv_bipush (v := nI 32) hx hb dX9_scans_1 (by decide +kernel) ?_
  refine lv_bipush (v := nI 32) hx hb dX9_scans_3 (by decide +kernel) ?_
  refine roI hP hD hS hA [0, 1] rfl (runV (As := [.int (nI 32), .int (nI 32)]) (rest := []) (isC := [0, 1]) ⟨hx, hb, hml, hown, hts⟩ hKK hP hD rfl (by decide) (c_X9_isAt l G tA b qu ab bl tyd a1 sta tok val man tx 32 32 (by first | assumption | omega) (by omega) (by first | assumption | omega) (by first | assumption | omega) (by first | assumption | omega) _) (cwV 2 hts gX9_scans_X9_isAt rfl rfl rfl (by decide +kernel) ⟨Nat.le_of_ble_eq_true rfl, Nat.le_of_ble_eq_true rfl⟩) rfl rfl rfl rfl hl.1 rfl (lv_room (Nat.le_of_ble_eq_true rfl)) dX9_scans_5 ⟨Nat.le_of_ble_eq_true rfl, Nat.le_of_ble_eq_true rfl⟩) (fun _ => rfl) (fun r_2 u_3 H locs q_4 hP hS => ?_)
  rcases q_4 with ⟨rfl, p_5⟩ | ⟨rfl, p_5⟩
  · have p_5 : a1 < tyd ∧ 32 ≤ tx a1 ∧ tx a1 ≤ 32 := p_5
    refine nv_if_eq (tgt := 24) (by omega) hx hb dX9_scans_8 (by decide) (fun h => absurd h (by omega)) (fun _ => ?_)
    refine lv_aload_n hx hb dX9_scans_11 rfl (lv_at hl 0 rfl) ?_
    refine lv_dup hx hb dX9_scans_12 rfl ?_
    refine va_get (D := G) (ci := 7) (C := RX9) (T := TX9) (N := 23) hx hb hts iX9 hown hKK.1 hP 0 rfl rfl 10 (by decide) f117 (fun _ h9 => h9) rfl dX9_scans_13 ?_
    refine lv_iconst (v := nI 1) hx hb dX9_scans_16 (by decide) ?_
    refine nv_iadd hx hb dX9_scans_17 ?_
    refine nv_put (D := G) (ci := 7) (v := .int (nI (a1 + 1))) (ty := (tyX9 10)) (C := RX9) (T := TX9) (N := 23) hx hb hts iX9 tyX9 tyX9_ok nmX9 hown hKK.1 hP hD hS 0 rfl rfl 10 (by decide) f117 (fun _ h9 => h9) rfl (by decide +kernel) rfl rfl (Nat.le_of_ble_eq_true rfl) dX9_scans_18 [(b 0, .inr (7, [.ref (b 1), .ref (b 2), .ref (b 3), .ref (b 4), .ref (b 5), .int (nI qu), .long ab, .long bl, .ref (b 6), .int (nI tyd), .int (nI (a1 + 1)), .int (nI sta), .int (nI tok), .int (nI val), .ref (b 7), .int (nI man), .ref (b 8), .ref (b 9), .ref (b 10), .ref (b 11), .ref (b 12), .ref (b 13), .ref (b 14)])), (b 6, .inl (tA 0, 250, .inl (nF tx)))] rfl (fun H locs hP hD hS => ?_)
    refine lv_goto (tgt := 0) hx hb dX9_scans_21 (by decide) ?_
    exact ih_1 (a1 + 1) (show tyd - (a1 + 1) < tyd - a1 from by omega) ⟨(show at0 ≤ (a1 + 1) ∧ (a1 + 1) ≤ tyd from ⟨by omega, by omega⟩), (show ruE tx tyd 32 32 (a1 + 1) = ruE tx tyd 32 32 at0 from by rw [ruE_1 (by omega), hr1])⟩ _ _ _ (lv_sub hl [0] rfl) hP hD hS
  · have p_5 : ¬ (a1 < tyd ∧ 32 ≤ tx a1 ∧ tx a1 ≤ 32) := p_5
    refine nv_if_eq (tgt := 24) (by omega) hx hb dX9_scans_8 (by decide) (fun _ => ?_) (fun h => absurd h (by omega))
    have hst : ruE tx tyd 32 32 at0 = a1 := by rw [← hr1]; exact ruE_2 (by omega)
    refine lv_aload_n hx hb dX9_scans_24 rfl (lv_at hl 0 rfl) ?_
    refine lv_aload_n hx hb dX9_scans_25 rfl (lv_at hl 0 rfl) ?_
    refine va_get (D := G) (ci := 7) (C := RX9) (T := TX9) (N := 23) hx hb hts iX9 hown hKK.1 hP 0 rfl rfl 10 (by decide) f117 (fun _ h9 => h9) rfl dX9_scans_26 ?_
    refine nv_put (D := G) (ci := 7) (v := .int (nI a1)) (ty := (tyX9 11)) (C := RX9) (T := TX9) (N := 23) hx hb hts iX9 tyX9 tyX9_ok nmX9 hown hKK.1 hP hD hS 0 rfl rfl 11 (by decide) f134 (fun _ h9 => h9) rfl (by decide +kernel) rfl rfl (Nat.le_of_ble_eq_true rfl) dX9_scans_29 [(b 0, .inr (7, [.ref (b 1), .ref (b 2), .ref (b 3), .ref (b 4), .ref (b 5), .int (nI qu), .long ab, .long bl, .ref (b 6), .int (nI tyd), .int (nI a1), .int (nI a1), .int (nI tok), .int (nI val), .ref (b 7), .int (nI man), .ref (b 8), .ref (b 9), .ref (b 10), .ref (b 11), .ref (b 12), .ref (b 13), .ref (b 14)])), (b 6, .inl (tA 0, 250, .inl (nF tx)))] rfl (fun H locs hP hD hS => ?_)
    refine lv_aload_n hx hb dX9_scans_32 rfl (lv_at hl 0 rfl) ?_
    refine va_get (D := G) (ci := 7) (C := RX9) (T := TX9) (N := 23) hx hb hts iX9 hown hKK.1 hP 0 rfl rfl 10 (by decide) f117 (fun _ h9 => h9) rfl dX9_scans_33 ?_
    refine lv_aload_n hx hb dX9_scans_36 rfl (lv_at hl 0 rfl) ?_
    refine va_get (D := G) (ci := 7) (C := RX9) (T := TX9) (N := 23) hx hb hts iX9 hown hKK.1 hP 0 rfl rfl 9 (by decide) f111 (fun _ h9 => h9) rfl dX9_scans_37 ?_
    refine nv_icmp_ne (tgt := 49) (by omega) (by omega) hx hb dX9_scans_40 (by decide) (fun c_8 => ?_) (fun c_8 => ?_)
    · refine lv_aload_n hx hb dX9_scans_49 rfl (lv_at hl 0 rfl) ?_
      refine lv_bipush (v := nI 97) hx hb dX9_scans_50 (by decide +kernel) ?_
      refine lv_bipush (v := nI 122) hx hb dX9_scans_52 (by decide +kernel) ?_
      refine roI hP hD hS hA [0, 1] rfl (runV (As := [.int (nI 97), .int (nI 122)]) (rest := []) (isC := [0, 1]) ⟨hx, hb, hml, hown, hts⟩ hKK hP hD rfl (by decide) (c_X9_isAt l G tA b qu ab bl tyd a1 a1 tok val man tx 97 122 (by first | assumption | omega) (by omega) (by first | assumption | omega) (by first | assumption | omega) (by first | assumption | omega) _) (cwV 2 hts gX9_scans_X9_isAt rfl rfl rfl (by decide +kernel) ⟨Nat.le_of_ble_eq_true rfl, Nat.le_of_ble_eq_true rfl⟩) rfl rfl rfl rfl hl.1 rfl (lv_room (Nat.le_of_ble_eq_true rfl)) dX9_scans_54 ⟨Nat.le_of_ble_eq_true rfl, Nat.le_of_ble_eq_true rfl⟩) (fun _ => rfl) (fun r_9 u_10 H locs q_11 hP hS => ?_)
      rcases q_11 with ⟨rfl, p_12⟩ | ⟨rfl, p_12⟩
      · have p_12 : a1 < tyd ∧ 97 ≤ tx a1 ∧ tx a1 ≤ 122 := p_12
        refine nv_if_eq (tgt := 164) (by omega) hx hb dX9_scans_57 (by decide) (fun h => absurd h (by omega)) (fun _ => ?_)
        refine lv_lconst (v := (nI 0).toInt64) hx hb dX9_scans_60 (by decide +kernel) ?_
        refine lv_lstore_n (lv' := [(1, .long ((nI 0).toInt64)), (0, .ref (b 0))]) hx hb dX9_scans_61 rfl hl (by decide) rfl (fun ls hl => ?_)
        refine wloop (σ := (Nat) × (Int64)) (fun | (a2, hh) => tyd - a2) (fun | (a2, hh) => (a1 ≤ a2 ∧ a2 ≤ tyd) ∧ (ruE tx tyd 97 122 a2 = ruE tx tyd 97 122 a1) ∧ (hh = hsS tx a1 (a2 - a1))) (fun | (a2, hh) => [(1, .long hh), (0, .ref (b 0))]) (fun | (a2, hh) => [(b 0, .inr (7, [.ref (b 1), .ref (b 2), .ref (b 3), .ref (b 4), .ref (b 5), .int (nI qu), .long ab, .long bl, .ref (b 6), .int (nI tyd), .int (nI a2), .int (nI a1), .int (nI tok), .int (nI val), .ref (b 7), .int (nI man), .ref (b 8), .ref (b 9), .ref (b 10), .ref (b 11), .ref (b 12), .ref (b 13), .ref (b 14)])), (b 6, .inl (tA 0, 250, .inl (nF tx)))]) (a1, (nI 0).toInt64) ⟨(show a1 ≤ a1 ∧ a1 ≤ tyd from ⟨by omega, by omega⟩), (show ruE tx tyd 97 122 a1 = ruE tx tyd 97 122 a1 from rfl), (show ((nI 0).toInt64) = hsS tx a1 (a1 - a1) from by rw [Nat.sub_self, hsS_0])⟩ (lv_sub hl [0, 1] rfl) hP hD hS ?_
        rintro ⟨a2, hh⟩ ⟨ha2, hr2, hh2⟩ ih_14 ls H locs hl hP hD hS
        have hl : lv_has ls 3 [(1, .long hh), (0, .ref (b 0))] := hl
        have hP : va_P G vwCl [(b 0, .inr (7, [.ref (b 1), .ref (b 2), .ref (b 3), .ref (b 4), .ref (b 5), .int (nI qu), .long ab, .long bl, .ref (b 6), .int (nI tyd), .int (nI a2), .int (nI a1), .int (nI tok), .int (nI val), .ref (b 7), .int (nI man), .ref (b 8), .ref (b 9), .ref (b 10), .ref (b 11), .ref (b 12), .ref (b 13), .ref (b 14)])), (b 6, .inl (tA 0, 250, .inl (nF tx)))] H := hP
        have hD : va_D A [(b 0, .inr (7, [.ref (b 1), .ref (b 2), .ref (b 3), .ref (b 4), .ref (b 5), .int (nI qu), .long ab, .long bl, .ref (b 6), .int (nI tyd), .int (nI a2), .int (nI a1), .int (nI tok), .int (nI val), .ref (b 7), .int (nI man), .ref (b 8), .ref (b 9), .ref (b 10), .ref (b 11), .ref (b 12), .ref (b 13), .ref (b 14)])), (b 6, .inl (tA 0, 250, .inl (nF tx)))] := hD
        have ha2 : a1 ≤ a2 ∧ a2 ≤ tyd := ha2
        have hr2 : ruE tx tyd 97 122 a2 = ruE tx tyd 97 122 a1 := hr2
        have hh2 : hh = hsS tx a1 (a2 - a1) := hh2
        refine lv_aload_n hx hb dX9_scans_62 rfl (lv_at hl 1 rfl) ?_
        refine lv_bipush (v := nI 97) hx hb dX9_scans_63 (by decide +kernel) ?_
        refine lv_bipush (v := nI 122) hx hb dX9_scans_65 (by decide +kernel) ?_
        refine roI hP hD hS hA [0, 1] rfl (runV (As := [.int (nI 97), .int (nI 122)]) (rest := []) (isC := [0, 1]) ⟨hx, hb, hml, hown, hts⟩ hKK hP hD rfl (by decide) (c_X9_isAt l G tA b qu ab bl tyd a2 a1 tok val man tx 97 122 (by first | assumption | omega) (by omega) (by first | assumption | omega) (by first | assumption | omega) (by first | assumption | omega) _) (cwV 2 hts gX9_scans_X9_isAt rfl rfl rfl (by decide +kernel) ⟨Nat.le_of_ble_eq_true rfl, Nat.le_of_ble_eq_true rfl⟩) rfl rfl rfl rfl hl.1 rfl (lv_room (Nat.le_of_ble_eq_true rfl)) dX9_scans_67 ⟨Nat.le_of_ble_eq_true rfl, Nat.le_of_ble_eq_true rfl⟩) (fun _ => rfl) (fun r_15 u_16 H locs q_17 hP hS => ?_)
        rcases q_17 with ⟨rfl, p_18⟩ | ⟨rfl, p_18⟩
        · have p_18 : a2 < tyd ∧ 97 ≤ tx a2 ∧ tx a2 ≤ 122 := p_18
          refine nv_if_eq (tgt := 127) (by omega) hx hb dX9_scans_70 (by decide) (fun h => absurd h (by omega)) (fun _ => ?_)
          refine lv_aload_n hx hb dX9_scans_73 rfl (lv_at hl 1 rfl) ?_
          refine va_get (D := G) (ci := 7) (C := RX9) (T := TX9) (N := 23) hx hb hts iX9 hown hKK.1 hP 0 rfl rfl 10 (by decide) f117 (fun _ h9 => h9) rfl dX9_scans_74 ?_
          refine lv_aload_n hx hb dX9_scans_77 rfl (lv_at hl 1 rfl) ?_
          refine va_get (D := G) (ci := 7) (C := RX9) (T := TX9) (N := 23) hx hb hts iX9 hown hKK.1 hP 0 rfl rfl 11 (by decide) f134 (fun _ h9 => h9) rfl dX9_scans_78 ?_
          refine nv_isub (show a1 ≤ a2 from by omega) hx hb dX9_scans_81 ?_
          refine lv_bipush (v := nI 6) hx hb dX9_scans_82 (by decide +kernel) ?_
          refine nv_icmp_le (tgt := 91) (by omega) (by omega) hx hb dX9_scans_84 (by decide) (fun c_20 => ?_) (fun c_20 => ?_)
          · refine lv_ldc2 (v := 32) hx hb hown f140 dX9_scans_91 ?_
            refine nv_topl (y := (nI 32).toInt64) (by decide +kernel) ?_
            refine lv_lload_n hx hb dX9_scans_94 rfl (lv_at hl 0 rfl) ?_
            refine lv_lmul hx hb dX9_scans_95 ?_
            refine lv_aload_n hx hb dX9_scans_96 rfl (lv_at hl 1 rfl) ?_
            refine va_get (D := G) (ci := 7) (C := RX9) (T := TX9) (N := 23) hx hb hts iX9 hown hKK.1 hP 0 rfl rfl 8 (by decide) f26 (fun _ h9 => h9) rfl dX9_scans_97 ?_
            refine lv_aload_n hx hb dX9_scans_100 rfl (lv_at hl 1 rfl) ?_
            refine va_get (D := G) (ci := 7) (C := RX9) (T := TX9) (N := 23) hx hb hts iX9 hown hKK.1 hP 0 rfl rfl 10 (by decide) f117 (fun _ h9 => h9) rfl dX9_scans_101 ?_
            refine nv_iald (i := a2) hx hb hKK.1 hP 1 0 rfl rfl (by omega) (by decide) dX9_scans_104 ?_
            have b_21 := hbx a2
            refine lv_i2l hx hb dX9_scans_105 rfl ?_
            refine lv_ladd hx hb dX9_scans_106 ?_
            refine lv_ldc2 (v := 97) hx hb hown f142 dX9_scans_107 ?_
            refine nv_topl (y := (nI 97).toInt64) (by decide +kernel) ?_
            refine lv_lsub hx hb dX9_scans_110 ?_
            refine lv_lconst (v := (nI 1).toInt64) hx hb dX9_scans_111 (by decide +kernel) ?_
            refine lv_ladd hx hb dX9_scans_112 ?_
            refine lv_lstore_n (lv' := [(1, .long ((((((nI 32).toInt64) * hh) + ((nI (tx a2)).toInt64)) - ((nI 97).toInt64)) + ((nI 1).toInt64))), (0, .ref (b 0))]) hx hb dX9_scans_113 rfl hl (by decide) rfl (fun ls hl => ?_)
            refine lv_aload_n hx hb dX9_scans_114 rfl (lv_at hl 1 rfl) ?_
            refine lv_dup hx hb dX9_scans_115 rfl ?_
            refine va_get (D := G) (ci := 7) (C := RX9) (T := TX9) (N := 23) hx hb hts iX9 hown hKK.1 hP 0 rfl rfl 10 (by decide) f117 (fun _ h9 => h9) rfl dX9_scans_116 ?_
            refine lv_iconst (v := nI 1) hx hb dX9_scans_119 (by decide) ?_
            refine nv_iadd hx hb dX9_scans_120 ?_
            refine nv_put (D := G) (ci := 7) (v := .int (nI (a2 + 1))) (ty := (tyX9 10)) (C := RX9) (T := TX9) (N := 23) hx hb hts iX9 tyX9 tyX9_ok nmX9 hown hKK.1 hP hD hS 0 rfl rfl 10 (by decide) f117 (fun _ h9 => h9) rfl (by decide +kernel) rfl rfl (Nat.le_of_ble_eq_true rfl) dX9_scans_121 [(b 0, .inr (7, [.ref (b 1), .ref (b 2), .ref (b 3), .ref (b 4), .ref (b 5), .int (nI qu), .long ab, .long bl, .ref (b 6), .int (nI tyd), .int (nI (a2 + 1)), .int (nI a1), .int (nI tok), .int (nI val), .ref (b 7), .int (nI man), .ref (b 8), .ref (b 9), .ref (b 10), .ref (b 11), .ref (b 12), .ref (b 13), .ref (b 14)])), (b 6, .inl (tA 0, 250, .inl (nF tx)))] rfl (fun H locs hP hD hS => ?_)
            refine lv_goto (tgt := 62) hx hb dX9_scans_124 (by decide) ?_
            exact ih_14 (a2 + 1, (((((nI 32).toInt64) * hh) + ((nI (tx a2)).toInt64)) - ((nI 97).toInt64)) + ((nI 1).toInt64)) (show tyd - (a2 + 1) < tyd - a2 from by omega) ⟨(show a1 ≤ (a2 + 1) ∧ (a2 + 1) ≤ tyd from ⟨by omega, by omega⟩), (show ruE tx tyd 97 122 (a2 + 1) = ruE tx tyd 97 122 a1 from by rw [ruE_1 (by omega), hr2]), (show ((((((nI 32).toInt64) * hh) + ((nI (tx a2)).toInt64)) - ((nI 97).toInt64)) + ((nI 1).toInt64)) = hsS tx a1 ((a2 + 1) - a1) from by rw [show a2 + 1 - a1 = (a2 - a1) + 1 from by omega, hsS_s, ← hh2, show a1 + (a2 - a1) = a2 from by omega]; first | rw [if_pos (by omega)] | rw [if_neg (by omega)])⟩ _ _ _ (lv_sub hl [0, 1] rfl) hP hD hS
          · refine lv_lconst (v := (nI 0).toInt64) hx hb dX9_scans_87 (by decide +kernel) ?_
            refine lv_goto (tgt := 113) hx hb dX9_scans_88 (by decide) ?_
            refine lv_lstore_n (lv' := [(1, .long ((nI 0).toInt64)), (0, .ref (b 0))]) hx hb dX9_scans_113 rfl hl (by decide) rfl (fun ls hl => ?_)
            refine lv_aload_n hx hb dX9_scans_114 rfl (lv_at hl 1 rfl) ?_
            refine lv_dup hx hb dX9_scans_115 rfl ?_
            refine va_get (D := G) (ci := 7) (C := RX9) (T := TX9) (N := 23) hx hb hts iX9 hown hKK.1 hP 0 rfl rfl 10 (by decide) f117 (fun _ h9 => h9) rfl dX9_scans_116 ?_
            refine lv_iconst (v := nI 1) hx hb dX9_scans_119 (by decide) ?_
            refine nv_iadd hx hb dX9_scans_120 ?_
            refine nv_put (D := G) (ci := 7) (v := .int (nI (a2 + 1))) (ty := (tyX9 10)) (C := RX9) (T := TX9) (N := 23) hx hb hts iX9 tyX9 tyX9_ok nmX9 hown hKK.1 hP hD hS 0 rfl rfl 10 (by decide) f117 (fun _ h9 => h9) rfl (by decide +kernel) rfl rfl (Nat.le_of_ble_eq_true rfl) dX9_scans_121 [(b 0, .inr (7, [.ref (b 1), .ref (b 2), .ref (b 3), .ref (b 4), .ref (b 5), .int (nI qu), .long ab, .long bl, .ref (b 6), .int (nI tyd), .int (nI (a2 + 1)), .int (nI a1), .int (nI tok), .int (nI val), .ref (b 7), .int (nI man), .ref (b 8), .ref (b 9), .ref (b 10), .ref (b 11), .ref (b 12), .ref (b 13), .ref (b 14)])), (b 6, .inl (tA 0, 250, .inl (nF tx)))] rfl (fun H locs hP hD hS => ?_)
            refine lv_goto (tgt := 62) hx hb dX9_scans_124 (by decide) ?_
            exact ih_14 (a2 + 1, (nI 0).toInt64) (show tyd - (a2 + 1) < tyd - a2 from by omega) ⟨(show a1 ≤ (a2 + 1) ∧ (a2 + 1) ≤ tyd from ⟨by omega, by omega⟩), (show ruE tx tyd 97 122 (a2 + 1) = ruE tx tyd 97 122 a1 from by rw [ruE_1 (by omega), hr2]), (show ((nI 0).toInt64) = hsS tx a1 ((a2 + 1) - a1) from by rw [show a2 + 1 - a1 = (a2 - a1) + 1 from by omega, hsS_s, ← hh2, show a1 + (a2 - a1) = a2 from by omega]; first | rw [if_pos (by omega)] | rw [if_neg (by omega)])⟩ _ _ _ (lv_sub hl [0, 1] rfl) hP hD hS
        · have p_18 : ¬ (a2 < tyd ∧ 97 ≤ tx a2 ∧ tx a2 ≤ 122) := p_18
          refine nv_if_eq (tgt := 127) (by omega) hx hb dX9_scans_70 (by decide) (fun _ => ?_) (fun h => absurd h (by omega))
          refine lv_aload_n hx hb dX9_scans_127 rfl (lv_at hl 1 rfl) ?_
          refine lv_aload_n hx hb dX9_scans_128 rfl (lv_at hl 1 rfl) ?_
          refine va_get (D := G) (ci := 7) (C := RX9) (T := TX9) (N := 23) hx hb hts iX9 hown hKK.1 hP 0 rfl rfl 10 (by decide) f117 (fun _ h9 => h9) rfl dX9_scans_129 ?_
          refine lv_aload_n hx hb dX9_scans_132 rfl (lv_at hl 1 rfl) ?_
          refine va_get (D := G) (ci := 7) (C := RX9) (T := TX9) (N := 23) hx hb hts iX9 hown hKK.1 hP 0 rfl rfl 11 (by decide) f134 (fun _ h9 => h9) rfl dX9_scans_133 ?_
          refine nv_isub (show a1 ≤ a2 from by omega) hx hb dX9_scans_136 ?_
          refine lv_bipush (v := nI 6) hx hb dX9_scans_137 (by decide +kernel) ?_
          refine nv_icmp_gt (tgt := 150) (by omega) (by omega) hx hb dX9_scans_139 (by decide) (fun c_23 => ?_) (fun c_23 => ?_)
          · refine lv_iconst (v := nI 1) hx hb dX9_scans_150 (by decide) ?_
            refine lv_goto (tgt := 160) hx hb dX9_scans_151 (by decide) ?_
            refine nv_put (D := G) (ci := 7) (v := .int (nI 1)) (ty := (tyX9 12)) (C := RX9) (T := TX9) (N := 23) hx hb hts iX9 tyX9 tyX9_ok nmX9 hown hKK.1 hP hD hS 0 rfl rfl 12 (by decide) f137 (fun _ h9 => h9) rfl (by decide +kernel) rfl rfl (Nat.le_of_ble_eq_true rfl) dX9_scans_160 [(b 0, .inr (7, [.ref (b 1), .ref (b 2), .ref (b 3), .ref (b 4), .ref (b 5), .int (nI qu), .long ab, .long bl, .ref (b 6), .int (nI tyd), .int (nI a2), .int (nI a1), .int (nI 1), .int (nI val), .ref (b 7), .int (nI man), .ref (b 8), .ref (b 9), .ref (b 10), .ref (b 11), .ref (b 12), .ref (b 13), .ref (b 14)])), (b 6, .inl (tA 0, 250, .inl (nF tx)))] rfl (fun H locs hP hD hS => ?_)
            exact retV hx hb hr hlocks hS hP hD () (by rw [hst]; obtain ⟨q1, q2, q3⟩ := sc_1 val (show a1 < tyd ∧ 97 ≤ tx a1 ∧ tx a1 ≤ 122 from by omega) (show ruE tx tyd 97 122 a1 = a2 from by rw [← hr2]; exact ruE_2 (by omega)); rw [q1, q2, q3]; rw [← hh2]; first | rw [if_pos (by omega)] | rw [if_neg (by omega)]) (by rw [hst]; obtain ⟨q1, q2, q3⟩ := sc_1 val (show a1 < tyd ∧ 97 ≤ tx a1 ∧ tx a1 ≤ 122 from by omega) (show ruE tx tyd 97 122 a1 = a2 from by rw [← hr2]; exact ruE_2 (by omega)); rw [q1, q2, q3]; have hvb9 := vbN_le (hsS tx a1 (a2 - a1)); refine ⟨?_, ?_, ?_, ?_, ?_⟩ <;> (try split) <;> omega) dX9_scans_163
          · refine lv_lload_n hx hb dX9_scans_142 rfl (lv_at hl 0 rfl) ?_
            refine roI hP hD hS hA [] rfl (runS (As := [.long hh]) (rest := [.ref (b 0)]) (isC := []) ⟨hx, hb, hml, hown, hts⟩ hKK hP hD rfl (by decide) (c_X9_verbOf l G tA hh _) (va_cwS 1 hts gX9_scans_X9_verbOf rfl rfl rfl (by decide +kernel) ⟨Nat.le_of_ble_eq_true rfl, Nat.le_of_ble_eq_true rfl⟩) rfl rfl hl.1 rfl (lv_room (Nat.le_of_ble_eq_true rfl)) dX9_scans_143 ⟨Nat.le_of_ble_eq_true rfl, Nat.le_of_ble_eq_true rfl⟩) (fun _ => rfl) (fun r_24 u_25 H locs q_26 hP hS => ?_)
            subst q_26
            have hvb := vbN_le hh
            refine lv_iconst (v := (-1)) hx hb dX9_scans_146 (by decide) ?_
            refine zv_icmp_ne (tgt := 154) (X := ((vbN hh : Nat) : Int) - 1) (Y := (-1 : Int)) (predZ (by omega)) rfl hx hb dX9_scans_147 (by decide) (fun c_27 => ?_) (fun c_27 => ?_)
            · refine lv_iconst (v := nI 4) hx hb dX9_scans_154 (by decide) ?_
              refine lv_lload_n hx hb dX9_scans_155 rfl (lv_at hl 0 rfl) ?_
              refine roI hP hD hS hA [] rfl (runS (As := [.long hh]) (rest := [.int (nI 4), .ref (b 0)]) (isC := []) ⟨hx, hb, hml, hown, hts⟩ hKK hP hD rfl (by decide) (c_X9_verbOf l G tA hh _) (va_cwS 1 hts gX9_scans_X9_verbOf rfl rfl rfl (by decide +kernel) ⟨Nat.le_of_ble_eq_true rfl, Nat.le_of_ble_eq_true rfl⟩) rfl rfl hl.1 rfl (lv_room (Nat.le_of_ble_eq_true rfl)) dX9_scans_156 ⟨Nat.le_of_ble_eq_true rfl, Nat.le_of_ble_eq_true rfl⟩) (fun _ => rfl) (fun r_28 u_29 H locs q_30 hP hS => ?_)
              subst q_30
              refine lv_iadd hx hb dX9_scans_159 ?_
              refine nv_top (y := vbN hh + 3) (vb4 (by omega)) ?_
              refine nv_put (D := G) (ci := 7) (v := .int (nI (vbN hh + 3))) (ty := (tyX9 12)) (C := RX9) (T := TX9) (N := 23) hx hb hts iX9 tyX9 tyX9_ok nmX9 hown hKK.1 hP hD hS 0 rfl rfl 12 (by decide) f137 (fun _ h9 => h9) rfl (by decide +kernel) rfl rfl (Nat.le_of_ble_eq_true rfl) dX9_scans_160 [(b 0, .inr (7, [.ref (b 1), .ref (b 2), .ref (b 3), .ref (b 4), .ref (b 5), .int (nI qu), .long ab, .long bl, .ref (b 6), .int (nI tyd), .int (nI a2), .int (nI a1), .int (nI (vbN hh + 3)), .int (nI val), .ref (b 7), .int (nI man), .ref (b 8), .ref (b 9), .ref (b 10), .ref (b 11), .ref (b 12), .ref (b 13), .ref (b 14)])), (b 6, .inl (tA 0, 250, .inl (nF tx)))] rfl (fun H locs hP hD hS => ?_)
              exact retV hx hb hr hlocks hS hP hD () (by rw [hst]; obtain ⟨q1, q2, q3⟩ := sc_1 val (show a1 < tyd ∧ 97 ≤ tx a1 ∧ tx a1 ≤ 122 from by omega) (show ruE tx tyd 97 122 a1 = a2 from by rw [← hr2]; exact ruE_2 (by omega)); rw [q1, q2, q3]; rw [← hh2]; first | rw [if_pos (by omega)] | rw [if_neg (by omega)]) (by rw [hst]; obtain ⟨q1, q2, q3⟩ := sc_1 val (show a1 < tyd ∧ 97 ≤ tx a1 ∧ tx a1 ≤ 122 from by omega) (show ruE tx tyd 97 122 a1 = a2 from by rw [← hr2]; exact ruE_2 (by omega)); rw [q1, q2, q3]; have hvb9 := vbN_le (hsS tx a1 (a2 - a1)); refine ⟨?_, ?_, ?_, ?_, ?_⟩ <;> (try split) <;> omega) dX9_scans_163
            · refine lv_iconst (v := nI 1) hx hb dX9_scans_150 (by decide) ?_
              refine lv_goto (tgt := 160) hx hb dX9_scans_151 (by decide) ?_
              refine nv_put (D := G) (ci := 7) (v := .int (nI 1)) (ty := (tyX9 12)) (C := RX9) (T := TX9) (N := 23) hx hb hts iX9 tyX9 tyX9_ok nmX9 hown hKK.1 hP hD hS 0 rfl rfl 12 (by decide) f137 (fun _ h9 => h9) rfl (by decide +kernel) rfl rfl (Nat.le_of_ble_eq_true rfl) dX9_scans_160 [(b 0, .inr (7, [.ref (b 1), .ref (b 2), .ref (b 3), .ref (b 4), .ref (b 5), .int (nI qu), .long ab, .long bl, .ref (b 6), .int (nI tyd), .int (nI a2), .int (nI a1), .int (nI 1), .int (nI val), .ref (b 7), .int (nI man), .ref (b 8), .ref (b 9), .ref (b 10), .ref (b 11), .ref (b 12), .ref (b 13), .ref (b 14)])), (b 6, .inl (tA 0, 250, .inl (nF tx)))] rfl (fun H locs hP hD hS => ?_)
              exact retV hx hb hr hlocks hS hP hD () (by rw [hst]; obtain ⟨q1, q2, q3⟩ := sc_1 val (show a1 < tyd ∧ 97 ≤ tx a1 ∧ tx a1 ≤ 122 from by omega) (show ruE tx tyd 97 122 a1 = a2 from by rw [← hr2]; exact ruE_2 (by omega)); rw [q1, q2, q3]; rw [← hh2]; first | rw [if_pos (by omega)] | rw [if_neg (by omega)]) (by rw [hst]; obtain ⟨q1, q2, q3⟩ := sc_1 val (show a1 < tyd ∧ 97 ≤ tx a1 ∧ tx a1 ≤ 122 from by omega) (show ruE tx tyd 97 122 a1 = a2 from by rw [← hr2]; exact ruE_2 (by omega)); rw [q1, q2, q3]; have hvb9 := vbN_le (hsS tx a1 (a2 - a1)); refine ⟨?_, ?_, ?_, ?_, ?_⟩ <;> (try split) <;> omega) dX9_scans_163
      · have p_12 : ¬ (a1 < tyd ∧ 97 ≤ tx a1 ∧ tx a1 ≤ 122) := p_12
        refine nv_if_eq (tgt := 164) (by omega) hx hb dX9_scans_57 (by decide) (fun _ => ?_) (fun h => absurd h (by omega))
        refine lv_aload_n hx hb dX9_scans_164 rfl (lv_at hl 0 rfl) ?_
        refine lv_bipush (v := nI 48) hx hb dX9_scans_165 (by decide +kernel) ?_
        refine lv_bipush (v := nI 57) hx hb dX9_scans_167 (by decide +kernel) ?_
        refine roI hP hD hS hA [0, 1] rfl (runV (As := [.int (nI 48), .int (nI 57)]) (rest := []) (isC := [0, 1]) ⟨hx, hb, hml, hown, hts⟩ hKK hP hD rfl (by decide) (c_X9_isAt l G tA b qu ab bl tyd a1 a1 tok val man tx 48 57 (by first | assumption | omega) (by omega) (by first | assumption | omega) (by first | assumption | omega) (by first | assumption | omega) _) (cwV 2 hts gX9_scans_X9_isAt rfl rfl rfl (by decide +kernel) ⟨Nat.le_of_ble_eq_true rfl, Nat.le_of_ble_eq_true rfl⟩) rfl rfl rfl rfl hl.1 rfl (lv_room (Nat.le_of_ble_eq_true rfl)) dX9_scans_169 ⟨Nat.le_of_ble_eq_true rfl, Nat.le_of_ble_eq_true rfl⟩) (fun _ => rfl) (fun r_32 u_33 H locs q_34 hP hS => ?_)
        rcases q_34 with ⟨rfl, p_35⟩ | ⟨rfl, p_35⟩
        · have p_35 : a1 < tyd ∧ 48 ≤ tx a1 ∧ tx a1 ≤ 57 := p_35
          refine nv_if_eq (tgt := 271) (by omega) hx hb dX9_scans_172 (by decide) (fun h => absurd h (by omega)) (fun _ => ?_)
          refine lv_aload_n hx hb dX9_scans_175 rfl (lv_at hl 0 rfl) ?_
          refine lv_iconst (v := nI 0) hx hb dX9_scans_176 (by decide) ?_
          refine nv_put (D := G) (ci := 7) (v := .int (nI 0)) (ty := (tyX9 13)) (C := RX9) (T := TX9) (N := 23) hx hb hts iX9 tyX9 tyX9_ok nmX9 hown hKK.1 hP hD hS 0 rfl rfl 13 (by decide) f148 (fun _ h9 => h9) rfl (by decide +kernel) rfl rfl (Nat.le_of_ble_eq_true rfl) dX9_scans_177 [(b 0, .inr (7, [.ref (b 1), .ref (b 2), .ref (b 3), .ref (b 4), .ref (b 5), .int (nI qu), .long ab, .long bl, .ref (b 6), .int (nI tyd), .int (nI a1), .int (nI a1), .int (nI tok), .int (nI 0), .ref (b 7), .int (nI man), .ref (b 8), .ref (b 9), .ref (b 10), .ref (b 11), .ref (b 12), .ref (b 13), .ref (b 14)])), (b 6, .inl (tA 0, 250, .inl (nF tx)))] rfl (fun H locs hP hD hS => ?_)
          refine wloop (σ := (Nat) × (Nat)) (fun | (a3, vv) => tyd - a3) (fun | (a3, vv) => (a1 ≤ a3 ∧ a3 ≤ tyd) ∧ (ruE tx tyd 48 57 a3 = ruE tx tyd 48 57 a1) ∧ (vv = nuS tx a1 (a3 - a1)) ∧ ((a3 = a1 → vv < 1) ∧ (a3 = a1 + 1 → vv < 10) ∧ (a3 = a1 + 2 → vv < 100) ∧ vv < 1000)) (fun | (a3, vv) => [(0, .ref (b 0))]) (fun | (a3, vv) => [(b 0, .inr (7, [.ref (b 1), .ref (b 2), .ref (b 3), .ref (b 4), .ref (b 5), .int (nI qu), .long ab, .long bl, .ref (b 6), .int (nI tyd), .int (nI a3), .int (nI a1), .int (nI tok), .int (nI vv), .ref (b 7), .int (nI man), .ref (b 8), .ref (b 9), .ref (b 10), .ref (b 11), .ref (b 12), .ref (b 13), .ref (b 14)])), (b 6, .inl (tA 0, 250, .inl (nF tx)))]) (a1, 0) ⟨(show a1 ≤ a1 ∧ a1 ≤ tyd from ⟨by omega, by omega⟩), (show ruE tx tyd 48 57 a1 = ruE tx tyd 48 57 a1 from rfl), (show 0 = nuS tx a1 (a1 - a1) from by rw [Nat.sub_self, nuS_0]), (show (a1 = a1 → 0 < 1) ∧ (a1 = a1 + 1 → 0 < 10) ∧ (a1 = a1 + 2 → 0 < 100) ∧ 0 < 1000 from ⟨by omega, by omega, by omega, by omega⟩)⟩ (lv_sub hl [0] rfl) hP hD hS ?_
          rintro ⟨a3, vv⟩ ⟨ha3, hr3, hv3, hv4⟩ ih_37 ls H locs hl hP hD hS
          have hl : lv_has ls 3 [(0, .ref (b 0))] := hl
          have hP : va_P G vwCl [(b 0, .inr (7, [.ref (b 1), .ref (b 2), .ref (b 3), .ref (b 4), .ref (b 5), .int (nI qu), .long ab, .long bl, .ref (b 6), .int (nI tyd), .int (nI a3), .int (nI a1), .int (nI tok), .int (nI vv), .ref (b 7), .int (nI man), .ref (b 8), .ref (b 9), .ref (b 10), .ref (b 11), .ref (b 12), .ref (b 13), .ref (b 14)])), (b 6, .inl (tA 0, 250, .inl (nF tx)))] H := hP
          have hD : va_D A [(b 0, .inr (7, [.ref (b 1), .ref (b 2), .ref (b 3), .ref (b 4), .ref (b 5), .int (nI qu), .long ab, .long bl, .ref (b 6), .int (nI tyd), .int (nI a3), .int (nI a1), .int (nI tok), .int (nI vv), .ref (b 7), .int (nI man), .ref (b 8), .ref (b 9), .ref (b 10), .ref (b 11), .ref (b 12), .ref (b 13), .ref (b 14)])), (b 6, .inl (tA 0, 250, .inl (nF tx)))] := hD
          have ha3 : a1 ≤ a3 ∧ a3 ≤ tyd := ha3
          have hr3 : ruE tx tyd 48 57 a3 = ruE tx tyd 48 57 a1 := hr3
          have hv3 : vv = nuS tx a1 (a3 - a1) := hv3
          have hv4 : (a3 = a1 → vv < 1) ∧ (a3 = a1 + 1 → vv < 10) ∧ (a3 = a1 + 2 → vv < 100) ∧ vv < 1000 := hv4
          refine lv_aload_n hx hb dX9_scans_180 rfl (lv_at hl 0 rfl) ?_
          refine lv_bipush (v := nI 48) hx hb dX9_scans_181 (by decide +kernel) ?_
          refine lv_bipush (v := nI 57) hx hb dX9_scans_183 (by decide +kernel) ?_
          refine roI hP hD hS hA [0, 1] rfl (runV (As := [.int (nI 48), .int (nI 57)]) (rest := []) (isC := [0, 1]) ⟨hx, hb, hml, hown, hts⟩ hKK hP hD rfl (by decide) (c_X9_isAt l G tA b qu ab bl tyd a3 a1 tok vv man tx 48 57 (by first | assumption | omega) (by omega) (by first | assumption | omega) (by first | assumption | omega) (by first | assumption | omega) _) (cwV 2 hts gX9_scans_X9_isAt rfl rfl rfl (by decide +kernel) ⟨Nat.le_of_ble_eq_true rfl, Nat.le_of_ble_eq_true rfl⟩) rfl rfl rfl rfl hl.1 rfl (lv_room (Nat.le_of_ble_eq_true rfl)) dX9_scans_185 ⟨Nat.le_of_ble_eq_true rfl, Nat.le_of_ble_eq_true rfl⟩) (fun _ => rfl) (fun r_38 u_39 H locs q_40 hP hS => ?_)
          rcases q_40 with ⟨rfl, p_41⟩ | ⟨rfl, p_41⟩
          · have p_41 : a3 < tyd ∧ 48 ≤ tx a3 ∧ tx a3 ≤ 57 := p_41
            refine nv_if_eq (tgt := 248) (by omega) hx hb dX9_scans_188 (by decide) (fun h => absurd h (by omega)) (fun _ => ?_)
            refine lv_aload_n hx hb dX9_scans_191 rfl (lv_at hl 0 rfl) ?_
            refine lv_aload_n hx hb dX9_scans_192 rfl (lv_at hl 0 rfl) ?_
            refine va_get (D := G) (ci := 7) (C := RX9) (T := TX9) (N := 23) hx hb hts iX9 hown hKK.1 hP 0 rfl rfl 10 (by decide) f117 (fun _ h9 => h9) rfl dX9_scans_193 ?_
            refine lv_aload_n hx hb dX9_scans_196 rfl (lv_at hl 0 rfl) ?_
            refine va_get (D := G) (ci := 7) (C := RX9) (T := TX9) (N := 23) hx hb hts iX9 hown hKK.1 hP 0 rfl rfl 11 (by decide) f134 (fun _ h9 => h9) rfl dX9_scans_197 ?_
            refine nv_isub (show a1 ≤ a3 from by omega) hx hb dX9_scans_200 ?_
            refine lv_iconst (v := nI 3) hx hb dX9_scans_201 (by decide) ?_
            refine nv_icmp_ge (tgt := 228) (by omega) (by omega) hx hb dX9_scans_202 (by decide) (fun c_43 => ?_) (fun c_43 => ?_)
            · refine lv_aload_n hx hb dX9_scans_228 rfl (lv_at hl 0 rfl) ?_
              refine va_get (D := G) (ci := 7) (C := RX9) (T := TX9) (N := 23) hx hb hts iX9 hown hKK.1 hP 0 rfl rfl 13 (by decide) f148 (fun _ h9 => h9) rfl dX9_scans_229 ?_
              refine nv_put (D := G) (ci := 7) (v := .int (nI vv)) (ty := (tyX9 13)) (C := RX9) (T := TX9) (N := 23) hx hb hts iX9 tyX9 tyX9_ok nmX9 hown hKK.1 hP hD hS 0 rfl rfl 13 (by decide) f148 (fun _ h9 => h9) rfl (by decide +kernel) rfl rfl (Nat.le_of_ble_eq_true rfl) dX9_scans_232 [(b 0, .inr (7, [.ref (b 1), .ref (b 2), .ref (b 3), .ref (b 4), .ref (b 5), .int (nI qu), .long ab, .long bl, .ref (b 6), .int (nI tyd), .int (nI a3), .int (nI a1), .int (nI tok), .int (nI vv), .ref (b 7), .int (nI man), .ref (b 8), .ref (b 9), .ref (b 10), .ref (b 11), .ref (b 12), .ref (b 13), .ref (b 14)])), (b 6, .inl (tA 0, 250, .inl (nF tx)))] rfl (fun H locs hP hD hS => ?_)
              refine lv_aload_n hx hb dX9_scans_235 rfl (lv_at hl 0 rfl) ?_
              refine lv_dup hx hb dX9_scans_236 rfl ?_
              refine va_get (D := G) (ci := 7) (C := RX9) (T := TX9) (N := 23) hx hb hts iX9 hown hKK.1 hP 0 rfl rfl 10 (by decide) f117 (fun _ h9 => h9) rfl dX9_scans_237 ?_
              refine lv_iconst (v := nI 1) hx hb dX9_scans_240 (by decide) ?_
              refine nv_iadd hx hb dX9_scans_241 ?_
              refine nv_put (D := G) (ci := 7) (v := .int (nI (a3 + 1))) (ty := (tyX9 10)) (C := RX9) (T := TX9) (N := 23) hx hb hts iX9 tyX9 tyX9_ok nmX9 hown hKK.1 hP hD hS 0 rfl rfl 10 (by decide) f117 (fun _ h9 => h9) rfl (by decide +kernel) rfl rfl (Nat.le_of_ble_eq_true rfl) dX9_scans_242 [(b 0, .inr (7, [.ref (b 1), .ref (b 2), .ref (b 3), .ref (b 4), .ref (b 5), .int (nI qu), .long ab, .long bl, .ref (b 6), .int (nI tyd), .int (nI (a3 + 1)), .int (nI a1), .int (nI tok), .int (nI vv), .ref (b 7), .int (nI man), .ref (b 8), .ref (b 9), .ref (b 10), .ref (b 11), .ref (b 12), .ref (b 13), .ref (b 14)])), (b 6, .inl (tA 0, 250, .inl (nF tx)))] rfl (fun H locs hP hD hS => ?_)
              refine lv_goto (tgt := 180) hx hb dX9_scans_245 (by decide) ?_
              exact ih_37 (a3 + 1, vv) (show tyd - (a3 + 1) < tyd - a3 from by omega) ⟨(show a1 ≤ (a3 + 1) ∧ (a3 + 1) ≤ tyd from ⟨by omega, by omega⟩), (show ruE tx tyd 48 57 (a3 + 1) = ruE tx tyd 48 57 a1 from by rw [ruE_1 (by omega), hr3]), (show vv = nuS tx a1 ((a3 + 1) - a1) from by rw [show a3 + 1 - a1 = (a3 - a1) + 1 from by omega, nuS_s, ← hv3, show a1 + (a3 - a1) = a3 from by omega]; first | rw [if_pos (by omega)] | rw [if_neg (by omega)]), (show ((a3 + 1) = a1 → vv < 1) ∧ ((a3 + 1) = a1 + 1 → vv < 10) ∧ ((a3 + 1) = a1 + 2 → vv < 100) ∧ vv < 1000 from ⟨by omega, by omega, by omega, by omega⟩)⟩ _ _ _ (lv_sub hl [0] rfl) hP hD hS
            · refine lv_bipush (v := nI 10) hx hb dX9_scans_205 (by decide +kernel) ?_
              refine lv_aload_n hx hb dX9_scans_207 rfl (lv_at hl 0 rfl) ?_
              refine va_get (D := G) (ci := 7) (C := RX9) (T := TX9) (N := 23) hx hb hts iX9 hown hKK.1 hP 0 rfl rfl 13 (by decide) f148 (fun _ h9 => h9) rfl dX9_scans_208 ?_
              refine nv_imul hx hb dX9_scans_211 ?_
              refine lv_aload_n hx hb dX9_scans_212 rfl (lv_at hl 0 rfl) ?_
              refine va_get (D := G) (ci := 7) (C := RX9) (T := TX9) (N := 23) hx hb hts iX9 hown hKK.1 hP 0 rfl rfl 8 (by decide) f26 (fun _ h9 => h9) rfl dX9_scans_213 ?_
              refine lv_aload_n hx hb dX9_scans_216 rfl (lv_at hl 0 rfl) ?_
              refine va_get (D := G) (ci := 7) (C := RX9) (T := TX9) (N := 23) hx hb hts iX9 hown hKK.1 hP 0 rfl rfl 10 (by decide) f117 (fun _ h9 => h9) rfl dX9_scans_217 ?_
              refine nv_iald (i := a3) hx hb hKK.1 hP 1 0 rfl rfl (by omega) (by decide) dX9_scans_220 ?_
              have b_44 := hbx a3
              refine nv_iadd hx hb dX9_scans_221 ?_
              refine lv_bipush (v := nI 48) hx hb dX9_scans_222 (by decide +kernel) ?_
              refine nv_isub (show 48 ≤ (10 * vv) + (tx a3) from by omega) hx hb dX9_scans_224 ?_
              refine lv_goto (tgt := 232) hx hb dX9_scans_225 (by decide) ?_
              refine nv_put (D := G) (ci := 7) (v := .int (nI (((10 * vv) + (tx a3)) - 48))) (ty := (tyX9 13)) (C := RX9) (T := TX9) (N := 23) hx hb hts iX9 tyX9 tyX9_ok nmX9 hown hKK.1 hP hD hS 0 rfl rfl 13 (by decide) f148 (fun _ h9 => h9) rfl (by decide +kernel) rfl rfl (Nat.le_of_ble_eq_true rfl) dX9_scans_232 [(b 0, .inr (7, [.ref (b 1), .ref (b 2), .ref (b 3), .ref (b 4), .ref (b 5), .int (nI qu), .long ab, .long bl, .ref (b 6), .int (nI tyd), .int (nI a3), .int (nI a1), .int (nI tok), .int (nI (((10 * vv) + (tx a3)) - 48)), .ref (b 7), .int (nI man), .ref (b 8), .ref (b 9), .ref (b 10), .ref (b 11), .ref (b 12), .ref (b 13), .ref (b 14)])), (b 6, .inl (tA 0, 250, .inl (nF tx)))] rfl (fun H locs hP hD hS => ?_)
              refine lv_aload_n hx hb dX9_scans_235 rfl (lv_at hl 0 rfl) ?_
              refine lv_dup hx hb dX9_scans_236 rfl ?_
              refine va_get (D := G) (ci := 7) (C := RX9) (T := TX9) (N := 23) hx hb hts iX9 hown hKK.1 hP 0 rfl rfl 10 (by decide) f117 (fun _ h9 => h9) rfl dX9_scans_237 ?_
              refine lv_iconst (v := nI 1) hx hb dX9_scans_240 (by decide) ?_
              refine nv_iadd hx hb dX9_scans_241 ?_
              refine nv_put (D := G) (ci := 7) (v := .int (nI (a3 + 1))) (ty := (tyX9 10)) (C := RX9) (T := TX9) (N := 23) hx hb hts iX9 tyX9 tyX9_ok nmX9 hown hKK.1 hP hD hS 0 rfl rfl 10 (by decide) f117 (fun _ h9 => h9) rfl (by decide +kernel) rfl rfl (Nat.le_of_ble_eq_true rfl) dX9_scans_242 [(b 0, .inr (7, [.ref (b 1), .ref (b 2), .ref (b 3), .ref (b 4), .ref (b 5), .int (nI qu), .long ab, .long bl, .ref (b 6), .int (nI tyd), .int (nI (a3 + 1)), .int (nI a1), .int (nI tok), .int (nI (((10 * vv) + (tx a3)) - 48)), .ref (b 7), .int (nI man), .ref (b 8), .ref (b 9), .ref (b 10), .ref (b 11), .ref (b 12), .ref (b 13), .ref (b 14)])), (b 6, .inl (tA 0, 250, .inl (nF tx)))] rfl (fun H locs hP hD hS => ?_)
              refine lv_goto (tgt := 180) hx hb dX9_scans_245 (by decide) ?_
              exact ih_37 (a3 + 1, ((10 * vv) + (tx a3)) - 48) (show tyd - (a3 + 1) < tyd - a3 from by omega) ⟨(show a1 ≤ (a3 + 1) ∧ (a3 + 1) ≤ tyd from ⟨by omega, by omega⟩), (show ruE tx tyd 48 57 (a3 + 1) = ruE tx tyd 48 57 a1 from by rw [ruE_1 (by omega), hr3]), (show (((10 * vv) + (tx a3)) - 48) = nuS tx a1 ((a3 + 1) - a1) from by rw [show a3 + 1 - a1 = (a3 - a1) + 1 from by omega, nuS_s, ← hv3, show a1 + (a3 - a1) = a3 from by omega]; first | rw [if_pos (by omega)] | rw [if_neg (by omega)]), (show ((a3 + 1) = a1 → (((10 * vv) + (tx a3)) - 48) < 1) ∧ ((a3 + 1) = a1 + 1 → (((10 * vv) + (tx a3)) - 48) < 10) ∧ ((a3 + 1) = a1 + 2 → (((10 * vv) + (tx a3)) - 48) < 100) ∧ (((10 * vv) + (tx a3)) - 48) < 1000 from ⟨by omega, by omega, by omega, by omega⟩)⟩ _ _ _ (lv_sub hl [0] rfl) hP hD hS
          · have p_41 : ¬ (a3 < tyd ∧ 48 ≤ tx a3 ∧ tx a3 ≤ 57) := p_41
            refine nv_if_eq (tgt := 248) (by omega) hx hb dX9_scans_188 (by decide) (fun _ => ?_) (fun h => absurd h (by omega))
            refine lv_aload_n hx hb dX9_scans_248 rfl (lv_at hl 0 rfl) ?_
            refine lv_aload_n hx hb dX9_scans_249 rfl (lv_at hl 0 rfl) ?_
            refine va_get (D := G) (ci := 7) (C := RX9) (T := TX9) (N := 23) hx hb hts iX9 hown hKK.1 hP 0 rfl rfl 10 (by decide) f117 (fun _ h9 => h9) rfl dX9_scans_250 ?_
            refine lv_aload_n hx hb dX9_scans_253 rfl (lv_at hl 0 rfl) ?_
            refine va_get (D := G) (ci := 7) (C := RX9) (T := TX9) (N := 23) hx hb hts iX9 hown hKK.1 hP 0 rfl rfl 11 (by decide) f134 (fun _ h9 => h9) rfl dX9_scans_254 ?_
            refine nv_isub (show a1 ≤ a3 from by omega) hx hb dX9_scans_257 ?_
            refine lv_iconst (v := nI 3) hx hb dX9_scans_258 (by decide) ?_
            refine nv_icmp_le (tgt := 266) (by omega) (by omega) hx hb dX9_scans_259 (by decide) (fun c_46 => ?_) (fun c_46 => ?_)
            · refine lv_iconst (v := nI 2) hx hb dX9_scans_266 (by decide) ?_
              refine nv_put (D := G) (ci := 7) (v := .int (nI 2)) (ty := (tyX9 12)) (C := RX9) (T := TX9) (N := 23) hx hb hts iX9 tyX9 tyX9_ok nmX9 hown hKK.1 hP hD hS 0 rfl rfl 12 (by decide) f137 (fun _ h9 => h9) rfl (by decide +kernel) rfl rfl (Nat.le_of_ble_eq_true rfl) dX9_scans_267 [(b 0, .inr (7, [.ref (b 1), .ref (b 2), .ref (b 3), .ref (b 4), .ref (b 5), .int (nI qu), .long ab, .long bl, .ref (b 6), .int (nI tyd), .int (nI a3), .int (nI a1), .int (nI 2), .int (nI vv), .ref (b 7), .int (nI man), .ref (b 8), .ref (b 9), .ref (b 10), .ref (b 11), .ref (b 12), .ref (b 13), .ref (b 14)])), (b 6, .inl (tA 0, 250, .inl (nF tx)))] rfl (fun H locs hP hD hS => ?_)
              exact retV hx hb hr hlocks hS hP hD () (by rw [hst]; obtain ⟨q1, q2, q3⟩ := sc_2 val (show a1 < tyd ∧ 48 ≤ tx a1 ∧ tx a1 ≤ 57 from by omega) (show ruE tx tyd 48 57 a1 = a3 from by rw [← hr3]; exact ruE_2 (by omega)); rw [q1, q2, q3]; rw [← hv3]; first | rw [if_pos (by omega)] | rw [if_neg (by omega)]) (by rw [hst]; obtain ⟨q1, q2, q3⟩ := sc_2 val (show a1 < tyd ∧ 48 ≤ tx a1 ∧ tx a1 ≤ 57 from by omega) (show ruE tx tyd 48 57 a1 = a3 from by rw [← hr3]; exact ruE_2 (by omega)); rw [q1, q2, q3]; refine ⟨?_, ?_, ?_, ?_, ?_⟩ <;> (try split) <;> omega) dX9_scans_270
            · refine lv_iconst (v := nI 1) hx hb dX9_scans_262 (by decide) ?_
              refine lv_goto (tgt := 267) hx hb dX9_scans_263 (by decide) ?_
              refine nv_put (D := G) (ci := 7) (v := .int (nI 1)) (ty := (tyX9 12)) (C := RX9) (T := TX9) (N := 23) hx hb hts iX9 tyX9 tyX9_ok nmX9 hown hKK.1 hP hD hS 0 rfl rfl 12 (by decide) f137 (fun _ h9 => h9) rfl (by decide +kernel) rfl rfl (Nat.le_of_ble_eq_true rfl) dX9_scans_267 [(b 0, .inr (7, [.ref (b 1), .ref (b 2), .ref (b 3), .ref (b 4), .ref (b 5), .int (nI qu), .long ab, .long bl, .ref (b 6), .int (nI tyd), .int (nI a3), .int (nI a1), .int (nI 1), .int (nI vv), .ref (b 7), .int (nI man), .ref (b 8), .ref (b 9), .ref (b 10), .ref (b 11), .ref (b 12), .ref (b 13), .ref (b 14)])), (b 6, .inl (tA 0, 250, .inl (nF tx)))] rfl (fun H locs hP hD hS => ?_)
              exact retV hx hb hr hlocks hS hP hD () (by rw [hst]; obtain ⟨q1, q2, q3⟩ := sc_2 val (show a1 < tyd ∧ 48 ≤ tx a1 ∧ tx a1 ≤ 57 from by omega) (show ruE tx tyd 48 57 a1 = a3 from by rw [← hr3]; exact ruE_2 (by omega)); rw [q1, q2, q3]; rw [← hv3]; first | rw [if_pos (by omega)] | rw [if_neg (by omega)]) (by rw [hst]; obtain ⟨q1, q2, q3⟩ := sc_2 val (show a1 < tyd ∧ 48 ≤ tx a1 ∧ tx a1 ≤ 57 from by omega) (show ruE tx tyd 48 57 a1 = a3 from by rw [← hr3]; exact ruE_2 (by omega)); rw [q1, q2, q3]; refine ⟨?_, ?_, ?_, ?_, ?_⟩ <;> (try split) <;> omega) dX9_scans_270
        · have p_35 : ¬ (a1 < tyd ∧ 48 ≤ tx a1 ∧ tx a1 ≤ 57) := p_35
          refine nv_if_eq (tgt := 271) (by omega) hx hb dX9_scans_172 (by decide) (fun _ => ?_) (fun h => absurd h (by omega))
          refine lv_aload_n hx hb dX9_scans_271 rfl (lv_at hl 0 rfl) ?_
          refine lv_aload_n hx hb dX9_scans_272 rfl (lv_at hl 0 rfl) ?_
          refine lv_bipush (v := nI 59) hx hb dX9_scans_273 (by decide +kernel) ?_
          refine lv_bipush (v := nI 59) hx hb dX9_scans_275 (by decide +kernel) ?_
          refine roI hP hD hS hA [0, 1] rfl (runV (As := [.int (nI 59), .int (nI 59)]) (rest := [.ref (b 0)]) (isC := [0, 1]) ⟨hx, hb, hml, hown, hts⟩ hKK hP hD rfl (by decide) (c_X9_isAt l G tA b qu ab bl tyd a1 a1 tok val man tx 59 59 (by first | assumption | omega) (by omega) (by first | assumption | omega) (by first | assumption | omega) (by first | assumption | omega) _) (cwV 2 hts gX9_scans_X9_isAt rfl rfl rfl (by decide +kernel) ⟨Nat.le_of_ble_eq_true rfl, Nat.le_of_ble_eq_true rfl⟩) rfl rfl rfl rfl hl.1 rfl (lv_room (Nat.le_of_ble_eq_true rfl)) dX9_scans_277 ⟨Nat.le_of_ble_eq_true rfl, Nat.le_of_ble_eq_true rfl⟩) (fun _ => rfl) (fun r_48 u_49 H locs q_50 hP hS => ?_)
          rcases q_50 with ⟨rfl, p_51⟩ | ⟨rfl, p_51⟩
          · have p_51 : a1 < tyd ∧ 59 ≤ tx a1 ∧ tx a1 ≤ 59 := p_51
            refine nv_if_eq (tgt := 287) (by omega) hx hb dX9_scans_280 (by decide) (fun h => absurd h (by omega)) (fun _ => ?_)
            refine lv_iconst (v := nI 3) hx hb dX9_scans_283 (by decide) ?_
            refine lv_goto (tgt := 288) hx hb dX9_scans_284 (by decide) ?_
            refine nv_put (D := G) (ci := 7) (v := .int (nI 3)) (ty := (tyX9 12)) (C := RX9) (T := TX9) (N := 23) hx hb hts iX9 tyX9 tyX9_ok nmX9 hown hKK.1 hP hD hS 0 rfl rfl 12 (by decide) f137 (fun _ h9 => h9) rfl (by decide +kernel) rfl rfl (Nat.le_of_ble_eq_true rfl) dX9_scans_288 [(b 0, .inr (7, [.ref (b 1), .ref (b 2), .ref (b 3), .ref (b 4), .ref (b 5), .int (nI qu), .long ab, .long bl, .ref (b 6), .int (nI tyd), .int (nI a1), .int (nI a1), .int (nI 3), .int (nI val), .ref (b 7), .int (nI man), .ref (b 8), .ref (b 9), .ref (b 10), .ref (b 11), .ref (b 12), .ref (b 13), .ref (b 14)])), (b 6, .inl (tA 0, 250, .inl (nF tx)))] rfl (fun H locs hP hD hS => ?_)
            refine lv_aload_n hx hb dX9_scans_291 rfl (lv_at hl 0 rfl) ?_
            refine lv_dup hx hb dX9_scans_292 rfl ?_
            refine va_get (D := G) (ci := 7) (C := RX9) (T := TX9) (N := 23) hx hb hts iX9 hown hKK.1 hP 0 rfl rfl 10 (by decide) f117 (fun _ h9 => h9) rfl dX9_scans_293 ?_
            refine lv_iconst (v := nI 1) hx hb dX9_scans_296 (by decide) ?_
            refine nv_iadd hx hb dX9_scans_297 ?_
            refine nv_put (D := G) (ci := 7) (v := .int (nI (a1 + 1))) (ty := (tyX9 10)) (C := RX9) (T := TX9) (N := 23) hx hb hts iX9 tyX9 tyX9_ok nmX9 hown hKK.1 hP hD hS 0 rfl rfl 10 (by decide) f117 (fun _ h9 => h9) rfl (by decide +kernel) rfl rfl (Nat.le_of_ble_eq_true rfl) dX9_scans_298 [(b 0, .inr (7, [.ref (b 1), .ref (b 2), .ref (b 3), .ref (b 4), .ref (b 5), .int (nI qu), .long ab, .long bl, .ref (b 6), .int (nI tyd), .int (nI (a1 + 1)), .int (nI a1), .int (nI 3), .int (nI val), .ref (b 7), .int (nI man), .ref (b 8), .ref (b 9), .ref (b 10), .ref (b 11), .ref (b 12), .ref (b 13), .ref (b 14)])), (b 6, .inl (tA 0, 250, .inl (nF tx)))] rfl (fun H locs hP hD hS => ?_)
            exact retV hx hb hr hlocks hS hP hD () (by rw [hst]; obtain ⟨q1, q2, q3⟩ := sc_3 val (show ¬ a1 = tyd from by omega) (show ¬ (97 ≤ tx a1 ∧ tx a1 ≤ 122) from by omega) (show ¬ (48 ≤ tx a1 ∧ tx a1 ≤ 57) from by omega); rw [q1, q2, q3]; first | rw [if_pos (by omega)] | rw [if_neg (by omega)]) (by rw [hst]; obtain ⟨q1, q2, q3⟩ := sc_3 val (show ¬ a1 = tyd from by omega) (show ¬ (97 ≤ tx a1 ∧ tx a1 ≤ 122) from by omega) (show ¬ (48 ≤ tx a1 ∧ tx a1 ≤ 57) from by omega); rw [q1, q2, q3]; refine ⟨?_, ?_, ?_, ?_, ?_⟩ <;> (try split) <;> omega) dX9_scans_301
          · have p_51 : ¬ (a1 < tyd ∧ 59 ≤ tx a1 ∧ tx a1 ≤ 59) := p_51
            refine nv_if_eq (tgt := 287) (by omega) hx hb dX9_scans_280 (by decide) (fun _ => ?_) (fun h => absurd h (by omega))
            refine lv_iconst (v := nI 1) hx hb dX9_scans_287 (by decide) ?_
            refine nv_put (D := G) (ci := 7) (v := .int (nI 1)) (ty := (tyX9 12)) (C := RX9) (T := TX9) (N := 23) hx hb hts iX9 tyX9 tyX9_ok nmX9 hown hKK.1 hP hD hS 0 rfl rfl 12 (by decide) f137 (fun _ h9 => h9) rfl (by decide +kernel) rfl rfl (Nat.le_of_ble_eq_true rfl) dX9_scans_288 [(b 0, .inr (7, [.ref (b 1), .ref (b 2), .ref (b 3), .ref (b 4), .ref (b 5), .int (nI qu), .long ab, .long bl, .ref (b 6), .int (nI tyd), .int (nI a1), .int (nI a1), .int (nI 1), .int (nI val), .ref (b 7), .int (nI man), .ref (b 8), .ref (b 9), .ref (b 10), .ref (b 11), .ref (b 12), .ref (b 13), .ref (b 14)])), (b 6, .inl (tA 0, 250, .inl (nF tx)))] rfl (fun H locs hP hD hS => ?_)
            refine lv_aload_n hx hb dX9_scans_291 rfl (lv_at hl 0 rfl) ?_
            refine lv_dup hx hb dX9_scans_292 rfl ?_
            refine va_get (D := G) (ci := 7) (C := RX9) (T := TX9) (N := 23) hx hb hts iX9 hown hKK.1 hP 0 rfl rfl 10 (by decide) f117 (fun _ h9 => h9) rfl dX9_scans_293 ?_
            refine lv_iconst (v := nI 1) hx hb dX9_scans_296 (by decide) ?_
            refine nv_iadd hx hb dX9_scans_297 ?_
            refine nv_put (D := G) (ci := 7) (v := .int (nI (a1 + 1))) (ty := (tyX9 10)) (C := RX9) (T := TX9) (N := 23) hx hb hts iX9 tyX9 tyX9_ok nmX9 hown hKK.1 hP hD hS 0 rfl rfl 10 (by decide) f117 (fun _ h9 => h9) rfl (by decide +kernel) rfl rfl (Nat.le_of_ble_eq_true rfl) dX9_scans_298 [(b 0, .inr (7, [.ref (b 1), .ref (b 2), .ref (b 3), .ref (b 4), .ref (b 5), .int (nI qu), .long ab, .long bl, .ref (b 6), .int (nI tyd), .int (nI (a1 + 1)), .int (nI a1), .int (nI 1), .int (nI val), .ref (b 7), .int (nI man), .ref (b 8), .ref (b 9), .ref (b 10), .ref (b 11), .ref (b 12), .ref (b 13), .ref (b 14)])), (b 6, .inl (tA 0, 250, .inl (nF tx)))] rfl (fun H locs hP hD hS => ?_)
            exact retV hx hb hr hlocks hS hP hD () (by rw [hst]; obtain ⟨q1, q2, q3⟩ := sc_3 val (show ¬ a1 = tyd from by omega) (show ¬ (97 ≤ tx a1 ∧ tx a1 ≤ 122) from by omega) (show ¬ (48 ≤ tx a1 ∧ tx a1 ≤ 57) from by omega); rw [q1, q2, q3]; first | rw [if_pos (by omega)] | rw [if_neg (by omega)]) (by rw [hst]; obtain ⟨q1, q2, q3⟩ := sc_3 val (show ¬ a1 = tyd from by omega) (show ¬ (97 ≤ tx a1 ∧ tx a1 ≤ 122) from by omega) (show ¬ (48 ≤ tx a1 ∧ tx a1 ≤ 57) from by omega); rw [q1, q2, q3]; refine ⟨?_, ?_, ?_, ?_, ?_⟩ <;> (try split) <;> omega) dX9_scans_301
    · refine lv_aload_n hx hb dX9_scans_43 rfl (lv_at hl 0 rfl) ?_
      refine lv_iconst (v := nI 0) hx hb dX9_scans_44 (by decide) ?_
      refine nv_put (D := G) (ci := 7) (v := .int (nI 0)) (ty := (tyX9 12)) (C := RX9) (T := TX9) (N := 23) hx hb hts iX9 tyX9 tyX9_ok nmX9 hown hKK.1 hP hD hS 0 rfl rfl 12 (by decide) f137 (fun _ h9 => h9) rfl (by decide +kernel) rfl rfl (Nat.le_of_ble_eq_true rfl) dX9_scans_45 [(b 0, .inr (7, [.ref (b 1), .ref (b 2), .ref (b 3), .ref (b 4), .ref (b 5), .int (nI qu), .long ab, .long bl, .ref (b 6), .int (nI tyd), .int (nI a1), .int (nI a1), .int (nI 0), .int (nI val), .ref (b 7), .int (nI man), .ref (b 8), .ref (b 9), .ref (b 10), .ref (b 11), .ref (b 12), .ref (b 13), .ref (b 14)])), (b 6, .inl (tA 0, 250, .inl (nF tx)))] rfl (fun H locs hP hD hS => ?_)
      exact retV hx hb hr hlocks hS hP hD () (by rw [hst]; obtain ⟨q1, q2, q3⟩ := sc_0 val (show a1 = tyd from by omega); rw [q1, q2, q3]) (by rw [hst]; obtain ⟨q1, q2, q3⟩ := sc_0 val (show a1 = tyd from by omega); rw [q1, q2, q3]; refine ⟨?_, ?_, ?_, ?_, ?_⟩ <;> (try split) <;> omega) dX9_scans_48
