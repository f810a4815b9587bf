/-! the model: what there is, images, the text, the digest -/
theorem nv_zast {p : Program} {l : Launch} {e : Env} {R : Room} {s : State} {m : MethodId} {args : Array Value} {below : List Frame} {meth : Method} {c : Code} {H : Heap} {locs : List Loc} {cells slots : Nat} {Q : State → Prop} {pc : Nat} {ls : Array Slot} {rest : List Value} {cc : ByteArray} {D : va_G} {cl : List vw_C} {tys : List (ClassId × FieldType)} {ws : va_W} {a : Nat} {A : Nat → Prop} {H0 : Heap} (hx : p.tables.exec = Jvm.exec) (hb : c.code = cc) (hK : va_K D cl tys s) (hP : va_P D cl ws H) (hD : va_D A ws) (hS : va_S A H0 H locs) (q0 t0 : Nat) {cA : ClassId} {n : Nat} {g : Nat → Nat} (ha : ws[q0]? = some (a, .inl (cA, n, .inl (nF g)))) (ht : tys[t0]? = some (cA, .boolean)) {i x : Nat} (hi : i < n) (hn : n < 2 ^ 31) (hdg : decode cc pc = .ok (.bastore, 1)) (ws2 : va_W) (hw : ws.set q0 (a, .inl (cA, n, .inl (nF (updN g i x)))) = ws2) (k : ∀ (H1 : Heap) (locs1 : List Loc), va_P D cl ws2 H1 → va_D A ws2 → va_S A H0 H1 locs1 → W p l e R s m args below meth c H1 locs1 cells slots Q (F0 m (pc + 1) ls rest)) (hv : vp_nar .boolean (nI x) = nI x := by decide +kernel) : W p l e R s m args below meth c H locs cells slots Q (F0 m pc ls (.int (nI x) :: .int (nI i) :: .ref a :: rest)) := by
  subst hw
  refine va_zast hx hb hK hP hD hS q0 t0 ha ht (vp_in_nI hi hn) hdg ?_
  rw [nI_clamp (by omega), hv, updF]; exact k
def mixS (B : Nat → Nat) (o : Nat) (h : Int64) (n : Nat) : Int64 := it (fun k h => (nI 31).toInt64 * h + (nI (B (o + k))).toInt64) n h
theorem mixS_0 (B : Nat → Nat) (o : Nat) (h : Int64) : mixS B o h 0 = h := rfl
theorem mixS_s (B : Nat → Nat) (o : Nat) (h : Int64) (n : Nat) : mixS B o h (n + 1) = (nI 31).toInt64 * mixS B o h n + (nI (B (o + n))).toInt64 := rfl
def dgC0 (f : Nat → Nat) (n : Nat) : Int64 := it (fun k h => (nI 31).toInt64 * h + (nI (f k)).toInt64) n ((nI 719).toInt64)
theorem dgC0_0 (f : Nat → Nat) : dgC0 f 0 = (nI 719).toInt64 := rfl
theorem dgC0_s (f : Nat → Nat) (n : Nat) : dgC0 f (n + 1) = (nI 31).toInt64 * dgC0 f n + (nI (f n)).toInt64 := rfl
def dgPm (B : Nat → Nat) (h : Int64) (n : Nat) : Int64 := it (fun p h => mixS B (156 + 8 * p) ((nI 31).toInt64 * ((nI 31).toInt64 * h + (nI (B (146 + p))).toInt64) + (nI (B (151 + p))).toInt64) (B 0)) n h
theorem dgPm_0 (B : Nat → Nat) (h : Int64) : dgPm B h 0 = h := rfl
theorem dgPm_s (B : Nat → Nat) (h : Int64) (n : Nat) : dgPm B h (n + 1) = mixS B (156 + 8 * n) ((nI 31).toInt64 * ((nI 31).toInt64 * dgPm B h n + (nI (B (146 + n))).toInt64) + (nI (B (151 + n))).toInt64) (B 0) := rfl
def cntF (B : Nat → Nat) (tyd w : Nat) : Nat := if w < 6 then B w else tyd
def digM (B : Nat → Nat) (tyd : Nat) (ab bl : Int64) : Int64 := (nI 31).toInt64 * ((nI 31).toInt64 * mixS B 196 (dgPm B (mixS B 126 (mixS B 102 (mixS B 72 (mixS B 32 (mixS B 8 (dgC0 (cntF B tyd) 7) (3 * B 0)) (4 * B 1)) (3 * B 2)) (3 * B 3)) (4 * B 4)) 5) (2 * B 5) + ab) + bl
theorem nI_all (x : Int32) : x = nI x.toBitVec.toNat := by
  apply Int32.toBitVec_inj.mp
  show x.toBitVec = BitVec.ofNat 32 x.toBitVec.toNat
  rw [BitVec.ofNat_toNat, BitVec.setWidth_eq]
def byteX (v : Int64) (k : Nat) : Int32 := ((v >>> ((nI (8 * k)).toInt64 &&& 63)) &&& ((nI 255).toInt64)).toInt32
def byteN (v : Int64) (k : Nat) : Nat := (byteX v k).toBitVec.toNat
theorem byteN_lt (v : Int64) (k : Nat) : byteN v k < 256 := by
  unfold byteN byteX
  generalize v >>> ((nI (8 * k)).toInt64 &&& 63) = y
  show (BitVec.signExtend 32 (y.toBitVec &&& ((nI 255).toInt64).toBitVec)).toNat < 256
  rw [show ((nI 255).toInt64).toBitVec = 255#64 from by decide +kernel]
  rw [BitVec.signExtend_eq_setWidth_of_le _ (by omega), BitVec.toNat_setWidth, BitVec.toNat_and]
  have h : y.toBitVec.toNat &&& (255#64).toNat ≤ 255 := Nat.and_le_right
  have := Nat.mod_le (y.toBitVec.toNat &&& (255#64).toNat) (2 ^ 32)
  omega
def typC (tx : Nat → Nat) (tyd : Nat) (v : Int64) (n w : Nat) : Nat → Nat := it (fun i X => updN X (tyd + i) (byteN v (n - 1 - i))) w tx
theorem typC_0 (tx : Nat → Nat) (tyd : Nat) (v : Int64) (n : Nat) : typC tx tyd v n 0 = tx := rfl
theorem typC_s (tx : Nat → Nat) (tyd : Nat) (v : Int64) (n w : Nat) : typC tx tyd v n (w + 1) = updN (typC tx tyd v n w) (tyd + w) (byteN v (n - 1 - w)) := rfl
theorem predZ {j : Nat} (h : j < 1073741824) : (nI j + (-1)).toInt = ((j : Nat) : Int) - 1 := by
  have e : nI j + (-1) = nI j - nI 1 := by rw [Int32.sub_eq_add_neg]; rfl
  rw [e, pk_sub_toInt (by omega) (by omega)]
  rfl

set_option maxHeartbeats 4000000 in
set_option maxRecDepth 100000 in
theorem c_X9_worth (l : Launch) (G : va_G) (tA : Nat → ClassId) (b : Nat → Nat) (qu : Nat) (ab : Int64) (bl : Int64) (tyd : Nat) (at0 : Nat) (sta : Nat) (tok : Nat) (val : Nat) (man : Nat) (B : Nat → Nat) (rf : Nat → Int32) (pe : Int32) (PE : Int) (te : Int32) (TE : Int) (ve : Int32) (VE : Int) (hWB : WB B) (hqu : qu < 2) (hpe : pe.toInt = PE) (hte : te.toInt = TE) (hve : ve.toInt = VE) : CtI l yX9_worth wsX9_worth ({ frames := 2, cells := 0, slots := 0, locals := 46 }) G tA [.ref (b 0), .int pe, .int te, .int ve] ([(b 0, .inr (7, [.ref (b 1), .ref (b 2), .ref (b 3), .ref (b 4), .ref (b 5), .int (nI qu), .long ab, .long bl, .ref (b 6), .int (nI tyd), .int (nI at0), .int (nI sta), .int (nI tok), .int (nI val), .ref (b 7), .int (nI man), .ref (b 8), .ref (b 9), .ref (b 10), .ref (b 11), .ref (b 12), .ref (b 13), .ref (b 14)])), (b 1, .inl (tA 0, 212, .inl (nF B))), (b 5, .inl (tA 0, 3, .inl rf))]) (fun (r : Int32) (_ : Unit) => r = (if okV (B 0) PE TE VE = true then nI (B (156 + 8 * PE.toNat + TE.toNat)) else -2)) (fun (_ : Unit) => [(b 0, .inr (7, [.ref (b 1), .ref (b 2), .ref (b 3), .ref (b 4), .ref (b 5), .int (nI qu), .long ab, .long bl, .ref (b 6), .int (nI tyd), .int (nI at0), .int (nI sta), .int (nI tok), .int (nI val), .ref (b 7), .int (nI man), .ref (b 8), .ref (b 9), .ref (b 10), .ref (b 11), .ref (b 12), .ref (b 13), .ref (b 14)])), (b 1, .inl (tA 0, 212, .inl (nF (if okV (B 0) PE TE VE = true then updN B (156 + 8 * PE.toNat + TE.toNat) VE.toNat else B)))), (b 5, .inl (tA 0, 3, .inl (if okV (B 0) PE TE VE = true then rf else bump qu rf 0)))]) 0 0 := by
  refine enterI (cc := cX9_worth) (maxL := 5) (ret := (some .int)) (by decide) rfl (Nat.le_of_ble_eq_true rfl) ?_
  intro p0 e0 s m args below meth c0_ A ls hx hb hml hr hts hown hlocks hin hKK hA hP hD hl hS
  have hown : s.vm.findClass RX9 = some m.cls := hown
  have hl : lv_has ls 5 [(0, .ref (b 0)), (1, .int pe), (2, .int te), (3, .int ve)] := hl
  have f208 := hts (Cond.constantLong RX9 208 (99)) (List.mem_of_getElem? (i := 1) rfl)
  have f7 := hts (Cond.fieldLink RX9 7 "LentTermsModel" "book" "[I") (List.mem_of_getElem? (i := 2) rfl)
  have iX9 : ∀ w ∈ wsX90, w ∈ wsX9_worth := by decide +kernel
  obtain ⟨⟨hn0, hn1, hn2, hn3, hn4, hn5⟩, hbB, hv0, hv1, hv2, hv3, hv4, hv5, hv6, hv7⟩ := id hWB
  refine lv_iload_n hx hb dX9_worth_0 rfl (lv_at hl 1 rfl) ?_
  refine roI hP hD hS hA [] rfl (runS (As := [.int pe]) (rest := []) (isC := []) ⟨hx, hb, hml, hown, hts⟩ hKK hP hD rfl (by decide) (c_X9_isOne l G tA pe PE hpe _) (va_cwS 1 hts gX9_worth_X9_isOne rfl rfl rfl (by decide +kernel) ⟨Nat.le_of_ble_eq_true rfl, Nat.le_of_ble_eq_true rfl⟩) rfl rfl hl.1 rfl (lv_room (Nat.le_of_ble_eq_true rfl)) dX9_worth_1 ⟨Nat.le_of_ble_eq_true rfl, Nat.le_of_ble_eq_true rfl⟩) (fun _ => rfl) (fun r_1 u_2 H locs q_3 hP hS => ?_)
  rcases q_3 with ⟨rfl, p_4⟩ | ⟨rfl, p_4⟩
  · have p_4 : 0 ≤ PE ∧ PE < 5 := p_4
    refine nv_if_eq (tgt := 27) (by omega) hx hb dX9_worth_4 (by decide) (fun h => absurd h (by omega)) (fun _ => ?_)
    refine lv_aload_n hx hb dX9_worth_7 rfl (lv_at hl 0 rfl) ?_
    refine lv_iload_n hx hb dX9_worth_8 rfl (lv_at hl 2 rfl) ?_
    refine roI hP hD hS hA [0, 1] rfl (runV (As := [.int te]) (rest := []) (isC := [0, 1]) ⟨hx, hb, hml, hown, hts⟩ hKK hP hD rfl (by decide) (c_X9_isTerm l G tA b qu ab bl tyd at0 sta tok val man B te TE (hWB) hte _) (cwV 1 hts gX9_worth_X9_isTerm rfl rfl rfl (by decide +kernel) ⟨Nat.le_of_ble_eq_true rfl, Nat.le_of_ble_eq_true rfl⟩) rfl rfl rfl rfl hl.1 rfl (lv_room (Nat.le_of_ble_eq_true rfl)) dX9_worth_9 ⟨Nat.le_of_ble_eq_true rfl, Nat.le_of_ble_eq_true rfl⟩) (fun _ => rfl) (fun r_6 u_7 H locs q_8 hP hS => ?_)
    rcases q_8 with ⟨rfl, p_9⟩ | ⟨rfl, p_9⟩
    · have p_9 : 0 ≤ TE ∧ TE < ((B 0 : Nat) : Int) := p_9
      refine nv_if_eq (tgt := 27) (by omega) hx hb dX9_worth_12 (by decide) (fun h => absurd h (by omega)) (fun _ => ?_)
      refine lv_iload_n hx hb dX9_worth_15 rfl (lv_at hl 3 rfl) ?_
      refine lv_i2l hx hb dX9_worth_16 rfl ?_
      refine lv_lconst (v := (nI 0).toInt64) hx hb dX9_worth_17 (by decide +kernel) ?_
      refine lv_ldc2 (v := 99) hx hb hown f208 dX9_worth_18 ?_
      refine nv_topl (y := (nI 99).toInt64) (by decide +kernel) ?_
      refine roI hP hD hS hA [] rfl (runS (As := [.long ve.toInt64, .long ((nI 0).toInt64), .long ((nI 99).toInt64)]) (rest := []) (isC := []) ⟨hx, hb, hml, hown, hts⟩ hKK hP hD rfl (by decide) (c_X9_is l G tA ve VE (nI 0) (0 : Int) (nI 99) (99 : Int) hve rfl rfl _) (va_cwS 3 hts gX9_worth_X9_is rfl rfl rfl (by decide +kernel) ⟨Nat.le_of_ble_eq_true rfl, Nat.le_of_ble_eq_true rfl⟩) rfl rfl hl.1 rfl (lv_room (Nat.le_of_ble_eq_true rfl)) dX9_worth_21 ⟨Nat.le_of_ble_eq_true rfl, Nat.le_of_ble_eq_true rfl⟩) (fun _ => rfl) (fun r_11 u_12 H locs q_13 hP hS => ?_)
      rcases q_13 with ⟨rfl, p_14⟩ | ⟨rfl, p_14⟩
      · have p_14 : (0 : Int) ≤ VE ∧ VE ≤ (99 : Int) := p_14
        refine nv_if_ne (tgt := 32) (by omega) hx hb dX9_worth_24 (by decide) (fun _ => ?_) (fun h => absurd h (by omega))
        have hok : okV (B 0) PE TE VE = true := by simp only [okV, decide_eq_true_eq]; omega
        obtain ⟨pen, h_pen, rfl⟩ := toN (x := pe) (by omega)
        have t_pen : (nI pen).toInt = (pen : Int) := nI_toInt h_pen
        have z_pen : PE.toNat = pen := by omega
        obtain ⟨ten, h_ten, rfl⟩ := toN (x := te) (by omega)
        have t_ten : (nI ten).toInt = (ten : Int) := nI_toInt h_ten
        have z_ten : TE.toNat = ten := by omega
        obtain ⟨ven, h_ven, rfl⟩ := toN (x := ve) (by omega)
        have t_ven : (nI ven).toInt = (ven : Int) := nI_toInt h_ven
        have z_ven : VE.toNat = ven := by omega
        refine lv_aload_n hx hb dX9_worth_32 rfl (lv_at hl 0 rfl) ?_
        refine va_get (D := G) (ci := 7) (C := RX9) (T := TX9) (N := 23) hx hb hts iX9 hown hKK.1 hP 0 rfl rfl 0 (by decide) f7 (fun _ h9 => h9) rfl dX9_worth_33 ?_
        refine lv_sipush (v := nI 156) hx hb dX9_worth_36 (by decide +kernel) ?_
        refine lv_bipush (v := nI 8) hx hb dX9_worth_39 (by decide +kernel) ?_
        refine lv_iload_n hx hb dX9_worth_41 rfl (lv_at hl 1 rfl) ?_
        refine nv_imul hx hb dX9_worth_42 ?_
        refine nv_iadd hx hb dX9_worth_43 ?_
        refine lv_iload_n hx hb dX9_worth_44 rfl (lv_at hl 2 rfl) ?_
        refine nv_iadd hx hb dX9_worth_45 ?_
        refine nv_iald (i := (156 + (8 * pen)) + ten) hx hb hKK.1 hP 1 0 rfl rfl (by omega) (by decide) dX9_worth_46 ?_
        have b_16 := hbB ((156 + (8 * pen)) + ten)
        refine lv_istore (lv' := [(4, .int (nI (B ((156 + (8 * pen)) + ten)))), (0, .ref (b 0)), (1, .int (nI pen)), (2, .int (nI ten)), (3, .int (nI ven))]) hx hb dX9_worth_47 hl (by decide) rfl (fun ls hl => ?_)
        refine lv_aload_n hx hb dX9_worth_49 rfl (lv_at hl 1 rfl) ?_
        refine va_get (D := G) (ci := 7) (C := RX9) (T := TX9) (N := 23) hx hb hts iX9 hown hKK.1 hP 0 rfl rfl 0 (by decide) f7 (fun _ h9 => h9) rfl dX9_worth_50 ?_
        refine lv_sipush (v := nI 156) hx hb dX9_worth_53 (by decide +kernel) ?_
        refine lv_bipush (v := nI 8) hx hb dX9_worth_56 (by decide +kernel) ?_
        refine lv_iload_n hx hb dX9_worth_58 rfl (lv_at hl 2 rfl) ?_
        refine nv_imul hx hb dX9_worth_59 ?_
        refine nv_iadd hx hb dX9_worth_60 ?_
        refine lv_iload_n hx hb dX9_worth_61 rfl (lv_at hl 3 rfl) ?_
        refine nv_iadd hx hb dX9_worth_62 ?_
        refine lv_iload_n hx hb dX9_worth_63 rfl (lv_at hl 4 rfl) ?_
        refine nv_iast (i := (156 + (8 * pen)) + ten) hx hb hKK.1 hP hD hS 1 0 rfl rfl (by omega) (by decide) dX9_worth_64 [(b 0, .inr (7, [.ref (b 1), .ref (b 2), .ref (b 3), .ref (b 4), .ref (b 5), .int (nI qu), .long ab, .long bl, .ref (b 6), .int (nI tyd), .int (nI at0), .int (nI sta), .int (nI tok), .int (nI val), .ref (b 7), .int (nI man), .ref (b 8), .ref (b 9), .ref (b 10), .ref (b 11), .ref (b 12), .ref (b 13), .ref (b 14)])), (b 1, .inl (tA 0, 212, .inl (nF (updN B ((156 + (8 * pen)) + ten) ven)))), (b 5, .inl (tA 0, 3, .inl rf))] rfl (fun H locs hP hD hS => ?_)
        have B_17 := updN_lt hbB ((156 + (8 * pen)) + ten) (show ven < 1048576 from by omega)
        refine lv_iload hx hb dX9_worth_65 (lv_at hl 0 rfl) ?_
        exact retI hx hb hr hlocks hS hP hD () (by simp only [if_pos hok, z_pen, z_ten, z_ven]) (by rw [if_pos hok, z_pen, z_ten]) dX9_worth_67
      · have p_14 : ¬ ((0 : Int) ≤ VE ∧ VE ≤ (99 : Int)) := p_14
        refine nv_if_ne (tgt := 32) (by omega) hx hb dX9_worth_24 (by decide) (fun h => absurd h (by omega)) (fun _ => ?_)
        refine lv_aload_n hx hb dX9_worth_27 rfl (lv_at hl 0 rfl) ?_
        refine rwI hP hD hS hA [0, 2] rfl (runV (As := []) (rest := []) (isC := [0, 2]) ⟨hx, hb, hml, hown, hts⟩ hKK hP hD rfl (by decide) (c_X9_bad l G tA b qu ab bl tyd at0 sta tok val man rf (hqu) _) (cwV 0 hts gX9_worth_X9_bad rfl rfl rfl (by decide +kernel) ⟨Nat.le_of_ble_eq_true rfl, Nat.le_of_ble_eq_true rfl⟩) rfl rfl rfl rfl hl.1 rfl (lv_room (Nat.le_of_ble_eq_true rfl)) dX9_worth_28 ⟨Nat.le_of_ble_eq_true rfl, Nat.le_of_ble_eq_true rfl⟩) (fun (_ : Unit) => [(b 0, .inr (7, [.ref (b 1), .ref (b 2), .ref (b 3), .ref (b 4), .ref (b 5), .int (nI qu), .long ab, .long bl, .ref (b 6), .int (nI tyd), .int (nI at0), .int (nI sta), .int (nI tok), .int (nI val), .ref (b 7), .int (nI man), .ref (b 8), .ref (b 9), .ref (b 10), .ref (b 11), .ref (b 12), .ref (b 13), .ref (b 14)])), (b 1, .inl (tA 0, 212, .inl (nF B))), (b 5, .inl (tA 0, 3, .inl (bump qu rf 0)))]) (fun _ => rfl) (fun _ => rfl) (fun _ => rfl) (fun r_19 u_20 H locs q_21 hP hD hS => ?_)
        subst q_21
        have hno : ¬ (okV (B 0) PE TE VE = true) := by first | (simp only [okV, decide_eq_true_eq]; omega) | (simp only [okV, decide_eq_true_eq]; omega)
        exact retI hx hb hr hlocks hS hP hD () (by simp only [if_neg hno]) (by rw [if_neg hno]) dX9_worth_31
    · have p_9 : ¬ (0 ≤ TE ∧ TE < ((B 0 : Nat) : Int)) := p_9
      refine nv_if_eq (tgt := 27) (by omega) hx hb dX9_worth_12 (by decide) (fun _ => ?_) (fun h => absurd h (by omega))
      refine lv_aload_n hx hb dX9_worth_27 rfl (lv_at hl 0 rfl) ?_
      refine rwI hP hD hS hA [0, 2] rfl (runV (As := []) (rest := []) (isC := [0, 2]) ⟨hx, hb, hml, hown, hts⟩ hKK hP hD rfl (by decide) (c_X9_bad l G tA b qu ab bl tyd at0 sta tok val man rf (hqu) _) (cwV 0 hts gX9_worth_X9_bad rfl rfl rfl (by decide +kernel) ⟨Nat.le_of_ble_eq_true rfl, Nat.le_of_ble_eq_true rfl⟩) rfl rfl rfl rfl hl.1 rfl (lv_room (Nat.le_of_ble_eq_true rfl)) dX9_worth_28 ⟨Nat.le_of_ble_eq_true rfl, Nat.le_of_ble_eq_true rfl⟩) (fun (_ : Unit) => [(b 0, .inr (7, [.ref (b 1), .ref (b 2), .ref (b 3), .ref (b 4), .ref (b 5), .int (nI qu), .long ab, .long bl, .ref (b 6), .int (nI tyd), .int (nI at0), .int (nI sta), .int (nI tok), .int (nI val), .ref (b 7), .int (nI man), .ref (b 8), .ref (b 9), .ref (b 10), .ref (b 11), .ref (b 12), .ref (b 13), .ref (b 14)])), (b 1, .inl (tA 0, 212, .inl (nF B))), (b 5, .inl (tA 0, 3, .inl (bump qu rf 0)))]) (fun _ => rfl) (fun _ => rfl) (fun _ => rfl) (fun r_23 u_24 H locs q_25 hP hD hS => ?_)
      subst q_25
      have hno : ¬ (okV (B 0) PE TE VE = true) := by first | (simp only [okV, decide_eq_true_eq]; omega) | (simp only [okV, decide_eq_true_eq]; omega)
      exact retI hx hb hr hlocks hS hP hD () (by simp only [if_neg hno]) (by rw [if_neg hno]) dX9_worth_31
  · have p_4 : ¬ (0 ≤ PE ∧ PE < 5) := p_4
    refine nv_if_eq (tgt := 27) (by omega) hx hb dX9_worth_4 (by decide) (fun _ => ?_) (fun h => absurd h (by omega))
    refine lv_aload_n hx hb dX9_worth_27 rfl (lv_at hl 0 rfl) ?_
    refine rwI hP hD hS hA [0, 2] rfl (runV (As := []) (rest := []) (isC := [0, 2]) ⟨hx, hb, hml, hown, hts⟩ hKK hP hD rfl (by decide) (c_X9_bad l G tA b qu ab bl tyd at0 sta tok val man rf (hqu) _) (cwV 0 hts gX9_worth_X9_bad rfl rfl rfl (by decide +kernel) ⟨Nat.le_of_ble_eq_true rfl, Nat.le_of_ble_eq_true rfl⟩) rfl rfl rfl rfl hl.1 rfl (lv_room (Nat.le_of_ble_eq_true rfl)) dX9_worth_28 ⟨Nat.le_of_ble_eq_true rfl, Nat.le_of_ble_eq_true rfl⟩) (fun (_ : Unit) => [(b 0, .inr (7, [.ref (b 1), .ref (b 2), .ref (b 3), .ref (b 4), .ref (b 5), .int (nI qu), .long ab, .long bl, .ref (b 6), .int (nI tyd), .int (nI at0), .int (nI sta), .int (nI tok), .int (nI val), .ref (b 7), .int (nI man), .ref (b 8), .ref (b 9), .ref (b 10), .ref (b 11), .ref (b 12), .ref (b 13), .ref (b 14)])), (b 1, .inl (tA 0, 212, .inl (nF B))), (b 5, .inl (tA 0, 3, .inl (bump qu rf 0)))]) (fun _ => rfl) (fun _ => rfl) (fun _ => rfl) (fun r_27 u_28 H locs q_29 hP hD hS => ?_)
    subst q_29
    have hno : ¬ (okV (B 0) PE TE VE = true) := by first | (simp only [okV, decide_eq_true_eq]; omega) | (simp only [okV, decide_eq_true_eq]; omega)
    exact retI hx hb hr hlocks hS hP hD () (by simp only [if_neg hno]) (by rw [if_neg hno]) dX9_worth_31

set_option maxHeartbeats 4000000 in
set_option maxRecDepth 100000 in
theorem c_X9_waits (l : Launch) (G : va_G) (tA : Nat → ClassId) (b : Nat → Nat) (qu : Nat) (ab : Int64) (bl : Int64) (tyd : Nat) (at0 : Nat) (sta : Nat) (tok : Nat) (val : Nat) (man : Nat) (B : Nat → Nat) (rf : Nat → Int32) (pe : Int32) (PE : Int) (se : Int32) (SE : Int) (ve : Int32) (VE : Int) (hWB : WB B) (hqu : qu < 2) (hpe : pe.toInt = PE) (hse : se.toInt = SE) (hve : ve.toInt = VE) : CtI l yX9_waits wsX9_waits ({ frames := 2, cells := 0, slots := 0, locals := 46 }) G tA [.ref (b 0), .int pe, .int se, .int ve] ([(b 0, .inr (7, [.ref (b 1), .ref (b 2), .ref (b 3), .ref (b 4), .ref (b 5), .int (nI qu), .long ab, .long bl, .ref (b 6), .int (nI tyd), .int (nI at0), .int (nI sta), .int (nI tok), .int (nI val), .ref (b 7), .int (nI man), .ref (b 8), .ref (b 9), .ref (b 10), .ref (b 11), .ref (b 12), .ref (b 13), .ref (b 14)])), (b 1, .inl (tA 0, 212, .inl (nF B))), (b 5, .inl (tA 0, 3, .inl rf))]) (fun (r : Int32) (_ : Unit) => r = (if okH (B 0) PE SE VE (SE.toNat &&& VE.toNat) = true then nI 1 else -2)) (fun (_ : Unit) => [(b 0, .inr (7, [.ref (b 1), .ref (b 2), .ref (b 3), .ref (b 4), .ref (b 5), .int (nI qu), .long ab, .long bl, .ref (b 6), .int (nI tyd), .int (nI at0), .int (nI sta), .int (nI tok), .int (nI val), .ref (b 7), .int (nI man), .ref (b 8), .ref (b 9), .ref (b 10), .ref (b 11), .ref (b 12), .ref (b 13), .ref (b 14)])), (b 1, .inl (tA 0, 212, .inl (nF (if okH (B 0) PE SE VE (SE.toNat &&& VE.toNat) = true then updN (updN B (146 + PE.toNat) SE.toNat) (151 + PE.toNat) VE.toNat else B)))), (b 5, .inl (tA 0, 3, .inl (if okH (B 0) PE SE VE (SE.toNat &&& VE.toNat) = true then rf else bump qu rf 0)))]) 0 0 := by
  refine enterI (cc := cX9_waits) (maxL := 4) (ret := (some .int)) (by decide) rfl (Nat.le_of_ble_eq_true rfl) ?_
  intro p0 e0 s m args below meth c0_ A ls hx hb hml hr hts hown hlocks hin hKK hA hP hD hl hS
  have hown : s.vm.findClass RX9 = some m.cls := hown
  have hl : lv_has ls 4 [(0, .ref (b 0)), (1, .int pe), (2, .int se), (3, .int ve)] := hl
  have f7 := hts (Cond.fieldLink RX9 7 "LentTermsModel" "book" "[I") (List.mem_of_getElem? (i := 1) rfl)
  have iX9 : ∀ w ∈ wsX90, w ∈ wsX9_waits := by decide +kernel
  obtain ⟨⟨hn0, hn1, hn2, hn3, hn4, hn5⟩, hbB, hv0, hv1, hv2, hv3, hv4, hv5, hv6, hv7⟩ := id hWB
  have h256 := p256 hn0
  refine lv_iload_n hx hb dX9_waits_0 rfl (lv_at hl 1 rfl) ?_
  refine roI hP hD hS hA [] rfl (runS (As := [.int pe]) (rest := []) (isC := []) ⟨hx, hb, hml, hown, hts⟩ hKK hP hD rfl (by decide) (c_X9_isOne l G tA pe PE hpe _) (va_cwS 1 hts gX9_waits_X9_isOne rfl rfl rfl (by decide +kernel) ⟨Nat.le_of_ble_eq_true rfl, Nat.le_of_ble_eq_true rfl⟩) rfl rfl hl.1 rfl (lv_room (Nat.le_of_ble_eq_true rfl)) dX9_waits_1 ⟨Nat.le_of_ble_eq_true rfl, Nat.le_of_ble_eq_true rfl⟩) (fun _ => rfl) (fun r_1 u_2 H locs q_3 hP hS => ?_)
  rcases q_3 with ⟨rfl, p_4⟩ | ⟨rfl, p_4⟩
  · have p_4 : 0 ≤ PE ∧ PE < 5 := p_4
    refine nv_if_eq (tgt := 29) (by omega) hx hb dX9_waits_4 (by decide) (fun h => absurd h (by omega)) (fun _ => ?_)
    refine lv_aload_n hx hb dX9_waits_7 rfl (lv_at hl 0 rfl) ?_
    refine lv_iload_n hx hb dX9_waits_8 rfl (lv_at hl 2 rfl) ?_
    refine roI hP hD hS hA [0, 1] rfl (runV (As := [.int se]) (rest := []) (isC := [0, 1]) ⟨hx, hb, hml, hown, hts⟩ hKK hP hD rfl (by decide) (c_X9_isSet l G tA b qu ab bl tyd at0 sta tok val man B se SE (hWB) hse _) (cwV 1 hts gX9_waits_X9_isSet rfl rfl rfl (by decide +kernel) ⟨Nat.le_of_ble_eq_true rfl, Nat.le_of_ble_eq_true rfl⟩) rfl rfl rfl rfl hl.1 rfl (lv_room (Nat.le_of_ble_eq_true rfl)) dX9_waits_9 ⟨Nat.le_of_ble_eq_true rfl, Nat.le_of_ble_eq_true rfl⟩) (fun _ => rfl) (fun r_6 u_7 H locs q_8 hP hS => ?_)
    rcases q_8 with ⟨rfl, p_9⟩ | ⟨rfl, p_9⟩
    · have p_9 : 0 ≤ SE ∧ SE < ((2 ^ B 0 : Nat) : Int) := p_9
      refine nv_if_eq (tgt := 29) (by omega) hx hb dX9_waits_12 (by decide) (fun h => absurd h (by omega)) (fun _ => ?_)
      refine lv_aload_n hx hb dX9_waits_15 rfl (lv_at hl 0 rfl) ?_
      refine lv_iload_n hx hb dX9_waits_16 rfl (lv_at hl 3 rfl) ?_
      refine roI hP hD hS hA [0, 1] rfl (runV (As := [.int ve]) (rest := []) (isC := [0, 1]) ⟨hx, hb, hml, hown, hts⟩ hKK hP hD rfl (by decide) (c_X9_isSet l G tA b qu ab bl tyd at0 sta tok val man B ve VE (hWB) hve _) (cwV 1 hts gX9_waits_X9_isSet rfl rfl rfl (by decide +kernel) ⟨Nat.le_of_ble_eq_true rfl, Nat.le_of_ble_eq_true rfl⟩) rfl rfl rfl rfl hl.1 rfl (lv_room (Nat.le_of_ble_eq_true rfl)) dX9_waits_17 ⟨Nat.le_of_ble_eq_true rfl, Nat.le_of_ble_eq_true rfl⟩) (fun _ => rfl) (fun r_11 u_12 H locs q_13 hP hS => ?_)
      rcases q_13 with ⟨rfl, p_14⟩ | ⟨rfl, p_14⟩
      · have p_14 : 0 ≤ VE ∧ VE < ((2 ^ B 0 : Nat) : Int) := p_14
        refine nv_if_eq (tgt := 29) (by omega) hx hb dX9_waits_20 (by decide) (fun h => absurd h (by omega)) (fun _ => ?_)
        obtain ⟨sen, h_sen, rfl⟩ := toN (x := se) (by omega)
        have t_sen : (nI sen).toInt = (sen : Int) := nI_toInt h_sen
        have z_sen : SE.toNat = sen := by omega
        obtain ⟨ven, h_ven, rfl⟩ := toN (x := ve) (by omega)
        have t_ven : (nI ven).toInt = (ven : Int) := nI_toInt h_ven
        have z_ven : VE.toNat = ven := by omega
        refine lv_iload_n hx hb dX9_waits_23 rfl (lv_at hl 2 rfl) ?_
        refine lv_iload_n hx hb dX9_waits_24 rfl (lv_at hl 3 rfl) ?_
        refine nv_iand hx hb dX9_waits_25 ?_
        have hand : sen &&& ven ≤ sen := Nat.and_le_left
        refine nv_if_eq (tgt := 34) (by omega) hx hb dX9_waits_26 (by decide) (fun c_16 => ?_) (fun c_16 => ?_)
        · obtain ⟨pen, h_pen, rfl⟩ := toN (x := pe) (by omega)
          have t_pen : (nI pen).toInt = (pen : Int) := nI_toInt h_pen
          have z_pen : PE.toNat = pen := by omega
          have hok : okH (B 0) PE SE VE (SE.toNat &&& VE.toNat) = true := by simp only [okH, decide_eq_true_eq, z_sen, z_ven]; omega
          refine lv_aload_n hx hb dX9_waits_34 rfl (lv_at hl 0 rfl) ?_
          refine va_get (D := G) (ci := 7) (C := RX9) (T := TX9) (N := 23) hx hb hts iX9 hown hKK.1 hP 0 rfl rfl 0 (by decide) f7 (fun _ h9 => h9) rfl dX9_waits_35 ?_
          refine lv_sipush (v := nI 146) hx hb dX9_waits_38 (by decide +kernel) ?_
          refine lv_iload_n hx hb dX9_waits_41 rfl (lv_at hl 1 rfl) ?_
          refine nv_iadd hx hb dX9_waits_42 ?_
          refine lv_iload_n hx hb dX9_waits_43 rfl (lv_at hl 2 rfl) ?_
          refine nv_iast (i := 146 + pen) hx hb hKK.1 hP hD hS 1 0 rfl rfl (by omega) (by decide) dX9_waits_44 [(b 0, .inr (7, [.ref (b 1), .ref (b 2), .ref (b 3), .ref (b 4), .ref (b 5), .int (nI qu), .long ab, .long bl, .ref (b 6), .int (nI tyd), .int (nI at0), .int (nI sta), .int (nI tok), .int (nI val), .ref (b 7), .int (nI man), .ref (b 8), .ref (b 9), .ref (b 10), .ref (b 11), .ref (b 12), .ref (b 13), .ref (b 14)])), (b 1, .inl (tA 0, 212, .inl (nF (updN B (146 + pen) sen)))), (b 5, .inl (tA 0, 3, .inl rf))] rfl (fun H locs hP hD hS => ?_)
          have B_17 := updN_lt hbB (146 + pen) (show sen < 1048576 from by omega)
          refine lv_aload_n hx hb dX9_waits_45 rfl (lv_at hl 0 rfl) ?_
          refine va_get (D := G) (ci := 7) (C := RX9) (T := TX9) (N := 23) hx hb hts iX9 hown hKK.1 hP 0 rfl rfl 0 (by decide) f7 (fun _ h9 => h9) rfl dX9_waits_46 ?_
          refine lv_sipush (v := nI 151) hx hb dX9_waits_49 (by decide +kernel) ?_
          refine lv_iload_n hx hb dX9_waits_52 rfl (lv_at hl 1 rfl) ?_
          refine nv_iadd hx hb dX9_waits_53 ?_
          refine lv_iload_n hx hb dX9_waits_54 rfl (lv_at hl 3 rfl) ?_
          refine nv_iast (i := 151 + pen) hx hb hKK.1 hP hD hS 1 0 rfl rfl (by omega) (by decide) dX9_waits_55 [(b 0, .inr (7, [.ref (b 1), .ref (b 2), .ref (b 3), .ref (b 4), .ref (b 5), .int (nI qu), .long ab, .long bl, .ref (b 6), .int (nI tyd), .int (nI at0), .int (nI sta), .int (nI tok), .int (nI val), .ref (b 7), .int (nI man), .ref (b 8), .ref (b 9), .ref (b 10), .ref (b 11), .ref (b 12), .ref (b 13), .ref (b 14)])), (b 1, .inl (tA 0, 212, .inl (nF (updN (updN B (146 + pen) sen) (151 + pen) ven)))), (b 5, .inl (tA 0, 3, .inl rf))] rfl (fun H locs hP hD hS => ?_)
          have B_18 := updN_lt B_17 (151 + pen) (show ven < 1048576 from by omega)
          refine lv_iconst (v := nI 1) hx hb dX9_waits_56 (by decide) ?_
          exact retI hx hb hr hlocks hS hP hD () (by rw [if_pos hok, if_pos hok, z_pen, z_sen, z_ven]) (by rw [if_pos hok]) dX9_waits_57
        · refine lv_aload_n hx hb dX9_waits_29 rfl (lv_at hl 0 rfl) ?_
          refine rwI hP hD hS hA [0, 2] rfl (runV (As := []) (rest := []) (isC := [0, 2]) ⟨hx, hb, hml, hown, hts⟩ hKK hP hD rfl (by decide) (c_X9_bad l G tA b qu ab bl tyd at0 sta tok val man rf (hqu) _) (cwV 0 hts gX9_waits_X9_bad rfl rfl rfl (by decide +kernel) ⟨Nat.le_of_ble_eq_true rfl, Nat.le_of_ble_eq_true rfl⟩) rfl rfl rfl rfl hl.1 rfl (lv_room (Nat.le_of_ble_eq_true rfl)) dX9_waits_30 ⟨Nat.le_of_ble_eq_true rfl, Nat.le_of_ble_eq_true rfl⟩) (fun (_ : Unit) => [(b 0, .inr (7, [.ref (b 1), .ref (b 2), .ref (b 3), .ref (b 4), .ref (b 5), .int (nI qu), .long ab, .long bl, .ref (b 6), .int (nI tyd), .int (nI at0), .int (nI sta), .int (nI tok), .int (nI val), .ref (b 7), .int (nI man), .ref (b 8), .ref (b 9), .ref (b 10), .ref (b 11), .ref (b 12), .ref (b 13), .ref (b 14)])), (b 1, .inl (tA 0, 212, .inl (nF B))), (b 5, .inl (tA 0, 3, .inl (bump qu rf 0)))]) (fun _ => rfl) (fun _ => rfl) (fun _ => rfl) (fun r_19 u_20 H locs q_21 hP hD hS => ?_)
          subst q_21
          have hno : ¬ (okH (B 0) PE SE VE (SE.toNat &&& VE.toNat) = true) := by first | (simp only [okH, decide_eq_true_eq]; omega) | (simp only [okH, decide_eq_true_eq, z_sen, z_ven]; omega)
          exact retI hx hb hr hlocks hS hP hD () (by simp only [if_neg hno]) (by rw [if_neg hno]) dX9_waits_33
      · have p_14 : ¬ (0 ≤ VE ∧ VE < ((2 ^ B 0 : Nat) : Int)) := p_14
        refine nv_if_eq (tgt := 29) (by omega) hx hb dX9_waits_20 (by decide) (fun _ => ?_) (fun h => absurd h (by omega))
        refine lv_aload_n hx hb dX9_waits_29 rfl (lv_at hl 0 rfl) ?_
        refine rwI hP hD hS hA [0, 2] rfl (runV (As := []) (rest := []) (isC := [0, 2]) ⟨hx, hb, hml, hown, hts⟩ hKK hP hD rfl (by decide) (c_X9_bad l G tA b qu ab bl tyd at0 sta tok val man rf (hqu) _) (cwV 0 hts gX9_waits_X9_bad rfl rfl rfl (by decide +kernel) ⟨Nat.le_of_ble_eq_true rfl, Nat.le_of_ble_eq_true rfl⟩) rfl rfl rfl rfl hl.1 rfl (lv_room (Nat.le_of_ble_eq_true rfl)) dX9_waits_30 ⟨Nat.le_of_ble_eq_true rfl, Nat.le_of_ble_eq_true rfl⟩) (fun (_ : Unit) => [(b 0, .inr (7, [.ref (b 1), .ref (b 2), .ref (b 3), .ref (b 4), .ref (b 5), .int (nI qu), .long ab, .long bl, .ref (b 6), .int (nI tyd), .int (nI at0), .int (nI sta), .int (nI tok), .int (nI val), .ref (b 7), .int (nI man), .ref (b 8), .ref (b 9), .ref (b 10), .ref (b 11), .ref (b 12), .ref (b 13), .ref (b 14)])), (b 1, .inl (tA 0, 212, .inl (nF B))), (b 5, .inl (tA 0, 3, .inl (bump qu rf 0)))]) (fun _ => rfl) (fun _ => rfl) (fun _ => rfl) (fun r_23 u_24 H locs q_25 hP hD hS => ?_)
        subst q_25
        have hno : ¬ (okH (B 0) PE SE VE (SE.toNat &&& VE.toNat) = true) := by first | (simp only [okH, decide_eq_true_eq]; omega) | (simp only [okH, decide_eq_true_eq, z_sen, z_ven]; omega)
        exact retI hx hb hr hlocks hS hP hD () (by simp only [if_neg hno]) (by rw [if_neg hno]) dX9_waits_33
    · have p_9 : ¬ (0 ≤ SE ∧ SE < ((2 ^ B 0 : Nat) : Int)) := p_9
      refine nv_if_eq (tgt := 29) (by omega) hx hb dX9_waits_12 (by decide) (fun _ => ?_) (fun h => absurd h (by omega))
      refine lv_aload_n hx hb dX9_waits_29 rfl (lv_at hl 0 rfl) ?_
      refine rwI hP hD hS hA [0, 2] rfl (runV (As := []) (rest := []) (isC := [0, 2]) ⟨hx, hb, hml, hown, hts⟩ hKK hP hD rfl (by decide) (c_X9_bad l G tA b qu ab bl tyd at0 sta tok val man rf (hqu) _) (cwV 0 hts gX9_waits_X9_bad rfl rfl rfl (by decide +kernel) ⟨Nat.le_of_ble_eq_true rfl, Nat.le_of_ble_eq_true rfl⟩) rfl rfl rfl rfl hl.1 rfl (lv_room (Nat.le_of_ble_eq_true rfl)) dX9_waits_30 ⟨Nat.le_of_ble_eq_true rfl, Nat.le_of_ble_eq_true rfl⟩) (fun (_ : Unit) => [(b 0, .inr (7, [.ref (b 1), .ref (b 2), .ref (b 3), .ref (b 4), .ref (b 5), .int (nI qu), .long ab, .long bl, .ref (b 6), .int (nI tyd), .int (nI at0), .int (nI sta), .int (nI tok), .int (nI val), .ref (b 7), .int (nI man), .ref (b 8), .ref (b 9), .ref (b 10), .ref (b 11), .ref (b 12), .ref (b 13), .ref (b 14)])), (b 1, .inl (tA 0, 212, .inl (nF B))), (b 5, .inl (tA 0, 3, .inl (bump qu rf 0)))]) (fun _ => rfl) (fun _ => rfl) (fun _ => rfl) (fun r_27 u_28 H locs q_29 hP hD hS => ?_)
      subst q_29
      have hno : ¬ (okH (B 0) PE SE VE (SE.toNat &&& VE.toNat) = true) := by first | (simp only [okH, decide_eq_true_eq]; omega) | (simp only [okH, decide_eq_true_eq, z_sen, z_ven]; omega)
      exact retI hx hb hr hlocks hS hP hD () (by simp only [if_neg hno]) (by rw [if_neg hno]) dX9_waits_33
  · have p_4 : ¬ (0 ≤ PE ∧ PE < 5) := p_4
    refine nv_if_eq (tgt := 29) (by omega) hx hb dX9_waits_4 (by decide) (fun _ => ?_) (fun h => absurd h (by omega))
    refine lv_aload_n hx hb dX9_waits_29 rfl (lv_at hl 0 rfl) ?_
    refine rwI hP hD hS hA [0, 2] rfl (runV (As := []) (rest := []) (isC := [0, 2]) ⟨hx, hb, hml, hown, hts⟩ hKK hP hD rfl (by decide) (c_X9_bad l G tA b qu ab bl tyd at0 sta tok val man rf (hqu) _) (cwV 0 hts gX9_waits_X9_bad rfl rfl rfl (by decide +kernel) ⟨Nat.le_of_ble_eq_true rfl, Nat.le_of_ble_eq_true rfl⟩) rfl rfl rfl rfl hl.1 rfl (lv_room (Nat.le_of_ble_eq_true rfl)) dX9_waits_30 ⟨Nat.le_of_ble_eq_true rfl, Nat.le_of_ble_eq_true rfl⟩) (fun (_ : Unit) => [(b 0, .inr (7, [.ref (b 1), .ref (b 2), .ref (b 3), .ref (b 4), .ref (b 5), .int (nI qu), .long ab, .long bl, .ref (b 6), .int (nI tyd), .int (nI at0), .int (nI sta), .int (nI tok), .int (nI val), .ref (b 7), .int (nI man), .ref (b 8), .ref (b 9), .ref (b 10), .ref (b 11), .ref (b 12), .ref (b 13), .ref (b 14)])), (b 1, .inl (tA 0, 212, .inl (nF B))), (b 5, .inl (tA 0, 3, .inl (bump qu rf 0)))]) (fun _ => rfl) (fun _ => rfl) (fun _ => rfl) (fun r_31 u_32 H locs q_33 hP hD hS => ?_)
    subst q_33
    have hno : ¬ (okH (B 0) PE SE VE (SE.toNat &&& VE.toNat) = true) := by first | (simp only [okH, decide_eq_true_eq]; omega) | (simp only [okH, decide_eq_true_eq, z_sen, z_ven]; omega)
    exact retI hx hb hr hlocks hS hP hD () (by simp only [if_neg hno]) (by rw [if_neg hno]) dX9_waits_33

set_option maxHeartbeats 4000000 in
set_option maxRecDepth 100000 in
theorem c_X9_aboutOf (l : Launch) (G : va_G) (tA : Nat → ClassId) (b : Nat → Nat) (qu : Nat) (ab : Int64) (bl : Int64) (tyd : Nat) (at0 : Nat) (sta : Nat) (tok : Nat) (val : Nat) (man : Nat) (B : Nat → Nat) (tk : Nat) (hWB : WB B) (htk : tk < 1048576) : CtI l yX9_aboutOf wsX9_aboutOf ({ frames := 0, cells := 0, slots := 0, locals := 0 }) G tA [.ref (b 0), .int (nI tk)] ([(b 0, .inr (7, [.ref (b 1), .ref (b 2), .ref (b 3), .ref (b 4), .ref (b 5), .int (nI qu), .long ab, .long bl, .ref (b 6), .int (nI tyd), .int (nI at0), .int (nI sta), .int (nI tok), .int (nI val), .ref (b 7), .int (nI man), .ref (b 8), .ref (b 9), .ref (b 10), .ref (b 11), .ref (b 12), .ref (b 13), .ref (b 14)])), (b 1, .inl (tA 0, 212, .inl (nF B)))]) (fun (r : Int32) (_ : Unit) => r = nI (bitsN (fun z9 => decide (andn tk (B (196 + 2 * z9)) = 0)) (B 5)) ∧ bitsN (fun z9 => decide (andn tk (B (196 + 2 * z9)) = 0)) (B 5) < 256) (fun (_ : Unit) => [(b 0, .inr (7, [.ref (b 1), .ref (b 2), .ref (b 3), .ref (b 4), .ref (b 5), .int (nI qu), .long ab, .long bl, .ref (b 6), .int (nI tyd), .int (nI at0), .int (nI sta), .int (nI tok), .int (nI val), .ref (b 7), .int (nI man), .ref (b 8), .ref (b 9), .ref (b 10), .ref (b 11), .ref (b 12), .ref (b 13), .ref (b 14)])), (b 1, .inl (tA 0, 212, .inl (nF B)))]) 0 0 := by
  refine enterI (cc := cX9_aboutOf) (maxL := 4) (ret := (some .int)) (by decide) rfl (Nat.le_of_ble_eq_true rfl) ?_
  intro p0 e0 s m args below meth c0_ A ls hx hb hml hr hts hown hlocks hin hKK hA hP hD hl hS
  have hown : s.vm.findClass RX9 = some m.cls := hown
  have hl : lv_has ls 4 [(0, .ref (b 0)), (1, .int (nI tk))] := hl
  have f7 := hts (Cond.fieldLink RX9 7 "LentTermsModel" "book" "[I") (List.mem_of_getElem? (i := 1) rfl)
  have iX9 : ∀ w ∈ wsX90, w ∈ wsX9_aboutOf := by decide +kernel
  obtain ⟨⟨hn0, hn1, hn2, hn3, hn4, hn5⟩, hbB, hv0, hv1, hv2, hv3, hv4, hv5, hv6, hv7⟩ := id hWB
  refine lv_iconst (v := nI 0) hx hb dX9_aboutOf_0 (by decide) ?_
  refine lv_istore_n (lv' := [(2, .int (nI 0)), (0, .ref (b 0)), (1, .int (nI tk))]) hx hb dX9_aboutOf_1 rfl hl (by decide) rfl (fun ls hl => ?_)
  refine lv_iconst (v := nI 0) hx hb dX9_aboutOf_2 (by decide) ?_
  refine lv_istore_n (lv' := [(3, .int (nI 0)), (2, .int (nI 0)), (0, .ref (b 0)), (1, .int (nI tk))]) hx hb dX9_aboutOf_3 rfl hl (by decide) rfl (fun ls hl => ?_)
  refine wloop (σ := (Nat) × (Nat)) (fun | (k, q) => B 5 - k) (fun | (k, q) => (k ≤ B 5) ∧ (q = bitsN (fun z9 => decide (andn tk (B (196 + 2 * z9)) = 0)) k)) (fun | (k, q) => [(3, .int (nI k)), (2, .int (nI q)), (0, .ref (b 0)), (1, .int (nI tk))]) (fun | (k, q) => [(b 0, .inr (7, [.ref (b 1), .ref (b 2), .ref (b 3), .ref (b 4), .ref (b 5), .int (nI qu), .long ab, .long bl, .ref (b 6), .int (nI tyd), .int (nI at0), .int (nI sta), .int (nI tok), .int (nI val), .ref (b 7), .int (nI man), .ref (b 8), .ref (b 9), .ref (b 10), .ref (b 11), .ref (b 12), .ref (b 13), .ref (b 14)])), (b 1, .inl (tA 0, 212, .inl (nF B)))]) (0, 0) ⟨(show 0 ≤ B 5 from by omega), (show 0 = bitsN (fun z9 => decide (andn tk (B (196 + 2 * z9)) = 0)) 0 from rfl)⟩ (lv_sub hl [0, 1, 2, 3] rfl) hP hD hS ?_
  rintro ⟨k, q⟩ ⟨hk, hq⟩ ih_1 ls H locs hl hP hD hS
  have hl : lv_has ls 4 [(3, .int (nI k)), (2, .int (nI q)), (0, .ref (b 0)), (1, .int (nI tk))] := hl
  have hP : va_P G vwCl [(b 0, .inr (7, [.ref (b 1), .ref (b 2), .ref (b 3), .ref (b 4), .ref (b 5), .int (nI qu), .long ab, .long bl, .ref (b 6), .int (nI tyd), .int (nI at0), .int (nI sta), .int (nI tok), .int (nI val), .ref (b 7), .int (nI man), .ref (b 8), .ref (b 9), .ref (b 10), .ref (b 11), .ref (b 12), .ref (b 13), .ref (b 14)])), (b 1, .inl (tA 0, 212, .inl (nF B)))] H := hP
  have hD : va_D A [(b 0, .inr (7, [.ref (b 1), .ref (b 2), .ref (b 3), .ref (b 4), .ref (b 5), .int (nI qu), .long ab, .long bl, .ref (b 6), .int (nI tyd), .int (nI at0), .int (nI sta), .int (nI tok), .int (nI val), .ref (b 7), .int (nI man), .ref (b 8), .ref (b 9), .ref (b 10), .ref (b 11), .ref (b 12), .ref (b 13), .ref (b 14)])), (b 1, .inl (tA 0, 212, .inl (nF B)))] := hD
  have hk : k ≤ B 5 := hk
  have hq : q = bitsN (fun z9 => decide (andn tk (B (196 + 2 * z9)) = 0)) k := hq
  refine lv_iload_n hx hb dX9_aboutOf_4 rfl (lv_at hl 0 rfl) ?_
  refine lv_aload_n hx hb dX9_aboutOf_5 rfl (lv_at hl 2 rfl) ?_
  refine va_get (D := G) (ci := 7) (C := RX9) (T := TX9) (N := 23) hx hb hts iX9 hown hKK.1 hP 0 rfl rfl 0 (by decide) f7 (fun _ h9 => h9) rfl dX9_aboutOf_6 ?_
  refine lv_iconst (v := nI 5) hx hb dX9_aboutOf_9 (by decide) ?_
  refine nv_iald (i := 5) hx hb hKK.1 hP 1 0 rfl rfl (by omega) (by decide) dX9_aboutOf_10 ?_
  have b_2 := hbB 5
  refine nv_icmp_ge (tgt := 49) (by omega) (by omega) hx hb dX9_aboutOf_11 (by decide) (fun c_3 => ?_) (fun c_3 => ?_)
  · refine lv_iload_n hx hb dX9_aboutOf_49 rfl (lv_at hl 1 rfl) ?_
    exact retI hx hb hr hlocks hS hP hD () (rfl) (⟨congrArg nI (show (q : Nat) = bitsN (fun z9 => decide (andn tk (B (196 + 2 * z9)) = 0)) (B 5) from by have e : k = B 5 := (by omega); rw [hq, e]), Nat.lt_of_lt_of_le (bitsN_lt _ _) (p256 hn5).2⟩) dX9_aboutOf_50
  · refine lv_iload_n hx hb dX9_aboutOf_14 rfl (lv_at hl 1 rfl) ?_
    refine lv_iload_n hx hb dX9_aboutOf_15 rfl (lv_at hl 3 rfl) ?_
    refine lv_aload_n hx hb dX9_aboutOf_16 rfl (lv_at hl 2 rfl) ?_
    refine va_get (D := G) (ci := 7) (C := RX9) (T := TX9) (N := 23) hx hb hts iX9 hown hKK.1 hP 0 rfl rfl 0 (by decide) f7 (fun _ h9 => h9) rfl dX9_aboutOf_17 ?_
    refine lv_sipush (v := nI 196) hx hb dX9_aboutOf_20 (by decide +kernel) ?_
    refine lv_iconst (v := nI 2) hx hb dX9_aboutOf_23 (by decide) ?_
    refine lv_iload_n hx hb dX9_aboutOf_24 rfl (lv_at hl 0 rfl) ?_
    refine nv_imul hx hb dX9_aboutOf_25 ?_
    refine nv_iadd hx hb dX9_aboutOf_26 ?_
    refine nv_iald (i := 196 + (2 * k)) hx hb hKK.1 hP 1 0 rfl rfl (by omega) (by decide) dX9_aboutOf_27 ?_
    have b_4 := hbB (196 + (2 * k))
    refine lv_iconst (v := (-1)) hx hb dX9_aboutOf_28 (by decide) ?_
    refine lv_ixor hx hb dX9_aboutOf_29 ?_
    refine nv_andn hx hb dX9_aboutOf_30 ?_
    have hand := andn_le tk (B (196 + 2 * k))
    refine nv_if_ne (tgt := 40) (by omega) hx hb dX9_aboutOf_31 (by decide) (fun c_5 => ?_) (fun c_5 => ?_)
    · refine lv_iconst (v := nI 0) hx hb dX9_aboutOf_40 (by decide) ?_
      refine nv_ior hx hb dX9_aboutOf_41 ?_
      refine lv_istore_n (lv' := [(2, .int (nI (q ||| 0))), (3, .int (nI k)), (0, .ref (b 0)), (1, .int (nI tk))]) hx hb dX9_aboutOf_42 rfl hl (by decide) rfl (fun ls hl => ?_)
      refine lv_iinc (v := (nI (k + 1))) (lv' := [(3, .int (nI (k + 1))), (2, .int (nI (q ||| 0))), (0, .ref (b 0)), (1, .int (nI tk))]) hx hb dX9_aboutOf_43 hl (k := 1) rfl (nI_add k 1) (by decide) rfl (fun ls hl => ?_)
      refine lv_goto (tgt := 4) hx hb dX9_aboutOf_46 (by decide) ?_
      exact ih_1 (k + 1, q ||| 0) (show B 5 - (k + 1) < B 5 - k from by omega) ⟨(show (k + 1) ≤ B 5 from by omega), (show (q ||| 0) = bitsN (fun z9 => decide (andn tk (B (196 + 2 * z9)) = 0)) (k + 1) from by rw [bitsN_s, hq]; first | rw [if_pos (decide_eq_true (by omega))] | rw [if_neg (fun z => absurd (of_decide_eq_true z) (by omega))])⟩ _ _ _ (lv_sub hl [0, 1, 2, 3] rfl) hP hD hS
    · refine lv_iconst (v := nI 1) hx hb dX9_aboutOf_34 (by decide) ?_
      refine lv_iload_n hx hb dX9_aboutOf_35 rfl (lv_at hl 0 rfl) ?_
      refine nv_shl1 (by omega) hx hb dX9_aboutOf_36 ?_
      refine lv_goto (tgt := 41) hx hb dX9_aboutOf_37 (by decide) ?_
      refine nv_ior hx hb dX9_aboutOf_41 ?_
      refine lv_istore_n (lv' := [(2, .int (nI (q ||| (2 ^ k)))), (3, .int (nI k)), (0, .ref (b 0)), (1, .int (nI tk))]) hx hb dX9_aboutOf_42 rfl hl (by decide) rfl (fun ls hl => ?_)
      refine lv_iinc (v := (nI (k + 1))) (lv' := [(3, .int (nI (k + 1))), (2, .int (nI (q ||| (2 ^ k)))), (0, .ref (b 0)), (1, .int (nI tk))]) hx hb dX9_aboutOf_43 hl (k := 1) rfl (nI_add k 1) (by decide) rfl (fun ls hl => ?_)
      refine lv_goto (tgt := 4) hx hb dX9_aboutOf_46 (by decide) ?_
      exact ih_1 (k + 1, q ||| (2 ^ k)) (show B 5 - (k + 1) < B 5 - k from by omega) ⟨(show (k + 1) ≤ B 5 from by omega), (show (q ||| (2 ^ k)) = bitsN (fun z9 => decide (andn tk (B (196 + 2 * z9)) = 0)) (k + 1) from by rw [bitsN_s, hq]; first | rw [if_pos (decide_eq_true (by omega))] | rw [if_neg (fun z => absurd (of_decide_eq_true z) (by omega))])⟩ _ _ _ (lv_sub hl [0, 1, 2, 3] rfl) hP hD hS

set_option maxHeartbeats 4000000 in
set_option maxRecDepth 100000 in
theorem c_X9_about (l : Launch) (G : va_G) (tA : Nat → ClassId) (b : Nat → Nat) (qu : Nat) (ab : Int64) (bl : Int64) (tyd : Nat) (at0 : Nat) (sta : Nat) (tok : Nat) (val : Nat) (man : Nat) (B : Nat → Nat) (rf : Nat → Int32) (tk : Int32) (TK : Int) (hWB : WB B) (hqu : qu < 2) (htk : tk.toInt = TK) : CtI l yX9_about wsX9_about ({ frames := 2, cells := 0, slots := 0, locals := 46 }) G tA [.ref (b 0), .int tk] ([(b 0, .inr (7, [.ref (b 1), .ref (b 2), .ref (b 3), .ref (b 4), .ref (b 5), .int (nI qu), .long ab, .long bl, .ref (b 6), .int (nI tyd), .int (nI at0), .int (nI sta), .int (nI tok), .int (nI val), .ref (b 7), .int (nI man), .ref (b 8), .ref (b 9), .ref (b 10), .ref (b 11), .ref (b 12), .ref (b 13), .ref (b 14)])), (b 1, .inl (tA 0, 212, .inl (nF B))), (b 5, .inl (tA 0, 3, .inl rf))]) (fun (r : Int32) (_ : Unit) => r = (if 0 ≤ TK ∧ TK < ((2 ^ B 0 : Nat) : Int) then nI (bitsN (fun z9 => decide (andn TK.toNat (B (196 + 2 * z9)) = 0)) (B 5)) else -2)) (fun (_ : Unit) => [(b 0, .inr (7, [.ref (b 1), .ref (b 2), .ref (b 3), .ref (b 4), .ref (b 5), .int (nI qu), .long ab, .long bl, .ref (b 6), .int (nI tyd), .int (nI at0), .int (nI sta), .int (nI tok), .int (nI val), .ref (b 7), .int (nI man), .ref (b 8), .ref (b 9), .ref (b 10), .ref (b 11), .ref (b 12), .ref (b 13), .ref (b 14)])), (b 1, .inl (tA 0, 212, .inl (nF B))), (b 5, .inl (tA 0, 3, .inl (if 0 ≤ TK ∧ TK < ((2 ^ B 0 : Nat) : Int) then rf else bump qu rf 0)))]) 0 0 := by
  refine enterI (cc := cX9_about) (maxL := 2) (ret := (some .int)) (by decide) rfl (Nat.le_of_ble_eq_true rfl) ?_
  intro p0 e0 s m args below meth c0_ A ls hx hb hml hr hts hown hlocks hin hKK hA hP hD hl hS
  have hown : s.vm.findClass RX9 = some m.cls := hown
  have hl : lv_has ls 2 [(0, .ref (b 0)), (1, .int tk)] := hl
  obtain ⟨⟨hn0, hn1, hn2, hn3, hn4, hn5⟩, hbB, hv0, hv1, hv2, hv3, hv4, hv5, hv6, hv7⟩ := id hWB
  have h256 := p256 hn0
  refine lv_aload_n hx hb dX9_about_0 rfl (lv_at hl 0 rfl) ?_
  refine lv_iload_n hx hb dX9_about_1 rfl (lv_at hl 1 rfl) ?_
  refine roI hP hD hS hA [0, 1] rfl (runV (As := [.int tk]) (rest := []) (isC := [0, 1]) ⟨hx, hb, hml, hown, hts⟩ hKK hP hD rfl (by decide) (c_X9_isSet l G tA b qu ab bl tyd at0 sta tok val man B tk TK (hWB) htk _) (cwV 1 hts gX9_about_X9_isSet rfl rfl rfl (by decide +kernel) ⟨Nat.le_of_ble_eq_true rfl, Nat.le_of_ble_eq_true rfl⟩) rfl rfl rfl rfl hl.1 rfl (lv_room (Nat.le_of_ble_eq_true rfl)) dX9_about_2 ⟨Nat.le_of_ble_eq_true rfl, Nat.le_of_ble_eq_true rfl⟩) (fun _ => rfl) (fun r_1 u_2 H locs q_3 hP hS => ?_)
  rcases q_3 with ⟨rfl, p_4⟩ | ⟨rfl, p_4⟩
  · have p_4 : 0 ≤ TK ∧ TK < ((2 ^ B 0 : Nat) : Int) := p_4
    refine nv_if_eq (tgt := 16) (by omega) hx hb dX9_about_5 (by decide) (fun h => absurd h (by omega)) (fun _ => ?_)
    have hok : 0 ≤ TK ∧ TK < ((2 ^ B 0 : Nat) : Int) := by omega
    obtain ⟨tkn, h_tkn, rfl⟩ := toN (x := tk) (by omega)
    have t_tkn : (nI tkn).toInt = (tkn : Int) := nI_toInt h_tkn
    have z_tkn : TK.toNat = tkn := by omega
    refine lv_aload_n hx hb dX9_about_8 rfl (lv_at hl 0 rfl) ?_
    refine lv_iload_n hx hb dX9_about_9 rfl (lv_at hl 1 rfl) ?_
    refine roI hP hD hS hA [0, 1] rfl (runV (As := [.int (nI tkn)]) (rest := []) (isC := [0, 1]) ⟨hx, hb, hml, hown, hts⟩ hKK hP hD rfl (by decide) (c_X9_aboutOf l G tA b qu ab bl tyd at0 sta tok val man B tkn (hWB) (by first | assumption | omega) _) (cwV 1 hts gX9_about_X9_aboutOf rfl rfl rfl (by decide +kernel) ⟨Nat.le_of_ble_eq_true rfl, Nat.le_of_ble_eq_true rfl⟩) rfl rfl rfl rfl hl.1 rfl (lv_room (Nat.le_of_ble_eq_true rfl)) dX9_about_10 ⟨Nat.le_of_ble_eq_true rfl, Nat.le_of_ble_eq_true rfl⟩) (fun _ => rfl) (fun r_6 u_7 H locs q_8 hP hS => ?_)
    obtain ⟨rfl, e_9⟩ := q_8
    have e_9 : bitsN (fun z9 => decide (andn tkn (B (196 + 2 * z9)) = 0)) (B 5) < 256 := e_9
    refine lv_goto (tgt := 20) hx hb dX9_about_13 (by decide) ?_
    exact retI hx hb hr hlocks hS hP hD () (by rw [if_pos hok]) (by rw [if_pos hok, z_tkn]) dX9_about_20
  · have p_4 : ¬ (0 ≤ TK ∧ TK < ((2 ^ B 0 : Nat) : Int)) := p_4
    refine nv_if_eq (tgt := 16) (by omega) hx hb dX9_about_5 (by decide) (fun _ => ?_) (fun h => absurd h (by omega))
    refine lv_aload_n hx hb dX9_about_16 rfl (lv_at hl 0 rfl) ?_
    refine rwI hP hD hS hA [0, 2] rfl (runV (As := []) (rest := []) (isC := [0, 2]) ⟨hx, hb, hml, hown, hts⟩ hKK hP hD rfl (by decide) (c_X9_bad l G tA b qu ab bl tyd at0 sta tok val man rf (hqu) _) (cwV 0 hts gX9_about_X9_bad rfl rfl rfl (by decide +kernel) ⟨Nat.le_of_ble_eq_true rfl, Nat.le_of_ble_eq_true rfl⟩) rfl rfl rfl rfl hl.1 rfl (lv_room (Nat.le_of_ble_eq_true rfl)) dX9_about_17 ⟨Nat.le_of_ble_eq_true rfl, Nat.le_of_ble_eq_true rfl⟩) (fun (_ : Unit) => [(b 0, .inr (7, [.ref (b 1), .ref (b 2), .ref (b 3), .ref (b 4), .ref (b 5), .int (nI qu), .long ab, .long bl, .ref (b 6), .int (nI tyd), .int (nI at0), .int (nI sta), .int (nI tok), .int (nI val), .ref (b 7), .int (nI man), .ref (b 8), .ref (b 9), .ref (b 10), .ref (b 11), .ref (b 12), .ref (b 13), .ref (b 14)])), (b 1, .inl (tA 0, 212, .inl (nF B))), (b 5, .inl (tA 0, 3, .inl (bump qu rf 0)))]) (fun _ => rfl) (fun _ => rfl) (fun _ => rfl) (fun r_11 u_12 H locs q_13 hP hD hS => ?_)
    subst q_13
    exact retI hx hb hr hlocks hS hP hD () (by rw [if_neg (by omega)]) (by rw [if_neg (by omega)]) dX9_about_20

set_option maxHeartbeats 4000000 in
set_option maxRecDepth 100000 in
theorem c_X9_part (l : Launch) (G : va_G) (tA : Nat → ClassId) (b : Nat → Nat) (qu : Nat) (ab : Int64) (bl : Int64) (tyd : Nat) (at0 : Nat) (sta : Nat) (tok : Nat) (val : Nat) (man : Nat) (rf : Nat → Int32) (we : Int32) (WE : Int) (hqu : qu < 2) (hwe : we.toInt = WE) : CtL l yX9_part wsX9_part ({ frames := 2, cells := 0, slots := 0, locals := 42 }) G tA [.ref (b 0), .int we] ([(b 0, .inr (7, [.ref (b 1), .ref (b 2), .ref (b 3), .ref (b 4), .ref (b 5), .int (nI qu), .long ab, .long bl, .ref (b 6), .int (nI tyd), .int (nI at0), .int (nI sta), .int (nI tok), .int (nI val), .ref (b 7), .int (nI man), .ref (b 8), .ref (b 9), .ref (b 10), .ref (b 11), .ref (b 12), .ref (b 13), .ref (b 14)])), (b 5, .inl (tA 0, 3, .inl rf))]) (fun (r : Int64) (_ : Unit) => r = (if WE = 0 then ab else if WE = 1 then bl else (-2 : Int32).toInt64)) (fun (_ : Unit) => [(b 0, .inr (7, [.ref (b 1), .ref (b 2), .ref (b 3), .ref (b 4), .ref (b 5), .int (nI qu), .long ab, .long bl, .ref (b 6), .int (nI tyd), .int (nI at0), .int (nI sta), .int (nI tok), .int (nI val), .ref (b 7), .int (nI man), .ref (b 8), .ref (b 9), .ref (b 10), .ref (b 11), .ref (b 12), .ref (b 13), .ref (b 14)])), (b 5, .inl (tA 0, 3, .inl (if WE = 0 ∨ WE = 1 then rf else bump qu rf 0)))]) 0 0 := by
  refine enterL (cc := cX9_part) (maxL := 2) (ret := (some .long)) (by decide) rfl (Nat.le_of_ble_eq_true rfl) ?_
  intro p0 e0 s m args below meth c0_ A ls hx hb hml hr hts hown hlocks hin hKK hA hP hD hl hS
  have hown : s.vm.findClass RX9 = some m.cls := hown
  have hl : lv_has ls 2 [(0, .ref (b 0)), (1, .int we)] := hl
  have f53 := hts (Cond.fieldLink RX9 53 "LentTermsModel" "below" "J") (List.mem_of_getElem? (i := 2) rfl)
  have iX9 : ∀ w ∈ wsX90, w ∈ wsX9_part := by decide +kernel
  have f223 := hts (Cond.fieldLink RX9 223 "LentTermsModel" "above" "J") (List.mem_of_getElem? (i := 1) rfl)
  refine lv_iload_n hx hb dX9_part_0 rfl (lv_at hl 1 rfl) ?_
  refine zv_if_ne (tgt := 11) (X := WE) hwe hx hb dX9_part_1 (by decide) (fun c_1 => ?_) (fun c_1 => ?_)
  · refine lv_iload_n hx hb dX9_part_11 rfl (lv_at hl 1 rfl) ?_
    refine lv_iconst (v := nI 1) hx hb dX9_part_12 (by decide) ?_
    refine zv_icmp_ne (tgt := 23) (X := WE) (Y := (1 : Int)) hwe rfl hx hb dX9_part_13 (by decide) (fun c_2 => ?_) (fun c_2 => ?_)
    · refine lv_aload_n hx hb dX9_part_23 rfl (lv_at hl 0 rfl) ?_
      refine rwI hP hD hS hA [0, 1] rfl (runV (As := []) (rest := []) (isC := [0, 1]) ⟨hx, hb, hml, hown, hts⟩ hKK hP hD rfl (by decide) (c_X9_bad l G tA b qu ab bl tyd at0 sta tok val man rf (hqu) _) (cwV 0 hts gX9_part_X9_bad rfl rfl rfl (by decide +kernel) ⟨Nat.le_of_ble_eq_true rfl, Nat.le_of_ble_eq_true rfl⟩) rfl rfl rfl rfl hl.1 rfl (lv_room (Nat.le_of_ble_eq_true rfl)) dX9_part_24 ⟨Nat.le_of_ble_eq_true rfl, Nat.le_of_ble_eq_true rfl⟩) (fun (_ : Unit) => [(b 0, .inr (7, [.ref (b 1), .ref (b 2), .ref (b 3), .ref (b 4), .ref (b 5), .int (nI qu), .long ab, .long bl, .ref (b 6), .int (nI tyd), .int (nI at0), .int (nI sta), .int (nI tok), .int (nI val), .ref (b 7), .int (nI man), .ref (b 8), .ref (b 9), .ref (b 10), .ref (b 11), .ref (b 12), .ref (b 13), .ref (b 14)])), (b 5, .inl (tA 0, 3, .inl (bump qu rf 0)))]) (fun _ => rfl) (fun _ => rfl) (fun _ => rfl) (fun r_3 u_4 H locs q_5 hP hD hS => ?_)
      subst q_5
      refine lv_i2l hx hb dX9_part_27 rfl ?_
      exact retL hx hb hr hlocks hS hP hD () (by first | rw [if_pos (by omega)] | rw [if_neg (by omega)]) (by first | rw [if_pos (by omega)] | rw [if_neg (by omega), if_pos (by omega)] | rw [if_neg (by omega), if_neg (by omega)]) dX9_part_28
    · refine lv_aload_n hx hb dX9_part_16 rfl (lv_at hl 0 rfl) ?_
      refine va_get (D := G) (ci := 7) (C := RX9) (T := TX9) (N := 23) hx hb hts iX9 hown hKK.1 hP 0 rfl rfl 7 (by decide) f53 (fun _ h9 => h9) rfl dX9_part_17 ?_
      refine lv_goto (tgt := 28) hx hb dX9_part_20 (by decide) ?_
      exact retL hx hb hr hlocks hS hP hD () (by first | rw [if_pos (by omega)] | rw [if_neg (by omega)]) (by first | rw [if_pos (by omega)] | rw [if_neg (by omega), if_pos (by omega)] | rw [if_neg (by omega), if_neg (by omega)]) dX9_part_28
  · refine lv_aload_n hx hb dX9_part_4 rfl (lv_at hl 0 rfl) ?_
    refine va_get (D := G) (ci := 7) (C := RX9) (T := TX9) (N := 23) hx hb hts iX9 hown hKK.1 hP 0 rfl rfl 6 (by decide) f223 (fun _ h9 => h9) rfl dX9_part_5 ?_
    refine lv_goto (tgt := 28) hx hb dX9_part_8 (by decide) ?_
    exact retL hx hb hr hlocks hS hP hD () (by first | rw [if_pos (by omega)] | rw [if_neg (by omega)]) (by first | rw [if_pos (by omega)] | rw [if_neg (by omega), if_pos (by omega)] | rw [if_neg (by omega), if_neg (by omega)]) dX9_part_28

set_option maxHeartbeats 4000000 in
set_option maxRecDepth 100000 in
theorem c_X9_image (l : Launch) (G : va_G) (tA : Nat → ClassId) (b : Nat → Nat) (qu : Nat) (ab : Int64) (bl : Int64) (tyd : Nat) (at0 : Nat) (sta : Nat) (tok : Nat) (val : Nat) (man : Nat) (B : Nat → Nat) (im : Nat → Nat) (kp : Nat → Nat) (rf : Nat → Int32) (ie : Int32) (IE : Int) (hWB : WB B) (hqu : qu < 2) (hie : ie.toInt = IE) : CtI l yX9_image wsX9_image ({ frames := 2, cells := 0, slots := 0, locals := 42 }) G tA [.ref (b 0), .int ie] ([(b 0, .inr (7, [.ref (b 1), .ref (b 2), .ref (b 3), .ref (b 4), .ref (b 5), .int (nI qu), .long ab, .long bl, .ref (b 6), .int (nI tyd), .int (nI at0), .int (nI sta), .int (nI tok), .int (nI val), .ref (b 7), .int (nI man), .ref (b 8), .ref (b 9), .ref (b 10), .ref (b 11), .ref (b 12), .ref (b 13), .ref (b 14)])), (b 1, .inl (tA 0, 212, .inl (nF B))), (b 2, .inl (tA 0, 424, .inl (nF im))), (b 3, .inl (tA 1, 2, .inl (nF kp))), (b 5, .inl (tA 0, 3, .inl rf))]) (fun (r : Int32) (_ : Unit) => r = (if 0 ≤ IE ∧ IE ≤ 1 then nI 1 else -2)) (fun (_ : Unit) => [(b 0, .inr (7, [.ref (b 1), .ref (b 2), .ref (b 3), .ref (b 4), .ref (b 5), .int (nI qu), .long ab, .long bl, .ref (b 6), .int (nI tyd), .int (nI at0), .int (nI sta), .int (nI tok), .int (nI val), .ref (b 7), .int (nI man), .ref (b 8), .ref (b 9), .ref (b 10), .ref (b 11), .ref (b 12), .ref (b 13), .ref (b 14)])), (b 1, .inl (tA 0, 212, .inl (nF B))), (b 2, .inl (tA 0, 424, .inl (nF (if 0 ≤ IE ∧ IE ≤ 1 then cpTo im (212 * IE.toNat) B 212 else im)))), (b 3, .inl (tA 1, 2, .inl (nF (if 0 ≤ IE ∧ IE ≤ 1 then updN kp IE.toNat 1 else kp)))), (b 5, .inl (tA 0, 3, .inl (if 0 ≤ IE ∧ IE ≤ 1 then rf else bump qu rf 0)))]) 0 0 := by
  refine enterI (cc := cX9_image) (maxL := 3) (ret := (some .int)) (by decide) rfl (Nat.le_of_ble_eq_true rfl) ?_
  intro p0 e0 s m args below meth c0_ A ls hx hb hml hr hts hown hlocks hin hKK hA hP hD hl hS
  have hown : s.vm.findClass RX9 = some m.cls := hown
  have hl : lv_has ls 3 [(0, .ref (b 0)), (1, .int ie)] := hl
  have f16 := hts (Cond.fieldLink RX9 16 "LentTermsModel" "kept" "[Z") (List.mem_of_getElem? (i := 3) rfl)
  have iX9 : ∀ w ∈ wsX90, w ∈ wsX9_image := by decide +kernel
  have f13 := hts (Cond.fieldLink RX9 13 "LentTermsModel" "images" "[I") (List.mem_of_getElem? (i := 1) rfl)
  have f7 := hts (Cond.fieldLink RX9 7 "LentTermsModel" "book" "[I") (List.mem_of_getElem? (i := 2) rfl)
  obtain ⟨⟨hn0, hn1, hn2, hn3, hn4, hn5⟩, hbB, hv0, hv1, hv2, hv3, hv4, hv5, hv6, hv7⟩ := id hWB
  refine lv_iload_n hx hb dX9_image_0 rfl (lv_at hl 1 rfl) ?_
  refine lv_i2l hx hb dX9_image_1 rfl ?_
  refine lv_lconst (v := (nI 0).toInt64) hx hb dX9_image_2 (by decide +kernel) ?_
  refine lv_lconst (v := (nI 1).toInt64) hx hb dX9_image_3 (by decide +kernel) ?_
  refine roI hP hD hS hA [] rfl (runS (As := [.long ie.toInt64, .long ((nI 0).toInt64), .long ((nI 1).toInt64)]) (rest := []) (isC := []) ⟨hx, hb, hml, hown, hts⟩ hKK hP hD rfl (by decide) (c_X9_is l G tA ie IE (nI 0) (0 : Int) (nI 1) (1 : Int) hie rfl rfl _) (va_cwS 3 hts gX9_image_X9_is rfl rfl rfl (by decide +kernel) ⟨Nat.le_of_ble_eq_true rfl, Nat.le_of_ble_eq_true rfl⟩) rfl rfl hl.1 rfl (lv_room (Nat.le_of_ble_eq_true rfl)) dX9_image_4 ⟨Nat.le_of_ble_eq_true rfl, Nat.le_of_ble_eq_true rfl⟩) (fun _ => rfl) (fun r_1 u_2 H locs q_3 hP hS => ?_)
  rcases q_3 with ⟨rfl, p_4⟩ | ⟨rfl, p_4⟩
  · have p_4 : (0 : Int) ≤ IE ∧ IE ≤ (1 : Int) := p_4
    refine nv_if_ne (tgt := 15) (by omega) hx hb dX9_image_7 (by decide) (fun _ => ?_) (fun h => absurd h (by omega))
    have hok : 0 ≤ IE ∧ IE ≤ 1 := by omega
    obtain ⟨ien, h_ien, rfl⟩ := toN (x := ie) (by omega)
    have t_ien : (nI ien).toInt = (ien : Int) := nI_toInt h_ien
    have z_ien : IE.toNat = ien := by omega
    refine lv_iconst (v := nI 0) hx hb dX9_image_15 (by decide) ?_
    refine lv_istore_n (lv' := [(2, .int (nI 0)), (0, .ref (b 0)), (1, .int (nI ien))]) hx hb dX9_image_16 rfl hl (by decide) rfl (fun ls hl => ?_)
    refine wloop (σ := (Nat) × (Nat → Nat)) (fun | (k, Y) => 212 - k) (fun | (k, Y) => (k ≤ 212) ∧ (Y = cpTo im (212 * ien) B k)) (fun | (k, Y) => [(2, .int (nI k)), (0, .ref (b 0)), (1, .int (nI ien))]) (fun | (k, Y) => [(b 0, .inr (7, [.ref (b 1), .ref (b 2), .ref (b 3), .ref (b 4), .ref (b 5), .int (nI qu), .long ab, .long bl, .ref (b 6), .int (nI tyd), .int (nI at0), .int (nI sta), .int (nI tok), .int (nI val), .ref (b 7), .int (nI man), .ref (b 8), .ref (b 9), .ref (b 10), .ref (b 11), .ref (b 12), .ref (b 13), .ref (b 14)])), (b 1, .inl (tA 0, 212, .inl (nF B))), (b 2, .inl (tA 0, 424, .inl (nF Y))), (b 3, .inl (tA 1, 2, .inl (nF kp))), (b 5, .inl (tA 0, 3, .inl rf))]) (0, im) ⟨(show 0 ≤ 212 from by omega), (show im = cpTo im (212 * ien) B 0 from (cpTo_0 _ _ _).symm)⟩ (lv_sub hl [0, 1, 2] rfl) hP hD hS ?_
    rintro ⟨k, Y⟩ ⟨hk, hY⟩ ih_6 ls H locs hl hP hD hS
    have hl : lv_has ls 3 [(2, .int (nI k)), (0, .ref (b 0)), (1, .int (nI ien))] := hl
    have hP : va_P G vwCl [(b 0, .inr (7, [.ref (b 1), .ref (b 2), .ref (b 3), .ref (b 4), .ref (b 5), .int (nI qu), .long ab, .long bl, .ref (b 6), .int (nI tyd), .int (nI at0), .int (nI sta), .int (nI tok), .int (nI val), .ref (b 7), .int (nI man), .ref (b 8), .ref (b 9), .ref (b 10), .ref (b 11), .ref (b 12), .ref (b 13), .ref (b 14)])), (b 1, .inl (tA 0, 212, .inl (nF B))), (b 2, .inl (tA 0, 424, .inl (nF Y))), (b 3, .inl (tA 1, 2, .inl (nF kp))), (b 5, .inl (tA 0, 3, .inl rf))] H := hP
    have hD : va_D A [(b 0, .inr (7, [.ref (b 1), .ref (b 2), .ref (b 3), .ref (b 4), .ref (b 5), .int (nI qu), .long ab, .long bl, .ref (b 6), .int (nI tyd), .int (nI at0), .int (nI sta), .int (nI tok), .int (nI val), .ref (b 7), .int (nI man), .ref (b 8), .ref (b 9), .ref (b 10), .ref (b 11), .ref (b 12), .ref (b 13), .ref (b 14)])), (b 1, .inl (tA 0, 212, .inl (nF B))), (b 2, .inl (tA 0, 424, .inl (nF Y))), (b 3, .inl (tA 1, 2, .inl (nF kp))), (b 5, .inl (tA 0, 3, .inl rf))] := hD
    have hk : k ≤ 212 := hk
    have hY : Y = cpTo im (212 * ien) B k := hY
    refine lv_iload_n hx hb dX9_image_17 rfl (lv_at hl 0 rfl) ?_
    refine lv_sipush (v := nI 212) hx hb dX9_image_18 (by decide +kernel) ?_
    refine nv_icmp_ge (tgt := 48) (by omega) (by omega) hx hb dX9_image_21 (by decide) (fun c_7 => ?_) (fun c_7 => ?_)
    · refine lv_aload_n hx hb dX9_image_48 rfl (lv_at hl 1 rfl) ?_
      refine va_get (D := G) (ci := 7) (C := RX9) (T := TX9) (N := 23) hx hb hts iX9 hown hKK.1 hP 0 rfl rfl 2 (by decide) f16 (fun _ h9 => h9) rfl dX9_image_49 ?_
      refine lv_iload_n hx hb dX9_image_52 rfl (lv_at hl 2 rfl) ?_
      refine lv_iconst (v := nI 1) hx hb dX9_image_53 (by decide) ?_
      refine nv_zast (i := ien) hx hb hKK.1 hP hD hS 3 1 rfl rfl (by omega) (by decide) dX9_image_54 [(b 0, .inr (7, [.ref (b 1), .ref (b 2), .ref (b 3), .ref (b 4), .ref (b 5), .int (nI qu), .long ab, .long bl, .ref (b 6), .int (nI tyd), .int (nI at0), .int (nI sta), .int (nI tok), .int (nI val), .ref (b 7), .int (nI man), .ref (b 8), .ref (b 9), .ref (b 10), .ref (b 11), .ref (b 12), .ref (b 13), .ref (b 14)])), (b 1, .inl (tA 0, 212, .inl (nF B))), (b 2, .inl (tA 0, 424, .inl (nF Y))), (b 3, .inl (tA 1, 2, .inl (nF (updN kp ien 1)))), (b 5, .inl (tA 0, 3, .inl rf))] rfl (fun H locs hP hD hS => ?_)
      refine lv_iconst (v := nI 1) hx hb dX9_image_55 (by decide) ?_
      exact retI hx hb hr hlocks hS hP hD () (by simp only [if_pos hok, z_ien]; rw [hY, show k = 212 from by omega]) (by rw [if_pos hok]) dX9_image_56
    · refine lv_aload_n hx hb dX9_image_24 rfl (lv_at hl 1 rfl) ?_
      refine va_get (D := G) (ci := 7) (C := RX9) (T := TX9) (N := 23) hx hb hts iX9 hown hKK.1 hP 0 rfl rfl 1 (by decide) f13 (fun _ h9 => h9) rfl dX9_image_25 ?_
      refine lv_sipush (v := nI 212) hx hb dX9_image_28 (by decide +kernel) ?_
      refine lv_iload_n hx hb dX9_image_31 rfl (lv_at hl 2 rfl) ?_
      refine nv_imul hx hb dX9_image_32 ?_
      refine lv_iload_n hx hb dX9_image_33 rfl (lv_at hl 0 rfl) ?_
      refine nv_iadd hx hb dX9_image_34 ?_
      refine lv_aload_n hx hb dX9_image_35 rfl (lv_at hl 1 rfl) ?_
      refine va_get (D := G) (ci := 7) (C := RX9) (T := TX9) (N := 23) hx hb hts iX9 hown hKK.1 hP 0 rfl rfl 0 (by decide) f7 (fun _ h9 => h9) rfl dX9_image_36 ?_
      refine lv_iload_n hx hb dX9_image_39 rfl (lv_at hl 0 rfl) ?_
      refine nv_iald (i := k) hx hb hKK.1 hP 1 0 rfl rfl (by omega) (by decide) dX9_image_40 ?_
      have b_8 := hbB k
      refine nv_iast (i := (212 * ien) + k) hx hb hKK.1 hP hD hS 2 0 rfl rfl (by omega) (by decide) dX9_image_41 [(b 0, .inr (7, [.ref (b 1), .ref (b 2), .ref (b 3), .ref (b 4), .ref (b 5), .int (nI qu), .long ab, .long bl, .ref (b 6), .int (nI tyd), .int (nI at0), .int (nI sta), .int (nI tok), .int (nI val), .ref (b 7), .int (nI man), .ref (b 8), .ref (b 9), .ref (b 10), .ref (b 11), .ref (b 12), .ref (b 13), .ref (b 14)])), (b 1, .inl (tA 0, 212, .inl (nF B))), (b 2, .inl (tA 0, 424, .inl (nF (updN Y ((212 * ien) + k) (B k))))), (b 3, .inl (tA 1, 2, .inl (nF kp))), (b 5, .inl (tA 0, 3, .inl rf))] rfl (fun H locs hP hD hS => ?_)
      refine lv_iinc (v := (nI (k + 1))) (lv' := [(2, .int (nI (k + 1))), (0, .ref (b 0)), (1, .int (nI ien))]) hx hb dX9_image_42 hl (k := 0) rfl (nI_add k 1) (by decide) rfl (fun ls hl => ?_)
      refine lv_goto (tgt := 17) hx hb dX9_image_45 (by decide) ?_
      exact ih_6 (k + 1, updN Y ((212 * ien) + k) (B k)) (show 212 - (k + 1) < 212 - k from by omega) ⟨(show (k + 1) ≤ 212 from by omega), (show (updN Y ((212 * ien) + k) (B k)) = cpTo im (212 * ien) B (k + 1) from by rw [cpTo_s, hY])⟩ _ _ _ (lv_sub hl [0, 1, 2] rfl) hP hD hS
  · have p_4 : ¬ ((0 : Int) ≤ IE ∧ IE ≤ (1 : Int)) := p_4
    refine nv_if_ne (tgt := 15) (by omega) hx hb dX9_image_7 (by decide) (fun h => absurd h (by omega)) (fun _ => ?_)
    refine lv_aload_n hx hb dX9_image_10 rfl (lv_at hl 0 rfl) ?_
    refine rwI hP hD hS hA [0, 4] rfl (runV (As := []) (rest := []) (isC := [0, 4]) ⟨hx, hb, hml, hown, hts⟩ hKK hP hD rfl (by decide) (c_X9_bad l G tA b qu ab bl tyd at0 sta tok val man rf (hqu) _) (cwV 0 hts gX9_image_X9_bad rfl rfl rfl (by decide +kernel) ⟨Nat.le_of_ble_eq_true rfl, Nat.le_of_ble_eq_true rfl⟩) rfl rfl rfl rfl hl.1 rfl (lv_room (Nat.le_of_ble_eq_true rfl)) dX9_image_11 ⟨Nat.le_of_ble_eq_true rfl, Nat.le_of_ble_eq_true rfl⟩) (fun (_ : Unit) => [(b 0, .inr (7, [.ref (b 1), .ref (b 2), .ref (b 3), .ref (b 4), .ref (b 5), .int (nI qu), .long ab, .long bl, .ref (b 6), .int (nI tyd), .int (nI at0), .int (nI sta), .int (nI tok), .int (nI val), .ref (b 7), .int (nI man), .ref (b 8), .ref (b 9), .ref (b 10), .ref (b 11), .ref (b 12), .ref (b 13), .ref (b 14)])), (b 1, .inl (tA 0, 212, .inl (nF B))), (b 2, .inl (tA 0, 424, .inl (nF im))), (b 3, .inl (tA 1, 2, .inl (nF kp))), (b 5, .inl (tA 0, 3, .inl (bump qu rf 0)))]) (fun _ => rfl) (fun _ => rfl) (fun _ => rfl) (fun r_10 u_11 H locs q_12 hP hD hS => ?_)
    subst q_12
    exact retI hx hb hr hlocks hS hP hD () (by simp only [if_neg (show ¬ (0 ≤ IE ∧ IE ≤ 1) from by omega)]) (by rw [if_neg (by omega)]) dX9_image_14

set_option maxHeartbeats 4000000 in
set_option maxRecDepth 100000 in
theorem c_X9_from (l : Launch) (G : va_G) (tA : Nat → ClassId) (b : Nat → Nat) (qu : Nat) (ab : Int64) (bl : Int64) (tyd : Nat) (at0 : Nat) (sta : Nat) (tok : Nat) (val : Nat) (man : Nat) (B : Nat → Nat) (im : Nat → Nat) (kp : Nat → Nat) (rf : Nat → Int32) (ie : Int32) (IE : Int) (hWB : WB B) (hqu : qu < 2) (hie : ie.toInt = IE) (hkp : ∀ j, kp j < 2) : CtI l yX9_from wsX9_from ({ frames := 2, cells := 0, slots := 0, locals := 42 }) G tA [.ref (b 0), .int ie] ([(b 0, .inr (7, [.ref (b 1), .ref (b 2), .ref (b 3), .ref (b 4), .ref (b 5), .int (nI qu), .long ab, .long bl, .ref (b 6), .int (nI tyd), .int (nI at0), .int (nI sta), .int (nI tok), .int (nI val), .ref (b 7), .int (nI man), .ref (b 8), .ref (b 9), .ref (b 10), .ref (b 11), .ref (b 12), .ref (b 13), .ref (b 14)])), (b 1, .inl (tA 0, 212, .inl (nF B))), (b 2, .inl (tA 0, 424, .inl (nF im))), (b 3, .inl (tA 1, 2, .inl (nF kp))), (b 5, .inl (tA 0, 3, .inl rf))]) (fun (r : Int32) (_ : Unit) => r = (if 0 ≤ IE ∧ IE ≤ 1 then (if kp IE.toNat = 0 then -3 else nI 1) else -2)) (fun (_ : Unit) => [(b 0, .inr (7, [.ref (b 1), .ref (b 2), .ref (b 3), .ref (b 4), .ref (b 5), .int (nI qu), .long ab, .long bl, .ref (b 6), .int (nI tyd), .int (nI at0), .int (nI sta), .int (nI tok), .int (nI val), .ref (b 7), .int (nI man), .ref (b 8), .ref (b 9), .ref (b 10), .ref (b 11), .ref (b 12), .ref (b 13), .ref (b 14)])), (b 1, .inl (tA 0, 212, .inl (nF (if 0 ≤ IE ∧ IE ≤ 1 then (if kp IE.toNat = 0 then B else cpTo B 0 (fun z9 => im (212 * IE.toNat + z9)) 212) else B)))), (b 2, .inl (tA 0, 424, .inl (nF im))), (b 3, .inl (tA 1, 2, .inl (nF kp))), (b 5, .inl (tA 0, 3, .inl (if 0 ≤ IE ∧ IE ≤ 1 then (if kp IE.toNat = 0 then bump qu rf 1 else rf) else bump qu rf 0)))]) 0 0 := by
  refine enterI (cc := cX9_from) (maxL := 3) (ret := (some .int)) (by decide) rfl (Nat.le_of_ble_eq_true rfl) ?_
  intro p0 e0 s m args below meth c0_ A ls hx hb hml hr hts hown hlocks hin hKK hA hP hD hl hS
  have hown : s.vm.findClass RX9 = some m.cls := hown
  have hl : lv_has ls 3 [(0, .ref (b 0)), (1, .int ie)] := hl
  have f16 := hts (Cond.fieldLink RX9 16 "LentTermsModel" "kept" "[Z") (List.mem_of_getElem? (i := 1) rfl)
  have iX9 : ∀ w ∈ wsX90, w ∈ wsX9_from := by decide +kernel
  have f7 := hts (Cond.fieldLink RX9 7 "LentTermsModel" "book" "[I") (List.mem_of_getElem? (i := 2) rfl)
  have f13 := hts (Cond.fieldLink RX9 13 "LentTermsModel" "images" "[I") (List.mem_of_getElem? (i := 3) rfl)
  obtain ⟨⟨hn0, hn1, hn2, hn3, hn4, hn5⟩, hbB, hv0, hv1, hv2, hv3, hv4, hv5, hv6, hv7⟩ := id hWB
  refine lv_iload_n hx hb dX9_from_0 rfl (lv_at hl 1 rfl) ?_
  refine lv_i2l hx hb dX9_from_1 rfl ?_
  refine lv_lconst (v := (nI 0).toInt64) hx hb dX9_from_2 (by decide +kernel) ?_
  refine lv_lconst (v := (nI 1).toInt64) hx hb dX9_from_3 (by decide +kernel) ?_
  refine roI hP hD hS hA [] rfl (runS (As := [.long ie.toInt64, .long ((nI 0).toInt64), .long ((nI 1).toInt64)]) (rest := []) (isC := []) ⟨hx, hb, hml, hown, hts⟩ hKK hP hD rfl (by decide) (c_X9_is l G tA ie IE (nI 0) (0 : Int) (nI 1) (1 : Int) hie rfl rfl _) (va_cwS 3 hts gX9_from_X9_is rfl rfl rfl (by decide +kernel) ⟨Nat.le_of_ble_eq_true rfl, Nat.le_of_ble_eq_true rfl⟩) rfl rfl hl.1 rfl (lv_room (Nat.le_of_ble_eq_true rfl)) dX9_from_4 ⟨Nat.le_of_ble_eq_true rfl, Nat.le_of_ble_eq_true rfl⟩) (fun _ => rfl) (fun r_1 u_2 H locs q_3 hP hS => ?_)
  rcases q_3 with ⟨rfl, p_4⟩ | ⟨rfl, p_4⟩
  · have p_4 : (0 : Int) ≤ IE ∧ IE ≤ (1 : Int) := p_4
    refine nv_if_ne (tgt := 15) (by omega) hx hb dX9_from_7 (by decide) (fun _ => ?_) (fun h => absurd h (by omega))
    have hok : 0 ≤ IE ∧ IE ≤ 1 := by omega
    obtain ⟨ien, h_ien, rfl⟩ := toN (x := ie) (by omega)
    have t_ien : (nI ien).toInt = (ien : Int) := nI_toInt h_ien
    have z_ien : IE.toNat = ien := by omega
    refine lv_aload_n hx hb dX9_from_15 rfl (lv_at hl 0 rfl) ?_
    refine va_get (D := G) (ci := 7) (C := RX9) (T := TX9) (N := 23) hx hb hts iX9 hown hKK.1 hP 0 rfl rfl 2 (by decide) f16 (fun _ h9 => h9) rfl dX9_from_16 ?_
    refine lv_iload_n hx hb dX9_from_19 rfl (lv_at hl 1 rfl) ?_
    refine nv_zald (i := ien) hx hb hKK.1 hP 3 1 rfl rfl (by omega) (by decide) dX9_from_20 ?_
    have b_6 := hkp ien
    refine nv_if_ne (tgt := 29) (by omega) hx hb dX9_from_21 (by decide) (fun c_7 => ?_) (fun c_7 => ?_)
    · refine lv_iconst (v := nI 0) hx hb dX9_from_29 (by decide) ?_
      refine lv_istore_n (lv' := [(2, .int (nI 0)), (0, .ref (b 0)), (1, .int (nI ien))]) hx hb dX9_from_30 rfl hl (by decide) rfl (fun ls hl => ?_)
      refine wloop (σ := (Nat) × (Nat → Nat)) (fun | (k, Y) => 212 - k) (fun | (k, Y) => (k ≤ 212) ∧ (Y = cpTo B 0 (fun z9 => im (212 * ien + z9)) k)) (fun | (k, Y) => [(2, .int (nI k)), (0, .ref (b 0)), (1, .int (nI ien))]) (fun | (k, Y) => [(b 0, .inr (7, [.ref (b 1), .ref (b 2), .ref (b 3), .ref (b 4), .ref (b 5), .int (nI qu), .long ab, .long bl, .ref (b 6), .int (nI tyd), .int (nI at0), .int (nI sta), .int (nI tok), .int (nI val), .ref (b 7), .int (nI man), .ref (b 8), .ref (b 9), .ref (b 10), .ref (b 11), .ref (b 12), .ref (b 13), .ref (b 14)])), (b 1, .inl (tA 0, 212, .inl (nF Y))), (b 2, .inl (tA 0, 424, .inl (nF im))), (b 3, .inl (tA 1, 2, .inl (nF kp))), (b 5, .inl (tA 0, 3, .inl rf))]) (0, B) ⟨(show 0 ≤ 212 from by omega), (show B = cpTo B 0 (fun z9 => im (212 * ien + z9)) 0 from (cpTo_0 _ _ _).symm)⟩ (lv_sub hl [0, 1, 2] rfl) hP hD hS ?_
      rintro ⟨k, Y⟩ ⟨hk, hY⟩ ih_8 ls H locs hl hP hD hS
      have hl : lv_has ls 3 [(2, .int (nI k)), (0, .ref (b 0)), (1, .int (nI ien))] := hl
      have hP : va_P G vwCl [(b 0, .inr (7, [.ref (b 1), .ref (b 2), .ref (b 3), .ref (b 4), .ref (b 5), .int (nI qu), .long ab, .long bl, .ref (b 6), .int (nI tyd), .int (nI at0), .int (nI sta), .int (nI tok), .int (nI val), .ref (b 7), .int (nI man), .ref (b 8), .ref (b 9), .ref (b 10), .ref (b 11), .ref (b 12), .ref (b 13), .ref (b 14)])), (b 1, .inl (tA 0, 212, .inl (nF Y))), (b 2, .inl (tA 0, 424, .inl (nF im))), (b 3, .inl (tA 1, 2, .inl (nF kp))), (b 5, .inl (tA 0, 3, .inl rf))] H := hP
      have hD : va_D A [(b 0, .inr (7, [.ref (b 1), .ref (b 2), .ref (b 3), .ref (b 4), .ref (b 5), .int (nI qu), .long ab, .long bl, .ref (b 6), .int (nI tyd), .int (nI at0), .int (nI sta), .int (nI tok), .int (nI val), .ref (b 7), .int (nI man), .ref (b 8), .ref (b 9), .ref (b 10), .ref (b 11), .ref (b 12), .ref (b 13), .ref (b 14)])), (b 1, .inl (tA 0, 212, .inl (nF Y))), (b 2, .inl (tA 0, 424, .inl (nF im))), (b 3, .inl (tA 1, 2, .inl (nF kp))), (b 5, .inl (tA 0, 3, .inl rf))] := hD
      have hk : k ≤ 212 := hk
      have hY : Y = cpTo B 0 (fun z9 => im (212 * ien + z9)) k := hY
      refine lv_iload_n hx hb dX9_from_31 rfl (lv_at hl 0 rfl) ?_
      refine lv_sipush (v := nI 212) hx hb dX9_from_32 (by decide +kernel) ?_
      refine nv_icmp_ge (tgt := 62) (by omega) (by omega) hx hb dX9_from_35 (by decide) (fun c_9 => ?_) (fun c_9 => ?_)
      · refine lv_iconst (v := nI 1) hx hb dX9_from_62 (by decide) ?_
        exact retI hx hb hr hlocks hS hP hD () (by simp only [if_pos hok, z_ien, if_neg (show ¬ kp ien = 0 from by omega)]; rw [hY, show k = 212 from by omega]) (by rw [if_pos hok, z_ien, if_neg (by omega)]) dX9_from_63
      · refine lv_aload_n hx hb dX9_from_38 rfl (lv_at hl 1 rfl) ?_
        refine va_get (D := G) (ci := 7) (C := RX9) (T := TX9) (N := 23) hx hb hts iX9 hown hKK.1 hP 0 rfl rfl 0 (by decide) f7 (fun _ h9 => h9) rfl dX9_from_39 ?_
        refine lv_iload_n hx hb dX9_from_42 rfl (lv_at hl 0 rfl) ?_
        refine lv_aload_n hx hb dX9_from_43 rfl (lv_at hl 1 rfl) ?_
        refine va_get (D := G) (ci := 7) (C := RX9) (T := TX9) (N := 23) hx hb hts iX9 hown hKK.1 hP 0 rfl rfl 1 (by decide) f13 (fun _ h9 => h9) rfl dX9_from_44 ?_
        refine lv_sipush (v := nI 212) hx hb dX9_from_47 (by decide +kernel) ?_
        refine lv_iload_n hx hb dX9_from_50 rfl (lv_at hl 2 rfl) ?_
        refine nv_imul hx hb dX9_from_51 ?_
        refine lv_iload_n hx hb dX9_from_52 rfl (lv_at hl 0 rfl) ?_
        refine nv_iadd hx hb dX9_from_53 ?_
        refine nv_iald (i := (212 * ien) + k) hx hb hKK.1 hP 2 0 rfl rfl (by omega) (by decide) dX9_from_54 ?_
        refine nv_iast (i := k) hx hb hKK.1 hP hD hS 1 0 rfl rfl (by omega) (by decide) dX9_from_55 [(b 0, .inr (7, [.ref (b 1), .ref (b 2), .ref (b 3), .ref (b 4), .ref (b 5), .int (nI qu), .long ab, .long bl, .ref (b 6), .int (nI tyd), .int (nI at0), .int (nI sta), .int (nI tok), .int (nI val), .ref (b 7), .int (nI man), .ref (b 8), .ref (b 9), .ref (b 10), .ref (b 11), .ref (b 12), .ref (b 13), .ref (b 14)])), (b 1, .inl (tA 0, 212, .inl (nF (updN Y k (im ((212 * ien) + k)))))), (b 2, .inl (tA 0, 424, .inl (nF im))), (b 3, .inl (tA 1, 2, .inl (nF kp))), (b 5, .inl (tA 0, 3, .inl rf))] rfl (fun H locs hP hD hS => ?_)
        refine lv_iinc (v := (nI (k + 1))) (lv' := [(2, .int (nI (k + 1))), (0, .ref (b 0)), (1, .int (nI ien))]) hx hb dX9_from_56 hl (k := 0) rfl (nI_add k 1) (by decide) rfl (fun ls hl => ?_)
        refine lv_goto (tgt := 31) hx hb dX9_from_59 (by decide) ?_
        exact ih_8 (k + 1, updN Y k (im ((212 * ien) + k))) (show 212 - (k + 1) < 212 - k from by omega) ⟨(show (k + 1) ≤ 212 from by omega), (show (updN Y k (im ((212 * ien) + k))) = cpTo B 0 (fun z9 => im (212 * ien + z9)) (k + 1) from by rw [cpTo_s, hY, Nat.zero_add])⟩ _ _ _ (lv_sub hl [0, 1, 2] rfl) hP hD hS
    · refine lv_aload_n hx hb dX9_from_24 rfl (lv_at hl 0 rfl) ?_
      refine rwI hP hD hS hA [0, 4] rfl (runV (As := []) (rest := []) (isC := [0, 4]) ⟨hx, hb, hml, hown, hts⟩ hKK hP hD rfl (by decide) (c_X9_no l G tA b qu ab bl tyd at0 sta tok val man rf (hqu) _) (cwV 0 hts gX9_from_X9_no rfl rfl rfl (by decide +kernel) ⟨Nat.le_of_ble_eq_true rfl, Nat.le_of_ble_eq_true rfl⟩) rfl rfl rfl rfl hl.1 rfl (lv_room (Nat.le_of_ble_eq_true rfl)) dX9_from_25 ⟨Nat.le_of_ble_eq_true rfl, Nat.le_of_ble_eq_true rfl⟩) (fun (_ : Unit) => [(b 0, .inr (7, [.ref (b 1), .ref (b 2), .ref (b 3), .ref (b 4), .ref (b 5), .int (nI qu), .long ab, .long bl, .ref (b 6), .int (nI tyd), .int (nI at0), .int (nI sta), .int (nI tok), .int (nI val), .ref (b 7), .int (nI man), .ref (b 8), .ref (b 9), .ref (b 10), .ref (b 11), .ref (b 12), .ref (b 13), .ref (b 14)])), (b 1, .inl (tA 0, 212, .inl (nF B))), (b 2, .inl (tA 0, 424, .inl (nF im))), (b 3, .inl (tA 1, 2, .inl (nF kp))), (b 5, .inl (tA 0, 3, .inl (bump qu rf 1)))]) (fun _ => rfl) (fun _ => rfl) (fun _ => rfl) (fun r_10 u_11 H locs q_12 hP hD hS => ?_)
      subst q_12
      exact retI hx hb hr hlocks hS hP hD () (by simp only [if_pos hok, z_ien, if_pos (show kp ien = 0 from by omega)]) (by rw [if_pos hok, z_ien, if_pos (by omega)]) dX9_from_28
  · have p_4 : ¬ ((0 : Int) ≤ IE ∧ IE ≤ (1 : Int)) := p_4
    refine nv_if_ne (tgt := 15) (by omega) hx hb dX9_from_7 (by decide) (fun h => absurd h (by omega)) (fun _ => ?_)
    refine lv_aload_n hx hb dX9_from_10 rfl (lv_at hl 0 rfl) ?_
    refine rwI hP hD hS hA [0, 4] rfl (runV (As := []) (rest := []) (isC := [0, 4]) ⟨hx, hb, hml, hown, hts⟩ hKK hP hD rfl (by decide) (c_X9_bad l G tA b qu ab bl tyd at0 sta tok val man rf (hqu) _) (cwV 0 hts gX9_from_X9_bad rfl rfl rfl (by decide +kernel) ⟨Nat.le_of_ble_eq_true rfl, Nat.le_of_ble_eq_true rfl⟩) rfl rfl rfl rfl hl.1 rfl (lv_room (Nat.le_of_ble_eq_true rfl)) dX9_from_11 ⟨Nat.le_of_ble_eq_true rfl, Nat.le_of_ble_eq_true rfl⟩) (fun (_ : Unit) => [(b 0, .inr (7, [.ref (b 1), .ref (b 2), .ref (b 3), .ref (b 4), .ref (b 5), .int (nI qu), .long ab, .long bl, .ref (b 6), .int (nI tyd), .int (nI at0), .int (nI sta), .int (nI tok), .int (nI val), .ref (b 7), .int (nI man), .ref (b 8), .ref (b 9), .ref (b 10), .ref (b 11), .ref (b 12), .ref (b 13), .ref (b 14)])), (b 1, .inl (tA 0, 212, .inl (nF B))), (b 2, .inl (tA 0, 424, .inl (nF im))), (b 3, .inl (tA 1, 2, .inl (nF kp))), (b 5, .inl (tA 0, 3, .inl (bump qu rf 0)))]) (fun _ => rfl) (fun _ => rfl) (fun _ => rfl) (fun r_14 u_15 H locs q_16 hP hD hS => ?_)
    subst q_16
    exact retI hx hb hr hlocks hS hP hD () (by simp only [if_neg (show ¬ (0 ≤ IE ∧ IE ≤ 1) from by omega)]) (by rw [if_neg (by omega)]) dX9_from_14

set_option maxHeartbeats 4000000 in
set_option maxRecDepth 100000 in
theorem c_X9_status (l : Launch) (G : va_G) (tA : Nat → ClassId) (b : Nat → Nat) (qu : Nat) (ab : Int64) (bl : Int64) (tyd : Nat) (at0 : Nat) (sta : Nat) (tok : Nat) (val : Nat) (man : Nat) (rf : Nat → Int32) (we : Int32) (WE : Int) (hqu : qu < 2) (hwe : we.toInt = WE) : CtI l yX9_status wsX9_status ({ frames := 1, cells := 0, slots := 0, locals := 25 }) G tA [.ref (b 0), .int we] ([(b 0, .inr (7, [.ref (b 1), .ref (b 2), .ref (b 3), .ref (b 4), .ref (b 5), .int (nI qu), .long ab, .long bl, .ref (b 6), .int (nI tyd), .int (nI at0), .int (nI sta), .int (nI tok), .int (nI val), .ref (b 7), .int (nI man), .ref (b 8), .ref (b 9), .ref (b 10), .ref (b 11), .ref (b 12), .ref (b 13), .ref (b 14)])), (b 5, .inl (tA 0, 3, .inl rf))]) (fun (r : Int32) (_ : Unit) => r = (if 0 ≤ WE ∧ WE ≤ 2 then rf WE.toNat else -1)) (fun (_ : Unit) => [(b 0, .inr (7, [.ref (b 1), .ref (b 2), .ref (b 3), .ref (b 4), .ref (b 5), .int (nI qu), .long ab, .long bl, .ref (b 6), .int (nI tyd), .int (nI at0), .int (nI sta), .int (nI tok), .int (nI val), .ref (b 7), .int (nI man), .ref (b 8), .ref (b 9), .ref (b 10), .ref (b 11), .ref (b 12), .ref (b 13), .ref (b 14)])), (b 5, .inl (tA 0, 3, .inl (if 0 ≤ WE ∧ WE ≤ 2 then rf else bump qu rf 0)))]) 0 0 := by
  refine enterI (cc := cX9_status) (maxL := 2) (ret := (some .int)) (by decide) rfl (Nat.le_of_ble_eq_true rfl) ?_
  intro p0 e0 s m args below meth c0_ A ls hx hb hml hr hts hown hlocks hin hKK hA hP hD hl hS
  have hown : s.vm.findClass RX9 = some m.cls := hown
  have hl : lv_has ls 2 [(0, .ref (b 0)), (1, .int we)] := hl
  have f229 := hts (Cond.constantLong RX9 229 (2)) (List.mem_of_getElem? (i := 1) rfl)
  have f23 := hts (Cond.fieldLink RX9 23 "LentTermsModel" "refused" "[I") (List.mem_of_getElem? (i := 2) rfl)
  have iX9 : ∀ w ∈ wsX90, w ∈ wsX9_status := by decide +kernel
  refine lv_iload_n hx hb dX9_status_0 rfl (lv_at hl 1 rfl) ?_
  refine lv_i2l hx hb dX9_status_1 rfl ?_
  refine lv_lconst (v := (nI 0).toInt64) hx hb dX9_status_2 (by decide +kernel) ?_
  refine lv_ldc2 (v := 2) hx hb hown f229 dX9_status_3 ?_
  refine nv_topl (y := (nI 2).toInt64) (by decide +kernel) ?_
  refine roI hP hD hS hA [] rfl (runS (As := [.long we.toInt64, .long ((nI 0).toInt64), .long ((nI 2).toInt64)]) (rest := []) (isC := []) ⟨hx, hb, hml, hown, hts⟩ hKK hP hD rfl (by decide) (c_X9_is l G tA we WE (nI 0) (0 : Int) (nI 2) (2 : Int) hwe rfl rfl _) (va_cwS 3 hts gX9_status_X9_is rfl rfl rfl (by decide +kernel) ⟨Nat.le_of_ble_eq_true rfl, Nat.le_of_ble_eq_true rfl⟩) rfl rfl hl.1 rfl (lv_room (Nat.le_of_ble_eq_true rfl)) dX9_status_6 ⟨Nat.le_of_ble_eq_true rfl, Nat.le_of_ble_eq_true rfl⟩) (fun _ => rfl) (fun r_1 u_2 H locs q_3 hP hS => ?_)
  rcases q_3 with ⟨rfl, p_4⟩ | ⟨rfl, p_4⟩
  · have p_4 : (0 : Int) ≤ WE ∧ WE ≤ (2 : Int) := p_4
    refine nv_if_eq (tgt := 21) (by omega) hx hb dX9_status_9 (by decide) (fun h => absurd h (by omega)) (fun _ => ?_)
    have hok : 0 ≤ WE ∧ WE ≤ 2 := by omega
    obtain ⟨wen, h_wen, rfl⟩ := toN (x := we) (by omega)
    have t_wen : (nI wen).toInt = (wen : Int) := nI_toInt h_wen
    have z_wen : WE.toNat = wen := by omega
    refine lv_aload_n hx hb dX9_status_12 rfl (lv_at hl 0 rfl) ?_
    refine va_get (D := G) (ci := 7) (C := RX9) (T := TX9) (N := 23) hx hb hts iX9 hown hKK.1 hP 0 rfl rfl 4 (by decide) f23 (fun _ h9 => h9) rfl dX9_status_13 ?_
    refine lv_iload_n hx hb dX9_status_16 rfl (lv_at hl 1 rfl) ?_
    refine nv_ialdR (i := wen) hx hb hKK.1 hP 1 0 rfl rfl (by omega) (by decide) dX9_status_17 ?_
    refine lv_goto (tgt := 27) hx hb dX9_status_18 (by decide) ?_
    exact retI hx hb hr hlocks hS hP hD () (by rw [if_pos hok]) (by rw [if_pos hok, z_wen]) dX9_status_27
  · have p_4 : ¬ ((0 : Int) ≤ WE ∧ WE ≤ (2 : Int)) := p_4
    refine nv_if_eq (tgt := 21) (by omega) hx hb dX9_status_9 (by decide) (fun _ => ?_) (fun h => absurd h (by omega))
    refine lv_aload_n hx hb dX9_status_21 rfl (lv_at hl 0 rfl) ?_
    refine lv_iconst (v := nI 0) hx hb dX9_status_22 (by decide) ?_
    refine lv_iconst (v := (-1)) hx hb dX9_status_23 (by decide) ?_
    refine rwI hP hD hS hA [0, 1] rfl (runV (As := [.int (nI 0), .int (-1)]) (rest := []) (isC := [0, 1]) ⟨hx, hb, hml, hown, hts⟩ hKK hP hD rfl (by decide) (c_X9_refuses l G tA b qu ab bl tyd at0 sta tok val man rf 0 (-1) (by first | assumption | omega) (hqu) _) (cwV 2 hts gX9_status_X9_refuses rfl rfl rfl (by decide +kernel) ⟨Nat.le_of_ble_eq_true rfl, Nat.le_of_ble_eq_true rfl⟩) rfl rfl rfl rfl hl.1 rfl (lv_room (Nat.le_of_ble_eq_true rfl)) dX9_status_24 ⟨Nat.le_of_ble_eq_true rfl, Nat.le_of_ble_eq_true rfl⟩) (fun (_ : Unit) => [(b 0, .inr (7, [.ref (b 1), .ref (b 2), .ref (b 3), .ref (b 4), .ref (b 5), .int (nI qu), .long ab, .long bl, .ref (b 6), .int (nI tyd), .int (nI at0), .int (nI sta), .int (nI tok), .int (nI val), .ref (b 7), .int (nI man), .ref (b 8), .ref (b 9), .ref (b 10), .ref (b 11), .ref (b 12), .ref (b 13), .ref (b 14)])), (b 5, .inl (tA 0, 3, .inl (bump qu rf 0)))]) (fun _ => rfl) (fun _ => rfl) (fun _ => rfl) (fun r_7 u_8 H locs q_9 hP hD hS => ?_)
    subst q_9
    exact retI hx hb hr hlocks hS hP hD () (by rw [if_neg (by omega)]) (by rw [if_neg (by omega)]) dX9_status_27

set_option maxHeartbeats 4000000 in
set_option maxRecDepth 100000 in
theorem c_X9_countOf (l : Launch) (G : va_G) (tA : Nat → ClassId) (b : Nat → Nat) (qu : Nat) (ab : Int64) (bl : Int64) (tyd : Nat) (at0 : Nat) (sta : Nat) (tok : Nat) (val : Nat) (man : Nat) (B : Nat → Nat) (w : Nat) (hWB : WB B) (hw : w < 7) (hty : tyd ≤ 250) : CtI l yX9_countOf wsX9_countOf ({ frames := 0, cells := 0, slots := 0, locals := 0 }) G tA [.ref (b 0), .int (nI w)] ([(b 0, .inr (7, [.ref (b 1), .ref (b 2), .ref (b 3), .ref (b 4), .ref (b 5), .int (nI qu), .long ab, .long bl, .ref (b 6), .int (nI tyd), .int (nI at0), .int (nI sta), .int (nI tok), .int (nI val), .ref (b 7), .int (nI man), .ref (b 8), .ref (b 9), .ref (b 10), .ref (b 11), .ref (b 12), .ref (b 13), .ref (b 14)])), (b 1, .inl (tA 0, 212, .inl (nF B)))]) (fun (r : Int32) (_ : Unit) => r = nI (cntF B tyd w)) (fun (_ : Unit) => [(b 0, .inr (7, [.ref (b 1), .ref (b 2), .ref (b 3), .ref (b 4), .ref (b 5), .int (nI qu), .long ab, .long bl, .ref (b 6), .int (nI tyd), .int (nI at0), .int (nI sta), .int (nI tok), .int (nI val), .ref (b 7), .int (nI man), .ref (b 8), .ref (b 9), .ref (b 10), .ref (b 11), .ref (b 12), .ref (b 13), .ref (b 14)])), (b 1, .inl (tA 0, 212, .inl (nF B)))]) 0 0 := by
  refine enterI (cc := cX9_countOf) (maxL := 2) (ret := (some .int)) (by decide) rfl (Nat.le_of_ble_eq_true rfl) ?_
  intro p0 e0 s m args below meth c0_ A ls hx hb hml hr hts hown hlocks hin hKK hA hP hD hl hS
  have hown : s.vm.findClass RX9 = some m.cls := hown
  have hl : lv_has ls 2 [(0, .ref (b 0)), (1, .int (nI w))] := hl
  have f111 := hts (Cond.fieldLink RX9 111 "LentTermsModel" "typed" "I") (List.mem_of_getElem? (i := 2) rfl)
  have iX9 : ∀ w ∈ wsX90, w ∈ wsX9_countOf := by decide +kernel
  have f7 := hts (Cond.fieldLink RX9 7 "LentTermsModel" "book" "[I") (List.mem_of_getElem? (i := 1) rfl)
  obtain ⟨⟨hn0, hn1, hn2, hn3, hn4, hn5⟩, hbB, hv0, hv1, hv2, hv3, hv4, hv5, hv6, hv7⟩ := id hWB
  refine lv_iload_n hx hb dX9_countOf_0 rfl (lv_at hl 1 rfl) ?_
  refine lv_bipush (v := nI 6) hx hb dX9_countOf_1 (by decide +kernel) ?_
  refine nv_icmp_ge (tgt := 15) (by omega) (by omega) hx hb dX9_countOf_3 (by decide) (fun c_1 => ?_) (fun c_1 => ?_)
  · refine lv_aload_n hx hb dX9_countOf_15 rfl (lv_at hl 0 rfl) ?_
    refine va_get (D := G) (ci := 7) (C := RX9) (T := TX9) (N := 23) hx hb hts iX9 hown hKK.1 hP 0 rfl rfl 9 (by decide) f111 (fun _ h9 => h9) rfl dX9_countOf_16 ?_
    exact retI hx hb hr hlocks hS hP hD () (rfl) (congrArg nI (show (tyd : Nat) = cntF B tyd w from by unfold cntF; first | rw [if_pos (by omega)] | rw [if_neg (by omega)])) dX9_countOf_19
  · refine lv_aload_n hx hb dX9_countOf_6 rfl (lv_at hl 0 rfl) ?_
    refine va_get (D := G) (ci := 7) (C := RX9) (T := TX9) (N := 23) hx hb hts iX9 hown hKK.1 hP 0 rfl rfl 0 (by decide) f7 (fun _ h9 => h9) rfl dX9_countOf_7 ?_
    refine lv_iload_n hx hb dX9_countOf_10 rfl (lv_at hl 1 rfl) ?_
    refine nv_iald (i := w) hx hb hKK.1 hP 1 0 rfl rfl (by omega) (by decide) dX9_countOf_11 ?_
    have b_2 := hbB w
    refine lv_goto (tgt := 19) hx hb dX9_countOf_12 (by decide) ?_
    exact retI hx hb hr hlocks hS hP hD () (rfl) (congrArg nI (show (B w : Nat) = cntF B tyd w from by unfold cntF; first | rw [if_pos (by omega)] | rw [if_neg (by omega)])) dX9_countOf_19

set_option maxHeartbeats 4000000 in
set_option maxRecDepth 100000 in
theorem c_X9_count (l : Launch) (G : va_G) (tA : Nat → ClassId) (b : Nat → Nat) (qu : Nat) (ab : Int64) (bl : Int64) (tyd : Nat) (at0 : Nat) (sta : Nat) (tok : Nat) (val : Nat) (man : Nat) (B : Nat → Nat) (rf : Nat → Int32) (we : Int32) (WE : Int) (hWB : WB B) (hqu : qu < 2) (hty : tyd ≤ 250) (hwe : we.toInt = WE) : CtI l yX9_count wsX9_count ({ frames := 2, cells := 0, slots := 0, locals := 42 }) G tA [.ref (b 0), .int we] ([(b 0, .inr (7, [.ref (b 1), .ref (b 2), .ref (b 3), .ref (b 4), .ref (b 5), .int (nI qu), .long ab, .long bl, .ref (b 6), .int (nI tyd), .int (nI at0), .int (nI sta), .int (nI tok), .int (nI val), .ref (b 7), .int (nI man), .ref (b 8), .ref (b 9), .ref (b 10), .ref (b 11), .ref (b 12), .ref (b 13), .ref (b 14)])), (b 1, .inl (tA 0, 212, .inl (nF B))), (b 5, .inl (tA 0, 3, .inl rf))]) (fun (r : Int32) (_ : Unit) => r = (if 0 ≤ WE ∧ WE ≤ 6 then nI (cntF B tyd WE.toNat) else -2)) (fun (_ : Unit) => [(b 0, .inr (7, [.ref (b 1), .ref (b 2), .ref (b 3), .ref (b 4), .ref (b 5), .int (nI qu), .long ab, .long bl, .ref (b 6), .int (nI tyd), .int (nI at0), .int (nI sta), .int (nI tok), .int (nI val), .ref (b 7), .int (nI man), .ref (b 8), .ref (b 9), .ref (b 10), .ref (b 11), .ref (b 12), .ref (b 13), .ref (b 14)])), (b 1, .inl (tA 0, 212, .inl (nF B))), (b 5, .inl (tA 0, 3, .inl (if 0 ≤ WE ∧ WE ≤ 6 then rf else bump qu rf 0)))]) 0 0 := by
  refine enterI (cc := cX9_count) (maxL := 2) (ret := (some .int)) (by decide) rfl (Nat.le_of_ble_eq_true rfl) ?_
  intro p0 e0 s m args below meth c0_ A ls hx hb hml hr hts hown hlocks hin hKK hA hP hD hl hS
  have hown : s.vm.findClass RX9 = some m.cls := hown
  have hl : lv_has ls 2 [(0, .ref (b 0)), (1, .int we)] := hl
  have f231 := hts (Cond.constantLong RX9 231 (6)) (List.mem_of_getElem? (i := 1) rfl)
  obtain ⟨⟨hn0, hn1, hn2, hn3, hn4, hn5⟩, hbB, hv0, hv1, hv2, hv3, hv4, hv5, hv6, hv7⟩ := id hWB
  refine lv_iload_n hx hb dX9_count_0 rfl (lv_at hl 1 rfl) ?_
  refine lv_i2l hx hb dX9_count_1 rfl ?_
  refine lv_lconst (v := (nI 0).toInt64) hx hb dX9_count_2 (by decide +kernel) ?_
  refine lv_ldc2 (v := 6) hx hb hown f231 dX9_count_3 ?_
  refine nv_topl (y := (nI 6).toInt64) (by decide +kernel) ?_
  refine roI hP hD hS hA [] rfl (runS (As := [.long we.toInt64, .long ((nI 0).toInt64), .long ((nI 6).toInt64)]) (rest := []) (isC := []) ⟨hx, hb, hml, hown, hts⟩ hKK hP hD rfl (by decide) (c_X9_is l G tA we WE (nI 0) (0 : Int) (nI 6) (6 : Int) hwe rfl rfl _) (va_cwS 3 hts gX9_count_X9_is rfl rfl rfl (by decide +kernel) ⟨Nat.le_of_ble_eq_true rfl, Nat.le_of_ble_eq_true rfl⟩) rfl rfl hl.1 rfl (lv_room (Nat.le_of_ble_eq_true rfl)) dX9_count_6 ⟨Nat.le_of_ble_eq_true rfl, Nat.le_of_ble_eq_true rfl⟩) (fun _ => rfl) (fun r_1 u_2 H locs q_3 hP hS => ?_)
  rcases q_3 with ⟨rfl, p_4⟩ | ⟨rfl, p_4⟩
  · have p_4 : (0 : Int) ≤ WE ∧ WE ≤ (6 : Int) := p_4
    refine nv_if_eq (tgt := 20) (by omega) hx hb dX9_count_9 (by decide) (fun h => absurd h (by omega)) (fun _ => ?_)
    have hok : 0 ≤ WE ∧ WE ≤ 6 := by omega
    obtain ⟨wen, h_wen, rfl⟩ := toN (x := we) (by omega)
    have t_wen : (nI wen).toInt = (wen : Int) := nI_toInt h_wen
    have z_wen : WE.toNat = wen := by omega
    refine lv_aload_n hx hb dX9_count_12 rfl (lv_at hl 0 rfl) ?_
    refine lv_iload_n hx hb dX9_count_13 rfl (lv_at hl 1 rfl) ?_
    refine roI hP hD hS hA [0, 1] rfl (runV (As := [.int (nI wen)]) (rest := []) (isC := [0, 1]) ⟨hx, hb, hml, hown, hts⟩ hKK hP hD rfl (by decide) (c_X9_countOf l G tA b qu ab bl tyd at0 sta tok val man B wen (hWB) (by first | assumption | omega) (by first | assumption | omega) _) (cwV 1 hts gX9_count_X9_countOf rfl rfl rfl (by decide +kernel) ⟨Nat.le_of_ble_eq_true rfl, Nat.le_of_ble_eq_true rfl⟩) rfl rfl rfl rfl hl.1 rfl (lv_room (Nat.le_of_ble_eq_true rfl)) dX9_count_14 ⟨Nat.le_of_ble_eq_true rfl, Nat.le_of_ble_eq_true rfl⟩) (fun _ => rfl) (fun r_6 u_7 H locs q_8 hP hS => ?_)
    subst q_8
    refine lv_goto (tgt := 24) hx hb dX9_count_17 (by decide) ?_
    exact retI hx hb hr hlocks hS hP hD () (by rw [if_pos hok]) (by rw [if_pos hok, z_wen]) dX9_count_24
  · have p_4 : ¬ ((0 : Int) ≤ WE ∧ WE ≤ (6 : Int)) := p_4
    refine nv_if_eq (tgt := 20) (by omega) hx hb dX9_count_9 (by decide) (fun _ => ?_) (fun h => absurd h (by omega))
    refine lv_aload_n hx hb dX9_count_20 rfl (lv_at hl 0 rfl) ?_
    refine rwI hP hD hS hA [0, 2] rfl (runV (As := []) (rest := []) (isC := [0, 2]) ⟨hx, hb, hml, hown, hts⟩ hKK hP hD rfl (by decide) (c_X9_bad l G tA b qu ab bl tyd at0 sta tok val man rf (hqu) _) (cwV 0 hts gX9_count_X9_bad rfl rfl rfl (by decide +kernel) ⟨Nat.le_of_ble_eq_true rfl, Nat.le_of_ble_eq_true rfl⟩) rfl rfl rfl rfl hl.1 rfl (lv_room (Nat.le_of_ble_eq_true rfl)) dX9_count_21 ⟨Nat.le_of_ble_eq_true rfl, Nat.le_of_ble_eq_true rfl⟩) (fun (_ : Unit) => [(b 0, .inr (7, [.ref (b 1), .ref (b 2), .ref (b 3), .ref (b 4), .ref (b 5), .int (nI qu), .long ab, .long bl, .ref (b 6), .int (nI tyd), .int (nI at0), .int (nI sta), .int (nI tok), .int (nI val), .ref (b 7), .int (nI man), .ref (b 8), .ref (b 9), .ref (b 10), .ref (b 11), .ref (b 12), .ref (b 13), .ref (b 14)])), (b 1, .inl (tA 0, 212, .inl (nF B))), (b 5, .inl (tA 0, 3, .inl (bump qu rf 0)))]) (fun _ => rfl) (fun _ => rfl) (fun _ => rfl) (fun r_10 u_11 H locs q_12 hP hD hS => ?_)
    subst q_12
    exact retI hx hb hr hlocks hS hP hD () (by rw [if_neg (by omega)]) (by rw [if_neg (by omega)]) dX9_count_24

set_option maxHeartbeats 4000000 in
set_option maxRecDepth 100000 in
theorem c_X9_mixed (l : Launch) (G : va_G) (tA : Nat → ClassId) (b : Nat → Nat) (qu : Nat) (ab : Int64) (bl : Int64) (tyd : Nat) (at0 : Nat) (sta : Nat) (tok : Nat) (val : Nat) (man : Nat) (B : Nat → Nat) (h : Int64) (o : Nat) (nn : Nat) (hWB : WB B) (ho : o + nn ≤ 212) : CtL l yX9_mixed wsX9_mixed ({ frames := 0, cells := 0, slots := 0, locals := 0 }) G tA [.ref (b 0), .long h, .int (nI o), .int (nI nn)] ([(b 0, .inr (7, [.ref (b 1), .ref (b 2), .ref (b 3), .ref (b 4), .ref (b 5), .int (nI qu), .long ab, .long bl, .ref (b 6), .int (nI tyd), .int (nI at0), .int (nI sta), .int (nI tok), .int (nI val), .ref (b 7), .int (nI man), .ref (b 8), .ref (b 9), .ref (b 10), .ref (b 11), .ref (b 12), .ref (b 13), .ref (b 14)])), (b 1, .inl (tA 0, 212, .inl (nF B)))]) (fun (r : Int64) (_ : Unit) => r = mixS B o h nn) (fun (_ : Unit) => [(b 0, .inr (7, [.ref (b 1), .ref (b 2), .ref (b 3), .ref (b 4), .ref (b 5), .int (nI qu), .long ab, .long bl, .ref (b 6), .int (nI tyd), .int (nI at0), .int (nI sta), .int (nI tok), .int (nI val), .ref (b 7), .int (nI man), .ref (b 8), .ref (b 9), .ref (b 10), .ref (b 11), .ref (b 12), .ref (b 13), .ref (b 14)])), (b 1, .inl (tA 0, 212, .inl (nF B)))]) 0 0 := by
  refine enterL (cc := cX9_mixed) (maxL := 8) (ret := (some .long)) (by decide) rfl (Nat.le_of_ble_eq_true rfl) ?_
  intro p0 e0 s m args below meth c0_ A ls hx hb hml hr hts hown hlocks hin hKK hA hP hD hl hS
  have hown : s.vm.findClass RX9 = some m.cls := hown
  have hl : lv_has ls 8 [(0, .ref (b 0)), (1, .long h), (3, .int (nI o)), (4, .int (nI nn))] := hl
  have f236 := hts (Cond.constantLong RX9 236 (31)) (List.mem_of_getElem? (i := 1) rfl)
  have f7 := hts (Cond.fieldLink RX9 7 "LentTermsModel" "book" "[I") (List.mem_of_getElem? (i := 2) rfl)
  have iX9 : ∀ w ∈ wsX90, w ∈ wsX9_mixed := by decide +kernel
  obtain ⟨⟨hn0, hn1, hn2, hn3, hn4, hn5⟩, hbB, hv0, hv1, hv2, hv3, hv4, hv5, hv6, hv7⟩ := id hWB
  refine lv_lload_n hx hb dX9_mixed_0 rfl (lv_at hl 1 rfl) ?_
  refine lv_lstore (lv' := [(5, .long h), (0, .ref (b 0)), (1, .long h), (3, .int (nI o)), (4, .int (nI nn))]) hx hb dX9_mixed_1 hl (by decide) rfl (fun ls hl => ?_)
  refine lv_iconst (v := nI 0) hx hb dX9_mixed_3 (by decide) ?_
  refine lv_istore (lv' := [(7, .int (nI 0)), (5, .long h), (0, .ref (b 0)), (1, .long h), (3, .int (nI o)), (4, .int (nI nn))]) hx hb dX9_mixed_4 hl (by decide) rfl (fun ls hl => ?_)
  refine wloop (σ := (Nat) × (Int64)) (fun | (k, hh) => nn - k) (fun | (k, hh) => (k ≤ nn) ∧ (hh = mixS B o h k)) (fun | (k, hh) => [(7, .int (nI k)), (5, .long hh), (0, .ref (b 0)), (1, .long h), (3, .int (nI o)), (4, .int (nI nn))]) (fun | (k, hh) => [(b 0, .inr (7, [.ref (b 1), .ref (b 2), .ref (b 3), .ref (b 4), .ref (b 5), .int (nI qu), .long ab, .long bl, .ref (b 6), .int (nI tyd), .int (nI at0), .int (nI sta), .int (nI tok), .int (nI val), .ref (b 7), .int (nI man), .ref (b 8), .ref (b 9), .ref (b 10), .ref (b 11), .ref (b 12), .ref (b 13), .ref (b 14)])), (b 1, .inl (tA 0, 212, .inl (nF B)))]) (0, h) ⟨(show 0 ≤ nn from by omega), (show h = mixS B o h 0 from by rw [mixS_0])⟩ (lv_sub hl [0, 1, 2, 3, 4, 5] rfl) hP hD hS ?_
  rintro ⟨k, hh⟩ ⟨hk, h1⟩ ih_1 ls H locs hl hP hD hS
  have hl : lv_has ls 8 [(7, .int (nI k)), (5, .long hh), (0, .ref (b 0)), (1, .long h), (3, .int (nI o)), (4, .int (nI nn))] := hl
  have hP : va_P G vwCl [(b 0, .inr (7, [.ref (b 1), .ref (b 2), .ref (b 3), .ref (b 4), .ref (b 5), .int (nI qu), .long ab, .long bl, .ref (b 6), .int (nI tyd), .int (nI at0), .int (nI sta), .int (nI tok), .int (nI val), .ref (b 7), .int (nI man), .ref (b 8), .ref (b 9), .ref (b 10), .ref (b 11), .ref (b 12), .ref (b 13), .ref (b 14)])), (b 1, .inl (tA 0, 212, .inl (nF B)))] H := hP
  have hD : va_D A [(b 0, .inr (7, [.ref (b 1), .ref (b 2), .ref (b 3), .ref (b 4), .ref (b 5), .int (nI qu), .long ab, .long bl, .ref (b 6), .int (nI tyd), .int (nI at0), .int (nI sta), .int (nI tok), .int (nI val), .ref (b 7), .int (nI man), .ref (b 8), .ref (b 9), .ref (b 10), .ref (b 11), .ref (b 12), .ref (b 13), .ref (b 14)])), (b 1, .inl (tA 0, 212, .inl (nF B)))] := hD
  have hk : k ≤ nn := hk
  have h1 : hh = mixS B o h k := h1
  refine lv_iload hx hb dX9_mixed_6 (lv_at hl 0 rfl) ?_
  refine lv_iload hx hb dX9_mixed_8 (lv_at hl 5 rfl) ?_
  refine nv_icmp_ge (tgt := 38) (by omega) (by omega) hx hb dX9_mixed_10 (by decide) (fun c_2 => ?_) (fun c_2 => ?_)
  · refine lv_lload hx hb dX9_mixed_38 (lv_at hl 1 rfl) ?_
    exact retL hx hb hr hlocks hS hP hD () (rfl) (by rw [h1, show k = nn from by omega]) dX9_mixed_40
  · refine lv_ldc2 (v := 31) hx hb hown f236 dX9_mixed_13 ?_
    refine nv_topl (y := (nI 31).toInt64) (by decide +kernel) ?_
    refine lv_lload hx hb dX9_mixed_16 (lv_at hl 1 rfl) ?_
    refine lv_lmul hx hb dX9_mixed_18 ?_
    refine lv_aload_n hx hb dX9_mixed_19 rfl (lv_at hl 2 rfl) ?_
    refine va_get (D := G) (ci := 7) (C := RX9) (T := TX9) (N := 23) hx hb hts iX9 hown hKK.1 hP 0 rfl rfl 0 (by decide) f7 (fun _ h9 => h9) rfl dX9_mixed_20 ?_
    refine lv_iload_n hx hb dX9_mixed_23 rfl (lv_at hl 4 rfl) ?_
    refine lv_iload hx hb dX9_mixed_24 (lv_at hl 0 rfl) ?_
    refine nv_iadd hx hb dX9_mixed_26 ?_
    refine nv_iald (i := o + k) hx hb hKK.1 hP 1 0 rfl rfl (by omega) (by decide) dX9_mixed_27 ?_
    have b_3 := hbB (o + k)
    refine lv_i2l hx hb dX9_mixed_28 rfl ?_
    refine lv_ladd hx hb dX9_mixed_29 ?_
    refine lv_lstore (lv' := [(5, .long ((((nI 31).toInt64) * hh) + ((nI (B (o + k))).toInt64))), (7, .int (nI k)), (0, .ref (b 0)), (1, .long h), (3, .int (nI o)), (4, .int (nI nn))]) hx hb dX9_mixed_30 hl (by decide) rfl (fun ls hl => ?_)
    refine lv_iinc (v := (nI (k + 1))) (lv' := [(7, .int (nI (k + 1))), (5, .long ((((nI 31).toInt64) * hh) + ((nI (B (o + k))).toInt64))), (0, .ref (b 0)), (1, .long h), (3, .int (nI o)), (4, .int (nI nn))]) hx hb dX9_mixed_32 hl (k := 1) rfl (nI_add k 1) (by decide) rfl (fun ls hl => ?_)
    refine lv_goto (tgt := 6) hx hb dX9_mixed_35 (by decide) ?_
    exact ih_1 (k + 1, (((nI 31).toInt64) * hh) + ((nI (B (o + k))).toInt64)) (show nn - (k + 1) < nn - k from by omega) ⟨(show (k + 1) ≤ nn from by omega), (show ((((nI 31).toInt64) * hh) + ((nI (B (o + k))).toInt64)) = mixS B o h (k + 1) from by rw [mixS_s, ← h1])⟩ _ _ _ (lv_sub hl [0, 1, 2, 3, 4, 5] rfl) hP hD hS

set_option maxHeartbeats 4000000 in
set_option maxRecDepth 100000 in
theorem c_X9_digest (l : Launch) (G : va_G) (tA : Nat → ClassId) (b : Nat → Nat) (qu : Nat) (ab : Int64) (bl : Int64) (tyd : Nat) (at0 : Nat) (sta : Nat) (tok : Nat) (val : Nat) (man : Nat) (B : Nat → Nat) (hWB : WB B) (hty : tyd ≤ 250) : CtL l yX9_digest wsX9_digest ({ frames := 1, cells := 0, slots := 0, locals := 27 }) G tA [.ref (b 0)] ([(b 0, .inr (7, [.ref (b 1), .ref (b 2), .ref (b 3), .ref (b 4), .ref (b 5), .int (nI qu), .long ab, .long bl, .ref (b 6), .int (nI tyd), .int (nI at0), .int (nI sta), .int (nI tok), .int (nI val), .ref (b 7), .int (nI man), .ref (b 8), .ref (b 9), .ref (b 10), .ref (b 11), .ref (b 12), .ref (b 13), .ref (b 14)])), (b 1, .inl (tA 0, 212, .inl (nF B)))]) (fun (r : Int64) (_ : Unit) => r = digM B tyd ab bl) (fun (_ : Unit) => [(b 0, .inr (7, [.ref (b 1), .ref (b 2), .ref (b 3), .ref (b 4), .ref (b 5), .int (nI qu), .long ab, .long bl, .ref (b 6), .int (nI tyd), .int (nI at0), .int (nI sta), .int (nI tok), .int (nI val), .ref (b 7), .int (nI man), .ref (b 8), .ref (b 9), .ref (b 10), .ref (b 11), .ref (b 12), .ref (b 13), .ref (b 14)])), (b 1, .inl (tA 0, 212, .inl (nF B)))]) 0 0 := by
  refine enterL (cc := cX9_digest) (maxL := 4) (ret := (some .long)) (by decide) rfl (Nat.le_of_ble_eq_true rfl) ?_
  intro p0 e0 s m args below meth c0_ A ls hx hb hml hr hts hown hlocks hin hKK hA hP hD hl hS
  have hown : s.vm.findClass RX9 = some m.cls := hown
  have hl : lv_has ls 4 [(0, .ref (b 0))] := hl
  have f238 := hts (Cond.constantLong RX9 238 (719)) (List.mem_of_getElem? (i := 1) rfl)
  have f7 := hts (Cond.fieldLink RX9 7 "LentTermsModel" "book" "[I") (List.mem_of_getElem? (i := 3) rfl)
  have iX9 : ∀ w ∈ wsX90, w ∈ wsX9_digest := by decide +kernel
  have f236 := hts (Cond.constantLong RX9 236 (31)) (List.mem_of_getElem? (i := 2) rfl)
  have f223 := hts (Cond.fieldLink RX9 223 "LentTermsModel" "above" "J") (List.mem_of_getElem? (i := 4) rfl)
  have f53 := hts (Cond.fieldLink RX9 53 "LentTermsModel" "below" "J") (List.mem_of_getElem? (i := 5) rfl)
  obtain ⟨⟨hn0, hn1, hn2, hn3, hn4, hn5⟩, hbB, hv0, hv1, hv2, hv3, hv4, hv5, hv6, hv7⟩ := id hWB
  refine lv_ldc2 (v := 719) hx hb hown f238 dX9_digest_0 ?_
  refine nv_topl (y := (nI 719).toInt64) (by decide +kernel) ?_
  refine lv_lstore_n (lv' := [(1, .long ((nI 719).toInt64)), (0, .ref (b 0))]) hx hb dX9_digest_3 rfl hl (by decide) rfl (fun ls hl => ?_)
  refine lv_iconst (v := nI 0) hx hb dX9_digest_4 (by decide) ?_
  refine lv_istore_n (lv' := [(3, .int (nI 0)), (1, .long ((nI 719).toInt64)), (0, .ref (b 0))]) hx hb dX9_digest_5 rfl hl (by decide) rfl (fun ls hl => ?_)
  refine wloop (σ := (Nat) × (Int64)) (fun | (k, hh) => 7 - k) (fun | (k, hh) => (k ≤ 7) ∧ (hh = dgC0 (cntF B tyd) k)) (fun | (k, hh) => [(3, .int (nI k)), (1, .long hh), (0, .ref (b 0))]) (fun | (k, hh) => [(b 0, .inr (7, [.ref (b 1), .ref (b 2), .ref (b 3), .ref (b 4), .ref (b 5), .int (nI qu), .long ab, .long bl, .ref (b 6), .int (nI tyd), .int (nI at0), .int (nI sta), .int (nI tok), .int (nI val), .ref (b 7), .int (nI man), .ref (b 8), .ref (b 9), .ref (b 10), .ref (b 11), .ref (b 12), .ref (b 13), .ref (b 14)])), (b 1, .inl (tA 0, 212, .inl (nF B)))]) (0, (nI 719).toInt64) ⟨(show 0 ≤ 7 from by omega), (show ((nI 719).toInt64) = dgC0 (cntF B tyd) 0 from by rw [dgC0_0])⟩ (lv_sub hl [0, 1, 2] rfl) hP hD hS ?_
  rintro ⟨k, hh⟩ ⟨hk, h1⟩ ih_1 ls H locs hl hP hD hS
  have hl : lv_has ls 4 [(3, .int (nI k)), (1, .long hh), (0, .ref (b 0))] := hl
  have hP : va_P G vwCl [(b 0, .inr (7, [.ref (b 1), .ref (b 2), .ref (b 3), .ref (b 4), .ref (b 5), .int (nI qu), .long ab, .long bl, .ref (b 6), .int (nI tyd), .int (nI at0), .int (nI sta), .int (nI tok), .int (nI val), .ref (b 7), .int (nI man), .ref (b 8), .ref (b 9), .ref (b 10), .ref (b 11), .ref (b 12), .ref (b 13), .ref (b 14)])), (b 1, .inl (tA 0, 212, .inl (nF B)))] H := hP
  have hD : va_D A [(b 0, .inr (7, [.ref (b 1), .ref (b 2), .ref (b 3), .ref (b 4), .ref (b 5), .int (nI qu), .long ab, .long bl, .ref (b 6), .int (nI tyd), .int (nI at0), .int (nI sta), .int (nI tok), .int (nI val), .ref (b 7), .int (nI man), .ref (b 8), .ref (b 9), .ref (b 10), .ref (b 11), .ref (b 12), .ref (b 13), .ref (b 14)])), (b 1, .inl (tA 0, 212, .inl (nF B)))] := hD
  have hk : k ≤ 7 := hk
  have h1 : hh = dgC0 (cntF B tyd) k := h1
  refine lv_iload_n hx hb dX9_digest_6 rfl (lv_at hl 0 rfl) ?_
  refine lv_bipush (v := nI 7) hx hb dX9_digest_7 (by decide +kernel) ?_
  refine nv_icmp_ge (tgt := 31) (by omega) (by omega) hx hb dX9_digest_9 (by decide) (fun c_2 => ?_) (fun c_2 => ?_)
  · refine lv_aload_n hx hb dX9_digest_31 rfl (lv_at hl 2 rfl) ?_
    refine lv_lload_n hx hb dX9_digest_32 rfl (lv_at hl 1 rfl) ?_
    refine lv_bipush (v := nI 8) hx hb dX9_digest_33 (by decide +kernel) ?_
    refine lv_iconst (v := nI 3) hx hb dX9_digest_35 (by decide) ?_
    refine lv_aload_n hx hb dX9_digest_36 rfl (lv_at hl 2 rfl) ?_
    refine va_get (D := G) (ci := 7) (C := RX9) (T := TX9) (N := 23) hx hb hts iX9 hown hKK.1 hP 0 rfl rfl 0 (by decide) f7 (fun _ h9 => h9) rfl dX9_digest_37 ?_
    refine lv_iconst (v := nI 0) hx hb dX9_digest_40 (by decide) ?_
    refine nv_iald (i := 0) hx hb hKK.1 hP 1 0 rfl rfl (by omega) (by decide) dX9_digest_41 ?_
    have b_3 := hbB 0
    refine nv_imul hx hb dX9_digest_42 ?_
    refine roL hP hD hS hA [0, 1] rfl (runV (As := [.long hh, .int (nI 8), .int (nI (3 * (B 0)))]) (rest := []) (isC := [0, 1]) ⟨hx, hb, hml, hown, hts⟩ hKK hP hD rfl (by decide) (c_X9_mixed l G tA b qu ab bl tyd at0 sta tok val man B hh 8 (3 * (B 0)) (hWB) (by first | assumption | omega) _) (cwV 3 hts gX9_digest_X9_mixed rfl rfl rfl (by decide +kernel) ⟨Nat.le_of_ble_eq_true rfl, Nat.le_of_ble_eq_true rfl⟩) rfl rfl rfl rfl hl.1 rfl (lv_room (Nat.le_of_ble_eq_true rfl)) dX9_digest_43 ⟨Nat.le_of_ble_eq_true rfl, Nat.le_of_ble_eq_true rfl⟩) (fun _ => rfl) (fun r_4 u_5 H locs q_6 hP hS => ?_)
    subst q_6
    refine lv_lstore_n (lv' := [(1, .long (mixS B 8 hh (3 * (B 0)))), (3, .int (nI k)), (0, .ref (b 0))]) hx hb dX9_digest_46 rfl hl (by decide) rfl (fun ls hl => ?_)
    refine lv_aload_n hx hb dX9_digest_47 rfl (lv_at hl 2 rfl) ?_
    refine lv_lload_n hx hb dX9_digest_48 rfl (lv_at hl 0 rfl) ?_
    refine lv_bipush (v := nI 32) hx hb dX9_digest_49 (by decide +kernel) ?_
    refine lv_iconst (v := nI 4) hx hb dX9_digest_51 (by decide) ?_
    refine lv_aload_n hx hb dX9_digest_52 rfl (lv_at hl 2 rfl) ?_
    refine va_get (D := G) (ci := 7) (C := RX9) (T := TX9) (N := 23) hx hb hts iX9 hown hKK.1 hP 0 rfl rfl 0 (by decide) f7 (fun _ h9 => h9) rfl dX9_digest_53 ?_
    refine lv_iconst (v := nI 1) hx hb dX9_digest_56 (by decide) ?_
    refine nv_iald (i := 1) hx hb hKK.1 hP 1 0 rfl rfl (by omega) (by decide) dX9_digest_57 ?_
    have b_7 := hbB 1
    refine nv_imul hx hb dX9_digest_58 ?_
    refine roL hP hD hS hA [0, 1] rfl (runV (As := [.long (mixS B 8 hh (3 * (B 0))), .int (nI 32), .int (nI (4 * (B 1)))]) (rest := []) (isC := [0, 1]) ⟨hx, hb, hml, hown, hts⟩ hKK hP hD rfl (by decide) (c_X9_mixed l G tA b qu ab bl tyd at0 sta tok val man B (mixS B 8 hh (3 * (B 0))) 32 (4 * (B 1)) (hWB) (by first | assumption | omega) _) (cwV 3 hts gX9_digest_X9_mixed rfl rfl rfl (by decide +kernel) ⟨Nat.le_of_ble_eq_true rfl, Nat.le_of_ble_eq_true rfl⟩) rfl rfl rfl rfl hl.1 rfl (lv_room (Nat.le_of_ble_eq_true rfl)) dX9_digest_59 ⟨Nat.le_of_ble_eq_true rfl, Nat.le_of_ble_eq_true rfl⟩) (fun _ => rfl) (fun r_8 u_9 H locs q_10 hP hS => ?_)
    subst q_10
    refine lv_lstore_n (lv' := [(1, .long (mixS B 32 (mixS B 8 hh (3 * (B 0))) (4 * (B 1)))), (3, .int (nI k)), (0, .ref (b 0))]) hx hb dX9_digest_62 rfl hl (by decide) rfl (fun ls hl => ?_)
    refine lv_aload_n hx hb dX9_digest_63 rfl (lv_at hl 2 rfl) ?_
    refine lv_lload_n hx hb dX9_digest_64 rfl (lv_at hl 0 rfl) ?_
    refine lv_bipush (v := nI 72) hx hb dX9_digest_65 (by decide +kernel) ?_
    refine lv_iconst (v := nI 3) hx hb dX9_digest_67 (by decide) ?_
    refine lv_aload_n hx hb dX9_digest_68 rfl (lv_at hl 2 rfl) ?_
    refine va_get (D := G) (ci := 7) (C := RX9) (T := TX9) (N := 23) hx hb hts iX9 hown hKK.1 hP 0 rfl rfl 0 (by decide) f7 (fun _ h9 => h9) rfl dX9_digest_69 ?_
    refine lv_iconst (v := nI 2) hx hb dX9_digest_72 (by decide) ?_
    refine nv_iald (i := 2) hx hb hKK.1 hP 1 0 rfl rfl (by omega) (by decide) dX9_digest_73 ?_
    have b_11 := hbB 2
    refine nv_imul hx hb dX9_digest_74 ?_
    refine roL hP hD hS hA [0, 1] rfl (runV (As := [.long (mixS B 32 (mixS B 8 hh (3 * (B 0))) (4 * (B 1))), .int (nI 72), .int (nI (3 * (B 2)))]) (rest := []) (isC := [0, 1]) ⟨hx, hb, hml, hown, hts⟩ hKK hP hD rfl (by decide) (c_X9_mixed l G tA b qu ab bl tyd at0 sta tok val man B (mixS B 32 (mixS B 8 hh (3 * (B 0))) (4 * (B 1))) 72 (3 * (B 2)) (hWB) (by first | assumption | omega) _) (cwV 3 hts gX9_digest_X9_mixed rfl rfl rfl (by decide +kernel) ⟨Nat.le_of_ble_eq_true rfl, Nat.le_of_ble_eq_true rfl⟩) rfl rfl rfl rfl hl.1 rfl (lv_room (Nat.le_of_ble_eq_true rfl)) dX9_digest_75 ⟨Nat.le_of_ble_eq_true rfl, Nat.le_of_ble_eq_true rfl⟩) (fun _ => rfl) (fun r_12 u_13 H locs q_14 hP hS => ?_)
    subst q_14
    refine lv_lstore_n (lv' := [(1, .long (mixS B 72 (mixS B 32 (mixS B 8 hh (3 * (B 0))) (4 * (B 1))) (3 * (B 2)))), (3, .int (nI k)), (0, .ref (b 0))]) hx hb dX9_digest_78 rfl hl (by decide) rfl (fun ls hl => ?_)
    refine lv_aload_n hx hb dX9_digest_79 rfl (lv_at hl 2 rfl) ?_
    refine lv_lload_n hx hb dX9_digest_80 rfl (lv_at hl 0 rfl) ?_
    refine lv_bipush (v := nI 102) hx hb dX9_digest_81 (by decide +kernel) ?_
    refine lv_iconst (v := nI 3) hx hb dX9_digest_83 (by decide) ?_
    refine lv_aload_n hx hb dX9_digest_84 rfl (lv_at hl 2 rfl) ?_
    refine va_get (D := G) (ci := 7) (C := RX9) (T := TX9) (N := 23) hx hb hts iX9 hown hKK.1 hP 0 rfl rfl 0 (by decide) f7 (fun _ h9 => h9) rfl dX9_digest_85 ?_
    refine lv_iconst (v := nI 3) hx hb dX9_digest_88 (by decide) ?_
    refine nv_iald (i := 3) hx hb hKK.1 hP 1 0 rfl rfl (by omega) (by decide) dX9_digest_89 ?_
    have b_15 := hbB 3
    refine nv_imul hx hb dX9_digest_90 ?_
    refine roL hP hD hS hA [0, 1] rfl (runV (As := [.long (mixS B 72 (mixS B 32 (mixS B 8 hh (3 * (B 0))) (4 * (B 1))) (3 * (B 2))), .int (nI 102), .int (nI (3 * (B 3)))]) (rest := []) (isC := [0, 1]) ⟨hx, hb, hml, hown, hts⟩ hKK hP hD rfl (by decide) (c_X9_mixed l G tA b qu ab bl tyd at0 sta tok val man B (mixS B 72 (mixS B 32 (mixS B 8 hh (3 * (B 0))) (4 * (B 1))) (3 * (B 2))) 102 (3 * (B 3)) (hWB) (by first | assumption | omega) _) (cwV 3 hts gX9_digest_X9_mixed rfl rfl rfl (by decide +kernel) ⟨Nat.le_of_ble_eq_true rfl, Nat.le_of_ble_eq_true rfl⟩) rfl rfl rfl rfl hl.1 rfl (lv_room (Nat.le_of_ble_eq_true rfl)) dX9_digest_91 ⟨Nat.le_of_ble_eq_true rfl, Nat.le_of_ble_eq_true rfl⟩) (fun _ => rfl) (fun r_16 u_17 H locs q_18 hP hS => ?_)
    subst q_18
    refine lv_lstore_n (lv' := [(1, .long (mixS B 102 (mixS B 72 (mixS B 32 (mixS B 8 hh (3 * (B 0))) (4 * (B 1))) (3 * (B 2))) (3 * (B 3)))), (3, .int (nI k)), (0, .ref (b 0))]) hx hb dX9_digest_94 rfl hl (by decide) rfl (fun ls hl => ?_)
    refine lv_aload_n hx hb dX9_digest_95 rfl (lv_at hl 2 rfl) ?_
    refine lv_lload_n hx hb dX9_digest_96 rfl (lv_at hl 0 rfl) ?_
    refine lv_bipush (v := nI 126) hx hb dX9_digest_97 (by decide +kernel) ?_
    refine lv_iconst (v := nI 4) hx hb dX9_digest_99 (by decide) ?_
    refine lv_aload_n hx hb dX9_digest_100 rfl (lv_at hl 2 rfl) ?_
    refine va_get (D := G) (ci := 7) (C := RX9) (T := TX9) (N := 23) hx hb hts iX9 hown hKK.1 hP 0 rfl rfl 0 (by decide) f7 (fun _ h9 => h9) rfl dX9_digest_101 ?_
    refine lv_iconst (v := nI 4) hx hb dX9_digest_104 (by decide) ?_
    refine nv_iald (i := 4) hx hb hKK.1 hP 1 0 rfl rfl (by omega) (by decide) dX9_digest_105 ?_
    have b_19 := hbB 4
    refine nv_imul hx hb dX9_digest_106 ?_
    refine roL hP hD hS hA [0, 1] rfl (runV (As := [.long (mixS B 102 (mixS B 72 (mixS B 32 (mixS B 8 hh (3 * (B 0))) (4 * (B 1))) (3 * (B 2))) (3 * (B 3))), .int (nI 126), .int (nI (4 * (B 4)))]) (rest := []) (isC := [0, 1]) ⟨hx, hb, hml, hown, hts⟩ hKK hP hD rfl (by decide) (c_X9_mixed l G tA b qu ab bl tyd at0 sta tok val man B (mixS B 102 (mixS B 72 (mixS B 32 (mixS B 8 hh (3 * (B 0))) (4 * (B 1))) (3 * (B 2))) (3 * (B 3))) 126 (4 * (B 4)) (hWB) (by first | assumption | omega) _) (cwV 3 hts gX9_digest_X9_mixed rfl rfl rfl (by decide +kernel) ⟨Nat.le_of_ble_eq_true rfl, Nat.le_of_ble_eq_true rfl⟩) rfl rfl rfl rfl hl.1 rfl (lv_room (Nat.le_of_ble_eq_true rfl)) dX9_digest_107 ⟨Nat.le_of_ble_eq_true rfl, Nat.le_of_ble_eq_true rfl⟩) (fun _ => rfl) (fun r_20 u_21 H locs q_22 hP hS => ?_)
    subst q_22
    refine lv_lstore_n (lv' := [(1, .long (mixS B 126 (mixS B 102 (mixS B 72 (mixS B 32 (mixS B 8 hh (3 * (B 0))) (4 * (B 1))) (3 * (B 2))) (3 * (B 3))) (4 * (B 4)))), (3, .int (nI k)), (0, .ref (b 0))]) hx hb dX9_digest_110 rfl hl (by decide) rfl (fun ls hl => ?_)
    refine lv_iconst (v := nI 0) hx hb dX9_digest_111 (by decide) ?_
    refine lv_istore_n (lv' := [(3, .int (nI 0)), (1, .long (mixS B 126 (mixS B 102 (mixS B 72 (mixS B 32 (mixS B 8 hh (3 * (B 0))) (4 * (B 1))) (3 * (B 2))) (3 * (B 3))) (4 * (B 4)))), (0, .ref (b 0))]) hx hb dX9_digest_112 rfl hl (by decide) rfl (fun ls hl => ?_)
    refine wloop (σ := (Nat) × (Int64)) (fun | (j, hg) => 5 - j) (fun | (j, hg) => (j ≤ 5) ∧ (hg = dgPm B (mixS B 126 (mixS B 102 (mixS B 72 (mixS B 32 (mixS B 8 hh (3 * B 0)) (4 * B 1)) (3 * B 2)) (3 * B 3)) (4 * B 4)) j)) (fun | (j, hg) => [(3, .int (nI j)), (1, .long hg), (0, .ref (b 0))]) (fun | (j, hg) => [(b 0, .inr (7, [.ref (b 1), .ref (b 2), .ref (b 3), .ref (b 4), .ref (b 5), .int (nI qu), .long ab, .long bl, .ref (b 6), .int (nI tyd), .int (nI at0), .int (nI sta), .int (nI tok), .int (nI val), .ref (b 7), .int (nI man), .ref (b 8), .ref (b 9), .ref (b 10), .ref (b 11), .ref (b 12), .ref (b 13), .ref (b 14)])), (b 1, .inl (tA 0, 212, .inl (nF B)))]) (0, mixS B 126 (mixS B 102 (mixS B 72 (mixS B 32 (mixS B 8 hh (3 * (B 0))) (4 * (B 1))) (3 * (B 2))) (3 * (B 3))) (4 * (B 4))) ⟨(show 0 ≤ 5 from by omega), (show (mixS B 126 (mixS B 102 (mixS B 72 (mixS B 32 (mixS B 8 hh (3 * (B 0))) (4 * (B 1))) (3 * (B 2))) (3 * (B 3))) (4 * (B 4))) = dgPm B (mixS B 126 (mixS B 102 (mixS B 72 (mixS B 32 (mixS B 8 hh (3 * B 0)) (4 * B 1)) (3 * B 2)) (3 * B 3)) (4 * B 4)) 0 from by rw [dgPm_0])⟩ (lv_sub hl [0, 1, 2] rfl) hP hD hS ?_
    rintro ⟨j, hg⟩ ⟨hj, h2⟩ ih_23 ls H locs hl hP hD hS
    have hl : lv_has ls 4 [(3, .int (nI j)), (1, .long hg), (0, .ref (b 0))] := hl
    have hP : va_P G vwCl [(b 0, .inr (7, [.ref (b 1), .ref (b 2), .ref (b 3), .ref (b 4), .ref (b 5), .int (nI qu), .long ab, .long bl, .ref (b 6), .int (nI tyd), .int (nI at0), .int (nI sta), .int (nI tok), .int (nI val), .ref (b 7), .int (nI man), .ref (b 8), .ref (b 9), .ref (b 10), .ref (b 11), .ref (b 12), .ref (b 13), .ref (b 14)])), (b 1, .inl (tA 0, 212, .inl (nF B)))] H := hP
    have hD : va_D A [(b 0, .inr (7, [.ref (b 1), .ref (b 2), .ref (b 3), .ref (b 4), .ref (b 5), .int (nI qu), .long ab, .long bl, .ref (b 6), .int (nI tyd), .int (nI at0), .int (nI sta), .int (nI tok), .int (nI val), .ref (b 7), .int (nI man), .ref (b 8), .ref (b 9), .ref (b 10), .ref (b 11), .ref (b 12), .ref (b 13), .ref (b 14)])), (b 1, .inl (tA 0, 212, .inl (nF B)))] := hD
    have hj : j ≤ 5 := hj
    have h2 : hg = dgPm B (mixS B 126 (mixS B 102 (mixS B 72 (mixS B 32 (mixS B 8 hh (3 * B 0)) (4 * B 1)) (3 * B 2)) (3 * B 3)) (4 * B 4)) j := h2
    refine lv_iload_n hx hb dX9_digest_113 rfl (lv_at hl 0 rfl) ?_
    refine lv_iconst (v := nI 5) hx hb dX9_digest_114 (by decide) ?_
    refine nv_icmp_ge (tgt := 178) (by omega) (by omega) hx hb dX9_digest_115 (by decide) (fun c_24 => ?_) (fun c_24 => ?_)
    · refine lv_aload_n hx hb dX9_digest_178 rfl (lv_at hl 2 rfl) ?_
      refine lv_lload_n hx hb dX9_digest_179 rfl (lv_at hl 1 rfl) ?_
      refine lv_sipush (v := nI 196) hx hb dX9_digest_180 (by decide +kernel) ?_
      refine lv_iconst (v := nI 2) hx hb dX9_digest_183 (by decide) ?_
      refine lv_aload_n hx hb dX9_digest_184 rfl (lv_at hl 2 rfl) ?_
      refine va_get (D := G) (ci := 7) (C := RX9) (T := TX9) (N := 23) hx hb hts iX9 hown hKK.1 hP 0 rfl rfl 0 (by decide) f7 (fun _ h9 => h9) rfl dX9_digest_185 ?_
      refine lv_iconst (v := nI 5) hx hb dX9_digest_188 (by decide) ?_
      refine nv_iald (i := 5) hx hb hKK.1 hP 1 0 rfl rfl (by omega) (by decide) dX9_digest_189 ?_
      have b_25 := hbB 5
      refine nv_imul hx hb dX9_digest_190 ?_
      refine roL hP hD hS hA [0, 1] rfl (runV (As := [.long hg, .int (nI 196), .int (nI (2 * (B 5)))]) (rest := []) (isC := [0, 1]) ⟨hx, hb, hml, hown, hts⟩ hKK hP hD rfl (by decide) (c_X9_mixed l G tA b qu ab bl tyd at0 sta tok val man B hg 196 (2 * (B 5)) (hWB) (by first | assumption | omega) _) (cwV 3 hts gX9_digest_X9_mixed rfl rfl rfl (by decide +kernel) ⟨Nat.le_of_ble_eq_true rfl, Nat.le_of_ble_eq_true rfl⟩) rfl rfl rfl rfl hl.1 rfl (lv_room (Nat.le_of_ble_eq_true rfl)) dX9_digest_191 ⟨Nat.le_of_ble_eq_true rfl, Nat.le_of_ble_eq_true rfl⟩) (fun _ => rfl) (fun r_26 u_27 H locs q_28 hP hS => ?_)
      subst q_28
      refine lv_lstore_n (lv' := [(1, .long (mixS B 196 hg (2 * (B 5)))), (3, .int (nI j)), (0, .ref (b 0))]) hx hb dX9_digest_194 rfl hl (by decide) rfl (fun ls hl => ?_)
      refine lv_ldc2 (v := 31) hx hb hown f236 dX9_digest_195 ?_
      refine nv_topl (y := (nI 31).toInt64) (by decide +kernel) ?_
      refine lv_ldc2 (v := 31) hx hb hown f236 dX9_digest_198 ?_
      refine nv_topl (y := (nI 31).toInt64) (by decide +kernel) ?_
      refine lv_lload_n hx hb dX9_digest_201 rfl (lv_at hl 0 rfl) ?_
      refine lv_lmul hx hb dX9_digest_202 ?_
      refine lv_aload_n hx hb dX9_digest_203 rfl (lv_at hl 2 rfl) ?_
      refine va_get (D := G) (ci := 7) (C := RX9) (T := TX9) (N := 23) hx hb hts iX9 hown hKK.1 hP 0 rfl rfl 6 (by decide) f223 (fun _ h9 => h9) rfl dX9_digest_204 ?_
      refine lv_ladd hx hb dX9_digest_207 ?_
      refine lv_lmul hx hb dX9_digest_208 ?_
      refine lv_aload_n hx hb dX9_digest_209 rfl (lv_at hl 2 rfl) ?_
      refine va_get (D := G) (ci := 7) (C := RX9) (T := TX9) (N := 23) hx hb hts iX9 hown hKK.1 hP 0 rfl rfl 7 (by decide) f53 (fun _ h9 => h9) rfl dX9_digest_210 ?_
      refine lv_ladd hx hb dX9_digest_213 ?_
      exact retL hx hb hr hlocks hS hP hD () (rfl) (by unfold digM; rw [h2, h1, show k = 7 from by omega, show j = 5 from by omega]) dX9_digest_214
    · refine lv_ldc2 (v := 31) hx hb hown f236 dX9_digest_118 ?_
      refine nv_topl (y := (nI 31).toInt64) (by decide +kernel) ?_
      refine lv_ldc2 (v := 31) hx hb hown f236 dX9_digest_121 ?_
      refine nv_topl (y := (nI 31).toInt64) (by decide +kernel) ?_
      refine lv_lload_n hx hb dX9_digest_124 rfl (lv_at hl 1 rfl) ?_
      refine lv_lmul hx hb dX9_digest_125 ?_
      refine lv_aload_n hx hb dX9_digest_126 rfl (lv_at hl 2 rfl) ?_
      refine va_get (D := G) (ci := 7) (C := RX9) (T := TX9) (N := 23) hx hb hts iX9 hown hKK.1 hP 0 rfl rfl 0 (by decide) f7 (fun _ h9 => h9) rfl dX9_digest_127 ?_
      refine lv_sipush (v := nI 146) hx hb dX9_digest_130 (by decide +kernel) ?_
      refine lv_iload_n hx hb dX9_digest_133 rfl (lv_at hl 0 rfl) ?_
      refine nv_iadd hx hb dX9_digest_134 ?_
      refine nv_iald (i := 146 + j) hx hb hKK.1 hP 1 0 rfl rfl (by omega) (by decide) dX9_digest_135 ?_
      have b_29 := hbB (146 + j)
      refine lv_i2l hx hb dX9_digest_136 rfl ?_
      refine lv_ladd hx hb dX9_digest_137 ?_
      refine lv_lmul hx hb dX9_digest_138 ?_
      refine lv_aload_n hx hb dX9_digest_139 rfl (lv_at hl 2 rfl) ?_
      refine va_get (D := G) (ci := 7) (C := RX9) (T := TX9) (N := 23) hx hb hts iX9 hown hKK.1 hP 0 rfl rfl 0 (by decide) f7 (fun _ h9 => h9) rfl dX9_digest_140 ?_
      refine lv_sipush (v := nI 151) hx hb dX9_digest_143 (by decide +kernel) ?_
      refine lv_iload_n hx hb dX9_digest_146 rfl (lv_at hl 0 rfl) ?_
      refine nv_iadd hx hb dX9_digest_147 ?_
      refine nv_iald (i := 151 + j) hx hb hKK.1 hP 1 0 rfl rfl (by omega) (by decide) dX9_digest_148 ?_
      have b_30 := hbB (151 + j)
      refine lv_i2l hx hb dX9_digest_149 rfl ?_
      refine lv_ladd hx hb dX9_digest_150 ?_
      refine lv_lstore_n (lv' := [(1, .long ((((nI 31).toInt64) * ((((nI 31).toInt64) * hg) + ((nI (B (146 + j))).toInt64))) + ((nI (B (151 + j))).toInt64))), (3, .int (nI j)), (0, .ref (b 0))]) hx hb dX9_digest_151 rfl hl (by decide) rfl (fun ls hl => ?_)
      refine lv_aload_n hx hb dX9_digest_152 rfl (lv_at hl 2 rfl) ?_
      refine lv_lload_n hx hb dX9_digest_153 rfl (lv_at hl 0 rfl) ?_
      refine lv_sipush (v := nI 156) hx hb dX9_digest_154 (by decide +kernel) ?_
      refine lv_bipush (v := nI 8) hx hb dX9_digest_157 (by decide +kernel) ?_
      refine lv_iload_n hx hb dX9_digest_159 rfl (lv_at hl 1 rfl) ?_
      refine nv_imul hx hb dX9_digest_160 ?_
      refine nv_iadd hx hb dX9_digest_161 ?_
      refine lv_aload_n hx hb dX9_digest_162 rfl (lv_at hl 2 rfl) ?_
      refine va_get (D := G) (ci := 7) (C := RX9) (T := TX9) (N := 23) hx hb hts iX9 hown hKK.1 hP 0 rfl rfl 0 (by decide) f7 (fun _ h9 => h9) rfl dX9_digest_163 ?_
      refine lv_iconst (v := nI 0) hx hb dX9_digest_166 (by decide) ?_
      refine nv_iald (i := 0) hx hb hKK.1 hP 1 0 rfl rfl (by omega) (by decide) dX9_digest_167 ?_
      have b_31 := hbB 0
      refine roL hP hD hS hA [0, 1] rfl (runV (As := [.long ((((nI 31).toInt64) * ((((nI 31).toInt64) * hg) + ((nI (B (146 + j))).toInt64))) + ((nI (B (151 + j))).toInt64)), .int (nI (156 + (8 * j))), .int (nI (B 0))]) (rest := []) (isC := [0, 1]) ⟨hx, hb, hml, hown, hts⟩ hKK hP hD rfl (by decide) (c_X9_mixed l G tA b qu ab bl tyd at0 sta tok val man B ((((nI 31).toInt64) * ((((nI 31).toInt64) * hg) + ((nI (B (146 + j))).toInt64))) + ((nI (B (151 + j))).toInt64)) (156 + (8 * j)) (B 0) (hWB) (by first | assumption | omega) _) (cwV 3 hts gX9_digest_X9_mixed rfl rfl rfl (by decide +kernel) ⟨Nat.le_of_ble_eq_true rfl, Nat.le_of_ble_eq_true rfl⟩) rfl rfl rfl rfl hl.1 rfl (lv_room (Nat.le_of_ble_eq_true rfl)) dX9_digest_168 ⟨Nat.le_of_ble_eq_true rfl, Nat.le_of_ble_eq_true rfl⟩) (fun _ => rfl) (fun r_32 u_33 H locs q_34 hP hS => ?_)
      subst q_34
      refine lv_lstore_n (lv' := [(1, .long (mixS B (156 + (8 * j)) ((((nI 31).toInt64) * ((((nI 31).toInt64) * hg) + ((nI (B (146 + j))).toInt64))) + ((nI (B (151 + j))).toInt64)) (B 0))), (3, .int (nI j)), (0, .ref (b 0))]) hx hb dX9_digest_171 rfl hl (by decide) rfl (fun ls hl => ?_)
      refine lv_iinc (v := (nI (j + 1))) (lv' := [(3, .int (nI (j + 1))), (1, .long (mixS B (156 + (8 * j)) ((((nI 31).toInt64) * ((((nI 31).toInt64) * hg) + ((nI (B (146 + j))).toInt64))) + ((nI (B (151 + j))).toInt64)) (B 0))), (0, .ref (b 0))]) hx hb dX9_digest_172 hl (k := 1) rfl (nI_add j 1) (by decide) rfl (fun ls hl => ?_)
      refine lv_goto (tgt := 113) hx hb dX9_digest_175 (by decide) ?_
      exact ih_23 (j + 1, mixS B (156 + (8 * j)) ((((nI 31).toInt64) * ((((nI 31).toInt64) * hg) + ((nI (B (146 + j))).toInt64))) + ((nI (B (151 + j))).toInt64)) (B 0)) (show 5 - (j + 1) < 5 - j from by omega) ⟨(show (j + 1) ≤ 5 from by omega), (show (mixS B (156 + (8 * j)) ((((nI 31).toInt64) * ((((nI 31).toInt64) * hg) + ((nI (B (146 + j))).toInt64))) + ((nI (B (151 + j))).toInt64)) (B 0)) = dgPm B (mixS B 126 (mixS B 102 (mixS B 72 (mixS B 32 (mixS B 8 hh (3 * B 0)) (4 * B 1)) (3 * B 2)) (3 * B 3)) (4 * B 4)) (j + 1) from by rw [dgPm_s, ← h2])⟩ _ _ _ (lv_sub hl [0, 1, 2] rfl) hP hD hS
  · refine lv_ldc2 (v := 31) hx hb hown f236 dX9_digest_12 ?_
    refine nv_topl (y := (nI 31).toInt64) (by decide +kernel) ?_
    refine lv_lload_n hx hb dX9_digest_15 rfl (lv_at hl 1 rfl) ?_
    refine lv_lmul hx hb dX9_digest_16 ?_
    refine lv_aload_n hx hb dX9_digest_17 rfl (lv_at hl 2 rfl) ?_
    refine lv_iload_n hx hb dX9_digest_18 rfl (lv_at hl 0 rfl) ?_
    refine roI hP hD hS hA [0, 1] rfl (runV (As := [.int (nI k)]) (rest := [.long (((nI 31).toInt64) * hh)]) (isC := [0, 1]) ⟨hx, hb, hml, hown, hts⟩ hKK hP hD rfl (by decide) (c_X9_countOf l G tA b qu ab bl tyd at0 sta tok val man B k (hWB) (by omega) (hty) _) (cwV 1 hts gX9_digest_X9_countOf rfl rfl rfl (by decide +kernel) ⟨Nat.le_of_ble_eq_true rfl, Nat.le_of_ble_eq_true rfl⟩) rfl rfl rfl rfl hl.1 rfl (lv_room (Nat.le_of_ble_eq_true rfl)) dX9_digest_19 ⟨Nat.le_of_ble_eq_true rfl, Nat.le_of_ble_eq_true rfl⟩) (fun _ => rfl) (fun r_35 u_36 H locs q_37 hP hS => ?_)
    subst q_37
    refine lv_i2l hx hb dX9_digest_22 rfl ?_
    refine lv_ladd hx hb dX9_digest_23 ?_
    refine lv_lstore_n (lv' := [(1, .long ((((nI 31).toInt64) * hh) + ((nI (cntF B tyd k)).toInt64))), (3, .int (nI k)), (0, .ref (b 0))]) hx hb dX9_digest_24 rfl hl (by decide) rfl (fun ls hl => ?_)
    refine lv_iinc (v := (nI (k + 1))) (lv' := [(3, .int (nI (k + 1))), (1, .long ((((nI 31).toInt64) * hh) + ((nI (cntF B tyd k)).toInt64))), (0, .ref (b 0))]) hx hb dX9_digest_25 hl (k := 1) rfl (nI_add k 1) (by decide) rfl (fun ls hl => ?_)
    refine lv_goto (tgt := 6) hx hb dX9_digest_28 (by decide) ?_
    exact ih_1 (k + 1, (((nI 31).toInt64) * hh) + ((nI (cntF B tyd k)).toInt64)) (show 7 - (k + 1) < 7 - k from by omega) ⟨(show (k + 1) ≤ 7 from by omega), (show ((((nI 31).toInt64) * hh) + ((nI (cntF B tyd k)).toInt64)) = dgC0 (cntF B tyd) (k + 1) from by rw [dgC0_s, ← h1])⟩ _ _ _ (lv_sub hl [0, 1, 2] rfl) hP hD hS

set_option maxHeartbeats 4000000 in
set_option maxRecDepth 100000 in
theorem c_X9_type (l : Launch) (G : va_G) (tA : Nat → ClassId) (b : Nat → Nat) (qu : Nat) (ab : Int64) (bl : Int64) (tyd : Nat) (at0 : Nat) (sta : Nat) (tok : Nat) (val : Nat) (man : Nat) (tx : Nat → Nat) (rf : Nat → Int32) (v : Int64) (ne : Int32) (NE : Int) (hqu : qu < 2) (hty : tyd ≤ 250) (hne : ne.toInt = NE) : CtI l yX9_type wsX9_type ({ frames := 2, cells := 0, slots := 0, locals := 42 }) G tA [.ref (b 0), .long v, .int ne] ([(b 0, .inr (7, [.ref (b 1), .ref (b 2), .ref (b 3), .ref (b 4), .ref (b 5), .int (nI qu), .long ab, .long bl, .ref (b 6), .int (nI tyd), .int (nI at0), .int (nI sta), .int (nI tok), .int (nI val), .ref (b 7), .int (nI man), .ref (b 8), .ref (b 9), .ref (b 10), .ref (b 11), .ref (b 12), .ref (b 13), .ref (b 14)])), (b 6, .inl (tA 0, 250, .inl (nF tx))), (b 5, .inl (tA 0, 3, .inl rf))]) (fun (r : Int32) (_ : Unit) => r = (if 1 ≤ NE ∧ NE ≤ 8 then (if tyd + NE.toNat ≤ 250 then nI (tyd + NE.toNat) else -4) else -2)) (fun (_ : Unit) => [(b 0, .inr (7, [.ref (b 1), .ref (b 2), .ref (b 3), .ref (b 4), .ref (b 5), .int (nI qu), .long ab, .long bl, .ref (b 6), .int (nI (if (1 ≤ NE ∧ NE ≤ 8) ∧ tyd + NE.toNat ≤ 250 then tyd + NE.toNat else tyd)), .int (nI at0), .int (nI sta), .int (nI tok), .int (nI val), .ref (b 7), .int (nI man), .ref (b 8), .ref (b 9), .ref (b 10), .ref (b 11), .ref (b 12), .ref (b 13), .ref (b 14)])), (b 6, .inl (tA 0, 250, .inl (nF (if (1 ≤ NE ∧ NE ≤ 8) ∧ tyd + NE.toNat ≤ 250 then typC tx tyd v NE.toNat NE.toNat else tx)))), (b 5, .inl (tA 0, 3, .inl (if 1 ≤ NE ∧ NE ≤ 8 then (if tyd + NE.toNat ≤ 250 then rf else bump qu rf 2) else bump qu rf 0)))]) 0 0 := by
  refine enterI (cc := cX9_type) (maxL := 5) (ret := (some .int)) (by decide) rfl (Nat.le_of_ble_eq_true rfl) ?_
  intro p0 e0 s m args below meth c0_ A ls hx hb hml hr hts hown hlocks hin hKK hA hP hD hl hS
  have hown : s.vm.findClass RX9 = some m.cls := hown
  have hl : lv_has ls 5 [(0, .ref (b 0)), (1, .long v), (3, .int ne)] := hl
  have f109 := hts (Cond.constantLong RX9 109 (8)) (List.mem_of_getElem? (i := 1) rfl)
  have f111 := hts (Cond.fieldLink RX9 111 "LentTermsModel" "typed" "I") (List.mem_of_getElem? (i := 2) rfl)
  have iX9 : ∀ w ∈ wsX90, w ∈ wsX9_type := by decide +kernel
  have f26 := hts (Cond.fieldLink RX9 26 "LentTermsModel" "text" "[I") (List.mem_of_getElem? (i := 3) rfl)
  have f115 := hts (Cond.constantLong RX9 115 (255)) (List.mem_of_getElem? (i := 4) rfl)
  refine lv_iload_n hx hb dX9_type_0 rfl (lv_at hl 2 rfl) ?_
  refine lv_i2l hx hb dX9_type_1 rfl ?_
  refine lv_lconst (v := (nI 1).toInt64) hx hb dX9_type_2 (by decide +kernel) ?_
  refine lv_ldc2 (v := 8) hx hb hown f109 dX9_type_3 ?_
  refine nv_topl (y := (nI 8).toInt64) (by decide +kernel) ?_
  refine roI hP hD hS hA [] rfl (runS (As := [.long ne.toInt64, .long ((nI 1).toInt64), .long ((nI 8).toInt64)]) (rest := []) (isC := []) ⟨hx, hb, hml, hown, hts⟩ hKK hP hD rfl (by decide) (c_X9_is l G tA ne NE (nI 1) (1 : Int) (nI 8) (8 : Int) hne rfl rfl _) (va_cwS 3 hts gX9_type_X9_is rfl rfl rfl (by decide +kernel) ⟨Nat.le_of_ble_eq_true rfl, Nat.le_of_ble_eq_true rfl⟩) rfl rfl hl.1 rfl (lv_room (Nat.le_of_ble_eq_true rfl)) dX9_type_6 ⟨Nat.le_of_ble_eq_true rfl, Nat.le_of_ble_eq_true rfl⟩) (fun _ => rfl) (fun r_1 u_2 H locs q_3 hP hS => ?_)
  rcases q_3 with ⟨rfl, p_4⟩ | ⟨rfl, p_4⟩
  · have p_4 : (1 : Int) ≤ NE ∧ NE ≤ (8 : Int) := p_4
    refine nv_if_ne (tgt := 17) (by omega) hx hb dX9_type_9 (by decide) (fun _ => ?_) (fun h => absurd h (by omega))
    have hok : 1 ≤ NE ∧ NE ≤ 8 := by omega
    obtain ⟨nen, h_nen, rfl⟩ := toN (x := ne) (by omega)
    have t_nen : (nI nen).toInt = (nen : Int) := nI_toInt h_nen
    have z_nen : NE.toNat = nen := by omega
    refine lv_aload_n hx hb dX9_type_17 rfl (lv_at hl 0 rfl) ?_
    refine va_get (D := G) (ci := 7) (C := RX9) (T := TX9) (N := 23) hx hb hts iX9 hown hKK.1 hP 0 rfl rfl 9 (by decide) f111 (fun _ h9 => h9) rfl dX9_type_18 ?_
    refine lv_iload_n hx hb dX9_type_21 rfl (lv_at hl 2 rfl) ?_
    refine nv_iadd hx hb dX9_type_22 ?_
    refine lv_sipush (v := nI 250) hx hb dX9_type_23 (by decide +kernel) ?_
    refine nv_icmp_le (tgt := 34) (by omega) (by omega) hx hb dX9_type_26 (by decide) (fun c_6 => ?_) (fun c_6 => ?_)
    · refine lv_iload_n hx hb dX9_type_34 rfl (lv_at hl 2 rfl) ?_
      refine lv_iconst (v := nI 1) hx hb dX9_type_35 (by decide) ?_
      refine lv_isub hx hb dX9_type_36 ?_
      refine nv_topx (y := (nI nen) + (-1)) (by rw [Int32.sub_eq_add_neg]; rfl) ?_
      refine lv_istore (lv' := [(4, .int ((nI nen) + (-1))), (0, .ref (b 0)), (1, .long v), (3, .int (nI nen))]) hx hb dX9_type_37 hl (by decide) rfl (fun ls hl => ?_)
      refine wloop (σ := (Nat) × (Nat) × (Nat) × (Nat → Nat)) (fun | (j, w, ty2, X) => j) (fun | (j, w, ty2, X) => (j + w = nen) ∧ (ty2 = tyd + w) ∧ (X = typC tx tyd v nen w)) (fun | (j, w, ty2, X) => [(4, .int ((nI j) + (-1))), (0, .ref (b 0)), (1, .long v), (3, .int (nI nen))]) (fun | (j, w, ty2, X) => [(b 0, .inr (7, [.ref (b 1), .ref (b 2), .ref (b 3), .ref (b 4), .ref (b 5), .int (nI qu), .long ab, .long bl, .ref (b 6), .int (nI ty2), .int (nI at0), .int (nI sta), .int (nI tok), .int (nI val), .ref (b 7), .int (nI man), .ref (b 8), .ref (b 9), .ref (b 10), .ref (b 11), .ref (b 12), .ref (b 13), .ref (b 14)])), (b 6, .inl (tA 0, 250, .inl (nF X))), (b 5, .inl (tA 0, 3, .inl rf))]) (nen, 0, tyd, tx) ⟨(show nen + 0 = nen from by omega), (show tyd = tyd + 0 from by omega), (show tx = typC tx tyd v nen 0 from (typC_0 _ _ _ _).symm)⟩ (lv_sub hl [0, 1, 2, 3] rfl) hP hD hS ?_
      rintro ⟨j, w, ty2, X⟩ ⟨hjw, ht2, hX⟩ ih_7 ls H locs hl hP hD hS
      have hl : lv_has ls 5 [(4, .int ((nI j) + (-1))), (0, .ref (b 0)), (1, .long v), (3, .int (nI nen))] := hl
      have hP : va_P G vwCl [(b 0, .inr (7, [.ref (b 1), .ref (b 2), .ref (b 3), .ref (b 4), .ref (b 5), .int (nI qu), .long ab, .long bl, .ref (b 6), .int (nI ty2), .int (nI at0), .int (nI sta), .int (nI tok), .int (nI val), .ref (b 7), .int (nI man), .ref (b 8), .ref (b 9), .ref (b 10), .ref (b 11), .ref (b 12), .ref (b 13), .ref (b 14)])), (b 6, .inl (tA 0, 250, .inl (nF X))), (b 5, .inl (tA 0, 3, .inl rf))] H := hP
      have hD : va_D A [(b 0, .inr (7, [.ref (b 1), .ref (b 2), .ref (b 3), .ref (b 4), .ref (b 5), .int (nI qu), .long ab, .long bl, .ref (b 6), .int (nI ty2), .int (nI at0), .int (nI sta), .int (nI tok), .int (nI val), .ref (b 7), .int (nI man), .ref (b 8), .ref (b 9), .ref (b 10), .ref (b 11), .ref (b 12), .ref (b 13), .ref (b 14)])), (b 6, .inl (tA 0, 250, .inl (nF X))), (b 5, .inl (tA 0, 3, .inl rf))] := hD
      have hjw : j + w = nen := hjw
      have ht2 : ty2 = tyd + w := ht2
      have hX : X = typC tx tyd v nen w := hX
      refine lv_iload hx hb dX9_type_39 (lv_at hl 0 rfl) ?_
      refine zv_if_lt (tgt := 81) (X := ((j : Nat) : Int) - 1) (predZ (by omega)) hx hb dX9_type_41 (by decide) (fun c_8 => ?_) (fun c_8 => ?_)
      · refine lv_aload_n hx hb dX9_type_81 rfl (lv_at hl 1 rfl) ?_
        refine va_get (D := G) (ci := 7) (C := RX9) (T := TX9) (N := 23) hx hb hts iX9 hown hKK.1 hP 0 rfl rfl 9 (by decide) f111 (fun _ h9 => h9) rfl dX9_type_82 ?_
        exact retI hx hb hr hlocks hS hP hD () (by simp only [if_pos hok, z_nen, if_pos (show tyd + nen ≤ 250 from by omega), if_pos (show (1 ≤ NE ∧ NE ≤ 8) ∧ tyd + nen ≤ 250 from by omega)]; rw [hX, ht2, show w = nen from by omega]) (by rw [if_pos hok, z_nen, if_pos (by omega)]; exact congrArg nI (by omega)) dX9_type_85
      · obtain ⟨j9, rfl⟩ : ∃ z, j = z + 1 := ⟨j - 1, by omega⟩
        have hl : lv_has ls 5 [(4, .int (nI j9)), (0, .ref (b 0)), (1, .long v), (3, .int (nI nen))] := by rw [pk_m1] at hl; exact hl
        refine lv_aload_n hx hb dX9_type_44 rfl (lv_at hl 1 rfl) ?_
        refine va_get (D := G) (ci := 7) (C := RX9) (T := TX9) (N := 23) hx hb hts iX9 hown hKK.1 hP 0 rfl rfl 8 (by decide) f26 (fun _ h9 => h9) rfl dX9_type_45 ?_
        refine lv_aload_n hx hb dX9_type_48 rfl (lv_at hl 1 rfl) ?_
        refine va_get (D := G) (ci := 7) (C := RX9) (T := TX9) (N := 23) hx hb hts iX9 hown hKK.1 hP 0 rfl rfl 9 (by decide) f111 (fun _ h9 => h9) rfl dX9_type_49 ?_
        refine lv_lload_n hx hb dX9_type_52 rfl (lv_at hl 2 rfl) ?_
        refine lv_bipush (v := nI 8) hx hb dX9_type_53 (by decide +kernel) ?_
        refine lv_iload hx hb dX9_type_55 (lv_at hl 0 rfl) ?_
        refine nv_imul hx hb dX9_type_57 ?_
        refine lv_lshr hx hb dX9_type_58 rfl ?_
        refine lv_ldc2 (v := 255) hx hb hown f115 dX9_type_59 ?_
        refine nv_topl (y := (nI 255).toInt64) (by decide +kernel) ?_
        refine lv_land hx hb dX9_type_62 ?_
        refine lv_l2i hx hb dX9_type_63 rfl ?_
        refine nv_top (y := byteN v j9) (nI_all (byteX v j9)) ?_
        refine nv_iast (i := ty2) hx hb hKK.1 hP hD hS 1 0 rfl rfl (by omega) (by decide) dX9_type_64 [(b 0, .inr (7, [.ref (b 1), .ref (b 2), .ref (b 3), .ref (b 4), .ref (b 5), .int (nI qu), .long ab, .long bl, .ref (b 6), .int (nI ty2), .int (nI at0), .int (nI sta), .int (nI tok), .int (nI val), .ref (b 7), .int (nI man), .ref (b 8), .ref (b 9), .ref (b 10), .ref (b 11), .ref (b 12), .ref (b 13), .ref (b 14)])), (b 6, .inl (tA 0, 250, .inl (nF (updN X ty2 (byteN v j9))))), (b 5, .inl (tA 0, 3, .inl rf))] rfl (fun H locs hP hD hS => ?_)
        refine lv_aload_n hx hb dX9_type_65 rfl (lv_at hl 1 rfl) ?_
        refine lv_dup hx hb dX9_type_66 rfl ?_
        refine va_get (D := G) (ci := 7) (C := RX9) (T := TX9) (N := 23) hx hb hts iX9 hown hKK.1 hP 0 rfl rfl 9 (by decide) f111 (fun _ h9 => h9) rfl dX9_type_67 ?_
        refine lv_iconst (v := nI 1) hx hb dX9_type_70 (by decide) ?_
        refine nv_iadd hx hb dX9_type_71 ?_
        refine nv_put (D := G) (ci := 7) (v := .int (nI (ty2 + 1))) (ty := (tyX9 9)) (C := RX9) (T := TX9) (N := 23) hx hb hts iX9 tyX9 tyX9_ok nmX9 hown hKK.1 hP hD hS 0 rfl rfl 9 (by decide) f111 (fun _ h9 => h9) rfl (by decide +kernel) rfl rfl (Nat.le_of_ble_eq_true rfl) dX9_type_72 [(b 0, .inr (7, [.ref (b 1), .ref (b 2), .ref (b 3), .ref (b 4), .ref (b 5), .int (nI qu), .long ab, .long bl, .ref (b 6), .int (nI (ty2 + 1)), .int (nI at0), .int (nI sta), .int (nI tok), .int (nI val), .ref (b 7), .int (nI man), .ref (b 8), .ref (b 9), .ref (b 10), .ref (b 11), .ref (b 12), .ref (b 13), .ref (b 14)])), (b 6, .inl (tA 0, 250, .inl (nF (updN X ty2 (byteN v j9))))), (b 5, .inl (tA 0, 3, .inl rf))] rfl (fun H locs hP hD hS => ?_)
        refine lv_iinc (v := ((nI j9) + (-1))) (lv' := [(4, .int ((nI j9) + (-1))), (0, .ref (b 0)), (1, .long v), (3, .int (nI nen))]) hx hb dX9_type_75 hl (k := 0) rfl rfl (by decide) rfl (fun ls hl => ?_)
        refine lv_goto (tgt := 39) hx hb dX9_type_78 (by decide) ?_
        exact ih_7 (j9, w + 1, ty2 + 1, updN X ty2 (byteN v j9)) (show j9 < (j9 + 1) from by omega) ⟨(show j9 + (w + 1) = nen from by omega), (show (ty2 + 1) = tyd + (w + 1) from by omega), (show (updN X ty2 (byteN v j9)) = typC tx tyd v nen (w + 1) from by rw [typC_s, hX, ht2, show nen - 1 - w = j9 from by omega])⟩ _ _ _ (lv_sub hl [0, 1, 2, 3] rfl) hP hD hS
    · refine lv_aload_n hx hb dX9_type_29 rfl (lv_at hl 0 rfl) ?_
      refine rwI hP hD hS hA [0, 2] rfl (runV (As := []) (rest := []) (isC := [0, 2]) ⟨hx, hb, hml, hown, hts⟩ hKK hP hD rfl (by decide) (c_X9_full l G tA b qu ab bl tyd at0 sta tok val man rf (hqu) _) (cwV 0 hts gX9_type_X9_full rfl rfl rfl (by decide +kernel) ⟨Nat.le_of_ble_eq_true rfl, Nat.le_of_ble_eq_true rfl⟩) rfl rfl rfl rfl hl.1 rfl (lv_room (Nat.le_of_ble_eq_true rfl)) dX9_type_30 ⟨Nat.le_of_ble_eq_true rfl, Nat.le_of_ble_eq_true rfl⟩) (fun (_ : Unit) => [(b 0, .inr (7, [.ref (b 1), .ref (b 2), .ref (b 3), .ref (b 4), .ref (b 5), .int (nI qu), .long ab, .long bl, .ref (b 6), .int (nI tyd), .int (nI at0), .int (nI sta), .int (nI tok), .int (nI val), .ref (b 7), .int (nI man), .ref (b 8), .ref (b 9), .ref (b 10), .ref (b 11), .ref (b 12), .ref (b 13), .ref (b 14)])), (b 6, .inl (tA 0, 250, .inl (nF tx))), (b 5, .inl (tA 0, 3, .inl (bump qu rf 2)))]) (fun _ => rfl) (fun _ => rfl) (fun _ => rfl) (fun r_9 u_10 H locs q_11 hP hD hS => ?_)
      subst q_11
      exact retI hx hb hr hlocks hS hP hD () (by simp only [if_pos hok, z_nen, if_neg (show ¬ (tyd + nen ≤ 250) from by omega), if_neg (show ¬ ((1 ≤ NE ∧ NE ≤ 8) ∧ tyd + nen ≤ 250) from by omega)]) (by rw [if_pos hok, z_nen, if_neg (by omega)]) dX9_type_33
  · have p_4 : ¬ ((1 : Int) ≤ NE ∧ NE ≤ (8 : Int)) := p_4
    refine nv_if_ne (tgt := 17) (by omega) hx hb dX9_type_9 (by decide) (fun h => absurd h (by omega)) (fun _ => ?_)
    refine lv_aload_n hx hb dX9_type_12 rfl (lv_at hl 0 rfl) ?_
    refine rwI hP hD hS hA [0, 2] rfl (runV (As := []) (rest := []) (isC := [0, 2]) ⟨hx, hb, hml, hown, hts⟩ hKK hP hD rfl (by decide) (c_X9_bad l G tA b qu ab bl tyd at0 sta tok val man rf (hqu) _) (cwV 0 hts gX9_type_X9_bad rfl rfl rfl (by decide +kernel) ⟨Nat.le_of_ble_eq_true rfl, Nat.le_of_ble_eq_true rfl⟩) rfl rfl rfl rfl hl.1 rfl (lv_room (Nat.le_of_ble_eq_true rfl)) dX9_type_13 ⟨Nat.le_of_ble_eq_true rfl, Nat.le_of_ble_eq_true rfl⟩) (fun (_ : Unit) => [(b 0, .inr (7, [.ref (b 1), .ref (b 2), .ref (b 3), .ref (b 4), .ref (b 5), .int (nI qu), .long ab, .long bl, .ref (b 6), .int (nI tyd), .int (nI at0), .int (nI sta), .int (nI tok), .int (nI val), .ref (b 7), .int (nI man), .ref (b 8), .ref (b 9), .ref (b 10), .ref (b 11), .ref (b 12), .ref (b 13), .ref (b 14)])), (b 6, .inl (tA 0, 250, .inl (nF tx))), (b 5, .inl (tA 0, 3, .inl (bump qu rf 0)))]) (fun _ => rfl) (fun _ => rfl) (fun _ => rfl) (fun r_13 u_14 H locs q_15 hP hD hS => ?_)
    subst q_15
    exact retI hx hb hr hlocks hS hP hD () (by simp only [if_neg (show ¬ (1 ≤ NE ∧ NE ≤ 8) from by omega), if_neg (show ¬ ((1 ≤ NE ∧ NE ≤ 8) ∧ tyd + NE.toNat ≤ 250) from by omega)]) (by rw [if_neg (by omega)]) dX9_type_16

set_option maxHeartbeats 4000000 in
set_option maxRecDepth 100000 in
theorem c_X9_clear (l : Launch) (G : va_G) (tA : Nat → ClassId) (b : Nat → Nat) (qu : Nat) (ab : Int64) (bl : Int64) (tyd : Nat) (at0 : Nat) (sta : Nat) (tok : Nat) (val : Nat) (man : Nat)  : CtI l yX9_clear wsX9_clear ({ frames := 0, cells := 0, slots := 0, locals := 0 }) G tA [.ref (b 0)] ([(b 0, .inr (7, [.ref (b 1), .ref (b 2), .ref (b 3), .ref (b 4), .ref (b 5), .int (nI qu), .long ab, .long bl, .ref (b 6), .int (nI tyd), .int (nI at0), .int (nI sta), .int (nI tok), .int (nI val), .ref (b 7), .int (nI man), .ref (b 8), .ref (b 9), .ref (b 10), .ref (b 11), .ref (b 12), .ref (b 13), .ref (b 14)]))]) (fun (r : Int32) (_ : Unit) => r = nI tyd) (fun (_ : Unit) => [(b 0, .inr (7, [.ref (b 1), .ref (b 2), .ref (b 3), .ref (b 4), .ref (b 5), .int (nI qu), .long ab, .long bl, .ref (b 6), .int (nI 0), .int (nI at0), .int (nI sta), .int (nI tok), .int (nI val), .ref (b 7), .int (nI man), .ref (b 8), .ref (b 9), .ref (b 10), .ref (b 11), .ref (b 12), .ref (b 13), .ref (b 14)]))]) 0 0 := by
  refine enterI (cc := cX9_clear) (maxL := 2) (ret := (some .int)) (by decide) rfl (Nat.le_of_ble_eq_true rfl) ?_
  intro p0 e0 s m args below meth c0_ A ls hx hb hml hr hts hown hlocks hin hKK hA hP hD hl hS
  have hown : s.vm.findClass RX9 = some m.cls := hown
  have hl : lv_has ls 2 [(0, .ref (b 0))] := hl
  have f111 := hts (Cond.fieldLink RX9 111 "LentTermsModel" "typed" "I") (List.mem_of_getElem? (i := 1) rfl)
  have iX9 : ∀ w ∈ wsX90, w ∈ wsX9_clear := by decide +kernel
  refine lv_aload_n hx hb dX9_clear_0 rfl (lv_at hl 0 rfl) ?_
  refine va_get (D := G) (ci := 7) (C := RX9) (T := TX9) (N := 23) hx hb hts iX9 hown hKK.1 hP 0 rfl rfl 9 (by decide) f111 (fun _ h9 => h9) rfl dX9_clear_1 ?_
  refine lv_istore_n (lv' := [(1, .int (nI tyd)), (0, .ref (b 0))]) hx hb dX9_clear_4 rfl hl (by decide) rfl (fun ls hl => ?_)
  refine lv_aload_n hx hb dX9_clear_5 rfl (lv_at hl 1 rfl) ?_
  refine lv_iconst (v := nI 0) hx hb dX9_clear_6 (by decide) ?_
  refine nv_put (D := G) (ci := 7) (v := .int (nI 0)) (ty := (tyX9 9)) (C := RX9) (T := TX9) (N := 23) hx hb hts iX9 tyX9 tyX9_ok nmX9 hown hKK.1 hP hD hS 0 rfl rfl 9 (by decide) f111 (fun _ h9 => h9) rfl (by decide +kernel) rfl rfl (Nat.le_of_ble_eq_true rfl) dX9_clear_7 [(b 0, .inr (7, [.ref (b 1), .ref (b 2), .ref (b 3), .ref (b 4), .ref (b 5), .int (nI qu), .long ab, .long bl, .ref (b 6), .int (nI 0), .int (nI at0), .int (nI sta), .int (nI tok), .int (nI val), .ref (b 7), .int (nI man), .ref (b 8), .ref (b 9), .ref (b 10), .ref (b 11), .ref (b 12), .ref (b 13), .ref (b 14)]))] rfl (fun H locs hP hD hS => ?_)
  refine lv_iload_n hx hb dX9_clear_10 rfl (lv_at hl 0 rfl) ?_
  exact retI hx hb hr hlocks hS hP hD () (rfl) (congrArg nI (show (tyd : Nat) = tyd from rfl)) dX9_clear_11
