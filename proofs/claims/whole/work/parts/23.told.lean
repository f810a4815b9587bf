theorem nv_ldcw {p : Program} {l : Launch} {e : Env} {R : Room} {s : State} {m : MethodId} {args : Array Value} {below : List Frame} {meth : Method} {c : Code} {H : Heap} {locs : List Loc} {cells slots : Nat} {Q : State → Prop} {pc : Nat} {ls : Array Slot} {rest : List Value} {cc : ByteArray} (hexec : p.tables.exec = Jvm.exec) (hb : c.code = cc) {own : String} {index : Nat} {v : Int32} (hown : s.vm.findClass own = some m.cls) (hconst : (Cond.constant own index v).before args s = true) (hdg : decode cc pc = .ok (.ldc_w index, 3)) (k : W p l e R s m args below meth c H locs cells slots Q (F0 m (pc + 3) ls (.int v :: rest))) : W p l e R s m args below meth c H locs cells slots Q (F0 m pc ls rest) := by
  intro T hT X
  obtain ⟨t, a1, b1⟩ := k T hT X
  exact ⟨t, va_ldcwI X hexec hown hconst (g := F0 m pc ls rest) rfl (by rw [hb]; exact hdg) t a1, b1⟩
def okT (K C F : Int) : Bool := decide (0 ≤ K ∧ K < 6 ∧ 1 ≤ C ∧ C ≤ 3 ∧ 0 ≤ F ∧ F ≤ 9)
set_option maxHeartbeats 4000000 in
set_option maxRecDepth 100000 in
theorem c_X0_addTerm (l : Launch) (G : va_G) (tA : Nat → ClassId) (a : Nat → Nat) (n0 : Nat) (c0 : Nat → Nat) (n1 : Nat) (c1 : Nat → Nat) (n2 : Nat) (c2 : Nat → Nat) (n3 : Nat) (c3 : Nat → Nat) (n4 : Nat) (c4 : Nat → Nat) (n5 : Nat) (c5 : Nat → Nat) (hs : Nat → Nat) (wf : Nat → Nat) (wt : Nat → Nat) (kd : Int32) (KD : Int) (cp : Int32) (CP : Int) (fe : Int32) (FE : Int) (hCW : CW n0 c0 n1 c1 n2 c2 n3 c3 n4 c4 n5 c5 hs wf wt) (hkd : kd.toInt = KD) (hcp : cp.toInt = CP) (hfe : fe.toInt = FE) : CtI l yX0_addTerm wsX0_addTerm ({ frames := 1, cells := 0, slots := 0, locals := 25 }) G tA [.ref (a 0), .int kd, .int cp, .int fe] ([(a 0, .inr (0, [.ref (a 1), .ref (a 2), .ref (a 3), .ref (a 4), .ref (a 5), .ref (a 6), .ref (a 7), .ref (a 8), .ref (a 9)])), (a 1, .inr (2, [.ref (a 10), .int (nI 8), .int (nI 3), .int (nI n0)])), (a 10, .inl (tA 0, 40, .inl (nF c0))), (a 2, .inr (2, [.ref (a 11), .int (nI 10), .int (nI 4), .int (nI n1)])), (a 11, .inl (tA 0, 40, .inl (nF c1))), (a 3, .inr (2, [.ref (a 12), .int (nI 10), .int (nI 3), .int (nI n2)])), (a 12, .inl (tA 0, 40, .inl (nF c2))), (a 4, .inr (2, [.ref (a 13), .int (nI 8), .int (nI 3), .int (nI n3)])), (a 13, .inl (tA 0, 40, .inl (nF c3))), (a 5, .inr (2, [.ref (a 14), .int (nI 5), .int (nI 4), .int (nI n4)])), (a 14, .inl (tA 0, 40, .inl (nF c4))), (a 6, .inr (2, [.ref (a 15), .int (nI 8), .int (nI 2), .int (nI n5)])), (a 15, .inl (tA 0, 40, .inl (nF c5))), (a 7, .inl (tA 0, 5, .inl (nF hs))), (a 8, .inl (tA 0, 5, .inl (nF wf))), (a 9, .inl (tA 0, 40, .inl (nF wt)))]) (fun (r : Int32) (_ : Unit) => r = okR (okT KD CP FE) n0 8) (fun (_ : Unit) => [(a 0, .inr (0, [.ref (a 1), .ref (a 2), .ref (a 3), .ref (a 4), .ref (a 5), .ref (a 6), .ref (a 7), .ref (a 8), .ref (a 9)])), (a 1, .inr (2, [.ref (a 10), .int (nI 8), .int (nI 3), .int (nI (okN (okT KD CP FE) n0 8))])), (a 10, .inl (tA 0, 40, .inl (nF (okC (okT KD CP FE) n0 8 c0 (KD.toNat) (CP.toNat) (FE.toNat) 0)))), (a 2, .inr (2, [.ref (a 11), .int (nI 10), .int (nI 4), .int (nI n1)])), (a 11, .inl (tA 0, 40, .inl (nF c1))), (a 3, .inr (2, [.ref (a 12), .int (nI 10), .int (nI 3), .int (nI n2)])), (a 12, .inl (tA 0, 40, .inl (nF c2))), (a 4, .inr (2, [.ref (a 13), .int (nI 8), .int (nI 3), .int (nI n3)])), (a 13, .inl (tA 0, 40, .inl (nF c3))), (a 5, .inr (2, [.ref (a 14), .int (nI 5), .int (nI 4), .int (nI n4)])), (a 14, .inl (tA 0, 40, .inl (nF c4))), (a 6, .inr (2, [.ref (a 15), .int (nI 8), .int (nI 2), .int (nI n5)])), (a 15, .inl (tA 0, 40, .inl (nF c5))), (a 7, .inl (tA 0, 5, .inl (nF hs))), (a 8, .inl (tA 0, 5, .inl (nF wf))), (a 9, .inl (tA 0, 40, .inl (nF wt)))]) 0 0 := by
  refine enterI (cc := cX0_addTerm) (maxL := 5) (ret := (some .int)) (by decide) rfl (Nat.le_of_ble_eq_true rfl) ?_
  intro p0 e0 s m args below meth c0_ A ls hx hb hml hr hts hown hlocks hin hKK hA hP hD hl hS
  have hown : s.vm.findClass RX0 = some m.cls := hown
  have hl : lv_has ls 5 [(0, .ref (a 0)), (1, .int kd), (2, .int cp), (3, .int fe)] := hl
  have f14 := hts (Cond.fieldLink RX0 14 "LentTerms$Counter" "terms" "LLentTerms$Rows;") (List.mem_of_getElem? (i := 1) rfl)
  have iX0 : ∀ w ∈ wsX00, w ∈ wsX0_addTerm := by decide +kernel
  obtain ⟨⟨hn0, hn1, hn2, hn3, hn4, hn5⟩, ⟨hb0, hb1, hb2, hb3, hb4, hb5, hbh, hbw, hbt⟩, hv0, hv1, hv2, hv3, hv4, hv5, hv6, hv7⟩ := id hCW
  refine lv_iload_n hx hb dX0_addTerm_0 rfl (lv_at hl 1 rfl) ?_
  refine zv_if_lt (tgt := 34) (X := KD) hkd hx hb dX0_addTerm_1 (by decide) (fun c_1 => ?_) (fun c_1 => ?_)
  · refine lv_iconst (v := nI 0) hx hb dX0_addTerm_34 (by decide) ?_
    refine lv_istore (lv' := [(4, .int (nI 0)), (0, .ref (a 0)), (1, .int kd), (2, .int cp), (3, .int fe)]) hx hb dX0_addTerm_35 hl (by decide) rfl (fun ls hl => ?_)
    refine lv_iload hx hb dX0_addTerm_37 (lv_at hl 0 rfl) ?_
    refine nv_if_eq (tgt := 56) (by omega) hx hb dX0_addTerm_39 (by decide) (fun _ => ?_) (fun h => absurd h (by omega))
    refine lv_bipush (v := (-2)) hx hb dX0_addTerm_56 (by decide +kernel) ?_
    have hok : okT KD CP FE = false := by simp only [okT, decide_eq_false_iff_not]; omega
    exact retI hx hb hr hlocks hS hP hD () (by rw [hok]; rfl) (by rw [hok]; rfl) dX0_addTerm_58
  · refine lv_iload_n hx hb dX0_addTerm_4 rfl (lv_at hl 1 rfl) ?_
    refine lv_bipush (v := nI 6) hx hb dX0_addTerm_5 (by decide +kernel) ?_
    refine zv_icmp_ge (tgt := 34) (X := KD) (Y := (6 : Int)) hkd rfl hx hb dX0_addTerm_7 (by decide) (fun c_3 => ?_) (fun c_3 => ?_)
    · refine lv_iconst (v := nI 0) hx hb dX0_addTerm_34 (by decide) ?_
      refine lv_istore (lv' := [(4, .int (nI 0)), (0, .ref (a 0)), (1, .int kd), (2, .int cp), (3, .int fe)]) hx hb dX0_addTerm_35 hl (by decide) rfl (fun ls hl => ?_)
      refine lv_iload hx hb dX0_addTerm_37 (lv_at hl 0 rfl) ?_
      refine nv_if_eq (tgt := 56) (by omega) hx hb dX0_addTerm_39 (by decide) (fun _ => ?_) (fun h => absurd h (by omega))
      refine lv_bipush (v := (-2)) hx hb dX0_addTerm_56 (by decide +kernel) ?_
      have hok : okT KD CP FE = false := by simp only [okT, decide_eq_false_iff_not]; omega
      exact retI hx hb hr hlocks hS hP hD () (by rw [hok]; rfl) (by rw [hok]; rfl) dX0_addTerm_58
    · refine lv_iload_n hx hb dX0_addTerm_10 rfl (lv_at hl 2 rfl) ?_
      refine lv_iconst (v := nI 1) hx hb dX0_addTerm_11 (by decide) ?_
      refine zv_icmp_lt (tgt := 34) (X := CP) (Y := (1 : Int)) hcp rfl hx hb dX0_addTerm_12 (by decide) (fun c_5 => ?_) (fun c_5 => ?_)
      · refine lv_iconst (v := nI 0) hx hb dX0_addTerm_34 (by decide) ?_
        refine lv_istore (lv' := [(4, .int (nI 0)), (0, .ref (a 0)), (1, .int kd), (2, .int cp), (3, .int fe)]) hx hb dX0_addTerm_35 hl (by decide) rfl (fun ls hl => ?_)
        refine lv_iload hx hb dX0_addTerm_37 (lv_at hl 0 rfl) ?_
        refine nv_if_eq (tgt := 56) (by omega) hx hb dX0_addTerm_39 (by decide) (fun _ => ?_) (fun h => absurd h (by omega))
        refine lv_bipush (v := (-2)) hx hb dX0_addTerm_56 (by decide +kernel) ?_
        have hok : okT KD CP FE = false := by simp only [okT, decide_eq_false_iff_not]; omega
        exact retI hx hb hr hlocks hS hP hD () (by rw [hok]; rfl) (by rw [hok]; rfl) dX0_addTerm_58
      · refine lv_iload_n hx hb dX0_addTerm_15 rfl (lv_at hl 2 rfl) ?_
        refine lv_iconst (v := nI 3) hx hb dX0_addTerm_16 (by decide) ?_
        refine zv_icmp_gt (tgt := 34) (X := CP) (Y := (3 : Int)) hcp rfl hx hb dX0_addTerm_17 (by decide) (fun c_7 => ?_) (fun c_7 => ?_)
        · refine lv_iconst (v := nI 0) hx hb dX0_addTerm_34 (by decide) ?_
          refine lv_istore (lv' := [(4, .int (nI 0)), (0, .ref (a 0)), (1, .int kd), (2, .int cp), (3, .int fe)]) hx hb dX0_addTerm_35 hl (by decide) rfl (fun ls hl => ?_)
          refine lv_iload hx hb dX0_addTerm_37 (lv_at hl 0 rfl) ?_
          refine nv_if_eq (tgt := 56) (by omega) hx hb dX0_addTerm_39 (by decide) (fun _ => ?_) (fun h => absurd h (by omega))
          refine lv_bipush (v := (-2)) hx hb dX0_addTerm_56 (by decide +kernel) ?_
          have hok : okT KD CP FE = false := by simp only [okT, decide_eq_false_iff_not]; omega
          exact retI hx hb hr hlocks hS hP hD () (by rw [hok]; rfl) (by rw [hok]; rfl) dX0_addTerm_58
        · refine lv_iload_n hx hb dX0_addTerm_20 rfl (lv_at hl 3 rfl) ?_
          refine zv_if_lt (tgt := 34) (X := FE) hfe hx hb dX0_addTerm_21 (by decide) (fun c_9 => ?_) (fun c_9 => ?_)
          · refine lv_iconst (v := nI 0) hx hb dX0_addTerm_34 (by decide) ?_
            refine lv_istore (lv' := [(4, .int (nI 0)), (0, .ref (a 0)), (1, .int kd), (2, .int cp), (3, .int fe)]) hx hb dX0_addTerm_35 hl (by decide) rfl (fun ls hl => ?_)
            refine lv_iload hx hb dX0_addTerm_37 (lv_at hl 0 rfl) ?_
            refine nv_if_eq (tgt := 56) (by omega) hx hb dX0_addTerm_39 (by decide) (fun _ => ?_) (fun h => absurd h (by omega))
            refine lv_bipush (v := (-2)) hx hb dX0_addTerm_56 (by decide +kernel) ?_
            have hok : okT KD CP FE = false := by simp only [okT, decide_eq_false_iff_not]; omega
            exact retI hx hb hr hlocks hS hP hD () (by rw [hok]; rfl) (by rw [hok]; rfl) dX0_addTerm_58
          · refine lv_iload_n hx hb dX0_addTerm_24 rfl (lv_at hl 3 rfl) ?_
            refine lv_bipush (v := nI 9) hx hb dX0_addTerm_25 (by decide +kernel) ?_
            refine zv_icmp_gt (tgt := 34) (X := FE) (Y := (9 : Int)) hfe rfl hx hb dX0_addTerm_27 (by decide) (fun c_11 => ?_) (fun c_11 => ?_)
            · refine lv_iconst (v := nI 0) hx hb dX0_addTerm_34 (by decide) ?_
              refine lv_istore (lv' := [(4, .int (nI 0)), (0, .ref (a 0)), (1, .int kd), (2, .int cp), (3, .int fe)]) hx hb dX0_addTerm_35 hl (by decide) rfl (fun ls hl => ?_)
              refine lv_iload hx hb dX0_addTerm_37 (lv_at hl 0 rfl) ?_
              refine nv_if_eq (tgt := 56) (by omega) hx hb dX0_addTerm_39 (by decide) (fun _ => ?_) (fun h => absurd h (by omega))
              refine lv_bipush (v := (-2)) hx hb dX0_addTerm_56 (by decide +kernel) ?_
              have hok : okT KD CP FE = false := by simp only [okT, decide_eq_false_iff_not]; omega
              exact retI hx hb hr hlocks hS hP hD () (by rw [hok]; rfl) (by rw [hok]; rfl) dX0_addTerm_58
            · refine lv_iconst (v := nI 1) hx hb dX0_addTerm_30 (by decide) ?_
              refine lv_goto (tgt := 35) hx hb dX0_addTerm_31 (by decide) ?_
              refine lv_istore (lv' := [(4, .int (nI 1)), (0, .ref (a 0)), (1, .int kd), (2, .int cp), (3, .int fe)]) hx hb dX0_addTerm_35 hl (by decide) rfl (fun ls hl => ?_)
              refine lv_iload hx hb dX0_addTerm_37 (lv_at hl 0 rfl) ?_
              refine nv_if_eq (tgt := 56) (by omega) hx hb dX0_addTerm_39 (by decide) (fun h => absurd h (by omega)) (fun _ => ?_)
              have hok : okT KD CP FE = true := by simp only [okT, decide_eq_true_eq]; omega
              obtain ⟨kdn, h_kdn, rfl⟩ := toN (x := kd) (by omega)
              have t_kdn : (nI kdn).toInt = (kdn : Int) := nI_toInt h_kdn
              have z_kdn : KD.toNat = kdn := by omega
              obtain ⟨cpn, h_cpn, rfl⟩ := toN (x := cp) (by omega)
              have t_cpn : (nI cpn).toInt = (cpn : Int) := nI_toInt h_cpn
              have z_cpn : CP.toNat = cpn := by omega
              obtain ⟨fen, h_fen, rfl⟩ := toN (x := fe) (by omega)
              have t_fen : (nI fen).toInt = (fen : Int) := nI_toInt h_fen
              have z_fen : FE.toNat = fen := by omega
              refine lv_aload_n hx hb dX0_addTerm_42 rfl (lv_at hl 1 rfl) ?_
              refine va_get (D := G) (ci := 0) (C := RX0) (T := TX0) (N := 9) hx hb hts iX0 hown hKK.1 hP 0 rfl rfl 0 (by decide) f14 (fun _ h9 => h9) rfl dX0_addTerm_43 ?_
              refine lv_iload_n hx hb dX0_addTerm_46 rfl (lv_at hl 2 rfl) ?_
              refine lv_iload_n hx hb dX0_addTerm_47 rfl (lv_at hl 3 rfl) ?_
              refine lv_iload_n hx hb dX0_addTerm_48 rfl (lv_at hl 4 rfl) ?_
              refine lv_iconst (v := nI 0) hx hb dX0_addTerm_49 (by decide) ?_
              refine rwI hP hD hS hA [1, 2] rfl (runV (As := [.int (nI kdn), .int (nI cpn), .int (nI fen), .int (nI 0)]) (rest := []) (isC := [1, 2]) ⟨hx, hb, hml, hown, hts⟩ hKK hP hD rfl (by decide) (c_X4_add l G tA (a 1) (a 10) 8 3 n0 c0 kdn cpn fen 0 (by omega) (by omega) _) (cwV 4 hts gX0_addTerm_X4_add rfl rfl rfl (by decide +kernel) ⟨Nat.le_of_ble_eq_true rfl, Nat.le_of_ble_eq_true rfl⟩) rfl rfl rfl rfl hl.1 rfl (lv_room (Nat.le_of_ble_eq_true rfl)) dX0_addTerm_50 ⟨Nat.le_of_ble_eq_true rfl, Nat.le_of_ble_eq_true rfl⟩) (fun (_ : Unit) => [(a 0, .inr (0, [.ref (a 1), .ref (a 2), .ref (a 3), .ref (a 4), .ref (a 5), .ref (a 6), .ref (a 7), .ref (a 8), .ref (a 9)])), ((a 1), .inr (2, [.ref (a 10), .int (nI 8), .int (nI 3), .int (nI (okN true n0 8))])), ((a 10), .inl (tA 0, 40, .inl (nF (okC true n0 8 c0 kdn cpn fen 0)))), (a 2, .inr (2, [.ref (a 11), .int (nI 10), .int (nI 4), .int (nI n1)])), (a 11, .inl (tA 0, 40, .inl (nF c1))), (a 3, .inr (2, [.ref (a 12), .int (nI 10), .int (nI 3), .int (nI n2)])), (a 12, .inl (tA 0, 40, .inl (nF c2))), (a 4, .inr (2, [.ref (a 13), .int (nI 8), .int (nI 3), .int (nI n3)])), (a 13, .inl (tA 0, 40, .inl (nF c3))), (a 5, .inr (2, [.ref (a 14), .int (nI 5), .int (nI 4), .int (nI n4)])), (a 14, .inl (tA 0, 40, .inl (nF c4))), (a 6, .inr (2, [.ref (a 15), .int (nI 8), .int (nI 2), .int (nI n5)])), (a 15, .inl (tA 0, 40, .inl (nF c5))), (a 7, .inl (tA 0, 5, .inl (nF hs))), (a 8, .inl (tA 0, 5, .inl (nF wf))), (a 9, .inl (tA 0, 40, .inl (nF wt)))]) (fun _ => rfl) (fun _ => rfl) (fun _ => rfl) (fun r_14 u_15 H locs q_16 hP hD hS => ?_)
              subst q_16
              refine lv_goto (tgt := 58) hx hb dX0_addTerm_53 (by decide) ?_
              exact retI hx hb hr hlocks hS hP hD () (by rw [hok, z_kdn, z_cpn, z_fen]) (by rw [hok]) dX0_addTerm_58

def okL (n0 : Nat) (P T A B : Int) : Bool := decide ((0 ≤ P ∧ P < 5) ∧ (0 ≤ T ∧ T < (n0 : Int)) ∧ (0 ≤ A ∧ A < 24) ∧ (0 ≤ B ∧ B < 24) ∧ A ≤ B)
set_option maxHeartbeats 4000000 in
set_option maxRecDepth 100000 in
theorem c_X0_addLoan (l : Launch) (G : va_G) (tA : Nat → ClassId) (a : Nat → Nat) (n0 : Nat) (c0 : Nat → Nat) (n1 : Nat) (c1 : Nat → Nat) (n2 : Nat) (c2 : Nat → Nat) (n3 : Nat) (c3 : Nat → Nat) (n4 : Nat) (c4 : Nat → Nat) (n5 : Nat) (c5 : Nat → Nat) (hs : Nat → Nat) (wf : Nat → Nat) (wt : Nat → Nat) (pe : Int32) (PE : Int) (te : Int32) (TE : Int) (fa : Int32) (FA : Int) (lb : Int32) (LB : Int) (hCW : CW n0 c0 n1 c1 n2 c2 n3 c3 n4 c4 n5 c5 hs wf wt) (hpe : pe.toInt = PE) (hte : te.toInt = TE) (hfa : fa.toInt = FA) (hlb : lb.toInt = LB) : CtI l yX0_addLoan wsX0_addLoan ({ frames := 1, cells := 0, slots := 0, locals := 25 }) G tA [.ref (a 0), .int pe, .int te, .int fa, .int lb] ([(a 0, .inr (0, [.ref (a 1), .ref (a 2), .ref (a 3), .ref (a 4), .ref (a 5), .ref (a 6), .ref (a 7), .ref (a 8), .ref (a 9)])), (a 1, .inr (2, [.ref (a 10), .int (nI 8), .int (nI 3), .int (nI n0)])), (a 10, .inl (tA 0, 40, .inl (nF c0))), (a 2, .inr (2, [.ref (a 11), .int (nI 10), .int (nI 4), .int (nI n1)])), (a 11, .inl (tA 0, 40, .inl (nF c1))), (a 3, .inr (2, [.ref (a 12), .int (nI 10), .int (nI 3), .int (nI n2)])), (a 12, .inl (tA 0, 40, .inl (nF c2))), (a 4, .inr (2, [.ref (a 13), .int (nI 8), .int (nI 3), .int (nI n3)])), (a 13, .inl (tA 0, 40, .inl (nF c3))), (a 5, .inr (2, [.ref (a 14), .int (nI 5), .int (nI 4), .int (nI n4)])), (a 14, .inl (tA 0, 40, .inl (nF c4))), (a 6, .inr (2, [.ref (a 15), .int (nI 8), .int (nI 2), .int (nI n5)])), (a 15, .inl (tA 0, 40, .inl (nF c5))), (a 7, .inl (tA 0, 5, .inl (nF hs))), (a 8, .inl (tA 0, 5, .inl (nF wf))), (a 9, .inl (tA 0, 40, .inl (nF wt)))]) (fun (r : Int32) (_ : Unit) => r = okR (okL n0 PE TE FA LB) n1 10) (fun (_ : Unit) => [(a 0, .inr (0, [.ref (a 1), .ref (a 2), .ref (a 3), .ref (a 4), .ref (a 5), .ref (a 6), .ref (a 7), .ref (a 8), .ref (a 9)])), (a 1, .inr (2, [.ref (a 10), .int (nI 8), .int (nI 3), .int (nI n0)])), (a 10, .inl (tA 0, 40, .inl (nF c0))), (a 2, .inr (2, [.ref (a 11), .int (nI 10), .int (nI 4), .int (nI (okN (okL n0 PE TE FA LB) n1 10))])), (a 11, .inl (tA 0, 40, .inl (nF (okC (okL n0 PE TE FA LB) n1 10 c1 (PE.toNat) (TE.toNat) (FA.toNat) (LB.toNat))))), (a 3, .inr (2, [.ref (a 12), .int (nI 10), .int (nI 3), .int (nI n2)])), (a 12, .inl (tA 0, 40, .inl (nF c2))), (a 4, .inr (2, [.ref (a 13), .int (nI 8), .int (nI 3), .int (nI n3)])), (a 13, .inl (tA 0, 40, .inl (nF c3))), (a 5, .inr (2, [.ref (a 14), .int (nI 5), .int (nI 4), .int (nI n4)])), (a 14, .inl (tA 0, 40, .inl (nF c4))), (a 6, .inr (2, [.ref (a 15), .int (nI 8), .int (nI 2), .int (nI n5)])), (a 15, .inl (tA 0, 40, .inl (nF c5))), (a 7, .inl (tA 0, 5, .inl (nF hs))), (a 8, .inl (tA 0, 5, .inl (nF wf))), (a 9, .inl (tA 0, 40, .inl (nF wt)))]) 0 0 := by
  refine enterI (cc := cX0_addLoan) (maxL := 6) (ret := (some .int)) (by decide) rfl (Nat.le_of_ble_eq_true rfl) ?_
  intro p0 e0 s m args below meth c0_ A ls hx hb hml hr hts hown hlocks hin hKK hA hP hD hl hS
  have hown : s.vm.findClass RX0 = some m.cls := hown
  have hl : lv_has ls 6 [(0, .ref (a 0)), (1, .int pe), (2, .int te), (3, .int fa), (4, .int lb)] := hl
  have n85 : (Cond.methodLinkNest "LentTerms$Counter" 85 ⟨"LentTerms", "isPerson", "(I)Z"⟩ "LentTerms").before args s = true := hKK.nest 17 rfl
  have f14 := hts (Cond.fieldLink RX0 14 "LentTerms$Counter" "terms" "LLentTerms$Rows;") (List.mem_of_getElem? (i := 1) rfl)
  have iX0 : ∀ w ∈ wsX00, w ∈ wsX0_addLoan := by decide +kernel
  have n92 : (Cond.methodLinkNest "LentTerms$Counter" 92 ⟨"LentTerms", "isHour", "(I)Z"⟩ "LentTerms").before args s = true := hKK.nest 18 rfl
  have f20 := hts (Cond.fieldLink RX0 20 "LentTerms$Counter" "loans" "LLentTerms$Rows;") (List.mem_of_getElem? (i := 2) rfl)
  obtain ⟨⟨hn0, hn1, hn2, hn3, hn4, hn5⟩, ⟨hb0, hb1, hb2, hb3, hb4, hb5, hbh, hbw, hbt⟩, hv0, hv1, hv2, hv3, hv4, hv5, hv6, hv7⟩ := id hCW
  refine lv_iload_n hx hb dX0_addLoan_0 rfl (lv_at hl 1 rfl) ?_
  refine roI hP hD hS hA [] rfl (runSN (As := [.int pe]) (rest := []) (isC := []) ⟨hx, hb, hml, hown, hts⟩ hKK hP hD rfl (by decide) (c_X8_isPerson l G tA pe PE hpe _) ⟨va_cnB 1 hts gX0_addLoan_X8_isPerson_n85 rfl rfl rfl (va_Nw.of rfl n85) (hts (.initialized RX8) (List.mem_of_getElem? (i := 4) rfl)) (by decide +kernel) ⟨Nat.le_of_ble_eq_true rfl, Nat.le_of_ble_eq_true rfl⟩, (hts (Cond.static yX8_isPerson) (List.mem_of_getElem? (i := 3) rfl)), trivial⟩ rfl rfl hl.1 rfl (lv_room (Nat.le_of_ble_eq_true rfl)) dX0_addLoan_1 ⟨Nat.le_of_ble_eq_true rfl, Nat.le_of_ble_eq_true rfl⟩) (fun _ => rfl) (fun r_1 u_2 H locs q_3 hP hS => ?_)
  rcases q_3 with ⟨rfl, p_4⟩ | ⟨rfl, p_4⟩
  · have p_4 : 0 ≤ PE ∧ PE < 5 := p_4
    refine nv_if_eq (tgt := 43) (by omega) hx hb dX0_addLoan_4 (by decide) (fun h => absurd h (by omega)) (fun _ => ?_)
    refine lv_aload_n hx hb dX0_addLoan_7 rfl (lv_at hl 0 rfl) ?_
    refine va_get (D := G) (ci := 0) (C := RX0) (T := TX0) (N := 9) hx hb hts iX0 hown hKK.1 hP 0 rfl rfl 0 (by decide) f14 (fun _ h9 => h9) rfl dX0_addLoan_8 ?_
    refine lv_iload_n hx hb dX0_addLoan_11 rfl (lv_at hl 2 rfl) ?_
    refine roI hP hD hS hA [1, 2] rfl (runV (As := [.int te]) (rest := []) (isC := [1, 2]) ⟨hx, hb, hml, hown, hts⟩ hKK hP hD rfl (by decide) (c_X4_holds l G tA (a 1) (a 10) 8 3 n0 c0 te TE hte (by omega) _) (cwV 1 hts gX0_addLoan_X4_holds rfl rfl rfl (by decide +kernel) ⟨Nat.le_of_ble_eq_true rfl, Nat.le_of_ble_eq_true rfl⟩) rfl rfl rfl rfl hl.1 rfl (lv_room (Nat.le_of_ble_eq_true rfl)) dX0_addLoan_12 ⟨Nat.le_of_ble_eq_true rfl, Nat.le_of_ble_eq_true rfl⟩) (fun _ => rfl) (fun r_6 u_7 H locs q_8 hP hS => ?_)
    rcases q_8 with ⟨rfl, p_9⟩ | ⟨rfl, p_9⟩
    · have p_9 : 0 ≤ TE ∧ TE < (n0 : Int) := p_9
      refine nv_if_eq (tgt := 43) (by omega) hx hb dX0_addLoan_15 (by decide) (fun h => absurd h (by omega)) (fun _ => ?_)
      refine lv_iload_n hx hb dX0_addLoan_18 rfl (lv_at hl 3 rfl) ?_
      refine roI hP hD hS hA [] rfl (runSN (As := [.int fa]) (rest := []) (isC := []) ⟨hx, hb, hml, hown, hts⟩ hKK hP hD rfl (by decide) (c_X8_isHour l G tA fa FA hfa _) ⟨va_cnB 1 hts gX0_addLoan_X8_isHour_n92 rfl rfl rfl (va_Nw.of rfl n92) (hts (.initialized RX8) (List.mem_of_getElem? (i := 4) rfl)) (by decide +kernel) ⟨Nat.le_of_ble_eq_true rfl, Nat.le_of_ble_eq_true rfl⟩, (hts (Cond.static yX8_isHour) (List.mem_of_getElem? (i := 12) rfl)), trivial⟩ rfl rfl hl.1 rfl (lv_room (Nat.le_of_ble_eq_true rfl)) dX0_addLoan_19 ⟨Nat.le_of_ble_eq_true rfl, Nat.le_of_ble_eq_true rfl⟩) (fun _ => rfl) (fun r_11 u_12 H locs q_13 hP hS => ?_)
      rcases q_13 with ⟨rfl, p_14⟩ | ⟨rfl, p_14⟩
      · have p_14 : 0 ≤ FA ∧ FA < 24 := p_14
        refine nv_if_eq (tgt := 43) (by omega) hx hb dX0_addLoan_22 (by decide) (fun h => absurd h (by omega)) (fun _ => ?_)
        refine lv_iload hx hb dX0_addLoan_25 (lv_at hl 4 rfl) ?_
        refine roI hP hD hS hA [] rfl (runSN (As := [.int lb]) (rest := []) (isC := []) ⟨hx, hb, hml, hown, hts⟩ hKK hP hD rfl (by decide) (c_X8_isHour l G tA lb LB hlb _) ⟨va_cnB 1 hts gX0_addLoan_X8_isHour_n92 rfl rfl rfl (va_Nw.of rfl n92) (hts (.initialized RX8) (List.mem_of_getElem? (i := 4) rfl)) (by decide +kernel) ⟨Nat.le_of_ble_eq_true rfl, Nat.le_of_ble_eq_true rfl⟩, (hts (Cond.static yX8_isHour) (List.mem_of_getElem? (i := 12) rfl)), trivial⟩ rfl rfl hl.1 rfl (lv_room (Nat.le_of_ble_eq_true rfl)) dX0_addLoan_27 ⟨Nat.le_of_ble_eq_true rfl, Nat.le_of_ble_eq_true rfl⟩) (fun _ => rfl) (fun r_16 u_17 H locs q_18 hP hS => ?_)
        rcases q_18 with ⟨rfl, p_19⟩ | ⟨rfl, p_19⟩
        · have p_19 : 0 ≤ LB ∧ LB < 24 := p_19
          refine nv_if_eq (tgt := 43) (by omega) hx hb dX0_addLoan_30 (by decide) (fun h => absurd h (by omega)) (fun _ => ?_)
          refine lv_iload_n hx hb dX0_addLoan_33 rfl (lv_at hl 3 rfl) ?_
          refine lv_iload hx hb dX0_addLoan_34 (lv_at hl 4 rfl) ?_
          refine zv_icmp_gt (tgt := 43) (X := FA) (Y := LB) hfa hlb hx hb dX0_addLoan_36 (by decide) (fun c_21 => ?_) (fun c_21 => ?_)
          · refine lv_iconst (v := nI 0) hx hb dX0_addLoan_43 (by decide) ?_
            refine lv_istore (lv' := [(5, .int (nI 0)), (0, .ref (a 0)), (1, .int pe), (2, .int te), (3, .int fa), (4, .int lb)]) hx hb dX0_addLoan_44 hl (by decide) rfl (fun ls hl => ?_)
            refine lv_iload hx hb dX0_addLoan_46 (lv_at hl 0 rfl) ?_
            refine nv_if_eq (tgt := 66) (by omega) hx hb dX0_addLoan_48 (by decide) (fun _ => ?_) (fun h => absurd h (by omega))
            refine lv_bipush (v := (-2)) hx hb dX0_addLoan_66 (by decide +kernel) ?_
            have hok : okL n0 PE TE FA LB = false := by simp only [okL, decide_eq_false_iff_not]; omega
            exact retI hx hb hr hlocks hS hP hD () (by rw [hok]; rfl) (by rw [hok]; rfl) dX0_addLoan_68
          · refine lv_iconst (v := nI 1) hx hb dX0_addLoan_39 (by decide) ?_
            refine lv_goto (tgt := 44) hx hb dX0_addLoan_40 (by decide) ?_
            refine lv_istore (lv' := [(5, .int (nI 1)), (0, .ref (a 0)), (1, .int pe), (2, .int te), (3, .int fa), (4, .int lb)]) hx hb dX0_addLoan_44 hl (by decide) rfl (fun ls hl => ?_)
            refine lv_iload hx hb dX0_addLoan_46 (lv_at hl 0 rfl) ?_
            refine nv_if_eq (tgt := 66) (by omega) hx hb dX0_addLoan_48 (by decide) (fun h => absurd h (by omega)) (fun _ => ?_)
            have hok : okL n0 PE TE FA LB = true := by simp only [okL, decide_eq_true_eq]; omega
            obtain ⟨pen, h_pen, rfl⟩ := toN (x := pe) (by omega)
            have t_pen : (nI pen).toInt = (pen : Int) := nI_toInt h_pen
            have z_pen : PE.toNat = pen := by omega
            obtain ⟨ten, h_ten, rfl⟩ := toN (x := te) (by omega)
            have t_ten : (nI ten).toInt = (ten : Int) := nI_toInt h_ten
            have z_ten : TE.toNat = ten := by omega
            obtain ⟨fan, h_fan, rfl⟩ := toN (x := fa) (by omega)
            have t_fan : (nI fan).toInt = (fan : Int) := nI_toInt h_fan
            have z_fan : FA.toNat = fan := by omega
            obtain ⟨lbn, h_lbn, rfl⟩ := toN (x := lb) (by omega)
            have t_lbn : (nI lbn).toInt = (lbn : Int) := nI_toInt h_lbn
            have z_lbn : LB.toNat = lbn := by omega
            refine lv_aload_n hx hb dX0_addLoan_51 rfl (lv_at hl 1 rfl) ?_
            refine va_get (D := G) (ci := 0) (C := RX0) (T := TX0) (N := 9) hx hb hts iX0 hown hKK.1 hP 0 rfl rfl 1 (by decide) f20 (fun _ h9 => h9) rfl dX0_addLoan_52 ?_
            refine lv_iload_n hx hb dX0_addLoan_55 rfl (lv_at hl 2 rfl) ?_
            refine lv_iload_n hx hb dX0_addLoan_56 rfl (lv_at hl 3 rfl) ?_
            refine lv_iload_n hx hb dX0_addLoan_57 rfl (lv_at hl 4 rfl) ?_
            refine lv_iload hx hb dX0_addLoan_58 (lv_at hl 5 rfl) ?_
            refine rwI hP hD hS hA [3, 4] rfl (runV (As := [.int (nI pen), .int (nI ten), .int (nI fan), .int (nI lbn)]) (rest := []) (isC := [3, 4]) ⟨hx, hb, hml, hown, hts⟩ hKK hP hD rfl (by decide) (c_X4_add l G tA (a 2) (a 11) 10 4 n1 c1 pen ten fan lbn (by omega) (by omega) _) (cwV 4 hts gX0_addLoan_X4_add rfl rfl rfl (by decide +kernel) ⟨Nat.le_of_ble_eq_true rfl, Nat.le_of_ble_eq_true rfl⟩) rfl rfl rfl rfl hl.1 rfl (lv_room (Nat.le_of_ble_eq_true rfl)) dX0_addLoan_60 ⟨Nat.le_of_ble_eq_true rfl, Nat.le_of_ble_eq_true rfl⟩) (fun (_ : Unit) => [(a 0, .inr (0, [.ref (a 1), .ref (a 2), .ref (a 3), .ref (a 4), .ref (a 5), .ref (a 6), .ref (a 7), .ref (a 8), .ref (a 9)])), (a 1, .inr (2, [.ref (a 10), .int (nI 8), .int (nI 3), .int (nI n0)])), (a 10, .inl (tA 0, 40, .inl (nF c0))), ((a 2), .inr (2, [.ref (a 11), .int (nI 10), .int (nI 4), .int (nI (okN true n1 10))])), ((a 11), .inl (tA 0, 40, .inl (nF (okC true n1 10 c1 pen ten fan lbn)))), (a 3, .inr (2, [.ref (a 12), .int (nI 10), .int (nI 3), .int (nI n2)])), (a 12, .inl (tA 0, 40, .inl (nF c2))), (a 4, .inr (2, [.ref (a 13), .int (nI 8), .int (nI 3), .int (nI n3)])), (a 13, .inl (tA 0, 40, .inl (nF c3))), (a 5, .inr (2, [.ref (a 14), .int (nI 5), .int (nI 4), .int (nI n4)])), (a 14, .inl (tA 0, 40, .inl (nF c4))), (a 6, .inr (2, [.ref (a 15), .int (nI 8), .int (nI 2), .int (nI n5)])), (a 15, .inl (tA 0, 40, .inl (nF c5))), (a 7, .inl (tA 0, 5, .inl (nF hs))), (a 8, .inl (tA 0, 5, .inl (nF wf))), (a 9, .inl (tA 0, 40, .inl (nF wt)))]) (fun _ => rfl) (fun _ => rfl) (fun _ => rfl) (fun r_24 u_25 H locs q_26 hP hD hS => ?_)
            subst q_26
            refine lv_goto (tgt := 68) hx hb dX0_addLoan_63 (by decide) ?_
            exact retI hx hb hr hlocks hS hP hD () (by rw [hok, z_pen, z_ten, z_fan, z_lbn]) (by rw [hok]) dX0_addLoan_68
        · have p_19 : ¬ (0 ≤ LB ∧ LB < 24) := p_19
          refine nv_if_eq (tgt := 43) (by omega) hx hb dX0_addLoan_30 (by decide) (fun _ => ?_) (fun h => absurd h (by omega))
          refine lv_iconst (v := nI 0) hx hb dX0_addLoan_43 (by decide) ?_
          refine lv_istore (lv' := [(5, .int (nI 0)), (0, .ref (a 0)), (1, .int pe), (2, .int te), (3, .int fa), (4, .int lb)]) hx hb dX0_addLoan_44 hl (by decide) rfl (fun ls hl => ?_)
          refine lv_iload hx hb dX0_addLoan_46 (lv_at hl 0 rfl) ?_
          refine nv_if_eq (tgt := 66) (by omega) hx hb dX0_addLoan_48 (by decide) (fun _ => ?_) (fun h => absurd h (by omega))
          refine lv_bipush (v := (-2)) hx hb dX0_addLoan_66 (by decide +kernel) ?_
          have hok : okL n0 PE TE FA LB = false := by simp only [okL, decide_eq_false_iff_not]; omega
          exact retI hx hb hr hlocks hS hP hD () (by rw [hok]; rfl) (by rw [hok]; rfl) dX0_addLoan_68
      · have p_14 : ¬ (0 ≤ FA ∧ FA < 24) := p_14
        refine nv_if_eq (tgt := 43) (by omega) hx hb dX0_addLoan_22 (by decide) (fun _ => ?_) (fun h => absurd h (by omega))
        refine lv_iconst (v := nI 0) hx hb dX0_addLoan_43 (by decide) ?_
        refine lv_istore (lv' := [(5, .int (nI 0)), (0, .ref (a 0)), (1, .int pe), (2, .int te), (3, .int fa), (4, .int lb)]) hx hb dX0_addLoan_44 hl (by decide) rfl (fun ls hl => ?_)
        refine lv_iload hx hb dX0_addLoan_46 (lv_at hl 0 rfl) ?_
        refine nv_if_eq (tgt := 66) (by omega) hx hb dX0_addLoan_48 (by decide) (fun _ => ?_) (fun h => absurd h (by omega))
        refine lv_bipush (v := (-2)) hx hb dX0_addLoan_66 (by decide +kernel) ?_
        have hok : okL n0 PE TE FA LB = false := by simp only [okL, decide_eq_false_iff_not]; omega
        exact retI hx hb hr hlocks hS hP hD () (by rw [hok]; rfl) (by rw [hok]; rfl) dX0_addLoan_68
    · have p_9 : ¬ (0 ≤ TE ∧ TE < (n0 : Int)) := p_9
      refine nv_if_eq (tgt := 43) (by omega) hx hb dX0_addLoan_15 (by decide) (fun _ => ?_) (fun h => absurd h (by omega))
      refine lv_iconst (v := nI 0) hx hb dX0_addLoan_43 (by decide) ?_
      refine lv_istore (lv' := [(5, .int (nI 0)), (0, .ref (a 0)), (1, .int pe), (2, .int te), (3, .int fa), (4, .int lb)]) hx hb dX0_addLoan_44 hl (by decide) rfl (fun ls hl => ?_)
      refine lv_iload hx hb dX0_addLoan_46 (lv_at hl 0 rfl) ?_
      refine nv_if_eq (tgt := 66) (by omega) hx hb dX0_addLoan_48 (by decide) (fun _ => ?_) (fun h => absurd h (by omega))
      refine lv_bipush (v := (-2)) hx hb dX0_addLoan_66 (by decide +kernel) ?_
      have hok : okL n0 PE TE FA LB = false := by simp only [okL, decide_eq_false_iff_not]; omega
      exact retI hx hb hr hlocks hS hP hD () (by rw [hok]; rfl) (by rw [hok]; rfl) dX0_addLoan_68
  · have p_4 : ¬ (0 ≤ PE ∧ PE < 5) := p_4
    refine nv_if_eq (tgt := 43) (by omega) hx hb dX0_addLoan_4 (by decide) (fun _ => ?_) (fun h => absurd h (by omega))
    refine lv_iconst (v := nI 0) hx hb dX0_addLoan_43 (by decide) ?_
    refine lv_istore (lv' := [(5, .int (nI 0)), (0, .ref (a 0)), (1, .int pe), (2, .int te), (3, .int fa), (4, .int lb)]) hx hb dX0_addLoan_44 hl (by decide) rfl (fun ls hl => ?_)
    refine lv_iload hx hb dX0_addLoan_46 (lv_at hl 0 rfl) ?_
    refine nv_if_eq (tgt := 66) (by omega) hx hb dX0_addLoan_48 (by decide) (fun _ => ?_) (fun h => absurd h (by omega))
    refine lv_bipush (v := (-2)) hx hb dX0_addLoan_66 (by decide +kernel) ?_
    have hok : okL n0 PE TE FA LB = false := by simp only [okL, decide_eq_false_iff_not]; omega
    exact retI hx hb hr hlocks hS hP hD () (by rw [hok]; rfl) (by rw [hok]; rfl) dX0_addLoan_68

def okS (n0 : Nat) (P T A : Int) : Bool := decide ((0 ≤ P ∧ P < 5) ∧ (0 ≤ T ∧ T < (n0 : Int)) ∧ (0 ≤ A ∧ A < 24))
set_option maxHeartbeats 4000000 in
set_option maxRecDepth 100000 in
theorem c_X0_addSaid (l : Launch) (G : va_G) (tA : Nat → ClassId) (a : Nat → Nat) (n0 : Nat) (c0 : Nat → Nat) (n1 : Nat) (c1 : Nat → Nat) (n2 : Nat) (c2 : Nat → Nat) (n3 : Nat) (c3 : Nat → Nat) (n4 : Nat) (c4 : Nat → Nat) (n5 : Nat) (c5 : Nat → Nat) (hs : Nat → Nat) (wf : Nat → Nat) (wt : Nat → Nat) (pe : Int32) (PE : Int) (te : Int32) (TE : Int) (fa : Int32) (FA : Int) (hCW : CW n0 c0 n1 c1 n2 c2 n3 c3 n4 c4 n5 c5 hs wf wt) (hpe : pe.toInt = PE) (hte : te.toInt = TE) (hfa : fa.toInt = FA) : CtI l yX0_addSaid wsX0_addSaid ({ frames := 1, cells := 0, slots := 0, locals := 25 }) G tA [.ref (a 0), .int pe, .int te, .int fa] ([(a 0, .inr (0, [.ref (a 1), .ref (a 2), .ref (a 3), .ref (a 4), .ref (a 5), .ref (a 6), .ref (a 7), .ref (a 8), .ref (a 9)])), (a 1, .inr (2, [.ref (a 10), .int (nI 8), .int (nI 3), .int (nI n0)])), (a 10, .inl (tA 0, 40, .inl (nF c0))), (a 2, .inr (2, [.ref (a 11), .int (nI 10), .int (nI 4), .int (nI n1)])), (a 11, .inl (tA 0, 40, .inl (nF c1))), (a 3, .inr (2, [.ref (a 12), .int (nI 10), .int (nI 3), .int (nI n2)])), (a 12, .inl (tA 0, 40, .inl (nF c2))), (a 4, .inr (2, [.ref (a 13), .int (nI 8), .int (nI 3), .int (nI n3)])), (a 13, .inl (tA 0, 40, .inl (nF c3))), (a 5, .inr (2, [.ref (a 14), .int (nI 5), .int (nI 4), .int (nI n4)])), (a 14, .inl (tA 0, 40, .inl (nF c4))), (a 6, .inr (2, [.ref (a 15), .int (nI 8), .int (nI 2), .int (nI n5)])), (a 15, .inl (tA 0, 40, .inl (nF c5))), (a 7, .inl (tA 0, 5, .inl (nF hs))), (a 8, .inl (tA 0, 5, .inl (nF wf))), (a 9, .inl (tA 0, 40, .inl (nF wt)))]) (fun (r : Int32) (_ : Unit) => r = okR (okS n0 PE TE FA) n2 10) (fun (_ : Unit) => [(a 0, .inr (0, [.ref (a 1), .ref (a 2), .ref (a 3), .ref (a 4), .ref (a 5), .ref (a 6), .ref (a 7), .ref (a 8), .ref (a 9)])), (a 1, .inr (2, [.ref (a 10), .int (nI 8), .int (nI 3), .int (nI n0)])), (a 10, .inl (tA 0, 40, .inl (nF c0))), (a 2, .inr (2, [.ref (a 11), .int (nI 10), .int (nI 4), .int (nI n1)])), (a 11, .inl (tA 0, 40, .inl (nF c1))), (a 3, .inr (2, [.ref (a 12), .int (nI 10), .int (nI 3), .int (nI (okN (okS n0 PE TE FA) n2 10))])), (a 12, .inl (tA 0, 40, .inl (nF (okC (okS n0 PE TE FA) n2 10 c2 (PE.toNat) (TE.toNat) (FA.toNat) 0)))), (a 4, .inr (2, [.ref (a 13), .int (nI 8), .int (nI 3), .int (nI n3)])), (a 13, .inl (tA 0, 40, .inl (nF c3))), (a 5, .inr (2, [.ref (a 14), .int (nI 5), .int (nI 4), .int (nI n4)])), (a 14, .inl (tA 0, 40, .inl (nF c4))), (a 6, .inr (2, [.ref (a 15), .int (nI 8), .int (nI 2), .int (nI n5)])), (a 15, .inl (tA 0, 40, .inl (nF c5))), (a 7, .inl (tA 0, 5, .inl (nF hs))), (a 8, .inl (tA 0, 5, .inl (nF wf))), (a 9, .inl (tA 0, 40, .inl (nF wt)))]) 0 0 := by
  refine enterI (cc := cX0_addSaid) (maxL := 5) (ret := (some .int)) (by decide) rfl (Nat.le_of_ble_eq_true rfl) ?_
  intro p0 e0 s m args below meth c0_ A ls hx hb hml hr hts hown hlocks hin hKK hA hP hD hl hS
  have hown : s.vm.findClass RX0 = some m.cls := hown
  have hl : lv_has ls 5 [(0, .ref (a 0)), (1, .int pe), (2, .int te), (3, .int fa)] := hl
  have n85 : (Cond.methodLinkNest "LentTerms$Counter" 85 ⟨"LentTerms", "isPerson", "(I)Z"⟩ "LentTerms").before args s = true := hKK.nest 17 rfl
  have f14 := hts (Cond.fieldLink RX0 14 "LentTerms$Counter" "terms" "LLentTerms$Rows;") (List.mem_of_getElem? (i := 1) rfl)
  have iX0 : ∀ w ∈ wsX00, w ∈ wsX0_addSaid := by decide +kernel
  have n92 : (Cond.methodLinkNest "LentTerms$Counter" 92 ⟨"LentTerms", "isHour", "(I)Z"⟩ "LentTerms").before args s = true := hKK.nest 18 rfl
  have f23 := hts (Cond.fieldLink RX0 23 "LentTerms$Counter" "said" "LLentTerms$Rows;") (List.mem_of_getElem? (i := 2) rfl)
  obtain ⟨⟨hn0, hn1, hn2, hn3, hn4, hn5⟩, ⟨hb0, hb1, hb2, hb3, hb4, hb5, hbh, hbw, hbt⟩, hv0, hv1, hv2, hv3, hv4, hv5, hv6, hv7⟩ := id hCW
  refine lv_iload_n hx hb dX0_addSaid_0 rfl (lv_at hl 1 rfl) ?_
  refine roI hP hD hS hA [] rfl (runSN (As := [.int pe]) (rest := []) (isC := []) ⟨hx, hb, hml, hown, hts⟩ hKK hP hD rfl (by decide) (c_X8_isPerson l G tA pe PE hpe _) ⟨va_cnB 1 hts gX0_addSaid_X8_isPerson_n85 rfl rfl rfl (va_Nw.of rfl n85) (hts (.initialized RX8) (List.mem_of_getElem? (i := 4) rfl)) (by decide +kernel) ⟨Nat.le_of_ble_eq_true rfl, Nat.le_of_ble_eq_true rfl⟩, (hts (Cond.static yX8_isPerson) (List.mem_of_getElem? (i := 3) rfl)), trivial⟩ rfl rfl hl.1 rfl (lv_room (Nat.le_of_ble_eq_true rfl)) dX0_addSaid_1 ⟨Nat.le_of_ble_eq_true rfl, Nat.le_of_ble_eq_true rfl⟩) (fun _ => rfl) (fun r_1 u_2 H locs q_3 hP hS => ?_)
  rcases q_3 with ⟨rfl, p_4⟩ | ⟨rfl, p_4⟩
  · have p_4 : 0 ≤ PE ∧ PE < 5 := p_4
    refine nv_if_eq (tgt := 29) (by omega) hx hb dX0_addSaid_4 (by decide) (fun h => absurd h (by omega)) (fun _ => ?_)
    refine lv_aload_n hx hb dX0_addSaid_7 rfl (lv_at hl 0 rfl) ?_
    refine va_get (D := G) (ci := 0) (C := RX0) (T := TX0) (N := 9) hx hb hts iX0 hown hKK.1 hP 0 rfl rfl 0 (by decide) f14 (fun _ h9 => h9) rfl dX0_addSaid_8 ?_
    refine lv_iload_n hx hb dX0_addSaid_11 rfl (lv_at hl 2 rfl) ?_
    refine roI hP hD hS hA [1, 2] rfl (runV (As := [.int te]) (rest := []) (isC := [1, 2]) ⟨hx, hb, hml, hown, hts⟩ hKK hP hD rfl (by decide) (c_X4_holds l G tA (a 1) (a 10) 8 3 n0 c0 te TE hte (by omega) _) (cwV 1 hts gX0_addSaid_X4_holds rfl rfl rfl (by decide +kernel) ⟨Nat.le_of_ble_eq_true rfl, Nat.le_of_ble_eq_true rfl⟩) rfl rfl rfl rfl hl.1 rfl (lv_room (Nat.le_of_ble_eq_true rfl)) dX0_addSaid_12 ⟨Nat.le_of_ble_eq_true rfl, Nat.le_of_ble_eq_true rfl⟩) (fun _ => rfl) (fun r_6 u_7 H locs q_8 hP hS => ?_)
    rcases q_8 with ⟨rfl, p_9⟩ | ⟨rfl, p_9⟩
    · have p_9 : 0 ≤ TE ∧ TE < (n0 : Int) := p_9
      refine nv_if_eq (tgt := 29) (by omega) hx hb dX0_addSaid_15 (by decide) (fun h => absurd h (by omega)) (fun _ => ?_)
      refine lv_iload_n hx hb dX0_addSaid_18 rfl (lv_at hl 3 rfl) ?_
      refine roI hP hD hS hA [] rfl (runSN (As := [.int fa]) (rest := []) (isC := []) ⟨hx, hb, hml, hown, hts⟩ hKK hP hD rfl (by decide) (c_X8_isHour l G tA fa FA hfa _) ⟨va_cnB 1 hts gX0_addSaid_X8_isHour_n92 rfl rfl rfl (va_Nw.of rfl n92) (hts (.initialized RX8) (List.mem_of_getElem? (i := 4) rfl)) (by decide +kernel) ⟨Nat.le_of_ble_eq_true rfl, Nat.le_of_ble_eq_true rfl⟩, (hts (Cond.static yX8_isHour) (List.mem_of_getElem? (i := 12) rfl)), trivial⟩ rfl rfl hl.1 rfl (lv_room (Nat.le_of_ble_eq_true rfl)) dX0_addSaid_19 ⟨Nat.le_of_ble_eq_true rfl, Nat.le_of_ble_eq_true rfl⟩) (fun _ => rfl) (fun r_11 u_12 H locs q_13 hP hS => ?_)
      rcases q_13 with ⟨rfl, p_14⟩ | ⟨rfl, p_14⟩
      · have p_14 : 0 ≤ FA ∧ FA < 24 := p_14
        refine nv_if_eq (tgt := 29) (by omega) hx hb dX0_addSaid_22 (by decide) (fun h => absurd h (by omega)) (fun _ => ?_)
        refine lv_iconst (v := nI 1) hx hb dX0_addSaid_25 (by decide) ?_
        refine lv_goto (tgt := 30) hx hb dX0_addSaid_26 (by decide) ?_
        refine lv_istore (lv' := [(4, .int (nI 1)), (0, .ref (a 0)), (1, .int pe), (2, .int te), (3, .int fa)]) hx hb dX0_addSaid_30 hl (by decide) rfl (fun ls hl => ?_)
        refine lv_iload hx hb dX0_addSaid_32 (lv_at hl 0 rfl) ?_
        refine nv_if_eq (tgt := 51) (by omega) hx hb dX0_addSaid_34 (by decide) (fun h => absurd h (by omega)) (fun _ => ?_)
        have hok : okS n0 PE TE FA = true := by simp only [okS, decide_eq_true_eq]; omega
        obtain ⟨pen, h_pen, rfl⟩ := toN (x := pe) (by omega)
        have t_pen : (nI pen).toInt = (pen : Int) := nI_toInt h_pen
        have z_pen : PE.toNat = pen := by omega
        obtain ⟨ten, h_ten, rfl⟩ := toN (x := te) (by omega)
        have t_ten : (nI ten).toInt = (ten : Int) := nI_toInt h_ten
        have z_ten : TE.toNat = ten := by omega
        obtain ⟨fan, h_fan, rfl⟩ := toN (x := fa) (by omega)
        have t_fan : (nI fan).toInt = (fan : Int) := nI_toInt h_fan
        have z_fan : FA.toNat = fan := by omega
        refine lv_aload_n hx hb dX0_addSaid_37 rfl (lv_at hl 1 rfl) ?_
        refine va_get (D := G) (ci := 0) (C := RX0) (T := TX0) (N := 9) hx hb hts iX0 hown hKK.1 hP 0 rfl rfl 2 (by decide) f23 (fun _ h9 => h9) rfl dX0_addSaid_38 ?_
        refine lv_iload_n hx hb dX0_addSaid_41 rfl (lv_at hl 2 rfl) ?_
        refine lv_iload_n hx hb dX0_addSaid_42 rfl (lv_at hl 3 rfl) ?_
        refine lv_iload_n hx hb dX0_addSaid_43 rfl (lv_at hl 4 rfl) ?_
        refine lv_iconst (v := nI 0) hx hb dX0_addSaid_44 (by decide) ?_
        refine rwI hP hD hS hA [5, 6] rfl (runV (As := [.int (nI pen), .int (nI ten), .int (nI fan), .int (nI 0)]) (rest := []) (isC := [5, 6]) ⟨hx, hb, hml, hown, hts⟩ hKK hP hD rfl (by decide) (c_X4_add l G tA (a 3) (a 12) 10 3 n2 c2 pen ten fan 0 (by omega) (by omega) _) (cwV 4 hts gX0_addSaid_X4_add rfl rfl rfl (by decide +kernel) ⟨Nat.le_of_ble_eq_true rfl, Nat.le_of_ble_eq_true rfl⟩) rfl rfl rfl rfl hl.1 rfl (lv_room (Nat.le_of_ble_eq_true rfl)) dX0_addSaid_45 ⟨Nat.le_of_ble_eq_true rfl, Nat.le_of_ble_eq_true rfl⟩) (fun (_ : Unit) => [(a 0, .inr (0, [.ref (a 1), .ref (a 2), .ref (a 3), .ref (a 4), .ref (a 5), .ref (a 6), .ref (a 7), .ref (a 8), .ref (a 9)])), (a 1, .inr (2, [.ref (a 10), .int (nI 8), .int (nI 3), .int (nI n0)])), (a 10, .inl (tA 0, 40, .inl (nF c0))), (a 2, .inr (2, [.ref (a 11), .int (nI 10), .int (nI 4), .int (nI n1)])), (a 11, .inl (tA 0, 40, .inl (nF c1))), ((a 3), .inr (2, [.ref (a 12), .int (nI 10), .int (nI 3), .int (nI (okN true n2 10))])), ((a 12), .inl (tA 0, 40, .inl (nF (okC true n2 10 c2 pen ten fan 0)))), (a 4, .inr (2, [.ref (a 13), .int (nI 8), .int (nI 3), .int (nI n3)])), (a 13, .inl (tA 0, 40, .inl (nF c3))), (a 5, .inr (2, [.ref (a 14), .int (nI 5), .int (nI 4), .int (nI n4)])), (a 14, .inl (tA 0, 40, .inl (nF c4))), (a 6, .inr (2, [.ref (a 15), .int (nI 8), .int (nI 2), .int (nI n5)])), (a 15, .inl (tA 0, 40, .inl (nF c5))), (a 7, .inl (tA 0, 5, .inl (nF hs))), (a 8, .inl (tA 0, 5, .inl (nF wf))), (a 9, .inl (tA 0, 40, .inl (nF wt)))]) (fun _ => rfl) (fun _ => rfl) (fun _ => rfl) (fun r_17 u_18 H locs q_19 hP hD hS => ?_)
        subst q_19
        refine lv_goto (tgt := 53) hx hb dX0_addSaid_48 (by decide) ?_
        exact retI hx hb hr hlocks hS hP hD () (by rw [hok, z_pen, z_ten, z_fan]) (by rw [hok]) dX0_addSaid_53
      · have p_14 : ¬ (0 ≤ FA ∧ FA < 24) := p_14
        refine nv_if_eq (tgt := 29) (by omega) hx hb dX0_addSaid_22 (by decide) (fun _ => ?_) (fun h => absurd h (by omega))
        refine lv_iconst (v := nI 0) hx hb dX0_addSaid_29 (by decide) ?_
        refine lv_istore (lv' := [(4, .int (nI 0)), (0, .ref (a 0)), (1, .int pe), (2, .int te), (3, .int fa)]) hx hb dX0_addSaid_30 hl (by decide) rfl (fun ls hl => ?_)
        refine lv_iload hx hb dX0_addSaid_32 (lv_at hl 0 rfl) ?_
        refine nv_if_eq (tgt := 51) (by omega) hx hb dX0_addSaid_34 (by decide) (fun _ => ?_) (fun h => absurd h (by omega))
        refine lv_bipush (v := (-2)) hx hb dX0_addSaid_51 (by decide +kernel) ?_
        have hok : okS n0 PE TE FA = false := by simp only [okS, decide_eq_false_iff_not]; omega
        exact retI hx hb hr hlocks hS hP hD () (by rw [hok]; rfl) (by rw [hok]; rfl) dX0_addSaid_53
    · have p_9 : ¬ (0 ≤ TE ∧ TE < (n0 : Int)) := p_9
      refine nv_if_eq (tgt := 29) (by omega) hx hb dX0_addSaid_15 (by decide) (fun _ => ?_) (fun h => absurd h (by omega))
      refine lv_iconst (v := nI 0) hx hb dX0_addSaid_29 (by decide) ?_
      refine lv_istore (lv' := [(4, .int (nI 0)), (0, .ref (a 0)), (1, .int pe), (2, .int te), (3, .int fa)]) hx hb dX0_addSaid_30 hl (by decide) rfl (fun ls hl => ?_)
      refine lv_iload hx hb dX0_addSaid_32 (lv_at hl 0 rfl) ?_
      refine nv_if_eq (tgt := 51) (by omega) hx hb dX0_addSaid_34 (by decide) (fun _ => ?_) (fun h => absurd h (by omega))
      refine lv_bipush (v := (-2)) hx hb dX0_addSaid_51 (by decide +kernel) ?_
      have hok : okS n0 PE TE FA = false := by simp only [okS, decide_eq_false_iff_not]; omega
      exact retI hx hb hr hlocks hS hP hD () (by rw [hok]; rfl) (by rw [hok]; rfl) dX0_addSaid_53
  · have p_4 : ¬ (0 ≤ PE ∧ PE < 5) := p_4
    refine nv_if_eq (tgt := 29) (by omega) hx hb dX0_addSaid_4 (by decide) (fun _ => ?_) (fun h => absurd h (by omega))
    refine lv_iconst (v := nI 0) hx hb dX0_addSaid_29 (by decide) ?_
    refine lv_istore (lv' := [(4, .int (nI 0)), (0, .ref (a 0)), (1, .int pe), (2, .int te), (3, .int fa)]) hx hb dX0_addSaid_30 hl (by decide) rfl (fun ls hl => ?_)
    refine lv_iload hx hb dX0_addSaid_32 (lv_at hl 0 rfl) ?_
    refine nv_if_eq (tgt := 51) (by omega) hx hb dX0_addSaid_34 (by decide) (fun _ => ?_) (fun h => absurd h (by omega))
    refine lv_bipush (v := (-2)) hx hb dX0_addSaid_51 (by decide +kernel) ?_
    have hok : okS n0 PE TE FA = false := by simp only [okS, decide_eq_false_iff_not]; omega
    exact retI hx hb hr hlocks hS hP hD () (by rw [hok]; rfl) (by rw [hok]; rfl) dX0_addSaid_53

def okU (n0 : Nat) (T U V : Int) : Bool := decide ((0 ≤ T ∧ T < (n0 : Int)) ∧ (0 ≤ U ∧ U < (n0 : Int)) ∧ (0 ≤ V ∧ V < (n0 : Int)) ∧ ¬ T = U ∧ ¬ T = V)
set_option maxHeartbeats 4000000 in
set_option maxRecDepth 100000 in
theorem c_X0_addRule (l : Launch) (G : va_G) (tA : Nat → ClassId) (a : Nat → Nat) (n0 : Nat) (c0 : Nat → Nat) (n1 : Nat) (c1 : Nat → Nat) (n2 : Nat) (c2 : Nat → Nat) (n3 : Nat) (c3 : Nat → Nat) (n4 : Nat) (c4 : Nat → Nat) (n5 : Nat) (c5 : Nat → Nat) (hs : Nat → Nat) (wf : Nat → Nat) (wt : Nat → Nat) (te : Int32) (TE : Int) (ue : Int32) (UE : Int) (ve : Int32) (VE : Int) (hCW : CW n0 c0 n1 c1 n2 c2 n3 c3 n4 c4 n5 c5 hs wf wt) (hte : te.toInt = TE) (hue : ue.toInt = UE) (hve : ve.toInt = VE) : CtI l yX0_addRule wsX0_addRule ({ frames := 1, cells := 0, slots := 0, locals := 25 }) G tA [.ref (a 0), .int te, .int ue, .int ve] ([(a 0, .inr (0, [.ref (a 1), .ref (a 2), .ref (a 3), .ref (a 4), .ref (a 5), .ref (a 6), .ref (a 7), .ref (a 8), .ref (a 9)])), (a 1, .inr (2, [.ref (a 10), .int (nI 8), .int (nI 3), .int (nI n0)])), (a 10, .inl (tA 0, 40, .inl (nF c0))), (a 2, .inr (2, [.ref (a 11), .int (nI 10), .int (nI 4), .int (nI n1)])), (a 11, .inl (tA 0, 40, .inl (nF c1))), (a 3, .inr (2, [.ref (a 12), .int (nI 10), .int (nI 3), .int (nI n2)])), (a 12, .inl (tA 0, 40, .inl (nF c2))), (a 4, .inr (2, [.ref (a 13), .int (nI 8), .int (nI 3), .int (nI n3)])), (a 13, .inl (tA 0, 40, .inl (nF c3))), (a 5, .inr (2, [.ref (a 14), .int (nI 5), .int (nI 4), .int (nI n4)])), (a 14, .inl (tA 0, 40, .inl (nF c4))), (a 6, .inr (2, [.ref (a 15), .int (nI 8), .int (nI 2), .int (nI n5)])), (a 15, .inl (tA 0, 40, .inl (nF c5))), (a 7, .inl (tA 0, 5, .inl (nF hs))), (a 8, .inl (tA 0, 5, .inl (nF wf))), (a 9, .inl (tA 0, 40, .inl (nF wt)))]) (fun (r : Int32) (_ : Unit) => r = okR (okU n0 TE UE VE) n3 8) (fun (_ : Unit) => [(a 0, .inr (0, [.ref (a 1), .ref (a 2), .ref (a 3), .ref (a 4), .ref (a 5), .ref (a 6), .ref (a 7), .ref (a 8), .ref (a 9)])), (a 1, .inr (2, [.ref (a 10), .int (nI 8), .int (nI 3), .int (nI n0)])), (a 10, .inl (tA 0, 40, .inl (nF c0))), (a 2, .inr (2, [.ref (a 11), .int (nI 10), .int (nI 4), .int (nI n1)])), (a 11, .inl (tA 0, 40, .inl (nF c1))), (a 3, .inr (2, [.ref (a 12), .int (nI 10), .int (nI 3), .int (nI n2)])), (a 12, .inl (tA 0, 40, .inl (nF c2))), (a 4, .inr (2, [.ref (a 13), .int (nI 8), .int (nI 3), .int (nI (okN (okU n0 TE UE VE) n3 8))])), (a 13, .inl (tA 0, 40, .inl (nF (okC (okU n0 TE UE VE) n3 8 c3 (TE.toNat) (UE.toNat) (VE.toNat) 0)))), (a 5, .inr (2, [.ref (a 14), .int (nI 5), .int (nI 4), .int (nI n4)])), (a 14, .inl (tA 0, 40, .inl (nF c4))), (a 6, .inr (2, [.ref (a 15), .int (nI 8), .int (nI 2), .int (nI n5)])), (a 15, .inl (tA 0, 40, .inl (nF c5))), (a 7, .inl (tA 0, 5, .inl (nF hs))), (a 8, .inl (tA 0, 5, .inl (nF wf))), (a 9, .inl (tA 0, 40, .inl (nF wt)))]) 0 0 := by
  refine enterI (cc := cX0_addRule) (maxL := 5) (ret := (some .int)) (by decide) rfl (Nat.le_of_ble_eq_true rfl) ?_
  intro p0 e0 s m args below meth c0_ A ls hx hb hml hr hts hown hlocks hin hKK hA hP hD hl hS
  have hown : s.vm.findClass RX0 = some m.cls := hown
  have hl : lv_has ls 5 [(0, .ref (a 0)), (1, .int te), (2, .int ue), (3, .int ve)] := hl
  have f14 := hts (Cond.fieldLink RX0 14 "LentTerms$Counter" "terms" "LLentTerms$Rows;") (List.mem_of_getElem? (i := 1) rfl)
  have iX0 : ∀ w ∈ wsX00, w ∈ wsX0_addRule := by decide +kernel
  have f26 := hts (Cond.fieldLink RX0 26 "LentTerms$Counter" "rules" "LLentTerms$Rows;") (List.mem_of_getElem? (i := 2) rfl)
  obtain ⟨⟨hn0, hn1, hn2, hn3, hn4, hn5⟩, ⟨hb0, hb1, hb2, hb3, hb4, hb5, hbh, hbw, hbt⟩, hv0, hv1, hv2, hv3, hv4, hv5, hv6, hv7⟩ := id hCW
  refine lv_aload_n hx hb dX0_addRule_0 rfl (lv_at hl 0 rfl) ?_
  refine va_get (D := G) (ci := 0) (C := RX0) (T := TX0) (N := 9) hx hb hts iX0 hown hKK.1 hP 0 rfl rfl 0 (by decide) f14 (fun _ h9 => h9) rfl dX0_addRule_1 ?_
  refine lv_iload_n hx hb dX0_addRule_4 rfl (lv_at hl 1 rfl) ?_
  refine roI hP hD hS hA [1, 2] rfl (runV (As := [.int te]) (rest := []) (isC := [1, 2]) ⟨hx, hb, hml, hown, hts⟩ hKK hP hD rfl (by decide) (c_X4_holds l G tA (a 1) (a 10) 8 3 n0 c0 te TE hte (by omega) _) (cwV 1 hts gX0_addRule_X4_holds rfl rfl rfl (by decide +kernel) ⟨Nat.le_of_ble_eq_true rfl, Nat.le_of_ble_eq_true rfl⟩) rfl rfl rfl rfl hl.1 rfl (lv_room (Nat.le_of_ble_eq_true rfl)) dX0_addRule_5 ⟨Nat.le_of_ble_eq_true rfl, Nat.le_of_ble_eq_true rfl⟩) (fun _ => rfl) (fun r_1 u_2 H locs q_3 hP hS => ?_)
  rcases q_3 with ⟨rfl, p_4⟩ | ⟨rfl, p_4⟩
  · have p_4 : 0 ≤ TE ∧ TE < (n0 : Int) := p_4
    refine nv_if_eq (tgt := 47) (by omega) hx hb dX0_addRule_8 (by decide) (fun h => absurd h (by omega)) (fun _ => ?_)
    refine lv_aload_n hx hb dX0_addRule_11 rfl (lv_at hl 0 rfl) ?_
    refine va_get (D := G) (ci := 0) (C := RX0) (T := TX0) (N := 9) hx hb hts iX0 hown hKK.1 hP 0 rfl rfl 0 (by decide) f14 (fun _ h9 => h9) rfl dX0_addRule_12 ?_
    refine lv_iload_n hx hb dX0_addRule_15 rfl (lv_at hl 2 rfl) ?_
    refine roI hP hD hS hA [1, 2] rfl (runV (As := [.int ue]) (rest := []) (isC := [1, 2]) ⟨hx, hb, hml, hown, hts⟩ hKK hP hD rfl (by decide) (c_X4_holds l G tA (a 1) (a 10) 8 3 n0 c0 ue UE hue (by omega) _) (cwV 1 hts gX0_addRule_X4_holds rfl rfl rfl (by decide +kernel) ⟨Nat.le_of_ble_eq_true rfl, Nat.le_of_ble_eq_true rfl⟩) rfl rfl rfl rfl hl.1 rfl (lv_room (Nat.le_of_ble_eq_true rfl)) dX0_addRule_16 ⟨Nat.le_of_ble_eq_true rfl, Nat.le_of_ble_eq_true rfl⟩) (fun _ => rfl) (fun r_6 u_7 H locs q_8 hP hS => ?_)
    rcases q_8 with ⟨rfl, p_9⟩ | ⟨rfl, p_9⟩
    · have p_9 : 0 ≤ UE ∧ UE < (n0 : Int) := p_9
      refine nv_if_eq (tgt := 47) (by omega) hx hb dX0_addRule_19 (by decide) (fun h => absurd h (by omega)) (fun _ => ?_)
      refine lv_aload_n hx hb dX0_addRule_22 rfl (lv_at hl 0 rfl) ?_
      refine va_get (D := G) (ci := 0) (C := RX0) (T := TX0) (N := 9) hx hb hts iX0 hown hKK.1 hP 0 rfl rfl 0 (by decide) f14 (fun _ h9 => h9) rfl dX0_addRule_23 ?_
      refine lv_iload_n hx hb dX0_addRule_26 rfl (lv_at hl 3 rfl) ?_
      refine roI hP hD hS hA [1, 2] rfl (runV (As := [.int ve]) (rest := []) (isC := [1, 2]) ⟨hx, hb, hml, hown, hts⟩ hKK hP hD rfl (by decide) (c_X4_holds l G tA (a 1) (a 10) 8 3 n0 c0 ve VE hve (by omega) _) (cwV 1 hts gX0_addRule_X4_holds rfl rfl rfl (by decide +kernel) ⟨Nat.le_of_ble_eq_true rfl, Nat.le_of_ble_eq_true rfl⟩) rfl rfl rfl rfl hl.1 rfl (lv_room (Nat.le_of_ble_eq_true rfl)) dX0_addRule_27 ⟨Nat.le_of_ble_eq_true rfl, Nat.le_of_ble_eq_true rfl⟩) (fun _ => rfl) (fun r_11 u_12 H locs q_13 hP hS => ?_)
      rcases q_13 with ⟨rfl, p_14⟩ | ⟨rfl, p_14⟩
      · have p_14 : 0 ≤ VE ∧ VE < (n0 : Int) := p_14
        refine nv_if_eq (tgt := 47) (by omega) hx hb dX0_addRule_30 (by decide) (fun h => absurd h (by omega)) (fun _ => ?_)
        refine lv_iload_n hx hb dX0_addRule_33 rfl (lv_at hl 1 rfl) ?_
        refine lv_iload_n hx hb dX0_addRule_34 rfl (lv_at hl 2 rfl) ?_
        refine zv_icmp_eq (tgt := 47) (X := TE) (Y := UE) hte hue hx hb dX0_addRule_35 (by decide) (fun c_16 => ?_) (fun c_16 => ?_)
        · refine lv_iconst (v := nI 0) hx hb dX0_addRule_47 (by decide) ?_
          refine lv_istore (lv' := [(4, .int (nI 0)), (0, .ref (a 0)), (1, .int te), (2, .int ue), (3, .int ve)]) hx hb dX0_addRule_48 hl (by decide) rfl (fun ls hl => ?_)
          refine lv_iload hx hb dX0_addRule_50 (lv_at hl 0 rfl) ?_
          refine nv_if_eq (tgt := 69) (by omega) hx hb dX0_addRule_52 (by decide) (fun _ => ?_) (fun h => absurd h (by omega))
          refine lv_bipush (v := (-2)) hx hb dX0_addRule_69 (by decide +kernel) ?_
          have hok : okU n0 TE UE VE = false := by simp only [okU, decide_eq_false_iff_not]; omega
          exact retI hx hb hr hlocks hS hP hD () (by rw [hok]; rfl) (by rw [hok]; rfl) dX0_addRule_71
        · refine lv_iload_n hx hb dX0_addRule_38 rfl (lv_at hl 1 rfl) ?_
          refine lv_iload_n hx hb dX0_addRule_39 rfl (lv_at hl 3 rfl) ?_
          refine zv_icmp_eq (tgt := 47) (X := TE) (Y := VE) hte hve hx hb dX0_addRule_40 (by decide) (fun c_18 => ?_) (fun c_18 => ?_)
          · refine lv_iconst (v := nI 0) hx hb dX0_addRule_47 (by decide) ?_
            refine lv_istore (lv' := [(4, .int (nI 0)), (0, .ref (a 0)), (1, .int te), (2, .int ue), (3, .int ve)]) hx hb dX0_addRule_48 hl (by decide) rfl (fun ls hl => ?_)
            refine lv_iload hx hb dX0_addRule_50 (lv_at hl 0 rfl) ?_
            refine nv_if_eq (tgt := 69) (by omega) hx hb dX0_addRule_52 (by decide) (fun _ => ?_) (fun h => absurd h (by omega))
            refine lv_bipush (v := (-2)) hx hb dX0_addRule_69 (by decide +kernel) ?_
            have hok : okU n0 TE UE VE = false := by simp only [okU, decide_eq_false_iff_not]; omega
            exact retI hx hb hr hlocks hS hP hD () (by rw [hok]; rfl) (by rw [hok]; rfl) dX0_addRule_71
          · refine lv_iconst (v := nI 1) hx hb dX0_addRule_43 (by decide) ?_
            refine lv_goto (tgt := 48) hx hb dX0_addRule_44 (by decide) ?_
            refine lv_istore (lv' := [(4, .int (nI 1)), (0, .ref (a 0)), (1, .int te), (2, .int ue), (3, .int ve)]) hx hb dX0_addRule_48 hl (by decide) rfl (fun ls hl => ?_)
            refine lv_iload hx hb dX0_addRule_50 (lv_at hl 0 rfl) ?_
            refine nv_if_eq (tgt := 69) (by omega) hx hb dX0_addRule_52 (by decide) (fun h => absurd h (by omega)) (fun _ => ?_)
            have hok : okU n0 TE UE VE = true := by simp only [okU, decide_eq_true_eq]; omega
            obtain ⟨ten, h_ten, rfl⟩ := toN (x := te) (by omega)
            have t_ten : (nI ten).toInt = (ten : Int) := nI_toInt h_ten
            have z_ten : TE.toNat = ten := by omega
            obtain ⟨uen, h_uen, rfl⟩ := toN (x := ue) (by omega)
            have t_uen : (nI uen).toInt = (uen : Int) := nI_toInt h_uen
            have z_uen : UE.toNat = uen := by omega
            obtain ⟨ven, h_ven, rfl⟩ := toN (x := ve) (by omega)
            have t_ven : (nI ven).toInt = (ven : Int) := nI_toInt h_ven
            have z_ven : VE.toNat = ven := by omega
            refine lv_aload_n hx hb dX0_addRule_55 rfl (lv_at hl 1 rfl) ?_
            refine va_get (D := G) (ci := 0) (C := RX0) (T := TX0) (N := 9) hx hb hts iX0 hown hKK.1 hP 0 rfl rfl 3 (by decide) f26 (fun _ h9 => h9) rfl dX0_addRule_56 ?_
            refine lv_iload_n hx hb dX0_addRule_59 rfl (lv_at hl 2 rfl) ?_
            refine lv_iload_n hx hb dX0_addRule_60 rfl (lv_at hl 3 rfl) ?_
            refine lv_iload_n hx hb dX0_addRule_61 rfl (lv_at hl 4 rfl) ?_
            refine lv_iconst (v := nI 0) hx hb dX0_addRule_62 (by decide) ?_
            refine rwI hP hD hS hA [7, 8] rfl (runV (As := [.int (nI ten), .int (nI uen), .int (nI ven), .int (nI 0)]) (rest := []) (isC := [7, 8]) ⟨hx, hb, hml, hown, hts⟩ hKK hP hD rfl (by decide) (c_X4_add l G tA (a 4) (a 13) 8 3 n3 c3 ten uen ven 0 (by omega) (by omega) _) (cwV 4 hts gX0_addRule_X4_add rfl rfl rfl (by decide +kernel) ⟨Nat.le_of_ble_eq_true rfl, Nat.le_of_ble_eq_true rfl⟩) rfl rfl rfl rfl hl.1 rfl (lv_room (Nat.le_of_ble_eq_true rfl)) dX0_addRule_63 ⟨Nat.le_of_ble_eq_true rfl, Nat.le_of_ble_eq_true rfl⟩) (fun (_ : Unit) => [(a 0, .inr (0, [.ref (a 1), .ref (a 2), .ref (a 3), .ref (a 4), .ref (a 5), .ref (a 6), .ref (a 7), .ref (a 8), .ref (a 9)])), (a 1, .inr (2, [.ref (a 10), .int (nI 8), .int (nI 3), .int (nI n0)])), (a 10, .inl (tA 0, 40, .inl (nF c0))), (a 2, .inr (2, [.ref (a 11), .int (nI 10), .int (nI 4), .int (nI n1)])), (a 11, .inl (tA 0, 40, .inl (nF c1))), (a 3, .inr (2, [.ref (a 12), .int (nI 10), .int (nI 3), .int (nI n2)])), (a 12, .inl (tA 0, 40, .inl (nF c2))), ((a 4), .inr (2, [.ref (a 13), .int (nI 8), .int (nI 3), .int (nI (okN true n3 8))])), ((a 13), .inl (tA 0, 40, .inl (nF (okC true n3 8 c3 ten uen ven 0)))), (a 5, .inr (2, [.ref (a 14), .int (nI 5), .int (nI 4), .int (nI n4)])), (a 14, .inl (tA 0, 40, .inl (nF c4))), (a 6, .inr (2, [.ref (a 15), .int (nI 8), .int (nI 2), .int (nI n5)])), (a 15, .inl (tA 0, 40, .inl (nF c5))), (a 7, .inl (tA 0, 5, .inl (nF hs))), (a 8, .inl (tA 0, 5, .inl (nF wf))), (a 9, .inl (tA 0, 40, .inl (nF wt)))]) (fun _ => rfl) (fun _ => rfl) (fun _ => rfl) (fun r_21 u_22 H locs q_23 hP hD hS => ?_)
            subst q_23
            refine lv_goto (tgt := 71) hx hb dX0_addRule_66 (by decide) ?_
            exact retI hx hb hr hlocks hS hP hD () (by rw [hok, z_ten, z_uen, z_ven]) (by rw [hok]) dX0_addRule_71
      · have p_14 : ¬ (0 ≤ VE ∧ VE < (n0 : Int)) := p_14
        refine nv_if_eq (tgt := 47) (by omega) hx hb dX0_addRule_30 (by decide) (fun _ => ?_) (fun h => absurd h (by omega))
        refine lv_iconst (v := nI 0) hx hb dX0_addRule_47 (by decide) ?_
        refine lv_istore (lv' := [(4, .int (nI 0)), (0, .ref (a 0)), (1, .int te), (2, .int ue), (3, .int ve)]) hx hb dX0_addRule_48 hl (by decide) rfl (fun ls hl => ?_)
        refine lv_iload hx hb dX0_addRule_50 (lv_at hl 0 rfl) ?_
        refine nv_if_eq (tgt := 69) (by omega) hx hb dX0_addRule_52 (by decide) (fun _ => ?_) (fun h => absurd h (by omega))
        refine lv_bipush (v := (-2)) hx hb dX0_addRule_69 (by decide +kernel) ?_
        have hok : okU n0 TE UE VE = false := by simp only [okU, decide_eq_false_iff_not]; omega
        exact retI hx hb hr hlocks hS hP hD () (by rw [hok]; rfl) (by rw [hok]; rfl) dX0_addRule_71
    · have p_9 : ¬ (0 ≤ UE ∧ UE < (n0 : Int)) := p_9
      refine nv_if_eq (tgt := 47) (by omega) hx hb dX0_addRule_19 (by decide) (fun _ => ?_) (fun h => absurd h (by omega))
      refine lv_iconst (v := nI 0) hx hb dX0_addRule_47 (by decide) ?_
      refine lv_istore (lv' := [(4, .int (nI 0)), (0, .ref (a 0)), (1, .int te), (2, .int ue), (3, .int ve)]) hx hb dX0_addRule_48 hl (by decide) rfl (fun ls hl => ?_)
      refine lv_iload hx hb dX0_addRule_50 (lv_at hl 0 rfl) ?_
      refine nv_if_eq (tgt := 69) (by omega) hx hb dX0_addRule_52 (by decide) (fun _ => ?_) (fun h => absurd h (by omega))
      refine lv_bipush (v := (-2)) hx hb dX0_addRule_69 (by decide +kernel) ?_
      have hok : okU n0 TE UE VE = false := by simp only [okU, decide_eq_false_iff_not]; omega
      exact retI hx hb hr hlocks hS hP hD () (by rw [hok]; rfl) (by rw [hok]; rfl) dX0_addRule_71
  · have p_4 : ¬ (0 ≤ TE ∧ TE < (n0 : Int)) := p_4
    refine nv_if_eq (tgt := 47) (by omega) hx hb dX0_addRule_8 (by decide) (fun _ => ?_) (fun h => absurd h (by omega))
    refine lv_iconst (v := nI 0) hx hb dX0_addRule_47 (by decide) ?_
    refine lv_istore (lv' := [(4, .int (nI 0)), (0, .ref (a 0)), (1, .int te), (2, .int ue), (3, .int ve)]) hx hb dX0_addRule_48 hl (by decide) rfl (fun ls hl => ?_)
    refine lv_iload hx hb dX0_addRule_50 (lv_at hl 0 rfl) ?_
    refine nv_if_eq (tgt := 69) (by omega) hx hb dX0_addRule_52 (by decide) (fun _ => ?_) (fun h => absurd h (by omega))
    refine lv_bipush (v := (-2)) hx hb dX0_addRule_69 (by decide +kernel) ?_
    have hok : okU n0 TE UE VE = false := by simp only [okU, decide_eq_false_iff_not]; omega
    exact retI hx hb hr hlocks hS hP hD () (by rw [hok]; rfl) (by rw [hok]; rfl) dX0_addRule_71

def okY (n0 : Nat) (S U : Int) : Bool := decide ((0 ≤ S ∧ S < ((2 ^ n0 : Nat) : Int)) ∧ ¬ S = 0 ∧ 1 ≤ U ∧ U ≤ 9)
set_option maxHeartbeats 4000000 in
set_option maxRecDepth 100000 in
theorem c_X0_addSaying (l : Launch) (G : va_G) (tA : Nat → ClassId) (a : Nat → Nat) (n0 : Nat) (c0 : Nat → Nat) (n1 : Nat) (c1 : Nat → Nat) (n2 : Nat) (c2 : Nat → Nat) (n3 : Nat) (c3 : Nat → Nat) (n4 : Nat) (c4 : Nat → Nat) (n5 : Nat) (c5 : Nat → Nat) (hs : Nat → Nat) (wf : Nat → Nat) (wt : Nat → Nat) (se : Int32) (SE : Int) (ue : Int32) (UE : Int) (hCW : CW n0 c0 n1 c1 n2 c2 n3 c3 n4 c4 n5 c5 hs wf wt) (hse : se.toInt = SE) (hue : ue.toInt = UE) : CtI l yX0_addSaying wsX0_addSaying ({ frames := 3, cells := 0, slots := 0, locals := 61 }) G tA [.ref (a 0), .int se, .int ue] ([(a 0, .inr (0, [.ref (a 1), .ref (a 2), .ref (a 3), .ref (a 4), .ref (a 5), .ref (a 6), .ref (a 7), .ref (a 8), .ref (a 9)])), (a 1, .inr (2, [.ref (a 10), .int (nI 8), .int (nI 3), .int (nI n0)])), (a 10, .inl (tA 0, 40, .inl (nF c0))), (a 2, .inr (2, [.ref (a 11), .int (nI 10), .int (nI 4), .int (nI n1)])), (a 11, .inl (tA 0, 40, .inl (nF c1))), (a 3, .inr (2, [.ref (a 12), .int (nI 10), .int (nI 3), .int (nI n2)])), (a 12, .inl (tA 0, 40, .inl (nF c2))), (a 4, .inr (2, [.ref (a 13), .int (nI 8), .int (nI 3), .int (nI n3)])), (a 13, .inl (tA 0, 40, .inl (nF c3))), (a 5, .inr (2, [.ref (a 14), .int (nI 5), .int (nI 4), .int (nI n4)])), (a 14, .inl (tA 0, 40, .inl (nF c4))), (a 6, .inr (2, [.ref (a 15), .int (nI 8), .int (nI 2), .int (nI n5)])), (a 15, .inl (tA 0, 40, .inl (nF c5))), (a 7, .inl (tA 0, 5, .inl (nF hs))), (a 8, .inl (tA 0, 5, .inl (nF wf))), (a 9, .inl (tA 0, 40, .inl (nF wt)))]) (fun (r : Int32) (_ : Unit) => r = okR (okY n0 SE UE) n5 8) (fun (_ : Unit) => [(a 0, .inr (0, [.ref (a 1), .ref (a 2), .ref (a 3), .ref (a 4), .ref (a 5), .ref (a 6), .ref (a 7), .ref (a 8), .ref (a 9)])), (a 1, .inr (2, [.ref (a 10), .int (nI 8), .int (nI 3), .int (nI n0)])), (a 10, .inl (tA 0, 40, .inl (nF c0))), (a 2, .inr (2, [.ref (a 11), .int (nI 10), .int (nI 4), .int (nI n1)])), (a 11, .inl (tA 0, 40, .inl (nF c1))), (a 3, .inr (2, [.ref (a 12), .int (nI 10), .int (nI 3), .int (nI n2)])), (a 12, .inl (tA 0, 40, .inl (nF c2))), (a 4, .inr (2, [.ref (a 13), .int (nI 8), .int (nI 3), .int (nI n3)])), (a 13, .inl (tA 0, 40, .inl (nF c3))), (a 5, .inr (2, [.ref (a 14), .int (nI 5), .int (nI 4), .int (nI n4)])), (a 14, .inl (tA 0, 40, .inl (nF c4))), (a 6, .inr (2, [.ref (a 15), .int (nI 8), .int (nI 2), .int (nI (okN (okY n0 SE UE) n5 8))])), (a 15, .inl (tA 0, 40, .inl (nF (okC (okY n0 SE UE) n5 8 c5 (SE.toNat) (UE.toNat) 0 0)))), (a 7, .inl (tA 0, 5, .inl (nF hs))), (a 8, .inl (tA 0, 5, .inl (nF wf))), (a 9, .inl (tA 0, 40, .inl (nF wt)))]) 0 0 := by
  refine enterI (cc := cX0_addSaying) (maxL := 4) (ret := (some .int)) (by decide) rfl (Nat.le_of_ble_eq_true rfl) ?_
  intro p0 e0 s m args below meth c0_ A ls hx hb hml hr hts hown hlocks hin hKK hA hP hD hl hS
  have hown : s.vm.findClass RX0 = some m.cls := hown
  have hl : lv_has ls 4 [(0, .ref (a 0)), (1, .int se), (2, .int ue)] := hl
  have f32 := hts (Cond.fieldLink RX0 32 "LentTerms$Counter" "sayings" "LLentTerms$Rows;") (List.mem_of_getElem? (i := 1) rfl)
  have iX0 : ∀ w ∈ wsX00, w ∈ wsX0_addSaying := by decide +kernel
  obtain ⟨⟨hn0, hn1, hn2, hn3, hn4, hn5⟩, ⟨hb0, hb1, hb2, hb3, hb4, hb5, hbh, hbw, hbt⟩, hv0, hv1, hv2, hv3, hv4, hv5, hv6, hv7⟩ := id hCW
  refine lv_aload_n hx hb dX0_addSaying_0 rfl (lv_at hl 0 rfl) ?_
  refine lv_iload_n hx hb dX0_addSaying_1 rfl (lv_at hl 1 rfl) ?_
  refine roI hP hD hS hA [0, 1, 2, 3, 4, 5, 6, 7, 8, 9, 10, 11, 12, 13, 14, 15] rfl (runV (As := [.int se]) (rest := []) (isC := [0, 1, 2, 3, 4, 5, 6, 7, 8, 9, 10, 11, 12, 13, 14, 15]) ⟨hx, hb, hml, hown, hts⟩ hKK hP hD rfl (by decide) (c_X0_isSet l G tA a n0 c0 n1 c1 n2 c2 n3 c3 n4 c4 n5 c5 hs wf wt se SE (hCW) hse _) (cwV 1 hts gX0_addSaying_X0_isSet rfl rfl rfl (by decide +kernel) ⟨Nat.le_of_ble_eq_true rfl, Nat.le_of_ble_eq_true rfl⟩) rfl rfl rfl rfl hl.1 rfl (lv_room (Nat.le_of_ble_eq_true rfl)) dX0_addSaying_2 ⟨Nat.le_of_ble_eq_true rfl, Nat.le_of_ble_eq_true rfl⟩) (fun _ => rfl) (fun r_1 u_2 H locs q_3 hP hS => ?_)
  rcases q_3 with ⟨rfl, p_4⟩ | ⟨rfl, p_4⟩
  · have p_4 : 0 ≤ SE ∧ SE < ((2 ^ n0 : Nat) : Int) := p_4
    refine nv_if_eq (tgt := 27) (by omega) hx hb dX0_addSaying_5 (by decide) (fun h => absurd h (by omega)) (fun _ => ?_)
    refine lv_iload_n hx hb dX0_addSaying_8 rfl (lv_at hl 1 rfl) ?_
    refine zv_if_eq (tgt := 27) (X := SE) hse hx hb dX0_addSaying_9 (by decide) (fun c_6 => ?_) (fun c_6 => ?_)
    · refine lv_iconst (v := nI 0) hx hb dX0_addSaying_27 (by decide) ?_
      refine lv_istore_n (lv' := [(3, .int (nI 0)), (0, .ref (a 0)), (1, .int se), (2, .int ue)]) hx hb dX0_addSaying_28 rfl hl (by decide) rfl (fun ls hl => ?_)
      refine lv_iload_n hx hb dX0_addSaying_29 rfl (lv_at hl 0 rfl) ?_
      refine nv_if_eq (tgt := 47) (by omega) hx hb dX0_addSaying_30 (by decide) (fun _ => ?_) (fun h => absurd h (by omega))
      refine lv_bipush (v := (-2)) hx hb dX0_addSaying_47 (by decide +kernel) ?_
      have hok : okY n0 SE UE = false := by simp only [okY, decide_eq_false_iff_not]; omega
      exact retI hx hb hr hlocks hS hP hD () (by rw [hok]; rfl) (by rw [hok]; rfl) dX0_addSaying_49
    · refine lv_iload_n hx hb dX0_addSaying_12 rfl (lv_at hl 2 rfl) ?_
      refine lv_iconst (v := nI 1) hx hb dX0_addSaying_13 (by decide) ?_
      refine zv_icmp_lt (tgt := 27) (X := UE) (Y := (1 : Int)) hue rfl hx hb dX0_addSaying_14 (by decide) (fun c_8 => ?_) (fun c_8 => ?_)
      · refine lv_iconst (v := nI 0) hx hb dX0_addSaying_27 (by decide) ?_
        refine lv_istore_n (lv' := [(3, .int (nI 0)), (0, .ref (a 0)), (1, .int se), (2, .int ue)]) hx hb dX0_addSaying_28 rfl hl (by decide) rfl (fun ls hl => ?_)
        refine lv_iload_n hx hb dX0_addSaying_29 rfl (lv_at hl 0 rfl) ?_
        refine nv_if_eq (tgt := 47) (by omega) hx hb dX0_addSaying_30 (by decide) (fun _ => ?_) (fun h => absurd h (by omega))
        refine lv_bipush (v := (-2)) hx hb dX0_addSaying_47 (by decide +kernel) ?_
        have hok : okY n0 SE UE = false := by simp only [okY, decide_eq_false_iff_not]; omega
        exact retI hx hb hr hlocks hS hP hD () (by rw [hok]; rfl) (by rw [hok]; rfl) dX0_addSaying_49
      · refine lv_iload_n hx hb dX0_addSaying_17 rfl (lv_at hl 2 rfl) ?_
        refine lv_bipush (v := nI 9) hx hb dX0_addSaying_18 (by decide +kernel) ?_
        refine zv_icmp_gt (tgt := 27) (X := UE) (Y := (9 : Int)) hue rfl hx hb dX0_addSaying_20 (by decide) (fun c_10 => ?_) (fun c_10 => ?_)
        · refine lv_iconst (v := nI 0) hx hb dX0_addSaying_27 (by decide) ?_
          refine lv_istore_n (lv' := [(3, .int (nI 0)), (0, .ref (a 0)), (1, .int se), (2, .int ue)]) hx hb dX0_addSaying_28 rfl hl (by decide) rfl (fun ls hl => ?_)
          refine lv_iload_n hx hb dX0_addSaying_29 rfl (lv_at hl 0 rfl) ?_
          refine nv_if_eq (tgt := 47) (by omega) hx hb dX0_addSaying_30 (by decide) (fun _ => ?_) (fun h => absurd h (by omega))
          refine lv_bipush (v := (-2)) hx hb dX0_addSaying_47 (by decide +kernel) ?_
          have hok : okY n0 SE UE = false := by simp only [okY, decide_eq_false_iff_not]; omega
          exact retI hx hb hr hlocks hS hP hD () (by rw [hok]; rfl) (by rw [hok]; rfl) dX0_addSaying_49
        · refine lv_iconst (v := nI 1) hx hb dX0_addSaying_23 (by decide) ?_
          refine lv_goto (tgt := 28) hx hb dX0_addSaying_24 (by decide) ?_
          refine lv_istore_n (lv' := [(3, .int (nI 1)), (0, .ref (a 0)), (1, .int se), (2, .int ue)]) hx hb dX0_addSaying_28 rfl hl (by decide) rfl (fun ls hl => ?_)
          refine lv_iload_n hx hb dX0_addSaying_29 rfl (lv_at hl 0 rfl) ?_
          refine nv_if_eq (tgt := 47) (by omega) hx hb dX0_addSaying_30 (by decide) (fun h => absurd h (by omega)) (fun _ => ?_)
          have hok : okY n0 SE UE = true := by simp only [okY, decide_eq_true_eq]; omega
          obtain ⟨sen, h_sen, rfl⟩ := toN (x := se) (by omega)
          have t_sen : (nI sen).toInt = (sen : Int) := nI_toInt h_sen
          have z_sen : SE.toNat = sen := by omega
          obtain ⟨uen, h_uen, rfl⟩ := toN (x := ue) (by omega)
          have t_uen : (nI uen).toInt = (uen : Int) := nI_toInt h_uen
          have z_uen : UE.toNat = uen := by omega
          refine lv_aload_n hx hb dX0_addSaying_33 rfl (lv_at hl 1 rfl) ?_
          refine va_get (D := G) (ci := 0) (C := RX0) (T := TX0) (N := 9) hx hb hts iX0 hown hKK.1 hP 0 rfl rfl 5 (by decide) f32 (fun _ h9 => h9) rfl dX0_addSaying_34 ?_
          refine lv_iload_n hx hb dX0_addSaying_37 rfl (lv_at hl 2 rfl) ?_
          refine lv_iload_n hx hb dX0_addSaying_38 rfl (lv_at hl 3 rfl) ?_
          refine lv_iconst (v := nI 0) hx hb dX0_addSaying_39 (by decide) ?_
          refine lv_iconst (v := nI 0) hx hb dX0_addSaying_40 (by decide) ?_
          refine rwI hP hD hS hA [11, 12] rfl (runV (As := [.int (nI sen), .int (nI uen), .int (nI 0), .int (nI 0)]) (rest := []) (isC := [11, 12]) ⟨hx, hb, hml, hown, hts⟩ hKK hP hD rfl (by decide) (c_X4_add l G tA (a 6) (a 15) 8 2 n5 c5 sen uen 0 0 (by omega) (by omega) _) (cwV 4 hts gX0_addSaying_X4_add rfl rfl rfl (by decide +kernel) ⟨Nat.le_of_ble_eq_true rfl, Nat.le_of_ble_eq_true rfl⟩) rfl rfl rfl rfl hl.1 rfl (lv_room (Nat.le_of_ble_eq_true rfl)) dX0_addSaying_41 ⟨Nat.le_of_ble_eq_true rfl, Nat.le_of_ble_eq_true rfl⟩) (fun (_ : Unit) => [(a 0, .inr (0, [.ref (a 1), .ref (a 2), .ref (a 3), .ref (a 4), .ref (a 5), .ref (a 6), .ref (a 7), .ref (a 8), .ref (a 9)])), (a 1, .inr (2, [.ref (a 10), .int (nI 8), .int (nI 3), .int (nI n0)])), (a 10, .inl (tA 0, 40, .inl (nF c0))), (a 2, .inr (2, [.ref (a 11), .int (nI 10), .int (nI 4), .int (nI n1)])), (a 11, .inl (tA 0, 40, .inl (nF c1))), (a 3, .inr (2, [.ref (a 12), .int (nI 10), .int (nI 3), .int (nI n2)])), (a 12, .inl (tA 0, 40, .inl (nF c2))), (a 4, .inr (2, [.ref (a 13), .int (nI 8), .int (nI 3), .int (nI n3)])), (a 13, .inl (tA 0, 40, .inl (nF c3))), (a 5, .inr (2, [.ref (a 14), .int (nI 5), .int (nI 4), .int (nI n4)])), (a 14, .inl (tA 0, 40, .inl (nF c4))), ((a 6), .inr (2, [.ref (a 15), .int (nI 8), .int (nI 2), .int (nI (okN true n5 8))])), ((a 15), .inl (tA 0, 40, .inl (nF (okC true n5 8 c5 sen uen 0 0)))), (a 7, .inl (tA 0, 5, .inl (nF hs))), (a 8, .inl (tA 0, 5, .inl (nF wf))), (a 9, .inl (tA 0, 40, .inl (nF wt)))]) (fun _ => rfl) (fun _ => rfl) (fun _ => rfl) (fun r_13 u_14 H locs q_15 hP hD hS => ?_)
          subst q_15
          refine lv_goto (tgt := 49) hx hb dX0_addSaying_44 (by decide) ?_
          exact retI hx hb hr hlocks hS hP hD () (by rw [hok, z_sen, z_uen]) (by rw [hok]) dX0_addSaying_49
  · have p_4 : ¬ (0 ≤ SE ∧ SE < ((2 ^ n0 : Nat) : Int)) := p_4
    refine nv_if_eq (tgt := 27) (by omega) hx hb dX0_addSaying_5 (by decide) (fun _ => ?_) (fun h => absurd h (by omega))
    refine lv_iconst (v := nI 0) hx hb dX0_addSaying_27 (by decide) ?_
    refine lv_istore_n (lv' := [(3, .int (nI 0)), (0, .ref (a 0)), (1, .int se), (2, .int ue)]) hx hb dX0_addSaying_28 rfl hl (by decide) rfl (fun ls hl => ?_)
    refine lv_iload_n hx hb dX0_addSaying_29 rfl (lv_at hl 0 rfl) ?_
    refine nv_if_eq (tgt := 47) (by omega) hx hb dX0_addSaying_30 (by decide) (fun _ => ?_) (fun h => absurd h (by omega))
    refine lv_bipush (v := (-2)) hx hb dX0_addSaying_47 (by decide +kernel) ?_
    have hok : okY n0 SE UE = false := by simp only [okY, decide_eq_false_iff_not]; omega
    exact retI hx hb hr hlocks hS hP hD () (by rw [hok]; rfl) (by rw [hok]; rfl) dX0_addSaying_49

theorem subZ {x y : Int32} {X Y : Int} (hx : x.toInt = X) (hy : y.toInt = Y) (h1 : 0 ≤ X) (h2 : X < 1048576) (h3 : 0 ≤ Y) (h4 : Y < 1048576) : (x - y).toInt = X - Y := by
  obtain ⟨a, ha, rfl⟩ := toN (x := x) (by omega)
  obtain ⟨b, hb, rfl⟩ := toN (x := y) (by omega)
  rw [nI_toInt ha] at hx
  rw [nI_toInt hb] at hy
  rw [pk_sub_toInt (by omega) (by omega)]
  omega

def bcS (x : Int32) : Int32 := ((((((((x - (((x.toUInt32 >>> ((nI 1).toUInt32 &&& Int32.toUInt32 31)).toInt32) &&& (nI 1431655765))) &&& (nI 858993459)) + ((((x - (((x.toUInt32 >>> ((nI 1).toUInt32 &&& Int32.toUInt32 31)).toInt32) &&& (nI 1431655765))).toUInt32 >>> ((nI 2).toUInt32 &&& Int32.toUInt32 31)).toInt32) &&& (nI 858993459))) + (((((x - (((x.toUInt32 >>> ((nI 1).toUInt32 &&& Int32.toUInt32 31)).toInt32) &&& (nI 1431655765))) &&& (nI 858993459)) + ((((x - (((x.toUInt32 >>> ((nI 1).toUInt32 &&& Int32.toUInt32 31)).toInt32) &&& (nI 1431655765))).toUInt32 >>> ((nI 2).toUInt32 &&& Int32.toUInt32 31)).toInt32) &&& (nI 858993459))).toUInt32 >>> ((nI 4).toUInt32 &&& Int32.toUInt32 31)).toInt32)) &&& (nI 252645135)) + (((((((x - (((x.toUInt32 >>> ((nI 1).toUInt32 &&& Int32.toUInt32 31)).toInt32) &&& (nI 1431655765))) &&& (nI 858993459)) + ((((x - (((x.toUInt32 >>> ((nI 1).toUInt32 &&& Int32.toUInt32 31)).toInt32) &&& (nI 1431655765))).toUInt32 >>> ((nI 2).toUInt32 &&& Int32.toUInt32 31)).toInt32) &&& (nI 858993459))) + (((((x - (((x.toUInt32 >>> ((nI 1).toUInt32 &&& Int32.toUInt32 31)).toInt32) &&& (nI 1431655765))) &&& (nI 858993459)) + ((((x - (((x.toUInt32 >>> ((nI 1).toUInt32 &&& Int32.toUInt32 31)).toInt32) &&& (nI 1431655765))).toUInt32 >>> ((nI 2).toUInt32 &&& Int32.toUInt32 31)).toInt32) &&& (nI 858993459))).toUInt32 >>> ((nI 4).toUInt32 &&& Int32.toUInt32 31)).toInt32)) &&& (nI 252645135)).toUInt32 >>> ((nI 8).toUInt32 &&& Int32.toUInt32 31)).toInt32)) + ((((((((x - (((x.toUInt32 >>> ((nI 1).toUInt32 &&& Int32.toUInt32 31)).toInt32) &&& (nI 1431655765))) &&& (nI 858993459)) + ((((x - (((x.toUInt32 >>> ((nI 1).toUInt32 &&& Int32.toUInt32 31)).toInt32) &&& (nI 1431655765))).toUInt32 >>> ((nI 2).toUInt32 &&& Int32.toUInt32 31)).toInt32) &&& (nI 858993459))) + (((((x - (((x.toUInt32 >>> ((nI 1).toUInt32 &&& Int32.toUInt32 31)).toInt32) &&& (nI 1431655765))) &&& (nI 858993459)) + ((((x - (((x.toUInt32 >>> ((nI 1).toUInt32 &&& Int32.toUInt32 31)).toInt32) &&& (nI 1431655765))).toUInt32 >>> ((nI 2).toUInt32 &&& Int32.toUInt32 31)).toInt32) &&& (nI 858993459))).toUInt32 >>> ((nI 4).toUInt32 &&& Int32.toUInt32 31)).toInt32)) &&& (nI 252645135)) + (((((((x - (((x.toUInt32 >>> ((nI 1).toUInt32 &&& Int32.toUInt32 31)).toInt32) &&& (nI 1431655765))) &&& (nI 858993459)) + ((((x - (((x.toUInt32 >>> ((nI 1).toUInt32 &&& Int32.toUInt32 31)).toInt32) &&& (nI 1431655765))).toUInt32 >>> ((nI 2).toUInt32 &&& Int32.toUInt32 31)).toInt32) &&& (nI 858993459))) + (((((x - (((x.toUInt32 >>> ((nI 1).toUInt32 &&& Int32.toUInt32 31)).toInt32) &&& (nI 1431655765))) &&& (nI 858993459)) + ((((x - (((x.toUInt32 >>> ((nI 1).toUInt32 &&& Int32.toUInt32 31)).toInt32) &&& (nI 1431655765))).toUInt32 >>> ((nI 2).toUInt32 &&& Int32.toUInt32 31)).toInt32) &&& (nI 858993459))).toUInt32 >>> ((nI 4).toUInt32 &&& Int32.toUInt32 31)).toInt32)) &&& (nI 252645135)).toUInt32 >>> ((nI 8).toUInt32 &&& Int32.toUInt32 31)).toInt32)).toUInt32 >>> ((nI 16).toUInt32 &&& Int32.toUInt32 31)).toInt32)) &&& (nI 63))
def popN (m : Nat) : Nat := m % 2 + m / 2 % 2 + m / 4 % 2 + m / 8 % 2 + m / 16 % 2 + m / 32 % 2 + m / 64 % 2 + m / 128 % 2
theorem bcS_N : ∀ m, m < 256 → bcS (nI m) = nI (popN m) := by decide +kernel
set_option maxHeartbeats 4000000 in
set_option maxRecDepth 100000 in
theorem c_J6_bitCount_0f7a4 (l : Launch) (G : va_G) (tA : Nat → ClassId) (x : Int32)  : CtI l yJ6_bitCount_0f7a4 wsJ6_bitCount_0f7a4 ({ frames := 0, cells := 0, slots := 0, locals := 0 }) G tA [.int x] ([]) (fun (r : Int32) (_ : Unit) => r = bcS x) (fun (_ : Unit) => []) 0 0 := by
  refine enterI (cc := cJ6_bitCount_0f7a4) (maxL := 1) (ret := (some .int)) (by decide) rfl (Nat.le_of_ble_eq_true rfl) ?_
  intro p0 e0 s m args below meth c0_ A ls hx hb hml hr hts hown hlocks hin hKK hA hP hD hl hS
  have hown : s.vm.findClass RJ6 = some m.cls := hown
  have hl : lv_has ls 1 [(0, .int x)] := hl
  have f265 := hts (Cond.constant RJ6 265 (1431655765)) (List.mem_of_getElem? (i := 1) rfl)
  have f266 := hts (Cond.constant RJ6 266 (858993459)) (List.mem_of_getElem? (i := 2) rfl)
  have f267 := hts (Cond.constant RJ6 267 (252645135)) (List.mem_of_getElem? (i := 3) rfl)
  refine lv_iload_n hx hb dJ6_bitCount_0f7a4_0 rfl (lv_at hl 0 rfl) ?_
  refine lv_iload_n hx hb dJ6_bitCount_0f7a4_1 rfl (lv_at hl 0 rfl) ?_
  refine lv_iconst (v := nI 1) hx hb dJ6_bitCount_0f7a4_2 (by decide) ?_
  refine lv_iushr hx hb dJ6_bitCount_0f7a4_3 rfl ?_
  refine nv_ldcw (v := 1431655765) hx hb hown f265 dJ6_bitCount_0f7a4_4 ?_
  refine nv_top (y := 1431655765) (by decide +kernel) ?_
  refine lv_iand hx hb dJ6_bitCount_0f7a4_7 ?_
  refine lv_isub hx hb dJ6_bitCount_0f7a4_8 ?_
  refine lv_istore_n (lv' := [(0, .int (x - (((x.toUInt32 >>> ((nI 1).toUInt32 &&& Int32.toUInt32 31)).toInt32) &&& (nI 1431655765))))]) hx hb dJ6_bitCount_0f7a4_9 rfl hl (by decide) rfl (fun ls hl => ?_)
  refine lv_iload_n hx hb dJ6_bitCount_0f7a4_10 rfl (lv_at hl 0 rfl) ?_
  refine nv_ldcw (v := 858993459) hx hb hown f266 dJ6_bitCount_0f7a4_11 ?_
  refine nv_top (y := 858993459) (by decide +kernel) ?_
  refine lv_iand hx hb dJ6_bitCount_0f7a4_14 ?_
  refine lv_iload_n hx hb dJ6_bitCount_0f7a4_15 rfl (lv_at hl 0 rfl) ?_
  refine lv_iconst (v := nI 2) hx hb dJ6_bitCount_0f7a4_16 (by decide) ?_
  refine lv_iushr hx hb dJ6_bitCount_0f7a4_17 rfl ?_
  refine nv_ldcw (v := 858993459) hx hb hown f266 dJ6_bitCount_0f7a4_18 ?_
  refine nv_top (y := 858993459) (by decide +kernel) ?_
  refine lv_iand hx hb dJ6_bitCount_0f7a4_21 ?_
  refine lv_iadd hx hb dJ6_bitCount_0f7a4_22 ?_
  refine lv_istore_n (lv' := [(0, .int (((x - (((x.toUInt32 >>> ((nI 1).toUInt32 &&& Int32.toUInt32 31)).toInt32) &&& (nI 1431655765))) &&& (nI 858993459)) + ((((x - (((x.toUInt32 >>> ((nI 1).toUInt32 &&& Int32.toUInt32 31)).toInt32) &&& (nI 1431655765))).toUInt32 >>> ((nI 2).toUInt32 &&& Int32.toUInt32 31)).toInt32) &&& (nI 858993459))))]) hx hb dJ6_bitCount_0f7a4_23 rfl hl (by decide) rfl (fun ls hl => ?_)
  refine lv_iload_n hx hb dJ6_bitCount_0f7a4_24 rfl (lv_at hl 0 rfl) ?_
  refine lv_iload_n hx hb dJ6_bitCount_0f7a4_25 rfl (lv_at hl 0 rfl) ?_
  refine lv_iconst (v := nI 4) hx hb dJ6_bitCount_0f7a4_26 (by decide) ?_
  refine lv_iushr hx hb dJ6_bitCount_0f7a4_27 rfl ?_
  refine lv_iadd hx hb dJ6_bitCount_0f7a4_28 ?_
  refine nv_ldcw (v := 252645135) hx hb hown f267 dJ6_bitCount_0f7a4_29 ?_
  refine nv_top (y := 252645135) (by decide +kernel) ?_
  refine lv_iand hx hb dJ6_bitCount_0f7a4_32 ?_
  refine lv_istore_n (lv' := [(0, .int (((((x - (((x.toUInt32 >>> ((nI 1).toUInt32 &&& Int32.toUInt32 31)).toInt32) &&& (nI 1431655765))) &&& (nI 858993459)) + ((((x - (((x.toUInt32 >>> ((nI 1).toUInt32 &&& Int32.toUInt32 31)).toInt32) &&& (nI 1431655765))).toUInt32 >>> ((nI 2).toUInt32 &&& Int32.toUInt32 31)).toInt32) &&& (nI 858993459))) + (((((x - (((x.toUInt32 >>> ((nI 1).toUInt32 &&& Int32.toUInt32 31)).toInt32) &&& (nI 1431655765))) &&& (nI 858993459)) + ((((x - (((x.toUInt32 >>> ((nI 1).toUInt32 &&& Int32.toUInt32 31)).toInt32) &&& (nI 1431655765))).toUInt32 >>> ((nI 2).toUInt32 &&& Int32.toUInt32 31)).toInt32) &&& (nI 858993459))).toUInt32 >>> ((nI 4).toUInt32 &&& Int32.toUInt32 31)).toInt32)) &&& (nI 252645135)))]) hx hb dJ6_bitCount_0f7a4_33 rfl hl (by decide) rfl (fun ls hl => ?_)
  refine lv_iload_n hx hb dJ6_bitCount_0f7a4_34 rfl (lv_at hl 0 rfl) ?_
  refine lv_iload_n hx hb dJ6_bitCount_0f7a4_35 rfl (lv_at hl 0 rfl) ?_
  refine lv_bipush (v := nI 8) hx hb dJ6_bitCount_0f7a4_36 (by decide +kernel) ?_
  refine lv_iushr hx hb dJ6_bitCount_0f7a4_38 rfl ?_
  refine lv_iadd hx hb dJ6_bitCount_0f7a4_39 ?_
  refine lv_istore_n (lv' := [(0, .int ((((((x - (((x.toUInt32 >>> ((nI 1).toUInt32 &&& Int32.toUInt32 31)).toInt32) &&& (nI 1431655765))) &&& (nI 858993459)) + ((((x - (((x.toUInt32 >>> ((nI 1).toUInt32 &&& Int32.toUInt32 31)).toInt32) &&& (nI 1431655765))).toUInt32 >>> ((nI 2).toUInt32 &&& Int32.toUInt32 31)).toInt32) &&& (nI 858993459))) + (((((x - (((x.toUInt32 >>> ((nI 1).toUInt32 &&& Int32.toUInt32 31)).toInt32) &&& (nI 1431655765))) &&& (nI 858993459)) + ((((x - (((x.toUInt32 >>> ((nI 1).toUInt32 &&& Int32.toUInt32 31)).toInt32) &&& (nI 1431655765))).toUInt32 >>> ((nI 2).toUInt32 &&& Int32.toUInt32 31)).toInt32) &&& (nI 858993459))).toUInt32 >>> ((nI 4).toUInt32 &&& Int32.toUInt32 31)).toInt32)) &&& (nI 252645135)) + (((((((x - (((x.toUInt32 >>> ((nI 1).toUInt32 &&& Int32.toUInt32 31)).toInt32) &&& (nI 1431655765))) &&& (nI 858993459)) + ((((x - (((x.toUInt32 >>> ((nI 1).toUInt32 &&& Int32.toUInt32 31)).toInt32) &&& (nI 1431655765))).toUInt32 >>> ((nI 2).toUInt32 &&& Int32.toUInt32 31)).toInt32) &&& (nI 858993459))) + (((((x - (((x.toUInt32 >>> ((nI 1).toUInt32 &&& Int32.toUInt32 31)).toInt32) &&& (nI 1431655765))) &&& (nI 858993459)) + ((((x - (((x.toUInt32 >>> ((nI 1).toUInt32 &&& Int32.toUInt32 31)).toInt32) &&& (nI 1431655765))).toUInt32 >>> ((nI 2).toUInt32 &&& Int32.toUInt32 31)).toInt32) &&& (nI 858993459))).toUInt32 >>> ((nI 4).toUInt32 &&& Int32.toUInt32 31)).toInt32)) &&& (nI 252645135)).toUInt32 >>> ((nI 8).toUInt32 &&& Int32.toUInt32 31)).toInt32)))]) hx hb dJ6_bitCount_0f7a4_40 rfl hl (by decide) rfl (fun ls hl => ?_)
  refine lv_iload_n hx hb dJ6_bitCount_0f7a4_41 rfl (lv_at hl 0 rfl) ?_
  refine lv_iload_n hx hb dJ6_bitCount_0f7a4_42 rfl (lv_at hl 0 rfl) ?_
  refine lv_bipush (v := nI 16) hx hb dJ6_bitCount_0f7a4_43 (by decide +kernel) ?_
  refine lv_iushr hx hb dJ6_bitCount_0f7a4_45 rfl ?_
  refine lv_iadd hx hb dJ6_bitCount_0f7a4_46 ?_
  refine lv_istore_n (lv' := [(0, .int (((((((x - (((x.toUInt32 >>> ((nI 1).toUInt32 &&& Int32.toUInt32 31)).toInt32) &&& (nI 1431655765))) &&& (nI 858993459)) + ((((x - (((x.toUInt32 >>> ((nI 1).toUInt32 &&& Int32.toUInt32 31)).toInt32) &&& (nI 1431655765))).toUInt32 >>> ((nI 2).toUInt32 &&& Int32.toUInt32 31)).toInt32) &&& (nI 858993459))) + (((((x - (((x.toUInt32 >>> ((nI 1).toUInt32 &&& Int32.toUInt32 31)).toInt32) &&& (nI 1431655765))) &&& (nI 858993459)) + ((((x - (((x.toUInt32 >>> ((nI 1).toUInt32 &&& Int32.toUInt32 31)).toInt32) &&& (nI 1431655765))).toUInt32 >>> ((nI 2).toUInt32 &&& Int32.toUInt32 31)).toInt32) &&& (nI 858993459))).toUInt32 >>> ((nI 4).toUInt32 &&& Int32.toUInt32 31)).toInt32)) &&& (nI 252645135)) + (((((((x - (((x.toUInt32 >>> ((nI 1).toUInt32 &&& Int32.toUInt32 31)).toInt32) &&& (nI 1431655765))) &&& (nI 858993459)) + ((((x - (((x.toUInt32 >>> ((nI 1).toUInt32 &&& Int32.toUInt32 31)).toInt32) &&& (nI 1431655765))).toUInt32 >>> ((nI 2).toUInt32 &&& Int32.toUInt32 31)).toInt32) &&& (nI 858993459))) + (((((x - (((x.toUInt32 >>> ((nI 1).toUInt32 &&& Int32.toUInt32 31)).toInt32) &&& (nI 1431655765))) &&& (nI 858993459)) + ((((x - (((x.toUInt32 >>> ((nI 1).toUInt32 &&& Int32.toUInt32 31)).toInt32) &&& (nI 1431655765))).toUInt32 >>> ((nI 2).toUInt32 &&& Int32.toUInt32 31)).toInt32) &&& (nI 858993459))).toUInt32 >>> ((nI 4).toUInt32 &&& Int32.toUInt32 31)).toInt32)) &&& (nI 252645135)).toUInt32 >>> ((nI 8).toUInt32 &&& Int32.toUInt32 31)).toInt32)) + ((((((((x - (((x.toUInt32 >>> ((nI 1).toUInt32 &&& Int32.toUInt32 31)).toInt32) &&& (nI 1431655765))) &&& (nI 858993459)) + ((((x - (((x.toUInt32 >>> ((nI 1).toUInt32 &&& Int32.toUInt32 31)).toInt32) &&& (nI 1431655765))).toUInt32 >>> ((nI 2).toUInt32 &&& Int32.toUInt32 31)).toInt32) &&& (nI 858993459))) + (((((x - (((x.toUInt32 >>> ((nI 1).toUInt32 &&& Int32.toUInt32 31)).toInt32) &&& (nI 1431655765))) &&& (nI 858993459)) + ((((x - (((x.toUInt32 >>> ((nI 1).toUInt32 &&& Int32.toUInt32 31)).toInt32) &&& (nI 1431655765))).toUInt32 >>> ((nI 2).toUInt32 &&& Int32.toUInt32 31)).toInt32) &&& (nI 858993459))).toUInt32 >>> ((nI 4).toUInt32 &&& Int32.toUInt32 31)).toInt32)) &&& (nI 252645135)) + (((((((x - (((x.toUInt32 >>> ((nI 1).toUInt32 &&& Int32.toUInt32 31)).toInt32) &&& (nI 1431655765))) &&& (nI 858993459)) + ((((x - (((x.toUInt32 >>> ((nI 1).toUInt32 &&& Int32.toUInt32 31)).toInt32) &&& (nI 1431655765))).toUInt32 >>> ((nI 2).toUInt32 &&& Int32.toUInt32 31)).toInt32) &&& (nI 858993459))) + (((((x - (((x.toUInt32 >>> ((nI 1).toUInt32 &&& Int32.toUInt32 31)).toInt32) &&& (nI 1431655765))) &&& (nI 858993459)) + ((((x - (((x.toUInt32 >>> ((nI 1).toUInt32 &&& Int32.toUInt32 31)).toInt32) &&& (nI 1431655765))).toUInt32 >>> ((nI 2).toUInt32 &&& Int32.toUInt32 31)).toInt32) &&& (nI 858993459))).toUInt32 >>> ((nI 4).toUInt32 &&& Int32.toUInt32 31)).toInt32)) &&& (nI 252645135)).toUInt32 >>> ((nI 8).toUInt32 &&& Int32.toUInt32 31)).toInt32)).toUInt32 >>> ((nI 16).toUInt32 &&& Int32.toUInt32 31)).toInt32)))]) hx hb dJ6_bitCount_0f7a4_47 rfl hl (by decide) rfl (fun ls hl => ?_)
  refine lv_iload_n hx hb dJ6_bitCount_0f7a4_48 rfl (lv_at hl 0 rfl) ?_
  refine lv_bipush (v := nI 63) hx hb dJ6_bitCount_0f7a4_49 (by decide +kernel) ?_
  refine lv_iand hx hb dJ6_bitCount_0f7a4_51 ?_
  exact retI hx hb hr hlocks hS hP hD () (rfl) (rfl) dJ6_bitCount_0f7a4_52

def okW (n0 : Nat) (P S A B C : Int) : Bool := decide ((0 ≤ P ∧ P < 5) ∧ (0 ≤ S ∧ S < ((2 ^ n0 : Nat) : Int)) ∧ (1 ≤ C ∧ C ≤ 3) ∧ (0 ≤ A ∧ A < 24) ∧ (0 ≤ B ∧ B < 24) ∧ A ≤ B ∧ B - A ≤ 5)
set_option maxHeartbeats 4000000 in
set_option maxRecDepth 100000 in
theorem c_X0_addWant (l : Launch) (G : va_G) (tA : Nat → ClassId) (a : Nat → Nat) (n0 : Nat) (c0 : Nat → Nat) (n1 : Nat) (c1 : Nat → Nat) (n2 : Nat) (c2 : Nat → Nat) (n3 : Nat) (c3 : Nat → Nat) (n4 : Nat) (c4 : Nat → Nat) (n5 : Nat) (c5 : Nat → Nat) (hs : Nat → Nat) (wf : Nat → Nat) (wt : Nat → Nat) (pe : Int32) (PE : Int) (se : Int32) (SE : Int) (fa : Int32) (FA : Int) (lb : Int32) (LB : Int) (hCW : CW n0 c0 n1 c1 n2 c2 n3 c3 n4 c4 n5 c5 hs wf wt) (hpe : pe.toInt = PE) (hse : se.toInt = SE) (hfa : fa.toInt = FA) (hlb : lb.toInt = LB) : CtI l yX0_addWant wsX0_addWant ({ frames := 3, cells := 0, slots := 0, locals := 61 }) G tA [.ref (a 0), .int pe, .int se, .int fa, .int lb] ([(a 0, .inr (0, [.ref (a 1), .ref (a 2), .ref (a 3), .ref (a 4), .ref (a 5), .ref (a 6), .ref (a 7), .ref (a 8), .ref (a 9)])), (a 1, .inr (2, [.ref (a 10), .int (nI 8), .int (nI 3), .int (nI n0)])), (a 10, .inl (tA 0, 40, .inl (nF c0))), (a 2, .inr (2, [.ref (a 11), .int (nI 10), .int (nI 4), .int (nI n1)])), (a 11, .inl (tA 0, 40, .inl (nF c1))), (a 3, .inr (2, [.ref (a 12), .int (nI 10), .int (nI 3), .int (nI n2)])), (a 12, .inl (tA 0, 40, .inl (nF c2))), (a 4, .inr (2, [.ref (a 13), .int (nI 8), .int (nI 3), .int (nI n3)])), (a 13, .inl (tA 0, 40, .inl (nF c3))), (a 5, .inr (2, [.ref (a 14), .int (nI 5), .int (nI 4), .int (nI n4)])), (a 14, .inl (tA 0, 40, .inl (nF c4))), (a 6, .inr (2, [.ref (a 15), .int (nI 8), .int (nI 2), .int (nI n5)])), (a 15, .inl (tA 0, 40, .inl (nF c5))), (a 7, .inl (tA 0, 5, .inl (nF hs))), (a 8, .inl (tA 0, 5, .inl (nF wf))), (a 9, .inl (tA 0, 40, .inl (nF wt)))]) (fun (r : Int32) (_ : Unit) => r = okR (okW n0 PE SE FA LB (bcS se).toInt) n4 5) (fun (_ : Unit) => [(a 0, .inr (0, [.ref (a 1), .ref (a 2), .ref (a 3), .ref (a 4), .ref (a 5), .ref (a 6), .ref (a 7), .ref (a 8), .ref (a 9)])), (a 1, .inr (2, [.ref (a 10), .int (nI 8), .int (nI 3), .int (nI n0)])), (a 10, .inl (tA 0, 40, .inl (nF c0))), (a 2, .inr (2, [.ref (a 11), .int (nI 10), .int (nI 4), .int (nI n1)])), (a 11, .inl (tA 0, 40, .inl (nF c1))), (a 3, .inr (2, [.ref (a 12), .int (nI 10), .int (nI 3), .int (nI n2)])), (a 12, .inl (tA 0, 40, .inl (nF c2))), (a 4, .inr (2, [.ref (a 13), .int (nI 8), .int (nI 3), .int (nI n3)])), (a 13, .inl (tA 0, 40, .inl (nF c3))), (a 5, .inr (2, [.ref (a 14), .int (nI 5), .int (nI 4), .int (nI (okN (okW n0 PE SE FA LB (bcS se).toInt) n4 5))])), (a 14, .inl (tA 0, 40, .inl (nF (okC (okW n0 PE SE FA LB (bcS se).toInt) n4 5 c4 (PE.toNat) (SE.toNat) (FA.toNat) (LB.toNat))))), (a 6, .inr (2, [.ref (a 15), .int (nI 8), .int (nI 2), .int (nI n5)])), (a 15, .inl (tA 0, 40, .inl (nF c5))), (a 7, .inl (tA 0, 5, .inl (nF hs))), (a 8, .inl (tA 0, 5, .inl (nF wf))), (a 9, .inl (tA 0, 40, .inl (nF wt)))]) 0 0 := by
  refine enterI (cc := cX0_addWant) (maxL := 7) (ret := (some .int)) (by decide) rfl (Nat.le_of_ble_eq_true rfl) ?_
  intro p0 e0 s m args below meth c0_ A ls hx hb hml hr hts hown hlocks hin hKK hA hP hD hl hS
  have hown : s.vm.findClass RX0 = some m.cls := hown
  have hl : lv_has ls 7 [(0, .ref (a 0)), (1, .int pe), (2, .int se), (3, .int fa), (4, .int lb)] := hl
  have n85 : (Cond.methodLinkNest "LentTerms$Counter" 85 ⟨"LentTerms", "isPerson", "(I)Z"⟩ "LentTerms").before args s = true := hKK.nest 17 rfl
  have n92 : (Cond.methodLinkNest "LentTerms$Counter" 92 ⟨"LentTerms", "isHour", "(I)Z"⟩ "LentTerms").before args s = true := hKK.nest 18 rfl
  have f29 := hts (Cond.fieldLink RX0 29 "LentTerms$Counter" "wants" "LLentTerms$Rows;") (List.mem_of_getElem? (i := 1) rfl)
  have iX0 : ∀ w ∈ wsX00, w ∈ wsX0_addWant := by decide +kernel
  obtain ⟨⟨hn0, hn1, hn2, hn3, hn4, hn5⟩, ⟨hb0, hb1, hb2, hb3, hb4, hb5, hbh, hbw, hbt⟩, hv0, hv1, hv2, hv3, hv4, hv5, hv6, hv7⟩ := id hCW
  refine lv_iload_n hx hb dX0_addWant_0 rfl (lv_at hl 2 rfl) ?_
  refine roI hP hD hS hA [] rfl (runS (As := [.int se]) (rest := []) (isC := []) ⟨hx, hb, hml, hown, hts⟩ hKK hP hD rfl (by decide) (c_J6_bitCount_0f7a4 l G tA se _) (va_cwS 1 hts gX0_addWant_J6_bitCount_0f7a4 rfl rfl rfl (by decide +kernel) ⟨Nat.le_of_ble_eq_true rfl, Nat.le_of_ble_eq_true rfl⟩) rfl rfl hl.1 rfl (lv_room (Nat.le_of_ble_eq_true rfl)) dX0_addWant_1 ⟨Nat.le_of_ble_eq_true rfl, Nat.le_of_ble_eq_true rfl⟩) (fun _ => rfl) (fun r_1 u_2 H locs q_3 hP hS => ?_)
  subst q_3
  refine lv_istore (lv' := [(5, .int (bcS se)), (0, .ref (a 0)), (1, .int pe), (2, .int se), (3, .int fa), (4, .int lb)]) hx hb dX0_addWant_4 hl (by decide) rfl (fun ls hl => ?_)
  refine lv_iload_n hx hb dX0_addWant_6 rfl (lv_at hl 2 rfl) ?_
  refine roI hP hD hS hA [] rfl (runSN (As := [.int pe]) (rest := []) (isC := []) ⟨hx, hb, hml, hown, hts⟩ hKK hP hD rfl (by decide) (c_X8_isPerson l G tA pe PE hpe _) ⟨va_cnB 1 hts gX0_addWant_X8_isPerson_n85 rfl rfl rfl (va_Nw.of rfl n85) (hts (.initialized RX8) (List.mem_of_getElem? (i := 10) rfl)) (by decide +kernel) ⟨Nat.le_of_ble_eq_true rfl, Nat.le_of_ble_eq_true rfl⟩, (hts (Cond.static yX8_isPerson) (List.mem_of_getElem? (i := 9) rfl)), trivial⟩ rfl rfl hl.1 rfl (lv_room (Nat.le_of_ble_eq_true rfl)) dX0_addWant_7 ⟨Nat.le_of_ble_eq_true rfl, Nat.le_of_ble_eq_true rfl⟩) (fun _ => rfl) (fun r_4 u_5 H locs q_6 hP hS => ?_)
  rcases q_6 with ⟨rfl, p_7⟩ | ⟨rfl, p_7⟩
  · have p_7 : 0 ≤ PE ∧ PE < 5 := p_7
    refine nv_if_eq (tgt := 66) (by omega) hx hb dX0_addWant_10 (by decide) (fun h => absurd h (by omega)) (fun _ => ?_)
    refine lv_aload_n hx hb dX0_addWant_13 rfl (lv_at hl 1 rfl) ?_
    refine lv_iload_n hx hb dX0_addWant_14 rfl (lv_at hl 3 rfl) ?_
    refine roI hP hD hS hA [0, 1, 2, 3, 4, 5, 6, 7, 8, 9, 10, 11, 12, 13, 14, 15] rfl (runV (As := [.int se]) (rest := []) (isC := [0, 1, 2, 3, 4, 5, 6, 7, 8, 9, 10, 11, 12, 13, 14, 15]) ⟨hx, hb, hml, hown, hts⟩ hKK hP hD rfl (by decide) (c_X0_isSet l G tA a n0 c0 n1 c1 n2 c2 n3 c3 n4 c4 n5 c5 hs wf wt se SE (hCW) hse _) (cwV 1 hts gX0_addWant_X0_isSet rfl rfl rfl (by decide +kernel) ⟨Nat.le_of_ble_eq_true rfl, Nat.le_of_ble_eq_true rfl⟩) rfl rfl rfl rfl hl.1 rfl (lv_room (Nat.le_of_ble_eq_true rfl)) dX0_addWant_15 ⟨Nat.le_of_ble_eq_true rfl, Nat.le_of_ble_eq_true rfl⟩) (fun _ => rfl) (fun r_9 u_10 H locs q_11 hP hS => ?_)
    rcases q_11 with ⟨rfl, p_12⟩ | ⟨rfl, p_12⟩
    · have p_12 : 0 ≤ SE ∧ SE < ((2 ^ n0 : Nat) : Int) := p_12
      refine nv_if_eq (tgt := 66) (by omega) hx hb dX0_addWant_18 (by decide) (fun h => absurd h (by omega)) (fun _ => ?_)
      refine lv_iload hx hb dX0_addWant_21 (lv_at hl 0 rfl) ?_
      refine lv_iconst (v := nI 1) hx hb dX0_addWant_23 (by decide) ?_
      refine zv_icmp_lt (tgt := 66) (X := (bcS se).toInt) (Y := (1 : Int)) rfl rfl hx hb dX0_addWant_24 (by decide) (fun c_14 => ?_) (fun c_14 => ?_)
      · refine lv_iconst (v := nI 0) hx hb dX0_addWant_66 (by decide) ?_
        refine lv_istore (lv' := [(6, .int (nI 0)), (5, .int (bcS se)), (0, .ref (a 0)), (1, .int pe), (2, .int se), (3, .int fa), (4, .int lb)]) hx hb dX0_addWant_67 hl (by decide) rfl (fun ls hl => ?_)
        refine lv_iload hx hb dX0_addWant_69 (lv_at hl 0 rfl) ?_
        refine nv_if_eq (tgt := 89) (by omega) hx hb dX0_addWant_71 (by decide) (fun _ => ?_) (fun h => absurd h (by omega))
        refine lv_bipush (v := (-2)) hx hb dX0_addWant_89 (by decide +kernel) ?_
        have hok : okW n0 PE SE FA LB (bcS se).toInt = false := by simp only [okW, decide_eq_false_iff_not]; omega
        exact retI hx hb hr hlocks hS hP hD () (by rw [hok]; rfl) (by rw [hok]; rfl) dX0_addWant_91
      · refine lv_iload hx hb dX0_addWant_27 (lv_at hl 0 rfl) ?_
        refine lv_iconst (v := nI 3) hx hb dX0_addWant_29 (by decide) ?_
        refine zv_icmp_gt (tgt := 66) (X := (bcS se).toInt) (Y := (3 : Int)) rfl rfl hx hb dX0_addWant_30 (by decide) (fun c_16 => ?_) (fun c_16 => ?_)
        · refine lv_iconst (v := nI 0) hx hb dX0_addWant_66 (by decide) ?_
          refine lv_istore (lv' := [(6, .int (nI 0)), (5, .int (bcS se)), (0, .ref (a 0)), (1, .int pe), (2, .int se), (3, .int fa), (4, .int lb)]) hx hb dX0_addWant_67 hl (by decide) rfl (fun ls hl => ?_)
          refine lv_iload hx hb dX0_addWant_69 (lv_at hl 0 rfl) ?_
          refine nv_if_eq (tgt := 89) (by omega) hx hb dX0_addWant_71 (by decide) (fun _ => ?_) (fun h => absurd h (by omega))
          refine lv_bipush (v := (-2)) hx hb dX0_addWant_89 (by decide +kernel) ?_
          have hok : okW n0 PE SE FA LB (bcS se).toInt = false := by simp only [okW, decide_eq_false_iff_not]; omega
          exact retI hx hb hr hlocks hS hP hD () (by rw [hok]; rfl) (by rw [hok]; rfl) dX0_addWant_91
        · refine lv_iload_n hx hb dX0_addWant_33 rfl (lv_at hl 4 rfl) ?_
          refine roI hP hD hS hA [] rfl (runSN (As := [.int fa]) (rest := []) (isC := []) ⟨hx, hb, hml, hown, hts⟩ hKK hP hD rfl (by decide) (c_X8_isHour l G tA fa FA hfa _) ⟨va_cnB 1 hts gX0_addWant_X8_isHour_n92 rfl rfl rfl (va_Nw.of rfl n92) (hts (.initialized RX8) (List.mem_of_getElem? (i := 10) rfl)) (by decide +kernel) ⟨Nat.le_of_ble_eq_true rfl, Nat.le_of_ble_eq_true rfl⟩, (hts (Cond.static yX8_isHour) (List.mem_of_getElem? (i := 28) rfl)), trivial⟩ rfl rfl hl.1 rfl (lv_room (Nat.le_of_ble_eq_true rfl)) dX0_addWant_34 ⟨Nat.le_of_ble_eq_true rfl, Nat.le_of_ble_eq_true rfl⟩) (fun _ => rfl) (fun r_18 u_19 H locs q_20 hP hS => ?_)
          rcases q_20 with ⟨rfl, p_21⟩ | ⟨rfl, p_21⟩
          · have p_21 : 0 ≤ FA ∧ FA < 24 := p_21
            refine nv_if_eq (tgt := 66) (by omega) hx hb dX0_addWant_37 (by decide) (fun h => absurd h (by omega)) (fun _ => ?_)
            refine lv_iload hx hb dX0_addWant_40 (lv_at hl 5 rfl) ?_
            refine roI hP hD hS hA [] rfl (runSN (As := [.int lb]) (rest := []) (isC := []) ⟨hx, hb, hml, hown, hts⟩ hKK hP hD rfl (by decide) (c_X8_isHour l G tA lb LB hlb _) ⟨va_cnB 1 hts gX0_addWant_X8_isHour_n92 rfl rfl rfl (va_Nw.of rfl n92) (hts (.initialized RX8) (List.mem_of_getElem? (i := 10) rfl)) (by decide +kernel) ⟨Nat.le_of_ble_eq_true rfl, Nat.le_of_ble_eq_true rfl⟩, (hts (Cond.static yX8_isHour) (List.mem_of_getElem? (i := 28) rfl)), trivial⟩ rfl rfl hl.1 rfl (lv_room (Nat.le_of_ble_eq_true rfl)) dX0_addWant_42 ⟨Nat.le_of_ble_eq_true rfl, Nat.le_of_ble_eq_true rfl⟩) (fun _ => rfl) (fun r_23 u_24 H locs q_25 hP hS => ?_)
            rcases q_25 with ⟨rfl, p_26⟩ | ⟨rfl, p_26⟩
            · have p_26 : 0 ≤ LB ∧ LB < 24 := p_26
              refine nv_if_eq (tgt := 66) (by omega) hx hb dX0_addWant_45 (by decide) (fun h => absurd h (by omega)) (fun _ => ?_)
              refine lv_iload_n hx hb dX0_addWant_48 rfl (lv_at hl 4 rfl) ?_
              refine lv_iload hx hb dX0_addWant_49 (lv_at hl 5 rfl) ?_
              refine zv_icmp_gt (tgt := 66) (X := FA) (Y := LB) hfa hlb hx hb dX0_addWant_51 (by decide) (fun c_28 => ?_) (fun c_28 => ?_)
              · refine lv_iconst (v := nI 0) hx hb dX0_addWant_66 (by decide) ?_
                refine lv_istore (lv' := [(6, .int (nI 0)), (5, .int (bcS se)), (0, .ref (a 0)), (1, .int pe), (2, .int se), (3, .int fa), (4, .int lb)]) hx hb dX0_addWant_67 hl (by decide) rfl (fun ls hl => ?_)
                refine lv_iload hx hb dX0_addWant_69 (lv_at hl 0 rfl) ?_
                refine nv_if_eq (tgt := 89) (by omega) hx hb dX0_addWant_71 (by decide) (fun _ => ?_) (fun h => absurd h (by omega))
                refine lv_bipush (v := (-2)) hx hb dX0_addWant_89 (by decide +kernel) ?_
                have hok : okW n0 PE SE FA LB (bcS se).toInt = false := by simp only [okW, decide_eq_false_iff_not]; omega
                exact retI hx hb hr hlocks hS hP hD () (by rw [hok]; rfl) (by rw [hok]; rfl) dX0_addWant_91
              · refine lv_iload hx hb dX0_addWant_54 (lv_at hl 5 rfl) ?_
                refine lv_iload_n hx hb dX0_addWant_56 rfl (lv_at hl 4 rfl) ?_
                refine lv_isub hx hb dX0_addWant_57 ?_
                have hsub : (lb - fa).toInt = LB - FA := subZ hlb hfa (by omega) (by omega) (by omega) (by omega)
                refine lv_iconst (v := nI 5) hx hb dX0_addWant_58 (by decide) ?_
                refine zv_icmp_gt (tgt := 66) (X := LB - FA) (Y := (5 : Int)) hsub rfl hx hb dX0_addWant_59 (by decide) (fun c_30 => ?_) (fun c_30 => ?_)
                · refine lv_iconst (v := nI 0) hx hb dX0_addWant_66 (by decide) ?_
                  refine lv_istore (lv' := [(6, .int (nI 0)), (5, .int (bcS se)), (0, .ref (a 0)), (1, .int pe), (2, .int se), (3, .int fa), (4, .int lb)]) hx hb dX0_addWant_67 hl (by decide) rfl (fun ls hl => ?_)
                  refine lv_iload hx hb dX0_addWant_69 (lv_at hl 0 rfl) ?_
                  refine nv_if_eq (tgt := 89) (by omega) hx hb dX0_addWant_71 (by decide) (fun _ => ?_) (fun h => absurd h (by omega))
                  refine lv_bipush (v := (-2)) hx hb dX0_addWant_89 (by decide +kernel) ?_
                  have hok : okW n0 PE SE FA LB (bcS se).toInt = false := by simp only [okW, decide_eq_false_iff_not]; omega
                  exact retI hx hb hr hlocks hS hP hD () (by rw [hok]; rfl) (by rw [hok]; rfl) dX0_addWant_91
                · refine lv_iconst (v := nI 1) hx hb dX0_addWant_62 (by decide) ?_
                  refine lv_goto (tgt := 67) hx hb dX0_addWant_63 (by decide) ?_
                  refine lv_istore (lv' := [(6, .int (nI 1)), (5, .int (bcS se)), (0, .ref (a 0)), (1, .int pe), (2, .int se), (3, .int fa), (4, .int lb)]) hx hb dX0_addWant_67 hl (by decide) rfl (fun ls hl => ?_)
                  refine lv_iload hx hb dX0_addWant_69 (lv_at hl 0 rfl) ?_
                  refine nv_if_eq (tgt := 89) (by omega) hx hb dX0_addWant_71 (by decide) (fun h => absurd h (by omega)) (fun _ => ?_)
                  have hok : okW n0 PE SE FA LB (bcS se).toInt = true := by simp only [okW, decide_eq_true_eq]; omega
                  obtain ⟨pen, h_pen, rfl⟩ := toN (x := pe) (by omega)
                  have t_pen : (nI pen).toInt = (pen : Int) := nI_toInt h_pen
                  have z_pen : PE.toNat = pen := by omega
                  obtain ⟨sen, h_sen, rfl⟩ := toN (x := se) (by omega)
                  have t_sen : (nI sen).toInt = (sen : Int) := nI_toInt h_sen
                  have z_sen : SE.toNat = sen := by omega
                  obtain ⟨fan, h_fan, rfl⟩ := toN (x := fa) (by omega)
                  have t_fan : (nI fan).toInt = (fan : Int) := nI_toInt h_fan
                  have z_fan : FA.toNat = fan := by omega
                  obtain ⟨lbn, h_lbn, rfl⟩ := toN (x := lb) (by omega)
                  have t_lbn : (nI lbn).toInt = (lbn : Int) := nI_toInt h_lbn
                  have z_lbn : LB.toNat = lbn := by omega
                  refine lv_aload_n hx hb dX0_addWant_74 rfl (lv_at hl 2 rfl) ?_
                  refine va_get (D := G) (ci := 0) (C := RX0) (T := TX0) (N := 9) hx hb hts iX0 hown hKK.1 hP 0 rfl rfl 4 (by decide) f29 (fun _ h9 => h9) rfl dX0_addWant_75 ?_
                  refine lv_iload_n hx hb dX0_addWant_78 rfl (lv_at hl 3 rfl) ?_
                  refine lv_iload_n hx hb dX0_addWant_79 rfl (lv_at hl 4 rfl) ?_
                  refine lv_iload_n hx hb dX0_addWant_80 rfl (lv_at hl 5 rfl) ?_
                  refine lv_iload hx hb dX0_addWant_81 (lv_at hl 6 rfl) ?_
                  refine rwI hP hD hS hA [9, 10] rfl (runV (As := [.int (nI pen), .int (nI sen), .int (nI fan), .int (nI lbn)]) (rest := []) (isC := [9, 10]) ⟨hx, hb, hml, hown, hts⟩ hKK hP hD rfl (by decide) (c_X4_add l G tA (a 5) (a 14) 5 4 n4 c4 pen sen fan lbn (by omega) (by omega) _) (cwV 4 hts gX0_addWant_X4_add rfl rfl rfl (by decide +kernel) ⟨Nat.le_of_ble_eq_true rfl, Nat.le_of_ble_eq_true rfl⟩) rfl rfl rfl rfl hl.1 rfl (lv_room (Nat.le_of_ble_eq_true rfl)) dX0_addWant_83 ⟨Nat.le_of_ble_eq_true rfl, Nat.le_of_ble_eq_true rfl⟩) (fun (_ : Unit) => [(a 0, .inr (0, [.ref (a 1), .ref (a 2), .ref (a 3), .ref (a 4), .ref (a 5), .ref (a 6), .ref (a 7), .ref (a 8), .ref (a 9)])), (a 1, .inr (2, [.ref (a 10), .int (nI 8), .int (nI 3), .int (nI n0)])), (a 10, .inl (tA 0, 40, .inl (nF c0))), (a 2, .inr (2, [.ref (a 11), .int (nI 10), .int (nI 4), .int (nI n1)])), (a 11, .inl (tA 0, 40, .inl (nF c1))), (a 3, .inr (2, [.ref (a 12), .int (nI 10), .int (nI 3), .int (nI n2)])), (a 12, .inl (tA 0, 40, .inl (nF c2))), (a 4, .inr (2, [.ref (a 13), .int (nI 8), .int (nI 3), .int (nI n3)])), (a 13, .inl (tA 0, 40, .inl (nF c3))), ((a 5), .inr (2, [.ref (a 14), .int (nI 5), .int (nI 4), .int (nI (okN true n4 5))])), ((a 14), .inl (tA 0, 40, .inl (nF (okC true n4 5 c4 pen sen fan lbn)))), (a 6, .inr (2, [.ref (a 15), .int (nI 8), .int (nI 2), .int (nI n5)])), (a 15, .inl (tA 0, 40, .inl (nF c5))), (a 7, .inl (tA 0, 5, .inl (nF hs))), (a 8, .inl (tA 0, 5, .inl (nF wf))), (a 9, .inl (tA 0, 40, .inl (nF wt)))]) (fun _ => rfl) (fun _ => rfl) (fun _ => rfl) (fun r_33 u_34 H locs q_35 hP hD hS => ?_)
                  subst q_35
                  refine lv_goto (tgt := 91) hx hb dX0_addWant_86 (by decide) ?_
                  exact retI hx hb hr hlocks hS hP hD () (by rw [hok, z_pen, z_sen, z_fan, z_lbn]) (by rw [hok]) dX0_addWant_91
            · have p_26 : ¬ (0 ≤ LB ∧ LB < 24) := p_26
              refine nv_if_eq (tgt := 66) (by omega) hx hb dX0_addWant_45 (by decide) (fun _ => ?_) (fun h => absurd h (by omega))
              refine lv_iconst (v := nI 0) hx hb dX0_addWant_66 (by decide) ?_
              refine lv_istore (lv' := [(6, .int (nI 0)), (5, .int (bcS se)), (0, .ref (a 0)), (1, .int pe), (2, .int se), (3, .int fa), (4, .int lb)]) hx hb dX0_addWant_67 hl (by decide) rfl (fun ls hl => ?_)
              refine lv_iload hx hb dX0_addWant_69 (lv_at hl 0 rfl) ?_
              refine nv_if_eq (tgt := 89) (by omega) hx hb dX0_addWant_71 (by decide) (fun _ => ?_) (fun h => absurd h (by omega))
              refine lv_bipush (v := (-2)) hx hb dX0_addWant_89 (by decide +kernel) ?_
              have hok : okW n0 PE SE FA LB (bcS se).toInt = false := by simp only [okW, decide_eq_false_iff_not]; omega
              exact retI hx hb hr hlocks hS hP hD () (by rw [hok]; rfl) (by rw [hok]; rfl) dX0_addWant_91
          · have p_21 : ¬ (0 ≤ FA ∧ FA < 24) := p_21
            refine nv_if_eq (tgt := 66) (by omega) hx hb dX0_addWant_37 (by decide) (fun _ => ?_) (fun h => absurd h (by omega))
            refine lv_iconst (v := nI 0) hx hb dX0_addWant_66 (by decide) ?_
            refine lv_istore (lv' := [(6, .int (nI 0)), (5, .int (bcS se)), (0, .ref (a 0)), (1, .int pe), (2, .int se), (3, .int fa), (4, .int lb)]) hx hb dX0_addWant_67 hl (by decide) rfl (fun ls hl => ?_)
            refine lv_iload hx hb dX0_addWant_69 (lv_at hl 0 rfl) ?_
            refine nv_if_eq (tgt := 89) (by omega) hx hb dX0_addWant_71 (by decide) (fun _ => ?_) (fun h => absurd h (by omega))
            refine lv_bipush (v := (-2)) hx hb dX0_addWant_89 (by decide +kernel) ?_
            have hok : okW n0 PE SE FA LB (bcS se).toInt = false := by simp only [okW, decide_eq_false_iff_not]; omega
            exact retI hx hb hr hlocks hS hP hD () (by rw [hok]; rfl) (by rw [hok]; rfl) dX0_addWant_91
    · have p_12 : ¬ (0 ≤ SE ∧ SE < ((2 ^ n0 : Nat) : Int)) := p_12
      refine nv_if_eq (tgt := 66) (by omega) hx hb dX0_addWant_18 (by decide) (fun _ => ?_) (fun h => absurd h (by omega))
      refine lv_iconst (v := nI 0) hx hb dX0_addWant_66 (by decide) ?_
      refine lv_istore (lv' := [(6, .int (nI 0)), (5, .int (bcS se)), (0, .ref (a 0)), (1, .int pe), (2, .int se), (3, .int fa), (4, .int lb)]) hx hb dX0_addWant_67 hl (by decide) rfl (fun ls hl => ?_)
      refine lv_iload hx hb dX0_addWant_69 (lv_at hl 0 rfl) ?_
      refine nv_if_eq (tgt := 89) (by omega) hx hb dX0_addWant_71 (by decide) (fun _ => ?_) (fun h => absurd h (by omega))
      refine lv_bipush (v := (-2)) hx hb dX0_addWant_89 (by decide +kernel) ?_
      have hok : okW n0 PE SE FA LB (bcS se).toInt = false := by simp only [okW, decide_eq_false_iff_not]; omega
      exact retI hx hb hr hlocks hS hP hD () (by rw [hok]; rfl) (by rw [hok]; rfl) dX0_addWant_91
  · have p_7 : ¬ (0 ≤ PE ∧ PE < 5) := p_7
    refine nv_if_eq (tgt := 66) (by omega) hx hb dX0_addWant_10 (by decide) (fun _ => ?_) (fun h => absurd h (by omega))
    refine lv_iconst (v := nI 0) hx hb dX0_addWant_66 (by decide) ?_
    refine lv_istore (lv' := [(6, .int (nI 0)), (5, .int (bcS se)), (0, .ref (a 0)), (1, .int pe), (2, .int se), (3, .int fa), (4, .int lb)]) hx hb dX0_addWant_67 hl (by decide) rfl (fun ls hl => ?_)
    refine lv_iload hx hb dX0_addWant_69 (lv_at hl 0 rfl) ?_
    refine nv_if_eq (tgt := 89) (by omega) hx hb dX0_addWant_71 (by decide) (fun _ => ?_) (fun h => absurd h (by omega))
    refine lv_bipush (v := (-2)) hx hb dX0_addWant_89 (by decide +kernel) ?_
    have hok : okW n0 PE SE FA LB (bcS se).toInt = false := by simp only [okW, decide_eq_false_iff_not]; omega
    exact retI hx hb hr hlocks hS hP hD () (by rw [hok]; rfl) (by rw [hok]; rfl) dX0_addWant_91

def okH (n0 : Nat) (P S V : Int) (C : Nat) : Bool := decide ((0 ≤ P ∧ P < 5) ∧ (0 ≤ S ∧ S < ((2 ^ n0 : Nat) : Int)) ∧ (0 ≤ V ∧ V < ((2 ^ n0 : Nat) : Int)) ∧ C = 0)
set_option maxHeartbeats 4000000 in
set_option maxRecDepth 100000 in
theorem c_X0_setWaits (l : Launch) (G : va_G) (tA : Nat → ClassId) (a : Nat → Nat) (n0 : Nat) (c0 : Nat → Nat) (n1 : Nat) (c1 : Nat → Nat) (n2 : Nat) (c2 : Nat → Nat) (n3 : Nat) (c3 : Nat → Nat) (n4 : Nat) (c4 : Nat → Nat) (n5 : Nat) (c5 : Nat → Nat) (hs : Nat → Nat) (wf : Nat → Nat) (wt : Nat → Nat) (pe : Int32) (PE : Int) (se : Int32) (SE : Int) (ve : Int32) (VE : Int) (hCW : CW n0 c0 n1 c1 n2 c2 n3 c3 n4 c4 n5 c5 hs wf wt) (hpe : pe.toInt = PE) (hse : se.toInt = SE) (hve : ve.toInt = VE) : CtI l yX0_setWaits wsX0_setWaits ({ frames := 3, cells := 0, slots := 0, locals := 61 }) G tA [.ref (a 0), .int pe, .int se, .int ve] ([(a 0, .inr (0, [.ref (a 1), .ref (a 2), .ref (a 3), .ref (a 4), .ref (a 5), .ref (a 6), .ref (a 7), .ref (a 8), .ref (a 9)])), (a 1, .inr (2, [.ref (a 10), .int (nI 8), .int (nI 3), .int (nI n0)])), (a 10, .inl (tA 0, 40, .inl (nF c0))), (a 2, .inr (2, [.ref (a 11), .int (nI 10), .int (nI 4), .int (nI n1)])), (a 11, .inl (tA 0, 40, .inl (nF c1))), (a 3, .inr (2, [.ref (a 12), .int (nI 10), .int (nI 3), .int (nI n2)])), (a 12, .inl (tA 0, 40, .inl (nF c2))), (a 4, .inr (2, [.ref (a 13), .int (nI 8), .int (nI 3), .int (nI n3)])), (a 13, .inl (tA 0, 40, .inl (nF c3))), (a 5, .inr (2, [.ref (a 14), .int (nI 5), .int (nI 4), .int (nI n4)])), (a 14, .inl (tA 0, 40, .inl (nF c4))), (a 6, .inr (2, [.ref (a 15), .int (nI 8), .int (nI 2), .int (nI n5)])), (a 15, .inl (tA 0, 40, .inl (nF c5))), (a 7, .inl (tA 0, 5, .inl (nF hs))), (a 8, .inl (tA 0, 5, .inl (nF wf))), (a 9, .inl (tA 0, 40, .inl (nF wt)))]) (fun (r : Int32) (_ : Unit) => r = (if okH n0 PE SE VE (SE.toNat &&& VE.toNat) = true then nI 1 else -2)) (fun (_ : Unit) => [(a 0, .inr (0, [.ref (a 1), .ref (a 2), .ref (a 3), .ref (a 4), .ref (a 5), .ref (a 6), .ref (a 7), .ref (a 8), .ref (a 9)])), (a 1, .inr (2, [.ref (a 10), .int (nI 8), .int (nI 3), .int (nI n0)])), (a 10, .inl (tA 0, 40, .inl (nF c0))), (a 2, .inr (2, [.ref (a 11), .int (nI 10), .int (nI 4), .int (nI n1)])), (a 11, .inl (tA 0, 40, .inl (nF c1))), (a 3, .inr (2, [.ref (a 12), .int (nI 10), .int (nI 3), .int (nI n2)])), (a 12, .inl (tA 0, 40, .inl (nF c2))), (a 4, .inr (2, [.ref (a 13), .int (nI 8), .int (nI 3), .int (nI n3)])), (a 13, .inl (tA 0, 40, .inl (nF c3))), (a 5, .inr (2, [.ref (a 14), .int (nI 5), .int (nI 4), .int (nI n4)])), (a 14, .inl (tA 0, 40, .inl (nF c4))), (a 6, .inr (2, [.ref (a 15), .int (nI 8), .int (nI 2), .int (nI n5)])), (a 15, .inl (tA 0, 40, .inl (nF c5))), (a 7, .inl (tA 0, 5, .inl (nF (if okH n0 PE SE VE (SE.toNat &&& VE.toNat) = true then updN hs PE.toNat SE.toNat else hs)))), (a 8, .inl (tA 0, 5, .inl (nF (if okH n0 PE SE VE (SE.toNat &&& VE.toNat) = true then updN wf PE.toNat VE.toNat else wf)))), (a 9, .inl (tA 0, 40, .inl (nF wt)))]) 0 0 := by
  refine enterI (cc := cX0_setWaits) (maxL := 4) (ret := (some .int)) (by decide) rfl (Nat.le_of_ble_eq_true rfl) ?_
  intro p0 e0 s m args below meth c0_ A ls hx hb hml hr hts hown hlocks hin hKK hA hP hD hl hS
  have hown : s.vm.findClass RX0 = some m.cls := hown
  have hl : lv_has ls 4 [(0, .ref (a 0)), (1, .int pe), (2, .int se), (3, .int ve)] := hl
  have n85 : (Cond.methodLinkNest "LentTerms$Counter" 85 ⟨"LentTerms", "isPerson", "(I)Z"⟩ "LentTerms").before args s = true := hKK.nest 17 rfl
  have f35 := hts (Cond.fieldLink RX0 35 "LentTerms$Counter" "has" "[I") (List.mem_of_getElem? (i := 1) rfl)
  have iX0 : ∀ w ∈ wsX00, w ∈ wsX0_setWaits := by decide +kernel
  have f39 := hts (Cond.fieldLink RX0 39 "LentTerms$Counter" "waitsFor" "[I") (List.mem_of_getElem? (i := 2) rfl)
  obtain ⟨⟨hn0, hn1, hn2, hn3, hn4, hn5⟩, ⟨hb0, hb1, hb2, hb3, hb4, hb5, hbh, hbw, hbt⟩, hv0, hv1, hv2, hv3, hv4, hv5, hv6, hv7⟩ := id hCW
  refine lv_iload_n hx hb dX0_setWaits_0 rfl (lv_at hl 1 rfl) ?_
  refine roI hP hD hS hA [] rfl (runSN (As := [.int pe]) (rest := []) (isC := []) ⟨hx, hb, hml, hown, hts⟩ hKK hP hD rfl (by decide) (c_X8_isPerson l G tA pe PE hpe _) ⟨va_cnB 1 hts gX0_setWaits_X8_isPerson_n85 rfl rfl rfl (va_Nw.of rfl n85) (hts (.initialized RX8) (List.mem_of_getElem? (i := 4) rfl)) (by decide +kernel) ⟨Nat.le_of_ble_eq_true rfl, Nat.le_of_ble_eq_true rfl⟩, (hts (Cond.static yX8_isPerson) (List.mem_of_getElem? (i := 3) rfl)), trivial⟩ rfl rfl hl.1 rfl (lv_room (Nat.le_of_ble_eq_true rfl)) dX0_setWaits_1 ⟨Nat.le_of_ble_eq_true rfl, Nat.le_of_ble_eq_true rfl⟩) (fun _ => rfl) (fun r_1 u_2 H locs q_3 hP hS => ?_)
  rcases q_3 with ⟨rfl, p_4⟩ | ⟨rfl, p_4⟩
  · have p_4 : 0 ≤ PE ∧ PE < 5 := p_4
    refine nv_if_eq (tgt := 29) (by omega) hx hb dX0_setWaits_4 (by decide) (fun h => absurd h (by omega)) (fun _ => ?_)
    refine lv_aload_n hx hb dX0_setWaits_7 rfl (lv_at hl 0 rfl) ?_
    refine lv_iload_n hx hb dX0_setWaits_8 rfl (lv_at hl 2 rfl) ?_
    refine roI hP hD hS hA [0, 1, 2, 3, 4, 5, 6, 7, 8, 9, 10, 11, 12, 13, 14, 15] rfl (runV (As := [.int se]) (rest := []) (isC := [0, 1, 2, 3, 4, 5, 6, 7, 8, 9, 10, 11, 12, 13, 14, 15]) ⟨hx, hb, hml, hown, hts⟩ hKK hP hD rfl (by decide) (c_X0_isSet l G tA a n0 c0 n1 c1 n2 c2 n3 c3 n4 c4 n5 c5 hs wf wt se SE (hCW) hse _) (cwV 1 hts gX0_setWaits_X0_isSet rfl rfl rfl (by decide +kernel) ⟨Nat.le_of_ble_eq_true rfl, Nat.le_of_ble_eq_true rfl⟩) rfl rfl rfl rfl hl.1 rfl (lv_room (Nat.le_of_ble_eq_true rfl)) dX0_setWaits_9 ⟨Nat.le_of_ble_eq_true rfl, Nat.le_of_ble_eq_true rfl⟩) (fun _ => rfl) (fun r_6 u_7 H locs q_8 hP hS => ?_)
    rcases q_8 with ⟨rfl, p_9⟩ | ⟨rfl, p_9⟩
    · have p_9 : 0 ≤ SE ∧ SE < ((2 ^ n0 : Nat) : Int) := p_9
      refine nv_if_eq (tgt := 29) (by omega) hx hb dX0_setWaits_12 (by decide) (fun h => absurd h (by omega)) (fun _ => ?_)
      refine lv_aload_n hx hb dX0_setWaits_15 rfl (lv_at hl 0 rfl) ?_
      refine lv_iload_n hx hb dX0_setWaits_16 rfl (lv_at hl 3 rfl) ?_
      refine roI hP hD hS hA [0, 1, 2, 3, 4, 5, 6, 7, 8, 9, 10, 11, 12, 13, 14, 15] rfl (runV (As := [.int ve]) (rest := []) (isC := [0, 1, 2, 3, 4, 5, 6, 7, 8, 9, 10, 11, 12, 13, 14, 15]) ⟨hx, hb, hml, hown, hts⟩ hKK hP hD rfl (by decide) (c_X0_isSet l G tA a n0 c0 n1 c1 n2 c2 n3 c3 n4 c4 n5 c5 hs wf wt ve VE (hCW) hve _) (cwV 1 hts gX0_setWaits_X0_isSet rfl rfl rfl (by decide +kernel) ⟨Nat.le_of_ble_eq_true rfl, Nat.le_of_ble_eq_true rfl⟩) rfl rfl rfl rfl hl.1 rfl (lv_room (Nat.le_of_ble_eq_true rfl)) dX0_setWaits_17 ⟨Nat.le_of_ble_eq_true rfl, Nat.le_of_ble_eq_true rfl⟩) (fun _ => rfl) (fun r_11 u_12 H locs q_13 hP hS => ?_)
      rcases q_13 with ⟨rfl, p_14⟩ | ⟨rfl, p_14⟩
      · have p_14 : 0 ≤ VE ∧ VE < ((2 ^ n0 : Nat) : Int) := p_14
        refine nv_if_eq (tgt := 29) (by omega) hx hb dX0_setWaits_20 (by decide) (fun h => absurd h (by omega)) (fun _ => ?_)
        obtain ⟨sn, h_sn, rfl⟩ := toN (x := se) (by omega)
        have t_sn : (nI sn).toInt = (sn : Int) := nI_toInt h_sn
        have z_sn : SE.toNat = sn := by omega
        obtain ⟨vn, h_vn, rfl⟩ := toN (x := ve) (by omega)
        have t_vn : (nI vn).toInt = (vn : Int) := nI_toInt h_vn
        have z_vn : VE.toNat = vn := by omega
        refine lv_iload_n hx hb dX0_setWaits_23 rfl (lv_at hl 2 rfl) ?_
        refine lv_iload_n hx hb dX0_setWaits_24 rfl (lv_at hl 3 rfl) ?_
        refine nv_iand hx hb dX0_setWaits_25 ?_
        have hand : sn &&& vn ≤ sn := Nat.and_le_left
        have h256 := p256 hn0
        refine nv_if_eq (tgt := 32) (by omega) hx hb dX0_setWaits_26 (by decide) (fun c_16 => ?_) (fun c_16 => ?_)
        · obtain ⟨pn, h_pn, rfl⟩ := toN (x := pe) (by omega)
          have t_pn : (nI pn).toInt = (pn : Int) := nI_toInt h_pn
          have z_pn : PE.toNat = pn := by omega
          have hok : okH n0 PE SE VE (SE.toNat &&& VE.toNat) = true := by simp only [okH, decide_eq_true_eq, z_sn, z_vn]; omega
          refine lv_aload_n hx hb dX0_setWaits_32 rfl (lv_at hl 0 rfl) ?_
          refine va_get (D := G) (ci := 0) (C := RX0) (T := TX0) (N := 9) hx hb hts iX0 hown hKK.1 hP 0 rfl rfl 6 (by decide) f35 (fun _ h9 => h9) rfl dX0_setWaits_33 ?_
          refine lv_iload_n hx hb dX0_setWaits_36 rfl (lv_at hl 1 rfl) ?_
          refine lv_iload_n hx hb dX0_setWaits_37 rfl (lv_at hl 2 rfl) ?_
          refine nv_iast (i := pn) hx hb hKK.1 hP hD hS 13 0 rfl rfl (by omega) (by decide) dX0_setWaits_38 [(a 0, .inr (0, [.ref (a 1), .ref (a 2), .ref (a 3), .ref (a 4), .ref (a 5), .ref (a 6), .ref (a 7), .ref (a 8), .ref (a 9)])), (a 1, .inr (2, [.ref (a 10), .int (nI 8), .int (nI 3), .int (nI n0)])), (a 10, .inl (tA 0, 40, .inl (nF c0))), (a 2, .inr (2, [.ref (a 11), .int (nI 10), .int (nI 4), .int (nI n1)])), (a 11, .inl (tA 0, 40, .inl (nF c1))), (a 3, .inr (2, [.ref (a 12), .int (nI 10), .int (nI 3), .int (nI n2)])), (a 12, .inl (tA 0, 40, .inl (nF c2))), (a 4, .inr (2, [.ref (a 13), .int (nI 8), .int (nI 3), .int (nI n3)])), (a 13, .inl (tA 0, 40, .inl (nF c3))), (a 5, .inr (2, [.ref (a 14), .int (nI 5), .int (nI 4), .int (nI n4)])), (a 14, .inl (tA 0, 40, .inl (nF c4))), (a 6, .inr (2, [.ref (a 15), .int (nI 8), .int (nI 2), .int (nI n5)])), (a 15, .inl (tA 0, 40, .inl (nF c5))), (a 7, .inl (tA 0, 5, .inl (nF (updN hs pn sn)))), (a 8, .inl (tA 0, 5, .inl (nF wf))), (a 9, .inl (tA 0, 40, .inl (nF wt)))] rfl (fun H locs hP hD hS => ?_)
          have B_17 := updN_lt hbh pn (show sn < 1048576 from by omega)
          refine lv_aload_n hx hb dX0_setWaits_39 rfl (lv_at hl 0 rfl) ?_
          refine va_get (D := G) (ci := 0) (C := RX0) (T := TX0) (N := 9) hx hb hts iX0 hown hKK.1 hP 0 rfl rfl 7 (by decide) f39 (fun _ h9 => h9) rfl dX0_setWaits_40 ?_
          refine lv_iload_n hx hb dX0_setWaits_43 rfl (lv_at hl 1 rfl) ?_
          refine lv_iload_n hx hb dX0_setWaits_44 rfl (lv_at hl 3 rfl) ?_
          refine nv_iast (i := pn) hx hb hKK.1 hP hD hS 14 0 rfl rfl (by omega) (by decide) dX0_setWaits_45 [(a 0, .inr (0, [.ref (a 1), .ref (a 2), .ref (a 3), .ref (a 4), .ref (a 5), .ref (a 6), .ref (a 7), .ref (a 8), .ref (a 9)])), (a 1, .inr (2, [.ref (a 10), .int (nI 8), .int (nI 3), .int (nI n0)])), (a 10, .inl (tA 0, 40, .inl (nF c0))), (a 2, .inr (2, [.ref (a 11), .int (nI 10), .int (nI 4), .int (nI n1)])), (a 11, .inl (tA 0, 40, .inl (nF c1))), (a 3, .inr (2, [.ref (a 12), .int (nI 10), .int (nI 3), .int (nI n2)])), (a 12, .inl (tA 0, 40, .inl (nF c2))), (a 4, .inr (2, [.ref (a 13), .int (nI 8), .int (nI 3), .int (nI n3)])), (a 13, .inl (tA 0, 40, .inl (nF c3))), (a 5, .inr (2, [.ref (a 14), .int (nI 5), .int (nI 4), .int (nI n4)])), (a 14, .inl (tA 0, 40, .inl (nF c4))), (a 6, .inr (2, [.ref (a 15), .int (nI 8), .int (nI 2), .int (nI n5)])), (a 15, .inl (tA 0, 40, .inl (nF c5))), (a 7, .inl (tA 0, 5, .inl (nF (updN hs pn sn)))), (a 8, .inl (tA 0, 5, .inl (nF (updN wf pn vn)))), (a 9, .inl (tA 0, 40, .inl (nF wt)))] rfl (fun H locs hP hD hS => ?_)
          have B_18 := updN_lt hbw pn (show vn < 1048576 from by omega)
          refine lv_iconst (v := nI 1) hx hb dX0_setWaits_46 (by decide) ?_
          exact retI hx hb hr hlocks hS hP hD () (by rw [hok]; simp only [eq_self, if_true, z_pn, z_sn, z_vn]) (by rw [hok, if_pos rfl]) dX0_setWaits_47
        · refine lv_bipush (v := (-2)) hx hb dX0_setWaits_29 (by decide +kernel) ?_
          have hok : okH n0 PE SE VE (SE.toNat &&& VE.toNat) = false := by first | (simp only [okH, decide_eq_false_iff_not]; omega) | (simp only [okH, decide_eq_false_iff_not, z_sn, z_vn]; omega)
          exact retI hx hb hr hlocks hS hP hD () (by simp only [hok, if_false, Bool.false_eq_true]) (by rw [hok]; rfl) dX0_setWaits_31
      · have p_14 : ¬ (0 ≤ VE ∧ VE < ((2 ^ n0 : Nat) : Int)) := p_14
        refine nv_if_eq (tgt := 29) (by omega) hx hb dX0_setWaits_20 (by decide) (fun _ => ?_) (fun h => absurd h (by omega))
        refine lv_bipush (v := (-2)) hx hb dX0_setWaits_29 (by decide +kernel) ?_
        have hok : okH n0 PE SE VE (SE.toNat &&& VE.toNat) = false := by first | (simp only [okH, decide_eq_false_iff_not]; omega) | (simp only [okH, decide_eq_false_iff_not, z_sn, z_vn]; omega)
        exact retI hx hb hr hlocks hS hP hD () (by simp only [hok, if_false, Bool.false_eq_true]) (by rw [hok]; rfl) dX0_setWaits_31
    · have p_9 : ¬ (0 ≤ SE ∧ SE < ((2 ^ n0 : Nat) : Int)) := p_9
      refine nv_if_eq (tgt := 29) (by omega) hx hb dX0_setWaits_12 (by decide) (fun _ => ?_) (fun h => absurd h (by omega))
      refine lv_bipush (v := (-2)) hx hb dX0_setWaits_29 (by decide +kernel) ?_
      have hok : okH n0 PE SE VE (SE.toNat &&& VE.toNat) = false := by first | (simp only [okH, decide_eq_false_iff_not]; omega) | (simp only [okH, decide_eq_false_iff_not, z_sn, z_vn]; omega)
      exact retI hx hb hr hlocks hS hP hD () (by simp only [hok, if_false, Bool.false_eq_true]) (by rw [hok]; rfl) dX0_setWaits_31
  · have p_4 : ¬ (0 ≤ PE ∧ PE < 5) := p_4
    refine nv_if_eq (tgt := 29) (by omega) hx hb dX0_setWaits_4 (by decide) (fun _ => ?_) (fun h => absurd h (by omega))
    refine lv_bipush (v := (-2)) hx hb dX0_setWaits_29 (by decide +kernel) ?_
    have hok : okH n0 PE SE VE (SE.toNat &&& VE.toNat) = false := by first | (simp only [okH, decide_eq_false_iff_not]; omega) | (simp only [okH, decide_eq_false_iff_not, z_sn, z_vn]; omega)
    exact retI hx hb hr hlocks hS hP hD () (by simp only [hok, if_false, Bool.false_eq_true]) (by rw [hok]; rfl) dX0_setWaits_31

def okV (n0 : Nat) (P T V : Int) : Bool := decide ((0 ≤ P ∧ P < 5) ∧ (0 ≤ T ∧ T < (n0 : Int)) ∧ 0 ≤ V ∧ V ≤ 99)
set_option maxHeartbeats 4000000 in
set_option maxRecDepth 100000 in
theorem c_X0_setWorth (l : Launch) (G : va_G) (tA : Nat → ClassId) (a : Nat → Nat) (n0 : Nat) (c0 : Nat → Nat) (n1 : Nat) (c1 : Nat → Nat) (n2 : Nat) (c2 : Nat → Nat) (n3 : Nat) (c3 : Nat → Nat) (n4 : Nat) (c4 : Nat → Nat) (n5 : Nat) (c5 : Nat → Nat) (hs : Nat → Nat) (wf : Nat → Nat) (wt : Nat → Nat) (pe : Int32) (PE : Int) (te : Int32) (TE : Int) (ve : Int32) (VE : Int) (hCW : CW n0 c0 n1 c1 n2 c2 n3 c3 n4 c4 n5 c5 hs wf wt) (hpe : pe.toInt = PE) (hte : te.toInt = TE) (hve : ve.toInt = VE) : CtI l yX0_setWorth wsX0_setWorth ({ frames := 2, cells := 0, slots := 0, locals := 43 }) G tA [.ref (a 0), .int pe, .int te, .int ve] ([(a 0, .inr (0, [.ref (a 1), .ref (a 2), .ref (a 3), .ref (a 4), .ref (a 5), .ref (a 6), .ref (a 7), .ref (a 8), .ref (a 9)])), (a 1, .inr (2, [.ref (a 10), .int (nI 8), .int (nI 3), .int (nI n0)])), (a 10, .inl (tA 0, 40, .inl (nF c0))), (a 2, .inr (2, [.ref (a 11), .int (nI 10), .int (nI 4), .int (nI n1)])), (a 11, .inl (tA 0, 40, .inl (nF c1))), (a 3, .inr (2, [.ref (a 12), .int (nI 10), .int (nI 3), .int (nI n2)])), (a 12, .inl (tA 0, 40, .inl (nF c2))), (a 4, .inr (2, [.ref (a 13), .int (nI 8), .int (nI 3), .int (nI n3)])), (a 13, .inl (tA 0, 40, .inl (nF c3))), (a 5, .inr (2, [.ref (a 14), .int (nI 5), .int (nI 4), .int (nI n4)])), (a 14, .inl (tA 0, 40, .inl (nF c4))), (a 6, .inr (2, [.ref (a 15), .int (nI 8), .int (nI 2), .int (nI n5)])), (a 15, .inl (tA 0, 40, .inl (nF c5))), (a 7, .inl (tA 0, 5, .inl (nF hs))), (a 8, .inl (tA 0, 5, .inl (nF wf))), (a 9, .inl (tA 0, 40, .inl (nF wt)))]) (fun (r : Int32) (_ : Unit) => r = (if okV n0 PE TE VE = true then nI (wt (PE.toNat * 8 + TE.toNat)) else -2)) (fun (_ : Unit) => [(a 0, .inr (0, [.ref (a 1), .ref (a 2), .ref (a 3), .ref (a 4), .ref (a 5), .ref (a 6), .ref (a 7), .ref (a 8), .ref (a 9)])), (a 1, .inr (2, [.ref (a 10), .int (nI 8), .int (nI 3), .int (nI n0)])), (a 10, .inl (tA 0, 40, .inl (nF c0))), (a 2, .inr (2, [.ref (a 11), .int (nI 10), .int (nI 4), .int (nI n1)])), (a 11, .inl (tA 0, 40, .inl (nF c1))), (a 3, .inr (2, [.ref (a 12), .int (nI 10), .int (nI 3), .int (nI n2)])), (a 12, .inl (tA 0, 40, .inl (nF c2))), (a 4, .inr (2, [.ref (a 13), .int (nI 8), .int (nI 3), .int (nI n3)])), (a 13, .inl (tA 0, 40, .inl (nF c3))), (a 5, .inr (2, [.ref (a 14), .int (nI 5), .int (nI 4), .int (nI n4)])), (a 14, .inl (tA 0, 40, .inl (nF c4))), (a 6, .inr (2, [.ref (a 15), .int (nI 8), .int (nI 2), .int (nI n5)])), (a 15, .inl (tA 0, 40, .inl (nF c5))), (a 7, .inl (tA 0, 5, .inl (nF hs))), (a 8, .inl (tA 0, 5, .inl (nF wf))), (a 9, .inl (tA 0, 40, .inl (nF (if okV n0 PE TE VE = true then updN wt (PE.toNat * 8 + TE.toNat) VE.toNat else wt))))]) 0 0 := by
  refine enterI (cc := cX0_setWorth) (maxL := 5) (ret := (some .int)) (by decide) rfl (Nat.le_of_ble_eq_true rfl) ?_
  intro p0 e0 s m args below meth c0_ A ls hx hb hml hr hts hown hlocks hin hKK hA hP hD hl hS
  have hown : s.vm.findClass RX0 = some m.cls := hown
  have hl : lv_has ls 5 [(0, .ref (a 0)), (1, .int pe), (2, .int te), (3, .int ve)] := hl
  have n85 : (Cond.methodLinkNest "LentTerms$Counter" 85 ⟨"LentTerms", "isPerson", "(I)Z"⟩ "LentTerms").before args s = true := hKK.nest 17 rfl
  have f14 := hts (Cond.fieldLink RX0 14 "LentTerms$Counter" "terms" "LLentTerms$Rows;") (List.mem_of_getElem? (i := 1) rfl)
  have iX0 : ∀ w ∈ wsX00, w ∈ wsX0_setWorth := by decide +kernel
  have f42 := hts (Cond.fieldLink RX0 42 "LentTerms$Counter" "worth" "[I") (List.mem_of_getElem? (i := 2) rfl)
  obtain ⟨⟨hn0, hn1, hn2, hn3, hn4, hn5⟩, ⟨hb0, hb1, hb2, hb3, hb4, hb5, hbh, hbw, hbt⟩, hv0, hv1, hv2, hv3, hv4, hv5, hv6, hv7⟩ := id hCW
  refine lv_iload_n hx hb dX0_setWorth_0 rfl (lv_at hl 1 rfl) ?_
  refine roI hP hD hS hA [] rfl (runSN (As := [.int pe]) (rest := []) (isC := []) ⟨hx, hb, hml, hown, hts⟩ hKK hP hD rfl (by decide) (c_X8_isPerson l G tA pe PE hpe _) ⟨va_cnB 1 hts gX0_setWorth_X8_isPerson_n85 rfl rfl rfl (va_Nw.of rfl n85) (hts (.initialized RX8) (List.mem_of_getElem? (i := 4) rfl)) (by decide +kernel) ⟨Nat.le_of_ble_eq_true rfl, Nat.le_of_ble_eq_true rfl⟩, (hts (Cond.static yX8_isPerson) (List.mem_of_getElem? (i := 3) rfl)), trivial⟩ rfl rfl hl.1 rfl (lv_room (Nat.le_of_ble_eq_true rfl)) dX0_setWorth_1 ⟨Nat.le_of_ble_eq_true rfl, Nat.le_of_ble_eq_true rfl⟩) (fun _ => rfl) (fun r_1 u_2 H locs q_3 hP hS => ?_)
  rcases q_3 with ⟨rfl, p_4⟩ | ⟨rfl, p_4⟩
  · have p_4 : 0 ≤ PE ∧ PE < 5 := p_4
    refine nv_if_eq (tgt := 28) (by omega) hx hb dX0_setWorth_4 (by decide) (fun h => absurd h (by omega)) (fun _ => ?_)
    refine lv_aload_n hx hb dX0_setWorth_7 rfl (lv_at hl 0 rfl) ?_
    refine va_get (D := G) (ci := 0) (C := RX0) (T := TX0) (N := 9) hx hb hts iX0 hown hKK.1 hP 0 rfl rfl 0 (by decide) f14 (fun _ h9 => h9) rfl dX0_setWorth_8 ?_
    refine lv_iload_n hx hb dX0_setWorth_11 rfl (lv_at hl 2 rfl) ?_
    refine roI hP hD hS hA [1, 2] rfl (runV (As := [.int te]) (rest := []) (isC := [1, 2]) ⟨hx, hb, hml, hown, hts⟩ hKK hP hD rfl (by decide) (c_X4_holds l G tA (a 1) (a 10) 8 3 n0 c0 te TE hte (by omega) _) (cwV 1 hts gX0_setWorth_X4_holds rfl rfl rfl (by decide +kernel) ⟨Nat.le_of_ble_eq_true rfl, Nat.le_of_ble_eq_true rfl⟩) rfl rfl rfl rfl hl.1 rfl (lv_room (Nat.le_of_ble_eq_true rfl)) dX0_setWorth_12 ⟨Nat.le_of_ble_eq_true rfl, Nat.le_of_ble_eq_true rfl⟩) (fun _ => rfl) (fun r_6 u_7 H locs q_8 hP hS => ?_)
    rcases q_8 with ⟨rfl, p_9⟩ | ⟨rfl, p_9⟩
    · have p_9 : 0 ≤ TE ∧ TE < (n0 : Int) := p_9
      refine nv_if_eq (tgt := 28) (by omega) hx hb dX0_setWorth_15 (by decide) (fun h => absurd h (by omega)) (fun _ => ?_)
      refine lv_iload_n hx hb dX0_setWorth_18 rfl (lv_at hl 3 rfl) ?_
      refine zv_if_lt (tgt := 28) (X := VE) hve hx hb dX0_setWorth_19 (by decide) (fun c_11 => ?_) (fun c_11 => ?_)
      · refine lv_bipush (v := (-2)) hx hb dX0_setWorth_28 (by decide +kernel) ?_
        have hok : okV n0 PE TE VE = false := by first | (simp only [okV, decide_eq_false_iff_not]; omega) | (simp only [okV, decide_eq_false_iff_not, z_sn, z_vn]; omega)
        exact retI hx hb hr hlocks hS hP hD () (by simp only [hok, if_false, Bool.false_eq_true]) (by rw [hok]; rfl) dX0_setWorth_30
      · refine lv_iload_n hx hb dX0_setWorth_22 rfl (lv_at hl 3 rfl) ?_
        refine lv_bipush (v := nI 99) hx hb dX0_setWorth_23 (by decide +kernel) ?_
        refine zv_icmp_le (tgt := 31) (X := VE) (Y := (99 : Int)) hve rfl hx hb dX0_setWorth_25 (by decide) (fun c_12 => ?_) (fun c_12 => ?_)
        · have hok : okV n0 PE TE VE = true := by simp only [okV, decide_eq_true_eq]; omega
          obtain ⟨pn, h_pn, rfl⟩ := toN (x := pe) (by omega)
          have t_pn : (nI pn).toInt = (pn : Int) := nI_toInt h_pn
          have z_pn : PE.toNat = pn := by omega
          obtain ⟨tn, h_tn, rfl⟩ := toN (x := te) (by omega)
          have t_tn : (nI tn).toInt = (tn : Int) := nI_toInt h_tn
          have z_tn : TE.toNat = tn := by omega
          obtain ⟨vn, h_vn, rfl⟩ := toN (x := ve) (by omega)
          have t_vn : (nI vn).toInt = (vn : Int) := nI_toInt h_vn
          have z_vn : VE.toNat = vn := by omega
          refine lv_aload_n hx hb dX0_setWorth_31 rfl (lv_at hl 0 rfl) ?_
          refine lv_iload_n hx hb dX0_setWorth_32 rfl (lv_at hl 1 rfl) ?_
          refine lv_iload_n hx hb dX0_setWorth_33 rfl (lv_at hl 2 rfl) ?_
          refine roI hP hD hS hA [0, 1, 2, 3, 4, 5, 6, 7, 8, 9, 10, 11, 12, 13, 14, 15] rfl (runV (As := [.int (nI pn), .int (nI tn)]) (rest := []) (isC := [0, 1, 2, 3, 4, 5, 6, 7, 8, 9, 10, 11, 12, 13, 14, 15]) ⟨hx, hb, hml, hown, hts⟩ hKK hP hD rfl (by decide) (c_X0_worthOf l G tA a n0 c0 n1 c1 n2 c2 n3 c3 n4 c4 n5 c5 hs wf wt pn tn (hCW) (by first | assumption | omega) (by first | assumption | omega) _) (cwV 2 hts gX0_setWorth_X0_worthOf rfl rfl rfl (by decide +kernel) ⟨Nat.le_of_ble_eq_true rfl, Nat.le_of_ble_eq_true rfl⟩) rfl rfl rfl rfl hl.1 rfl (lv_room (Nat.le_of_ble_eq_true rfl)) dX0_setWorth_34 ⟨Nat.le_of_ble_eq_true rfl, Nat.le_of_ble_eq_true rfl⟩) (fun _ => rfl) (fun r_13 u_14 H locs q_15 hP hS => ?_)
          obtain ⟨rfl, e_16⟩ := q_15
          have e_16 : (if pn < 5 ∧ tn < n0 then wt (pn * 8 + tn) else 0) < 1048576 := e_16
          refine nv_top (y := wt (pn * 8 + tn)) (congrArg nI (if_pos ⟨by omega, by omega⟩)) ?_
          refine lv_istore (lv' := [(4, .int (nI (wt (pn * 8 + tn)))), (0, .ref (a 0)), (1, .int (nI pn)), (2, .int (nI tn)), (3, .int (nI vn))]) hx hb dX0_setWorth_37 hl (by decide) rfl (fun ls hl => ?_)
          refine lv_aload_n hx hb dX0_setWorth_39 rfl (lv_at hl 1 rfl) ?_
          refine va_get (D := G) (ci := 0) (C := RX0) (T := TX0) (N := 9) hx hb hts iX0 hown hKK.1 hP 0 rfl rfl 8 (by decide) f42 (fun _ h9 => h9) rfl dX0_setWorth_40 ?_
          refine lv_iload_n hx hb dX0_setWorth_43 rfl (lv_at hl 2 rfl) ?_
          refine lv_bipush (v := nI 8) hx hb dX0_setWorth_44 (by decide +kernel) ?_
          refine nv_imul hx hb dX0_setWorth_46 ?_
          refine lv_iload_n hx hb dX0_setWorth_47 rfl (lv_at hl 3 rfl) ?_
          refine nv_iadd hx hb dX0_setWorth_48 ?_
          refine lv_iload_n hx hb dX0_setWorth_49 rfl (lv_at hl 4 rfl) ?_
          refine nv_iast (i := (pn * 8) + tn) hx hb hKK.1 hP hD hS 15 0 rfl rfl (by omega) (by decide) dX0_setWorth_50 [(a 0, .inr (0, [.ref (a 1), .ref (a 2), .ref (a 3), .ref (a 4), .ref (a 5), .ref (a 6), .ref (a 7), .ref (a 8), .ref (a 9)])), (a 1, .inr (2, [.ref (a 10), .int (nI 8), .int (nI 3), .int (nI n0)])), (a 10, .inl (tA 0, 40, .inl (nF c0))), (a 2, .inr (2, [.ref (a 11), .int (nI 10), .int (nI 4), .int (nI n1)])), (a 11, .inl (tA 0, 40, .inl (nF c1))), (a 3, .inr (2, [.ref (a 12), .int (nI 10), .int (nI 3), .int (nI n2)])), (a 12, .inl (tA 0, 40, .inl (nF c2))), (a 4, .inr (2, [.ref (a 13), .int (nI 8), .int (nI 3), .int (nI n3)])), (a 13, .inl (tA 0, 40, .inl (nF c3))), (a 5, .inr (2, [.ref (a 14), .int (nI 5), .int (nI 4), .int (nI n4)])), (a 14, .inl (tA 0, 40, .inl (nF c4))), (a 6, .inr (2, [.ref (a 15), .int (nI 8), .int (nI 2), .int (nI n5)])), (a 15, .inl (tA 0, 40, .inl (nF c5))), (a 7, .inl (tA 0, 5, .inl (nF hs))), (a 8, .inl (tA 0, 5, .inl (nF wf))), (a 9, .inl (tA 0, 40, .inl (nF (updN wt ((pn * 8) + tn) vn))))] rfl (fun H locs hP hD hS => ?_)
          have B_17 := updN_lt hbt ((pn * 8) + tn) (show vn < 1048576 from by omega)
          refine lv_iload hx hb dX0_setWorth_51 (lv_at hl 0 rfl) ?_
          exact retI hx hb hr hlocks hS hP hD () (by rw [hok]; simp only [eq_self, if_true, z_pn, z_tn, z_vn]) (by rw [hok, if_pos rfl, z_pn, z_tn]) dX0_setWorth_53
        · refine lv_bipush (v := (-2)) hx hb dX0_setWorth_28 (by decide +kernel) ?_
          have hok : okV n0 PE TE VE = false := by first | (simp only [okV, decide_eq_false_iff_not]; omega) | (simp only [okV, decide_eq_false_iff_not, z_sn, z_vn]; omega)
          exact retI hx hb hr hlocks hS hP hD () (by simp only [hok, if_false, Bool.false_eq_true]) (by rw [hok]; rfl) dX0_setWorth_30
    · have p_9 : ¬ (0 ≤ TE ∧ TE < (n0 : Int)) := p_9
      refine nv_if_eq (tgt := 28) (by omega) hx hb dX0_setWorth_15 (by decide) (fun _ => ?_) (fun h => absurd h (by omega))
      refine lv_bipush (v := (-2)) hx hb dX0_setWorth_28 (by decide +kernel) ?_
      have hok : okV n0 PE TE VE = false := by first | (simp only [okV, decide_eq_false_iff_not]; omega) | (simp only [okV, decide_eq_false_iff_not, z_sn, z_vn]; omega)
      exact retI hx hb hr hlocks hS hP hD () (by simp only [hok, if_false, Bool.false_eq_true]) (by rw [hok]; rfl) dX0_setWorth_30
  · have p_4 : ¬ (0 ≤ PE ∧ PE < 5) := p_4
    refine nv_if_eq (tgt := 28) (by omega) hx hb dX0_setWorth_4 (by decide) (fun _ => ?_) (fun h => absurd h (by omega))
    refine lv_bipush (v := (-2)) hx hb dX0_setWorth_28 (by decide +kernel) ?_
    have hok : okV n0 PE TE VE = false := by first | (simp only [okV, decide_eq_false_iff_not]; omega) | (simp only [okV, decide_eq_false_iff_not, z_sn, z_vn]; omega)
    exact retI hx hb hr hlocks hS hP hD () (by simp only [hok, if_false, Bool.false_eq_true]) (by rw [hok]; rfl) dX0_setWorth_30
