/-! THE LAW: its loop -/
section LIBI
variable {p : Program} {l : Launch} {e : Env} {R : Room} {s : State} {m : MethodId} {args : Array Value} {below : List Frame} {meth : Method} {c : Code} {H : Heap} {locs : List Loc} {cells slots : Nat} {rest : List Value} {g : JFrame} {cc : ByteArray}
variable {G : va_G} {tA : Nat → ClassId} {ad av : Nat → Nat} {na : Nat} {ws wc : va_W} {A0 : Nat → Prop} {nL mc ms n index maxL : Nat} {y : MethodName} {bytes : ByteArray} {ret : Option FieldType} {wsc : List Cond} {rm : Room} {Qc : Array Value → State → Outcome → State → Prop} {free : Addr → Prop} {Ts : List Cond} {own C host : String} {b ci N : Nat} {T : u_T} {fs : List Value} {As : List Value}
theorem runIs (S : CallFix p m c cc nL s args Ts own) (hk : kk G tA s) (hP : va_P G vwCl ws H) (hD : va_D A0 ws) {isC : List Nat} (hC : isC.map (fun i => ws[i]?) = wc.map some) (hnd : isC.Nodup) (hE : evS ad av na A0 s s.heap) (hS : va_S A0 s.heap H locs) (hA : ∀ q, s.heap.size ≤ q → A0 q) (hM : Met l y wsc rm (va_Pc (.ref b :: As) (cPs G tA ad av na wc H.size)) Qc mc ms free) (cw : CallB R s args own index y bytes maxL none wsc rm mc ms n ∧ y.name = "<init>" ∧ (Cond.instanceMethod y).before args s = true) (hg : g.method = m) (hn : As.length = n) (hsize : g.locals.size = nL) (hstack : g.stack = As.reverse ++ .ref b :: rest) (hW : 2 * g.monitorRoom + (rest.map fun v => v.category).sum ≤ 8) (hdg : decode cc g.pc = .ok (.invokespecial index, 3)) (hf : cells + mc ≤ R.cells ∧ slots + ms ≤ R.slots) : va_Run p l e R s m args below meth c H locs cells slots mc ms g rest (Qc (Value.ref b :: As).toArray) free :=
  va_runI S hM cw ⟨cPs_blind, fun U hU hW1 => ⟨rfl, ⟨by rw [hU], by rw [hU]; exact P_of hP hC, hk.warm hW1, D_of hD hC hnd (fun _ _ => trivial)⟩, by rw [hU]; exact evS_call hE hS (F_of hD hS hA hC) hW1⟩⟩ hg hn hsize hstack hW hdg hf
end LIBI
theorem and31 (x : Int32) : ∃ k, k < 32 ∧ x &&& nI 31 = nI k := by
  refine ⟨x.toBitVec.toNat % 32, Nat.mod_lt _ (by decide), ?_⟩
  apply Int32.toBitVec_inj.mp
  rw [Int32.toBitVec_and]
  apply BitVec.eq_of_toNat_eq
  rw [BitVec.toNat_and]
  have e : (nI 31).toBitVec.toNat = 2 ^ 5 - 1 := by decide
  rw [e, Nat.and_two_pow_sub_one_eq_mod]
  have h : (nI (x.toBitVec.toNat % 32)).toBitVec.toNat = x.toBitVec.toNat % 32 % 2 ^ 32 := rfl
  rw [h]
  omega
set_option maxHeartbeats 4000000 in
set_option maxRecDepth 100000 in
theorem law_turn {p : Program} {l : Launch} {e : Env} {s : State} {m : MethodId} {args : Array Value} {below : List Frame} {meth : Method} {c : Code} {Q : State → Prop} {G : va_G} {tA : Nat → ClassId} {A : Nat → Prop} {H : Heap} {locs : List Loc} {ls : Array Slot} {cells slots sb0 L i r : Nat} {xs : Nat → Int32} {o b ad av : Nat → Nat} {na : Nat} (hx : p.tables.exec = Jvm.exec) (hb : c.code = cL_law) (hml : c.maxLocals = 4) (hown : s.vm.findClass RL = some m.cls) (hts : ∀ w ∈ lw_tbl, w.before args s = true) (hKK : kk G tA s) (hX : va_X sb0 L xs s s.heap) (hbl : sb0 < s.heap.size) (hbA : ¬ A sb0) (hA : ∀ q, s.heap.size ≤ q → A q) (hL : L < 2 ^ 31) (hi5 : i + 5 ≤ L) (hrm : cells + 16 ≤ room_1.cells ∧ slots + 323 ≤ room_1.slots) (hE : evS ad av na A s s.heap) (hr32 : r < 32) (hLI : LI G tA A o b H) (hS : va_S A s.heap H locs) (hl : lv_has ls 4 [(0, .ref sb0), (1, .ref (o 0)), (2, .ref (b 0)), (3, .int (nI i))]) (k : ∀ (H : Heap) (locs : List Loc), LI G tA A o b H → va_S A s.heap H locs → W p l e room_1 s m args below meth c H locs (cells + 16) (slots + 323) Q (F0 m 1104 ls [])) : W p l e room_1 s m args below meth c H locs cells slots Q (F0 m 32 ls [.int (nI r)]) := by
  rcases (show r = 0 ∨ r = 1 ∨ r = 2 ∨ r = 3 ∨ r = 4 ∨ r = 5 ∨ r = 6 ∨ r = 7 ∨ r = 8 ∨ r = 9 ∨ r = 10 ∨ r = 11 ∨ r = 12 ∨ r = 13 ∨ r = 14 ∨ r = 15 ∨ r = 16 ∨ r = 17 ∨ r = 18 ∨ r = 19 ∨ r = 20 ∨ r = 21 ∨ r = 22 ∨ r = 23 ∨ r = 24 ∨ r = 25 ∨ r = 26 ∨ r = 27 ∨ r = 28 ∨ r = 29 ∨ r = 30 ∨ r = 31 by omega) with h9 | h9 | h9 | h9 | h9 | h9 | h9 | h9 | h9 | h9 | h9 | h9 | h9 | h9 | h9 | h9 | h9 | h9 | h9 | h9 | h9 | h9 | h9 | h9 | h9 | h9 | h9 | h9 | h9 | h9 | h9 | h9
  · subst h9; refine nv_tin (v := 0) (tgt := 176) hx hb dL_law_32 (by decide) (by decide) (by decide) rfl (by decide) ?_; exact w_k0 hx hb hml hown hts hKK hX hbl hbA hA hL hi5 hrm hLI hS hl k
  · subst h9; refine nv_tin (v := 1) (tgt := 219) hx hb dL_law_32 (by decide) (by decide) (by decide) rfl (by decide) ?_; exact w_k1 hx hb hml hown hts hKK hX hbl hbA hA hL hi5 hrm hLI hS hl k
  · subst h9; refine nv_tin (v := 2) (tgt := 252) hx hb dL_law_32 (by decide) (by decide) (by decide) rfl (by decide) ?_; exact w_k2 hx hb hml hown hts hKK hX hbl hbA hA hL hi5 hrm hLI hS hl k
  · subst h9; refine nv_tin (v := 3) (tgt := 285) hx hb dL_law_32 (by decide) (by decide) (by decide) rfl (by decide) ?_; exact w_k3 hx hb hml hown hts hKK hX hbl hbA hA hL hi5 hrm hLI hS hl k
  · subst h9; refine nv_tin (v := 4) (tgt := 338) hx hb dL_law_32 (by decide) (by decide) (by decide) rfl (by decide) ?_; exact w_k4 hx hb hml hown hts hKK hX hbl hbA hA hL hi5 hrm hLI hS hl k
  · subst h9; refine nv_tin (v := 5) (tgt := 351) hx hb dL_law_32 (by decide) (by decide) (by decide) rfl (by decide) ?_; exact w_k5 hx hb hml hown hts hKK hX hbl hbA hA hL hi5 hrm hLI hS hl k
  · subst h9; refine nv_tin (v := 6) (tgt := 364) hx hb dL_law_32 (by decide) (by decide) (by decide) rfl (by decide) ?_; exact w_k6 hx hb hml hown hts hKK hX hbl hbA hA hL hi5 hrm hLI hS hl k
  · subst h9; refine nv_tin (v := 7) (tgt := 387) hx hb dL_law_32 (by decide) (by decide) (by decide) rfl (by decide) ?_; exact w_k7 hx hb hml hown hts hKK hX hbl hbA hA hL hi5 hrm hLI hS hl k
  · subst h9; refine nv_tin (v := 8) (tgt := 410) hx hb dL_law_32 (by decide) (by decide) (by decide) rfl (by decide) ?_; exact w_k8 hx hb hml hown hts hKK hX hbl hbA hA hL hi5 hrm hLI hS hl k
  · subst h9; refine nv_tin (v := 9) (tgt := 453) hx hb dL_law_32 (by decide) (by decide) (by decide) rfl (by decide) ?_; exact w_k9 hx hb hml hown hts hKK hX hbl hbA hA hL hi5 hrm hLI hS hl k
  · subst h9; refine nv_tin (v := 10) (tgt := 466) hx hb dL_law_32 (by decide) (by decide) (by decide) rfl (by decide) ?_; exact w_k10 hx hb hml hown hts hKK hX hbl hbA hA hL hi5 hrm hLI hS hl k
  · subst h9; refine nv_tin (v := 11) (tgt := 529) hx hb dL_law_32 (by decide) (by decide) (by decide) rfl (by decide) ?_; exact w_k11 hx hb hml hown hts hKK hX hbl hbA hA hL hi5 hrm hLI hS hl k
  · subst h9; refine nv_tin (v := 12) (tgt := 542) hx hb dL_law_32 (by decide) (by decide) (by decide) rfl (by decide) ?_; exact w_k12 hx hb hml hown hts hKK hX hbl hbA hA hL hi5 hrm hE hLI hS hl k
  · subst h9; refine nv_tin (v := 13) (tgt := 555) hx hb dL_law_32 (by decide) (by decide) (by decide) rfl (by decide) ?_; exact w_k13 hx hb hml hown hts hKK hX hbl hbA hA hL hi5 hrm hLI hS hl k
  · subst h9; refine nv_tin (v := 14) (tgt := 598) hx hb dL_law_32 (by decide) (by decide) (by decide) rfl (by decide) ?_; exact w_k14 hx hb hml hown hts hKK hX hbl hbA hA hL hi5 hrm hLI hS hl k
  · subst h9; refine nv_tin (v := 15) (tgt := 641) hx hb dL_law_32 (by decide) (by decide) (by decide) rfl (by decide) ?_; exact w_k15 hx hb hml hown hts hKK hX hbl hbA hA hL hi5 hrm hLI hS hl k
  · subst h9; refine nv_tin (v := 16) (tgt := 694) hx hb dL_law_32 (by decide) (by decide) (by decide) rfl (by decide) ?_; exact w_k16 hx hb hml hown hts hKK hX hbl hbA hA hL hi5 hrm hLI hS hl k
  · subst h9; refine nv_tin (v := 17) (tgt := 717) hx hb dL_law_32 (by decide) (by decide) (by decide) rfl (by decide) ?_; exact w_k17 hx hb hml hown hts hKK hX hbl hbA hA hL hi5 hrm hLI hS hl k
  · subst h9; refine nv_tin (v := 18) (tgt := 730) hx hb dL_law_32 (by decide) (by decide) (by decide) rfl (by decide) ?_; exact w_k18 hx hb hml hown hts hKK hX hbl hbA hA hL hi5 hrm hLI hS hl k
  · subst h9; refine nv_tin (v := 19) (tgt := 773) hx hb dL_law_32 (by decide) (by decide) (by decide) rfl (by decide) ?_; exact w_k19 hx hb hml hown hts hKK hX hbl hbA hA hL hi5 hrm hLI hS hl k
  · subst h9; refine nv_tin (v := 20) (tgt := 796) hx hb dL_law_32 (by decide) (by decide) (by decide) rfl (by decide) ?_; exact w_k20 hx hb hml hown hts hKK hX hbl hbA hA hL hi5 hrm hLI hS hl k
  · subst h9; refine nv_tin (v := 21) (tgt := 839) hx hb dL_law_32 (by decide) (by decide) (by decide) rfl (by decide) ?_; exact w_k21 hx hb hml hown hts hKK hX hbl hbA hA hL hi5 hrm hLI hS hl k
  · subst h9; refine nv_tin (v := 22) (tgt := 862) hx hb dL_law_32 (by decide) (by decide) (by decide) rfl (by decide) ?_; exact w_k22 hx hb hml hown hts hKK hX hbl hbA hA hL hi5 hrm hLI hS hl k
  · subst h9; refine nv_tin (v := 23) (tgt := 895) hx hb dL_law_32 (by decide) (by decide) (by decide) rfl (by decide) ?_; exact w_k23 hx hb hml hown hts hKK hX hbl hbA hA hL hi5 hrm hLI hS hl k
  · subst h9; refine nv_tin (v := 24) (tgt := 918) hx hb dL_law_32 (by decide) (by decide) (by decide) rfl (by decide) ?_; exact w_k24 hx hb hml hown hts hKK hX hbl hbA hA hL hi5 hrm hLI hS hl k
  · subst h9; refine nv_tin (v := 25) (tgt := 951) hx hb dL_law_32 (by decide) (by decide) (by decide) rfl (by decide) ?_; exact w_k25 hx hb hml hown hts hKK hX hbl hbA hA hL hi5 hrm hLI hS hl k
  · subst h9; refine nv_tin (v := 26) (tgt := 974) hx hb dL_law_32 (by decide) (by decide) (by decide) rfl (by decide) ?_; exact w_k26 hx hb hml hown hts hKK hX hbl hbA hA hL hi5 hrm hLI hS hl k
  · subst h9; refine nv_tin (v := 27) (tgt := 998) hx hb dL_law_32 (by decide) (by decide) (by decide) rfl (by decide) ?_; exact w_k27 hx hb hml hown hts hKK hX hbl hbA hA hL hi5 hrm hLI hS hl k
  · subst h9; refine nv_tin (v := 28) (tgt := 1021) hx hb dL_law_32 (by decide) (by decide) (by decide) rfl (by decide) ?_; exact w_k28 hx hb hml hown hts hKK hX hbl hbA hA hL hi5 hrm hLI hS hl k
  · subst h9; refine nv_tin (v := 29) (tgt := 1044) hx hb dL_law_32 (by decide) (by decide) (by decide) rfl (by decide) ?_; exact w_k29 hx hb hml hown hts hKK hX hbl hbA hA hL hi5 hrm hLI hS hl k
  · subst h9; refine nv_tin (v := 30) (tgt := 1067) hx hb dL_law_32 (by decide) (by decide) (by decide) rfl (by decide) ?_; exact w_k30 hx hb hml hown hts hKK hX hbl hbA hA hL hi5 hrm hLI hS hl k
  · subst h9; refine nv_tin (v := 31) (tgt := 1090) hx hb dL_law_32 (by decide) (by decide) (by decide) rfl (by decide) ?_; exact w_k31 hx hb hml hown hts hKK hX hbl hbA hA hL hi5 hrm hLI hS hl k
set_option maxHeartbeats 4000000 in
set_option maxRecDepth 100000 in
theorem law_loop {p : Program} {l : Launch} {e : Env} {s : State} {m : MethodId} {args : Array Value} {below : List Frame} {meth : Method} {c : Code} {Q : State → Prop} {G : va_G} {tA : Nat → ClassId} {A : Nat → Prop} {sb0 L CE SE : Nat} {xs : Nat → Int32} {o b ad av : Nat → Nat} {na : Nat} (hx : p.tables.exec = Jvm.exec) (hb : c.code = cL_law) (hml : c.maxLocals = 4) (hown : s.vm.findClass RL = some m.cls) (hts : ∀ w ∈ lw_tbl, w.before args s = true) (hKK : kk G tA s) (hX : va_X sb0 L xs s s.heap) (hbl : sb0 < s.heap.size) (hbA : ¬ A sb0) (hA : ∀ q, s.heap.size ≤ q → A q) (hL : L < 2 ^ 31) (hE : evS ad av na A s s.heap) (hL3 : L ≤ 2560) (hCE : CE ≤ room_1.cells) (hSE : SE ≤ room_1.slots) (kend : ∀ (H : Heap) (locs : List Loc) (ls : Array Slot), va_S A s.heap H locs → W p l e room_1 s m args below meth c H locs CE SE Q (F0 m 1110 ls [])) : ∀ (n i cells slots : Nat) (H : Heap) (locs : List Loc) (ls : Array Slot), L < i + 5 * n + 5 → cells + 16 * n ≤ CE → slots + 323 * n ≤ SE → i ≤ L + 4 → LI G tA A o b H → va_S A s.heap H locs → lv_has ls 4 [(0, .ref sb0), (1, .ref (o 0)), (2, .ref (b 0)), (3, .int (nI i))] → W p l e room_1 s m args below meth c H locs cells slots Q (F0 m 18 ls []) := by
  intro n
  induction n with
  | zero =>
    intro i cells slots H locs ls hn hc hs hi4 hLI hS hl
    refine lv_iload_n hx hb dL_law_18 rfl (lv_at hl 3 rfl) ?_
    refine lv_aload_n hx hb dL_law_19 rfl (lv_at hl 0 rfl) ?_
    refine va_slen hx hb hX hbl hbA hS dL_law_20 ?_
    refine lv_iconst (v := nI 5) hx hb dL_law_21 (by decide) ?_
    refine lv_isub hx hb dL_law_22 ?_
    refine zv_icmp_gt (tgt := 1110) (X := ((i : Nat) : Int)) (Y := ((L : Nat) : Int) - ((5 : Nat) : Int)) (nI_toInt (by omega)) (pk_sub_toInt (by omega) (by omega)) hx hb dL_law_23 (by decide) (fun c9 => ?_) (fun c9 => ?_)
    · exact W.widen (by omega) (by omega) (kend H locs ls hS)
    · exact absurd c9 (by omega)
  | succ n ih =>
    intro i cells slots H locs ls hn hc hs hi4 hLI hS hl
    refine lv_iload_n hx hb dL_law_18 rfl (lv_at hl 3 rfl) ?_
    refine lv_aload_n hx hb dL_law_19 rfl (lv_at hl 0 rfl) ?_
    refine va_slen hx hb hX hbl hbA hS dL_law_20 ?_
    refine lv_iconst (v := nI 5) hx hb dL_law_21 (by decide) ?_
    refine lv_isub hx hb dL_law_22 ?_
    refine zv_icmp_gt (tgt := 1110) (X := ((i : Nat) : Int)) (Y := ((L : Nat) : Int) - ((5 : Nat) : Int)) (nI_toInt (by omega)) (pk_sub_toInt (by omega) (by omega)) hx hb dL_law_23 (by decide) (fun c9 => ?_) (fun c9 => ?_)
    · exact W.widen (by omega) (by omega) (kend H locs ls hS)
    · refine lv_aload_n hx hb dL_law_26 rfl (lv_at hl 0 rfl) ?_
      refine lv_iload_n hx hb dL_law_27 rfl (lv_at hl 3 rfl) ?_
      refine law_ld (i := i) hx hb hX hbl hbA hS (by omega) hL dL_law_28 ?_
      refine lv_bipush (v := nI 31) hx hb dL_law_29 (by decide +kernel) ?_
      refine lv_iand hx hb dL_law_31 ?_
      obtain ⟨r, hr32, er⟩ := and31 (xs i)
      rw [er]
      refine law_turn hx hb hml hown hts hKK hX hbl hbA hA hL (by omega) ⟨by omega, by omega⟩ hE hr32 hLI hS hl (fun H locs hLI hS => ?_)
      refine lv_iinc (v := nI (i + 5)) (lv' := [(3, .int (nI (i + 5))), (0, .ref sb0), (1, .ref (o 0)), (2, .ref (b 0))]) hx hb dL_law_1104 hl (k := 3) rfl (nI_add i 5) (by decide) rfl (fun ls hl => ?_)
      refine lv_goto (tgt := 18) hx hb dL_law_1107 (by decide) ?_
      exact ih (i + 5) (cells + 16) (slots + 323) H locs ls (by omega) (by omega) (by omega) (by omega) hLI hS (lv_sub hl [1, 2, 3, 0] rfl)
