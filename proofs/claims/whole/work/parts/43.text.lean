/-! the class: the JDK on constants of text -/
set_option maxHeartbeats 4000000 in
set_option maxRecDepth 100000 in
theorem c_J3_ckn (l : Launch) (G : va_G) (tA : Nat → ClassId) (k : Nat) (ln : Nat) (hk : k < ln) (hln : ln < 1048576) : CtI l yJ3_checkIndex_8e157 wsJ3_checkIndex_8e157 ({ frames := 0, cells := 0, slots := 0, locals := 0 }) G tA [.int (nI k), .int (nI ln), .null] ([]) (fun (r : Int32) (_ : Unit) => r = nI k) (fun (_ : Unit) => []) 0 0 := by
  refine enterI (cc := cJ3_checkIndex_8e157) (maxL := 3) (ret := (some .int)) (by decide) rfl (Nat.le_of_ble_eq_true rfl) ?_
  intro p0 e0 s m args below meth c0_ A ls hx hb hml hr hts hown hlocks hin hKK hA hP hD hl hS
  have hown : s.vm.findClass RJ3 = some m.cls := hown
  have hl : lv_has ls 3 [(0, .int (nI k)), (1, .int (nI ln)), (2, .null)] := hl
  refine lv_iload_n hx hb dJ3_checkIndex_8e157_0 rfl (lv_at hl 0 rfl) ?_
  refine nv_if_lt (tgt := 9) (by omega) hx hb dJ3_checkIndex_8e157_1 (by decide) ?_
  refine lv_iload_n hx hb dJ3_checkIndex_8e157_4 rfl (lv_at hl 0 rfl) ?_
  refine lv_iload_n hx hb dJ3_checkIndex_8e157_5 rfl (lv_at hl 1 rfl) ?_
  refine nv_icmp_lt (tgt := 16) (by omega) (by omega) hx hb dJ3_checkIndex_8e157_6 (by decide) (fun _ => ?_) (fun h => absurd h (by omega))
  refine lv_iload_n hx hb dJ3_checkIndex_8e157_16 rfl (lv_at hl 0 rfl) ?_
  exact retI hx hb hr hlocks hS hP hD () (rfl) (congrArg nI (show (k : Nat) = k from rfl)) dJ3_checkIndex_8e157_17

set_option maxHeartbeats 4000000 in
set_option maxRecDepth 100000 in
theorem c_J3_ckr (l : Launch) (G : va_G) (tA : Nat → ClassId) (k : Nat) (ln : Nat) (t9 : Nat) (hk : k < ln) (hln : ln < 1048576) : CtI l yJ3_checkIndex_8e157 wsJ3_checkIndex_8e157 ({ frames := 0, cells := 0, slots := 0, locals := 0 }) G tA [.int (nI k), .int (nI ln), .ref t9] ([]) (fun (r : Int32) (_ : Unit) => r = nI k) (fun (_ : Unit) => []) 0 0 := by
  refine enterI (cc := cJ3_checkIndex_8e157) (maxL := 3) (ret := (some .int)) (by decide) rfl (Nat.le_of_ble_eq_true rfl) ?_
  intro p0 e0 s m args below meth c0_ A ls hx hb hml hr hts hown hlocks hin hKK hA hP hD hl hS
  have hown : s.vm.findClass RJ3 = some m.cls := hown
  have hl : lv_has ls 3 [(0, .int (nI k)), (1, .int (nI ln)), (2, .ref t9)] := hl
  refine lv_iload_n hx hb dJ3_checkIndex_8e157_0 rfl (lv_at hl 0 rfl) ?_
  refine nv_if_lt (tgt := 9) (by omega) hx hb dJ3_checkIndex_8e157_1 (by decide) ?_
  refine lv_iload_n hx hb dJ3_checkIndex_8e157_4 rfl (lv_at hl 0 rfl) ?_
  refine lv_iload_n hx hb dJ3_checkIndex_8e157_5 rfl (lv_at hl 1 rfl) ?_
  refine nv_icmp_lt (tgt := 16) (by omega) (by omega) hx hb dJ3_checkIndex_8e157_6 (by decide) (fun _ => ?_) (fun h => absurd h (by omega))
  refine lv_iload_n hx hb dJ3_checkIndex_8e157_16 rfl (lv_at hl 0 rfl) ?_
  exact retI hx hb hr hlocks hS hP hD () (rfl) (congrArg nI (show (k : Nat) = k from rfl)) dJ3_checkIndex_8e157_17

set_option maxHeartbeats 4000000 in
set_option maxRecDepth 100000 in
theorem c_J0_checkIndex_df160 (l : Launch) (G : va_G) (tA : Nat → ClassId) (ad av : Nat → Nat) (na : Nat) (k : Nat) (ln : Nat) (hk : k < ln) (hln : ln < 1048576) : CsV l yJ0_checkIndex_df160 wsJ0_checkIndex_df160 ({ frames := 1, cells := 0, slots := 0, locals := 22 }) G tA ad av na [.int (nI k), .int (nI ln)] ([]) (fun (_ : Unit) => True) (fun (_ : Unit) => []) 0 0 := by
  refine entersV (cc := cJ0_checkIndex_df160) (maxL := 2) (ret := none) (by decide) rfl (Nat.le_of_ble_eq_true rfl) ?_
  intro p0 e0 s m args below meth c0_ A ls hx hb hml hr hts hown hlocks hin hKK hA hP hD hl hS hE
  have hown : s.vm.findClass RJ0 = some m.cls := hown
  have hl : lv_has ls 2 [(0, .int (nI k)), (1, .int (nI ln))] := hl
  have f1053 := hts (Cond.fieldLink RJ0 1053 "jdk/internal/util/Preconditions" "SIOOBE_FORMATTER" "Ljava/util/function/BiFunction;") (List.mem_of_getElem? (i := 1) rfl)
  refine lv_iload_n hx hb dJ0_checkIndex_df160_0 rfl (lv_at hl 0 rfl) ?_
  refine lv_iload_n hx hb dJ0_checkIndex_df160_1 rfl (lv_at hl 1 rfl) ?_
  rcases hE.2.2.1 with hz9 | ⟨t9, hz9⟩
  · refine va_gets hx hb hz9 hS hown f1053 (fun _ h9 => h9) dJ0_checkIndex_df160_2 ?_
    refine roI hP hD hS hA [] rfl (runS (As := [.int (nI k), .int (nI ln), .null]) (rest := []) (isC := []) ⟨hx, hb, hml, hown, hts⟩ hKK hP hD rfl (by decide) (c_J3_ckn l G tA k ln (by first | assumption | omega) (by first | assumption | omega) _) (va_cwS 3 hts gJ0_checkIndex_df160_J3_checkIndex_8e157 rfl rfl rfl (by decide +kernel) ⟨Nat.le_of_ble_eq_true rfl, Nat.le_of_ble_eq_true rfl⟩) rfl rfl hl.1 rfl (lv_room (Nat.le_of_ble_eq_true rfl)) dJ0_checkIndex_df160_5 ⟨Nat.le_of_ble_eq_true rfl, Nat.le_of_ble_eq_true rfl⟩) (fun _ => rfl) (fun r_1 u_2 H locs q_3 hP hS => ?_)
    subst q_3
    refine lv_pop hx hb dJ0_checkIndex_df160_8 rfl ?_
    exact retV hx hb hr hlocks hS hP hD () (rfl) (trivial) dJ0_checkIndex_df160_9
  · refine va_gets hx hb hz9 hS hown f1053 (fun _ h9 => h9) dJ0_checkIndex_df160_2 ?_
    refine roI hP hD hS hA [] rfl (runS (As := [.int (nI k), .int (nI ln), .ref t9]) (rest := []) (isC := []) ⟨hx, hb, hml, hown, hts⟩ hKK hP hD rfl (by decide) (c_J3_ckr l G tA k ln t9 (by first | assumption | omega) (by first | assumption | omega) _) (va_cwS 3 hts gJ0_checkIndex_df160_J3_checkIndex_8e157 rfl rfl rfl (by decide +kernel) ⟨Nat.le_of_ble_eq_true rfl, Nat.le_of_ble_eq_true rfl⟩) rfl rfl hl.1 rfl (lv_room (Nat.le_of_ble_eq_true rfl)) dJ0_checkIndex_df160_5 ⟨Nat.le_of_ble_eq_true rfl, Nat.le_of_ble_eq_true rfl⟩) (fun _ => rfl) (fun r_4 u_5 H locs q_6 hP hS => ?_)
    subst q_6
    refine lv_pop hx hb dJ0_checkIndex_df160_8 rfl ?_
    exact retV hx hb hr hlocks hS hP hD () (rfl) (trivial) dJ0_checkIndex_df160_9

set_option maxHeartbeats 4000000 in
set_option maxRecDepth 100000 in
theorem c_J1_charAt_3b067 (l : Launch) (G : va_G) (tA : Nat → ClassId) (ad av : Nat → Nat) (na : Nat) (i : Nat) (k : Nat) (hi : i < 5) (hk : k < lnW i) : CsI l yJ1_charAt_3b067 wsJ1_charAt_3b067 ({ frames := 2, cells := 0, slots := 0, locals := 43 }) G tA ad av na [.ref (av i), .int (nI k)] ([]) (fun (r : Int32) (_ : Unit) => r = nI (chW i k)) (fun (_ : Unit) => []) 0 0 := by
  refine entersI (cc := cJ1_charAt_3b067) (maxL := 2) (ret := (some .char)) (by decide) rfl (Nat.le_of_ble_eq_true rfl) ?_
  intro p0 e0 s m args below meth c0_ A ls hx hb hml hr hts hown hlocks hin hKK hA hP hD hl hS hE
  have hown : s.vm.findClass RJ1 = some m.cls := hown
  have hl : lv_has ls 2 [(0, .ref (av i)), (1, .int (nI k))] := hl
  have hln := lnW_lt i hi
  have hch := chW_lt i hi k hk
  refine lv_iload_n hx hb dJ1_charAt_3b067_0 rfl (lv_at hl 1 rfl) ?_
  refine lv_aload_n hx hb dJ1_charAt_3b067_1 rfl (lv_at hl 0 rfl) ?_
  refine va_tlen (v := nI (lnW i)) hx hb (hE.1.1 i (by omega)).2.2.2 hS rfl dJ1_charAt_3b067_2 ?_
  refine roV hP hD hS hA [] rfl (runSs (As := [.int (nI k), .int (nI (lnW i))]) (rest := []) (isC := []) ⟨hx, hb, hml, hown, hts⟩ hKK hP hD rfl (by decide) hE hS hA (c_J0_checkIndex_df160 l G tA ad av na k (lnW i) (by first | assumption | omega) (by first | assumption | omega) _) (va_cwS 2 hts gJ1_charAt_3b067_J0_checkIndex_df160 rfl rfl rfl (by decide +kernel) ⟨Nat.le_of_ble_eq_true rfl, Nat.le_of_ble_eq_true rfl⟩) rfl rfl hl.1 rfl (lv_room (Nat.le_of_ble_eq_true rfl)) dJ1_charAt_3b067_3 ⟨Nat.le_of_ble_eq_true rfl, Nat.le_of_ble_eq_true rfl⟩) (fun _ => rfl) (fun u_2 H locs q_3 hP hS => ?_)
  refine lv_aload_n hx hb dJ1_charAt_3b067_6 rfl (lv_at hl 0 rfl) ?_
  refine lv_iload_n hx hb dJ1_charAt_3b067_7 rfl (lv_at hl 1 rfl) ?_
  refine va_tb (v := .int (nI (chW i k))) hx hb (hE.1.1 i (by omega)).2.2.2 hS (vp_in_nI (show k < lnW i from by omega) (Nat.lt_of_le_of_lt (lnW_lt _ (by omega)).2 (by omega))) (by rw [nI_clamp (by omega), chW_at i (by omega) k (by omega)]) dJ1_charAt_3b067_8 ?_
  refine lv_sipush (v := nI 255) hx hb dJ1_charAt_3b067_9 (by decide +kernel) ?_
  refine nv_iand hx hb dJ1_charAt_3b067_12 ?_
  refine lv_i2c hx hb dJ1_charAt_3b067_13 rfl ?_
  refine nv_top (y := chW i k) (chW_c i hi k hk) ?_
  exact retZ (ty := .char) hx hb hr (chW_n i hi k hk) hlocks hS hP hD () (rfl) (congrArg nI (show (chW i k : Nat) = chW i k from rfl)) dJ1_charAt_3b067_14

set_option maxHeartbeats 4000000 in
set_option maxRecDepth 100000 in
theorem c_J0_isLatin1_aae02 (l : Launch) (G : va_G) (tA : Nat → ClassId) (ad av : Nat → Nat) (na : Nat) (i : Nat) (hi : i < 5) : CsI l yJ0_isLatin1_aae02 wsJ0_isLatin1_aae02 ({ frames := 0, cells := 0, slots := 0, locals := 0 }) G tA ad av na [.ref (ad i)] ([]) (fun (r : Int32) (_ : Unit) => r = nI 1) (fun (_ : Unit) => []) 0 0 := by
  refine entersI (cc := cJ0_isLatin1_aae02) (maxL := 1) (ret := (some .boolean)) (by decide) rfl (Nat.le_of_ble_eq_true rfl) ?_
  intro p0 e0 s m args below meth c0_ A ls hx hb hml hr hts hown hlocks hin hKK hA hP hD hl hS hE
  have hown : s.vm.findClass RJ0 = some m.cls := hown
  have hl : lv_has ls 1 [(0, .ref (ad i))] := hl
  have f38 := hts (Cond.fieldLink RJ0 38 "java/lang/String" "COMPACT_STRINGS" "Z") (List.mem_of_getElem? (i := 1) rfl)
  have f15 := hts (Cond.fieldLink RJ0 15 "java/lang/String" "coder" "B") (List.mem_of_getElem? (i := 2) rfl)
  refine va_gets hx hb hE.2.1 hS hown f38 (fun _ h9 => h9) dJ0_isLatin1_aae02_0 ?_
  refine nv_top (y := 1) rfl ?_
  refine nv_if_eq (tgt := 17) (by omega) hx hb dJ0_isLatin1_aae02_3 (by decide) (fun h => absurd h (by omega)) (fun _ => ?_)
  refine lv_aload_n hx hb dJ0_isLatin1_aae02_6 rfl (lv_at hl 0 rfl) ?_
  refine vk_getf hx hb (hE.1.1 i (by omega)).2.1 hS hown f15 (fun _ h9 => h9) dJ0_isLatin1_aae02_7 ?_
  refine nv_top (y := 0) rfl ?_
  refine nv_if_ne (tgt := 17) (by omega) hx hb dJ0_isLatin1_aae02_10 (by decide) (fun h => absurd h (by omega)) (fun _ => ?_)
  refine lv_iconst (v := nI 1) hx hb dJ0_isLatin1_aae02_13 (by decide) ?_
  refine lv_goto (tgt := 18) hx hb dJ0_isLatin1_aae02_14 (by decide) ?_
  exact retZ (ty := .boolean) hx hb hr (rfl) hlocks hS hP hD () (rfl) (congrArg nI (show (1 : Nat) = 1 from rfl)) dJ0_isLatin1_aae02_18

set_option maxHeartbeats 4000000 in
set_option maxRecDepth 100000 in
theorem c_J0_coder_7d493 (l : Launch) (G : va_G) (tA : Nat → ClassId) (ad av : Nat → Nat) (na : Nat) (i : Nat) (hi : i < 5) : CsI l yJ0_coder_7d493 wsJ0_coder_7d493 ({ frames := 0, cells := 0, slots := 0, locals := 0 }) G tA ad av na [.ref (ad i)] ([]) (fun (r : Int32) (_ : Unit) => r = nI 0) (fun (_ : Unit) => []) 0 0 := by
  refine entersI (cc := cJ0_coder_7d493) (maxL := 1) (ret := (some .byte)) (by decide) rfl (Nat.le_of_ble_eq_true rfl) ?_
  intro p0 e0 s m args below meth c0_ A ls hx hb hml hr hts hown hlocks hin hKK hA hP hD hl hS hE
  have hown : s.vm.findClass RJ0 = some m.cls := hown
  have hl : lv_has ls 1 [(0, .ref (ad i))] := hl
  have f38 := hts (Cond.fieldLink RJ0 38 "java/lang/String" "COMPACT_STRINGS" "Z") (List.mem_of_getElem? (i := 1) rfl)
  have f15 := hts (Cond.fieldLink RJ0 15 "java/lang/String" "coder" "B") (List.mem_of_getElem? (i := 2) rfl)
  refine va_gets hx hb hE.2.1 hS hown f38 (fun _ h9 => h9) dJ0_coder_7d493_0 ?_
  refine nv_top (y := 1) rfl ?_
  refine nv_if_eq (tgt := 13) (by omega) hx hb dJ0_coder_7d493_3 (by decide) (fun h => absurd h (by omega)) (fun _ => ?_)
  refine lv_aload_n hx hb dJ0_coder_7d493_6 rfl (lv_at hl 0 rfl) ?_
  refine vk_getf hx hb (hE.1.1 i (by omega)).2.1 hS hown f15 (fun _ h9 => h9) dJ0_coder_7d493_7 ?_
  refine nv_top (y := 0) rfl ?_
  refine lv_goto (tgt := 14) hx hb dJ0_coder_7d493_10 (by decide) ?_
  exact retZ (ty := .byte) hx hb hr (rfl) hlocks hS hP hD () (rfl) (congrArg nI (show (0 : Nat) = 0 from rfl)) dJ0_coder_7d493_14

set_option maxHeartbeats 4000000 in
set_option maxRecDepth 100000 in
theorem c_J0_length_8abf5 (l : Launch) (G : va_G) (tA : Nat → ClassId) (ad av : Nat → Nat) (na : Nat) (i : Nat) (hi : i < 5) : CsI l yJ0_length_8abf5 wsJ0_length_8abf5 ({ frames := 1, cells := 0, slots := 0, locals := 20 }) G tA ad av na [.ref (ad i)] ([]) (fun (r : Int32) (_ : Unit) => r = nI (lnW i)) (fun (_ : Unit) => []) 0 0 := by
  refine entersI (cc := cJ0_length_8abf5) (maxL := 1) (ret := (some .int)) (by decide) rfl (Nat.le_of_ble_eq_true rfl) ?_
  intro p0 e0 s m args below meth c0_ A ls hx hb hml hr hts hown hlocks hin hKK hA hP hD hl hS hE
  have hown : s.vm.findClass RJ0 = some m.cls := hown
  have hl : lv_has ls 1 [(0, .ref (ad i))] := hl
  have f9 := hts (Cond.fieldLink RJ0 9 "java/lang/String" "value" "[B") (List.mem_of_getElem? (i := 1) rfl)
  have hln := lnW_lt i hi
  refine lv_aload_n hx hb dJ0_length_8abf5_0 rfl (lv_at hl 0 rfl) ?_
  refine vk_getf hx hb (hE.1.1 i (by omega)).2.2.1 hS hown f9 (fun _ h9 => h9) dJ0_length_8abf5_1 ?_
  refine va_tlen (v := nI (lnW i)) hx hb (hE.1.1 i (by omega)).2.2.2 hS rfl dJ0_length_8abf5_4 ?_
  refine lv_aload_n hx hb dJ0_length_8abf5_5 rfl (lv_at hl 0 rfl) ?_
  refine roI hP hD hS hA [] rfl (runVt (As := []) (rest := [.int (nI (lnW i))]) (isC := []) ⟨hx, hb, hml, hown, hts⟩ hKK hP hD rfl (by decide) hE hS hA (by omega) (c_J0_coder_7d493 l G tA ad av na i (by first | assumption | omega) _) (cwV 0 hts gJ0_length_8abf5_J0_coder_7d493 rfl rfl rfl (by decide +kernel) ⟨Nat.le_of_ble_eq_true rfl, Nat.le_of_ble_eq_true rfl⟩) rfl rfl hl.1 rfl (lv_room (Nat.le_of_ble_eq_true rfl)) dJ0_length_8abf5_6 ⟨Nat.le_of_ble_eq_true rfl, Nat.le_of_ble_eq_true rfl⟩) (fun _ => rfl) (fun r_1 u_2 H locs q_3 hP hS => ?_)
  subst q_3
  refine nv_ishr (by omega) (by omega) hx hb dJ0_length_8abf5_9 ?_
  refine nv_top (y := lnW i) (congrArg nI (Nat.div_one _)) ?_
  exact retI hx hb hr hlocks hS hP hD () (rfl) (congrArg nI (show (lnW i : Nat) = lnW i from rfl)) dJ0_length_8abf5_10

set_option maxHeartbeats 4000000 in
set_option maxRecDepth 100000 in
theorem c_J0_charAt_5068e (l : Launch) (G : va_G) (tA : Nat → ClassId) (ad av : Nat → Nat) (na : Nat) (i : Nat) (k : Nat) (hi : i < 5) (hk : k < lnW i) : CsI l yJ0_charAt_5068e wsJ0_charAt_5068e ({ frames := 3, cells := 0, slots := 0, locals := 64 }) G tA ad av na [.ref (ad i), .int (nI k)] ([]) (fun (r : Int32) (_ : Unit) => r = nI (chW i k)) (fun (_ : Unit) => []) 0 0 := by
  refine entersI (cc := cJ0_charAt_5068e) (maxL := 2) (ret := (some .char)) (by decide) rfl (Nat.le_of_ble_eq_true rfl) ?_
  intro p0 e0 s m args below meth c0_ A ls hx hb hml hr hts hown hlocks hin hKK hA hP hD hl hS hE
  have hown : s.vm.findClass RJ0 = some m.cls := hown
  have hl : lv_has ls 2 [(0, .ref (ad i)), (1, .int (nI k))] := hl
  have f9 := hts (Cond.fieldLink RJ0 9 "java/lang/String" "value" "[B") (List.mem_of_getElem? (i := 1) rfl)
  have hln := lnW_lt i hi
  refine lv_aload_n hx hb dJ0_charAt_5068e_0 rfl (lv_at hl 0 rfl) ?_
  refine roI hP hD hS hA [] rfl (runVt (As := []) (rest := []) (isC := []) ⟨hx, hb, hml, hown, hts⟩ hKK hP hD rfl (by decide) hE hS hA (by omega) (c_J0_isLatin1_aae02 l G tA ad av na i (by first | assumption | omega) _) (cwV 0 hts gJ0_charAt_5068e_J0_isLatin1_aae02 rfl rfl rfl (by decide +kernel) ⟨Nat.le_of_ble_eq_true rfl, Nat.le_of_ble_eq_true rfl⟩) rfl rfl hl.1 rfl (lv_room (Nat.le_of_ble_eq_true rfl)) dJ0_charAt_5068e_1 ⟨Nat.le_of_ble_eq_true rfl, Nat.le_of_ble_eq_true rfl⟩) (fun _ => rfl) (fun r_1 u_2 H locs q_3 hP hS => ?_)
  subst q_3
  refine nv_if_eq (tgt := 16) (by omega) hx hb dJ0_charAt_5068e_4 (by decide) (fun h => absurd h (by omega)) (fun _ => ?_)
  refine lv_aload_n hx hb dJ0_charAt_5068e_7 rfl (lv_at hl 0 rfl) ?_
  refine vk_getf hx hb (hE.1.1 i (by omega)).2.2.1 hS hown f9 (fun _ h9 => h9) dJ0_charAt_5068e_8 ?_
  refine lv_iload_n hx hb dJ0_charAt_5068e_11 rfl (lv_at hl 1 rfl) ?_
  refine roI hP hD hS hA [] rfl (runSs (As := [.ref (av i), .int (nI k)]) (rest := []) (isC := []) ⟨hx, hb, hml, hown, hts⟩ hKK hP hD rfl (by decide) hE hS hA (c_J1_charAt_3b067 l G tA ad av na i k (by first | assumption | omega) (by first | assumption | omega) _) (va_cwS 2 hts gJ0_charAt_5068e_J1_charAt_3b067 rfl rfl rfl (by decide +kernel) ⟨Nat.le_of_ble_eq_true rfl, Nat.le_of_ble_eq_true rfl⟩) rfl rfl hl.1 rfl (lv_room (Nat.le_of_ble_eq_true rfl)) dJ0_charAt_5068e_12 ⟨Nat.le_of_ble_eq_true rfl, Nat.le_of_ble_eq_true rfl⟩) (fun _ => rfl) (fun r_5 u_6 H locs q_7 hP hS => ?_)
  subst q_7
  exact retZ (ty := .char) hx hb hr (chW_n i hi k hk) hlocks hS hP hD () (rfl) (congrArg nI (show (chW i k : Nat) = chW i k from rfl)) dJ0_charAt_5068e_15

/-! the class: the text -/
def spl (tx : Nat → Nat) (a len w : Nat) : Prop := len = lnW w ∧ ∀ j, j < len → tx (a + j) = chW w j
noncomputable def wfS (tx : Nat → Nat) (a len : Nat) : Nat := ffN (fun w => pB (spl tx a len w)) 5 0
/-- the word, shifted by one; 0: none -/
noncomputable def wqS (tx : Nat → Nat) (a len : Nat) : Nat := if wfS tx a len < 5 then wfS tx a len + 1 else 0
theorem wqS_le (tx : Nat → Nat) (a len : Nat) : wqS tx a len ≤ 5 := by unfold wqS; split <;> omega
theorem ffN_no {p : Nat → Bool} : ∀ n k, (∀ j, k ≤ j → j < k + n → p j = false) → ffN p n k = k + n := by
  intro n
  induction n with
  | zero => intro k _; rfl
  | succ n ih =>
    intro k h
    unfold ffN
    rw [if_neg (Bool.eq_false_iff.mp (h k (Nat.le_refl _) (by omega))), ih (k + 1) (fun j h1 h2 => h j (by omega) (by omega))]
    omega
theorem wqS_1 {tx : Nat → Nat} {a len w : Nat} (hw : w < 5) (h : spl tx a len w) (hno : ∀ j, j < w → ¬ spl tx a len j) : wqS tx a len = w + 1 := by
  obtain ⟨a1, a2, a3, a4⟩ := ffN_at (p := fun w => pB (spl tx a len w)) 5 0 w (Nat.zero_le _) (by omega) (pB_t.mpr h)
  have e : wfS tx a len = w := by
    rcases Nat.lt_or_ge (wfS tx a len) w with z | z
    · exact absurd (pB_t.mp a3) (hno _ z)
    · exact Nat.le_antisymm a2 z
  unfold wqS; rw [e, if_pos hw]
theorem wqS_0 {tx : Nat → Nat} {a len : Nat} (hno : ∀ j, j < 5 → ¬ spl tx a len j) : wqS tx a len = 0 := by
  have e : wfS tx a len = 0 + 5 := ffN_no 5 0 (fun j _ h => pB_f.mpr (hno j (by omega)))
  unfold wqS; rw [e]; rfl

set_option maxHeartbeats 4000000 in
set_option maxRecDepth 100000 in
theorem c_X7_size (l : Launch) (G : va_G) (tA : Nat → ClassId) (e : Nat → Nat) (sz : Nat) (at0 : Nat)  : CtI l yX7_size wsX7_size ({ frames := 0, cells := 0, slots := 0, locals := 0 }) G tA [.ref (e 0)] ([(e 0, .inr (5, [.ref (e 1), .ref (e 2), .int (nI sz), .int (nI at0)]))]) (fun (r : Int32) (_ : Unit) => r = nI sz) (fun (_ : Unit) => [(e 0, .inr (5, [.ref (e 1), .ref (e 2), .int (nI sz), .int (nI at0)]))]) 0 0 := by
  refine enterI (cc := cX7_size) (maxL := 1) (ret := (some .int)) (by decide) rfl (Nat.le_of_ble_eq_true rfl) ?_
  intro p0 e0 s m args below meth c0_ A ls hx hb hml hr hts hown hlocks hin hKK hA hP hD hl hS
  have hown : s.vm.findClass RX7 = some m.cls := hown
  have hl : lv_has ls 1 [(0, .ref (e 0))] := hl
  have f18 := hts (Cond.fieldLink RX7 18 "LentTerms$Text" "size" "I") (List.mem_of_getElem? (i := 1) rfl)
  have iX7 : ∀ w ∈ wsX70, w ∈ wsX7_size := by decide +kernel
  refine lv_aload_n hx hb dX7_size_0 rfl (lv_at hl 0 rfl) ?_
  refine va_get (D := G) (ci := 5) (C := RX7) (T := TX7) (N := 4) hx hb hts iX7 hown hKK.1 hP 0 rfl rfl 2 (by decide) f18 (fun _ h9 => h9) rfl dX7_size_1 ?_
  exact retI hx hb hr hlocks hS hP hD () (rfl) (congrArg nI (show (sz : Nat) = sz from rfl)) dX7_size_4

set_option maxHeartbeats 4000000 in
set_option maxRecDepth 100000 in
theorem c_X7_empty (l : Launch) (G : va_G) (tA : Nat → ClassId) (e : Nat → Nat) (sz : Nat) (at0 : Nat)  : CtI l yX7_empty wsX7_empty ({ frames := 0, cells := 0, slots := 0, locals := 0 }) G tA [.ref (e 0)] ([(e 0, .inr (5, [.ref (e 1), .ref (e 2), .int (nI sz), .int (nI at0)]))]) (fun (r : Int32) (_ : Unit) => r = nI sz) (fun (_ : Unit) => [(e 0, .inr (5, [.ref (e 1), .ref (e 2), .int (nI 0), .int (nI at0)]))]) 0 0 := by
  refine enterI (cc := cX7_empty) (maxL := 2) (ret := (some .int)) (by decide) rfl (Nat.le_of_ble_eq_true rfl) ?_
  intro p0 e0 s m args below meth c0_ A ls hx hb hml hr hts hown hlocks hin hKK hA hP hD hl hS
  have hown : s.vm.findClass RX7 = some m.cls := hown
  have hl : lv_has ls 2 [(0, .ref (e 0))] := hl
  have f18 := hts (Cond.fieldLink RX7 18 "LentTerms$Text" "size" "I") (List.mem_of_getElem? (i := 1) rfl)
  have iX7 : ∀ w ∈ wsX70, w ∈ wsX7_empty := by decide +kernel
  refine lv_aload_n hx hb dX7_empty_0 rfl (lv_at hl 0 rfl) ?_
  refine va_get (D := G) (ci := 5) (C := RX7) (T := TX7) (N := 4) hx hb hts iX7 hown hKK.1 hP 0 rfl rfl 2 (by decide) f18 (fun _ h9 => h9) rfl dX7_empty_1 ?_
  refine lv_istore_n (lv' := [(1, .int (nI sz)), (0, .ref (e 0))]) hx hb dX7_empty_4 rfl hl (by decide) rfl (fun ls hl => ?_)
  refine lv_aload_n hx hb dX7_empty_5 rfl (lv_at hl 1 rfl) ?_
  refine lv_iconst (v := nI 0) hx hb dX7_empty_6 (by decide) ?_
  refine nv_put (D := G) (ci := 5) (v := .int (nI 0)) (ty := (tyX7 2)) (C := RX7) (T := TX7) (N := 4) hx hb hts iX7 tyX7 tyX7_ok nmX7 hown hKK.1 hP hD hS 0 rfl rfl 2 (by decide) f18 (fun _ h9 => h9) rfl (by decide +kernel) rfl rfl (Nat.le_of_ble_eq_true rfl) dX7_empty_7 [(e 0, .inr (5, [.ref (e 1), .ref (e 2), .int (nI 0), .int (nI at0)]))] rfl (fun H locs hP hD hS => ?_)
  refine lv_iload_n hx hb dX7_empty_10 rfl (lv_at hl 0 rfl) ?_
  exact retI hx hb hr hlocks hS hP hD () (rfl) (congrArg nI (show (sz : Nat) = sz from rfl)) dX7_empty_11

set_option maxHeartbeats 4000000 in
set_option maxRecDepth 100000 in
theorem c_X7_bin (l : Launch) (G : va_G) (tA : Nat → ClassId) (e : Nat → Nat) (sz : Nat) (at0 : Nat) (tx : Nat → Nat) (k : Nat) (hty : sz ≤ 250) (hbx : ∀ j, tx j < 1048576) (hk : k < sz) : CtI l yX7_byteAt wsX7_byteAt ({ frames := 0, cells := 0, slots := 0, locals := 0 }) G tA [.ref (e 0), .int (nI k)] ([(e 0, .inr (5, [.ref (e 1), .ref (e 2), .int (nI sz), .int (nI at0)])), (e 1, .inl (tA 0, 250, .inl (nF tx)))]) (fun (r : Int32) (_ : Unit) => r = nI (tx k) ∧ tx k < 1048576) (fun (_ : Unit) => [(e 0, .inr (5, [.ref (e 1), .ref (e 2), .int (nI sz), .int (nI at0)])), (e 1, .inl (tA 0, 250, .inl (nF tx)))]) 0 0 := by
  refine enterI (cc := cX7_byteAt) (maxL := 2) (ret := (some .int)) (by decide) rfl (Nat.le_of_ble_eq_true rfl) ?_
  intro p0 e0 s m args below meth c0_ A ls hx hb hml hr hts hown hlocks hin hKK hA hP hD hl hS
  have hown : s.vm.findClass RX7 = some m.cls := hown
  have hl : lv_has ls 2 [(0, .ref (e 0)), (1, .int (nI k))] := hl
  have f18 := hts (Cond.fieldLink RX7 18 "LentTerms$Text" "size" "I") (List.mem_of_getElem? (i := 1) rfl)
  have iX7 : ∀ w ∈ wsX70, w ∈ wsX7_byteAt := by decide +kernel
  have f9 := hts (Cond.fieldLink RX7 9 "LentTerms$Text" "bytes" "[I") (List.mem_of_getElem? (i := 2) rfl)
  refine lv_iload_n hx hb dX7_byteAt_0 rfl (lv_at hl 1 rfl) ?_
  refine nv_if_lt (tgt := 21) (by omega) hx hb dX7_byteAt_1 (by decide) ?_
  refine lv_iload_n hx hb dX7_byteAt_4 rfl (lv_at hl 1 rfl) ?_
  refine lv_aload_n hx hb dX7_byteAt_5 rfl (lv_at hl 0 rfl) ?_
  refine va_get (D := G) (ci := 5) (C := RX7) (T := TX7) (N := 4) hx hb hts iX7 hown hKK.1 hP 0 rfl rfl 2 (by decide) f18 (fun _ h9 => h9) rfl dX7_byteAt_6 ?_
  refine nv_icmp_ge (tgt := 21) (by omega) (by omega) hx hb dX7_byteAt_9 (by decide) (fun h => absurd h (by omega)) (fun _ => ?_)
  refine lv_aload_n hx hb dX7_byteAt_12 rfl (lv_at hl 0 rfl) ?_
  refine va_get (D := G) (ci := 5) (C := RX7) (T := TX7) (N := 4) hx hb hts iX7 hown hKK.1 hP 0 rfl rfl 0 (by decide) f9 (fun _ h9 => h9) rfl dX7_byteAt_13 ?_
  refine lv_iload_n hx hb dX7_byteAt_16 rfl (lv_at hl 1 rfl) ?_
  refine nv_iald (i := k) hx hb hKK.1 hP 1 0 rfl rfl (by omega) (by decide) dX7_byteAt_17 ?_
  have b_3 := hbx k
  refine lv_goto (tgt := 22) hx hb dX7_byteAt_18 (by decide) ?_
  exact retI hx hb hr hlocks hS hP hD () (rfl) (⟨congrArg nI (show (tx k : Nat) = tx k from rfl), hbx k⟩) dX7_byteAt_22

set_option maxHeartbeats 4000000 in
set_option maxRecDepth 100000 in
theorem c_X7_bout (l : Launch) (G : va_G) (tA : Nat → ClassId) (e : Nat → Nat) (sz : Nat) (at0 : Nat) (tx : Nat → Nat) (k : Nat) (hty : sz ≤ 250) (hbx : ∀ j, tx j < 1048576) (hk : sz ≤ k) (hk9 : k < 1048576) : CtI l yX7_byteAt wsX7_byteAt ({ frames := 0, cells := 0, slots := 0, locals := 0 }) G tA [.ref (e 0), .int (nI k)] ([(e 0, .inr (5, [.ref (e 1), .ref (e 2), .int (nI sz), .int (nI at0)])), (e 1, .inl (tA 0, 250, .inl (nF tx)))]) (fun (r : Int32) (_ : Unit) => r = (-1)) (fun (_ : Unit) => [(e 0, .inr (5, [.ref (e 1), .ref (e 2), .int (nI sz), .int (nI at0)])), (e 1, .inl (tA 0, 250, .inl (nF tx)))]) 0 0 := by
  refine enterI (cc := cX7_byteAt) (maxL := 2) (ret := (some .int)) (by decide) rfl (Nat.le_of_ble_eq_true rfl) ?_
  intro p0 e0 s m args below meth c0_ A ls hx hb hml hr hts hown hlocks hin hKK hA hP hD hl hS
  have hown : s.vm.findClass RX7 = some m.cls := hown
  have hl : lv_has ls 2 [(0, .ref (e 0)), (1, .int (nI k))] := hl
  have f18 := hts (Cond.fieldLink RX7 18 "LentTerms$Text" "size" "I") (List.mem_of_getElem? (i := 1) rfl)
  have iX7 : ∀ w ∈ wsX70, w ∈ wsX7_byteAt := by decide +kernel
  refine lv_iload_n hx hb dX7_byteAt_0 rfl (lv_at hl 1 rfl) ?_
  refine nv_if_lt (tgt := 21) (by omega) hx hb dX7_byteAt_1 (by decide) ?_
  refine lv_iload_n hx hb dX7_byteAt_4 rfl (lv_at hl 1 rfl) ?_
  refine lv_aload_n hx hb dX7_byteAt_5 rfl (lv_at hl 0 rfl) ?_
  refine va_get (D := G) (ci := 5) (C := RX7) (T := TX7) (N := 4) hx hb hts iX7 hown hKK.1 hP 0 rfl rfl 2 (by decide) f18 (fun _ h9 => h9) rfl dX7_byteAt_6 ?_
  refine nv_icmp_ge (tgt := 21) (by omega) (by omega) hx hb dX7_byteAt_9 (by decide) (fun _ => ?_) (fun h => absurd h (by omega))
  refine lv_iconst (v := (-1)) hx hb dX7_byteAt_21 (by decide) ?_
  exact retI hx hb hr hlocks hS hP hD () (rfl) (rfl) dX7_byteAt_22

set_option maxHeartbeats 4000000 in
set_option maxRecDepth 100000 in
theorem c_X7_isLetter (l : Launch) (G : va_G) (tA : Nat → ClassId) (e : Nat → Nat) (sz : Nat) (at0 : Nat) (tx : Nat → Nat) (k : Nat) (hty : sz ≤ 250) (hbx : ∀ j, tx j < 1048576) (hk : k < sz) : CtI l yX7_isLetter wsX7_isLetter ({ frames := 1, cells := 0, slots := 0, locals := 21 }) G tA [.ref (e 0), .int (nI k)] ([(e 0, .inr (5, [.ref (e 1), .ref (e 2), .int (nI sz), .int (nI at0)])), (e 1, .inl (tA 0, 250, .inl (nF tx)))]) (fun (r : Int32) (_ : Unit) => ((r = nI 1 ∧ (97 ≤ tx k ∧ tx k ≤ 122)) ∨ (r = nI 0 ∧ ¬ (97 ≤ tx k ∧ tx k ≤ 122)))) (fun (_ : Unit) => [(e 0, .inr (5, [.ref (e 1), .ref (e 2), .int (nI sz), .int (nI at0)])), (e 1, .inl (tA 0, 250, .inl (nF tx)))]) 0 0 := by
  refine enterI (cc := cX7_isLetter) (maxL := 2) (ret := (some .boolean)) (by decide) rfl (Nat.le_of_ble_eq_true rfl) ?_
  intro p0 e0 s m args below meth c0_ A ls hx hb hml hr hts hown hlocks hin hKK hA hP hD hl hS
  have hown : s.vm.findClass RX7 = some m.cls := hown
  have hl : lv_has ls 2 [(0, .ref (e 0)), (1, .int (nI k))] := hl
  refine lv_aload_n hx hb dX7_isLetter_0 rfl (lv_at hl 0 rfl) ?_
  refine lv_iload_n hx hb dX7_isLetter_1 rfl (lv_at hl 1 rfl) ?_
  refine roI hP hD hS hA [0, 1] rfl (runV (As := [.int (nI k)]) (rest := []) (isC := [0, 1]) ⟨hx, hb, hml, hown, hts⟩ hKK hP hD rfl (by decide) (c_X7_bin l G tA e sz at0 tx k (by first | assumption | omega) (hbx) (by first | assumption | omega) _) (cwV 1 hts gX7_isLetter_X7_byteAt rfl rfl rfl (by decide +kernel) ⟨Nat.le_of_ble_eq_true rfl, Nat.le_of_ble_eq_true rfl⟩) rfl rfl rfl rfl hl.1 rfl (lv_room (Nat.le_of_ble_eq_true rfl)) dX7_isLetter_2 ⟨Nat.le_of_ble_eq_true rfl, Nat.le_of_ble_eq_true rfl⟩) (fun _ => rfl) (fun r_1 u_2 H locs q_3 hP hS => ?_)
  obtain ⟨rfl, e_4⟩ := q_3
  have e_4 : tx k < 1048576 := e_4
  refine lv_bipush (v := nI 97) hx hb dX7_isLetter_5 (by decide +kernel) ?_
  refine nv_icmp_lt (tgt := 24) (by omega) (by omega) hx hb dX7_isLetter_7 (by decide) (fun c_5 => ?_) (fun c_5 => ?_)
  · refine lv_iconst (v := nI 0) hx hb dX7_isLetter_24 (by decide) ?_
    exact retZ (ty := .boolean) hx hb hr rfl hlocks hS hP hD () (rfl) (Or.inr ⟨rfl, by omega⟩) dX7_isLetter_25
  · refine lv_aload_n hx hb dX7_isLetter_10 rfl (lv_at hl 0 rfl) ?_
    refine lv_iload_n hx hb dX7_isLetter_11 rfl (lv_at hl 1 rfl) ?_
    refine roI hP hD hS hA [0, 1] rfl (runV (As := [.int (nI k)]) (rest := []) (isC := [0, 1]) ⟨hx, hb, hml, hown, hts⟩ hKK hP hD rfl (by decide) (c_X7_bin l G tA e sz at0 tx k (by first | assumption | omega) (hbx) (by first | assumption | omega) _) (cwV 1 hts gX7_isLetter_X7_byteAt rfl rfl rfl (by decide +kernel) ⟨Nat.le_of_ble_eq_true rfl, Nat.le_of_ble_eq_true rfl⟩) rfl rfl rfl rfl hl.1 rfl (lv_room (Nat.le_of_ble_eq_true rfl)) dX7_isLetter_12 ⟨Nat.le_of_ble_eq_true rfl, Nat.le_of_ble_eq_true rfl⟩) (fun _ => rfl) (fun r_6 u_7 H locs q_8 hP hS => ?_)
    obtain ⟨rfl, e_9⟩ := q_8
    have e_9 : tx k < 1048576 := e_9
    refine lv_bipush (v := nI 122) hx hb dX7_isLetter_15 (by decide +kernel) ?_
    refine nv_icmp_gt (tgt := 24) (by omega) (by omega) hx hb dX7_isLetter_17 (by decide) (fun c_10 => ?_) (fun c_10 => ?_)
    · refine lv_iconst (v := nI 0) hx hb dX7_isLetter_24 (by decide) ?_
      exact retZ (ty := .boolean) hx hb hr rfl hlocks hS hP hD () (rfl) (Or.inr ⟨rfl, by omega⟩) dX7_isLetter_25
    · refine lv_iconst (v := nI 1) hx hb dX7_isLetter_20 (by decide) ?_
      refine lv_goto (tgt := 25) hx hb dX7_isLetter_21 (by decide) ?_
      exact retZ (ty := .boolean) hx hb hr rfl hlocks hS hP hD () (rfl) (Or.inl ⟨rfl, by omega⟩) dX7_isLetter_25

set_option maxHeartbeats 4000000 in
set_option maxRecDepth 100000 in
theorem c_X7_isFigure (l : Launch) (G : va_G) (tA : Nat → ClassId) (e : Nat → Nat) (sz : Nat) (at0 : Nat) (tx : Nat → Nat) (k : Nat) (hty : sz ≤ 250) (hbx : ∀ j, tx j < 1048576) (hk : k < sz) : CtI l yX7_isFigure wsX7_isFigure ({ frames := 1, cells := 0, slots := 0, locals := 21 }) G tA [.ref (e 0), .int (nI k)] ([(e 0, .inr (5, [.ref (e 1), .ref (e 2), .int (nI sz), .int (nI at0)])), (e 1, .inl (tA 0, 250, .inl (nF tx)))]) (fun (r : Int32) (_ : Unit) => ((r = nI 1 ∧ (48 ≤ tx k ∧ tx k ≤ 57)) ∨ (r = nI 0 ∧ ¬ (48 ≤ tx k ∧ tx k ≤ 57)))) (fun (_ : Unit) => [(e 0, .inr (5, [.ref (e 1), .ref (e 2), .int (nI sz), .int (nI at0)])), (e 1, .inl (tA 0, 250, .inl (nF tx)))]) 0 0 := by
  refine enterI (cc := cX7_isFigure) (maxL := 2) (ret := (some .boolean)) (by decide) rfl (Nat.le_of_ble_eq_true rfl) ?_
  intro p0 e0 s m args below meth c0_ A ls hx hb hml hr hts hown hlocks hin hKK hA hP hD hl hS
  have hown : s.vm.findClass RX7 = some m.cls := hown
  have hl : lv_has ls 2 [(0, .ref (e 0)), (1, .int (nI k))] := hl
  refine lv_aload_n hx hb dX7_isFigure_0 rfl (lv_at hl 0 rfl) ?_
  refine lv_iload_n hx hb dX7_isFigure_1 rfl (lv_at hl 1 rfl) ?_
  refine roI hP hD hS hA [0, 1] rfl (runV (As := [.int (nI k)]) (rest := []) (isC := [0, 1]) ⟨hx, hb, hml, hown, hts⟩ hKK hP hD rfl (by decide) (c_X7_bin l G tA e sz at0 tx k (by first | assumption | omega) (hbx) (by first | assumption | omega) _) (cwV 1 hts gX7_isFigure_X7_byteAt rfl rfl rfl (by decide +kernel) ⟨Nat.le_of_ble_eq_true rfl, Nat.le_of_ble_eq_true rfl⟩) rfl rfl rfl rfl hl.1 rfl (lv_room (Nat.le_of_ble_eq_true rfl)) dX7_isFigure_2 ⟨Nat.le_of_ble_eq_true rfl, Nat.le_of_ble_eq_true rfl⟩) (fun _ => rfl) (fun r_1 u_2 H locs q_3 hP hS => ?_)
  obtain ⟨rfl, e_4⟩ := q_3
  have e_4 : tx k < 1048576 := e_4
  refine lv_bipush (v := nI 48) hx hb dX7_isFigure_5 (by decide +kernel) ?_
  refine nv_icmp_lt (tgt := 24) (by omega) (by omega) hx hb dX7_isFigure_7 (by decide) (fun c_5 => ?_) (fun c_5 => ?_)
  · refine lv_iconst (v := nI 0) hx hb dX7_isFigure_24 (by decide) ?_
    exact retZ (ty := .boolean) hx hb hr rfl hlocks hS hP hD () (rfl) (Or.inr ⟨rfl, by omega⟩) dX7_isFigure_25
  · refine lv_aload_n hx hb dX7_isFigure_10 rfl (lv_at hl 0 rfl) ?_
    refine lv_iload_n hx hb dX7_isFigure_11 rfl (lv_at hl 1 rfl) ?_
    refine roI hP hD hS hA [0, 1] rfl (runV (As := [.int (nI k)]) (rest := []) (isC := [0, 1]) ⟨hx, hb, hml, hown, hts⟩ hKK hP hD rfl (by decide) (c_X7_bin l G tA e sz at0 tx k (by first | assumption | omega) (hbx) (by first | assumption | omega) _) (cwV 1 hts gX7_isFigure_X7_byteAt rfl rfl rfl (by decide +kernel) ⟨Nat.le_of_ble_eq_true rfl, Nat.le_of_ble_eq_true rfl⟩) rfl rfl rfl rfl hl.1 rfl (lv_room (Nat.le_of_ble_eq_true rfl)) dX7_isFigure_12 ⟨Nat.le_of_ble_eq_true rfl, Nat.le_of_ble_eq_true rfl⟩) (fun _ => rfl) (fun r_6 u_7 H locs q_8 hP hS => ?_)
    obtain ⟨rfl, e_9⟩ := q_8
    have e_9 : tx k < 1048576 := e_9
    refine lv_bipush (v := nI 57) hx hb dX7_isFigure_15 (by decide +kernel) ?_
    refine nv_icmp_gt (tgt := 24) (by omega) (by omega) hx hb dX7_isFigure_17 (by decide) (fun c_10 => ?_) (fun c_10 => ?_)
    · refine lv_iconst (v := nI 0) hx hb dX7_isFigure_24 (by decide) ?_
      exact retZ (ty := .boolean) hx hb hr rfl hlocks hS hP hD () (rfl) (Or.inr ⟨rfl, by omega⟩) dX7_isFigure_25
    · refine lv_iconst (v := nI 1) hx hb dX7_isFigure_20 (by decide) ?_
      refine lv_goto (tgt := 25) hx hb dX7_isFigure_21 (by decide) ?_
      exact retZ (ty := .boolean) hx hb hr rfl hlocks hS hP hD () (rfl) (Or.inl ⟨rfl, by omega⟩) dX7_isFigure_25

set_option maxHeartbeats 4000000 in
set_option maxRecDepth 100000 in
theorem c_X7_skipBlanks (l : Launch) (G : va_G) (tA : Nat → ClassId) (e : Nat → Nat) (sz : Nat) (at0 : Nat) (tx : Nat → Nat) (hty : sz ≤ 250) (hbx : ∀ j, tx j < 1048576) (hat : at0 ≤ sz) : CtV l yX7_skipBlanks wsX7_skipBlanks ({ frames := 1, cells := 0, slots := 0, locals := 21 }) G tA [.ref (e 0)] ([(e 0, .inr (5, [.ref (e 1), .ref (e 2), .int (nI sz), .int (nI at0)])), (e 1, .inl (tA 0, 250, .inl (nF tx)))]) (fun (_ : Unit) => at0 ≤ ruE tx sz 32 32 at0 ∧ ruE tx sz 32 32 at0 ≤ sz) (fun (_ : Unit) => [(e 0, .inr (5, [.ref (e 1), .ref (e 2), .int (nI sz), .int (nI (ruE tx sz 32 32 at0))])), (e 1, .inl (tA 0, 250, .inl (nF tx)))]) 0 0 := by
  refine enterV (cc := cX7_skipBlanks) (maxL := 1) (ret := none) (by decide) rfl (Nat.le_of_ble_eq_true rfl) ?_
  intro p0 e0 s m args below meth c0_ A ls hx hb hml hr hts hown hlocks hin hKK hA hP hD hl hS
  have hown : s.vm.findClass RX7 = some m.cls := hown
  have hl : lv_has ls 1 [(0, .ref (e 0))] := hl
  have f22 := hts (Cond.fieldLink RX7 22 "LentTerms$Text" "at" "I") (List.mem_of_getElem? (i := 1) rfl)
  have iX7 : ∀ w ∈ wsX70, w ∈ wsX7_skipBlanks := by decide +kernel
  have f18 := hts (Cond.fieldLink RX7 18 "LentTerms$Text" "size" "I") (List.mem_of_getElem? (i := 2) rfl)
  refine wloop (σ := (Nat)) (fun | a1 => sz - a1) (fun | a1 => (at0 ≤ a1 ∧ a1 ≤ sz) ∧ (ruE tx sz 32 32 a1 = ruE tx sz 32 32 at0)) (fun | a1 => [(0, .ref (e 0))]) (fun | a1 => [(e 0, .inr (5, [.ref (e 1), .ref (e 2), .int (nI sz), .int (nI a1)])), (e 1, .inl (tA 0, 250, .inl (nF tx)))]) at0 ⟨(show at0 ≤ at0 ∧ at0 ≤ sz from ⟨by omega, by omega⟩), (show ruE tx sz 32 32 at0 = ruE tx sz 32 32 at0 from rfl)⟩ (lv_sub hl [0] rfl) hP hD hS ?_
  rintro a1 ⟨ha1, hr1⟩ ih_1 ls H locs hl hP hD hS
  have hl : lv_has ls 1 [(0, .ref (e 0))] := hl
  have hP : va_P G vwCl [(e 0, .inr (5, [.ref (e 1), .ref (e 2), .int (nI sz), .int (nI a1)])), (e 1, .inl (tA 0, 250, .inl (nF tx)))] H := hP
  have hD : va_D A [(e 0, .inr (5, [.ref (e 1), .ref (e 2), .int (nI sz), .int (nI a1)])), (e 1, .inl (tA 0, 250, .inl (nF tx)))] := hD
  have ha1 : at0 ≤ a1 ∧ a1 ≤ sz := ha1
  have hr1 : ruE tx sz 32 32 a1 = ruE tx sz 32 32 at0 := hr1
  refine lv_aload_n hx hb dX7_skipBlanks_0 rfl (lv_at hl 0 rfl) ?_
  refine va_get (D := G) (ci := 5) (C := RX7) (T := TX7) (N := 4) hx hb hts iX7 hown hKK.1 hP 0 rfl rfl 3 (by decide) f22 (fun _ h9 => h9) rfl dX7_skipBlanks_1 ?_
  refine lv_aload_n hx hb dX7_skipBlanks_4 rfl (lv_at hl 0 rfl) ?_
  refine va_get (D := G) (ci := 5) (C := RX7) (T := TX7) (N := 4) hx hb hts iX7 hown hKK.1 hP 0 rfl rfl 2 (by decide) f18 (fun _ h9 => h9) rfl dX7_skipBlanks_5 ?_
  refine nv_icmp_ge (tgt := 37) (by omega) (by omega) hx hb dX7_skipBlanks_8 (by decide) (fun c_2 => ?_) (fun c_2 => ?_)
  · have he : ruE tx sz 32 32 at0 = a1 := by rw [← hr1]; exact ruE_2 (by omega)
    exact retV hx hb hr hlocks hS hP hD () (by rw [he]) (by rw [he]; exact ha1) dX7_skipBlanks_37
  · refine lv_aload_n hx hb dX7_skipBlanks_11 rfl (lv_at hl 0 rfl) ?_
    refine lv_aload_n hx hb dX7_skipBlanks_12 rfl (lv_at hl 0 rfl) ?_
    refine va_get (D := G) (ci := 5) (C := RX7) (T := TX7) (N := 4) hx hb hts iX7 hown hKK.1 hP 0 rfl rfl 3 (by decide) f22 (fun _ h9 => h9) rfl dX7_skipBlanks_13 ?_
    refine roI hP hD hS hA [0, 1] rfl (runV (As := [.int (nI a1)]) (rest := []) (isC := [0, 1]) ⟨hx, hb, hml, hown, hts⟩ hKK hP hD rfl (by decide) (c_X7_bin l G tA e sz a1 tx a1 (by first | assumption | omega) (hbx) (by first | assumption | omega) _) (cwV 1 hts gX7_skipBlanks_X7_byteAt rfl rfl rfl (by decide +kernel) ⟨Nat.le_of_ble_eq_true rfl, Nat.le_of_ble_eq_true rfl⟩) rfl rfl rfl rfl hl.1 rfl (lv_room (Nat.le_of_ble_eq_true rfl)) dX7_skipBlanks_16 ⟨Nat.le_of_ble_eq_true rfl, Nat.le_of_ble_eq_true rfl⟩) (fun _ => rfl) (fun r_3 u_4 H locs q_5 hP hS => ?_)
    obtain ⟨rfl, e_6⟩ := q_5
    have e_6 : tx a1 < 1048576 := e_6
    refine lv_bipush (v := nI 32) hx hb dX7_skipBlanks_19 (by decide +kernel) ?_
    refine nv_icmp_ne (tgt := 37) (by omega) (by omega) hx hb dX7_skipBlanks_21 (by decide) (fun c_7 => ?_) (fun c_7 => ?_)
    · have he : ruE tx sz 32 32 at0 = a1 := by rw [← hr1]; exact ruE_2 (by omega)
      exact retV hx hb hr hlocks hS hP hD () (by rw [he]) (by rw [he]; exact ha1) dX7_skipBlanks_37
    · refine lv_aload_n hx hb dX7_skipBlanks_24 rfl (lv_at hl 0 rfl) ?_
      refine lv_dup hx hb dX7_skipBlanks_25 rfl ?_
      refine va_get (D := G) (ci := 5) (C := RX7) (T := TX7) (N := 4) hx hb hts iX7 hown hKK.1 hP 0 rfl rfl 3 (by decide) f22 (fun _ h9 => h9) rfl dX7_skipBlanks_26 ?_
      refine lv_iconst (v := nI 1) hx hb dX7_skipBlanks_29 (by decide) ?_
      refine nv_iadd hx hb dX7_skipBlanks_30 ?_
      refine nv_put (D := G) (ci := 5) (v := .int (nI (a1 + 1))) (ty := (tyX7 3)) (C := RX7) (T := TX7) (N := 4) hx hb hts iX7 tyX7 tyX7_ok nmX7 hown hKK.1 hP hD hS 0 rfl rfl 3 (by decide) f22 (fun _ h9 => h9) rfl (by decide +kernel) rfl rfl (Nat.le_of_ble_eq_true rfl) dX7_skipBlanks_31 [(e 0, .inr (5, [.ref (e 1), .ref (e 2), .int (nI sz), .int (nI (a1 + 1))])), (e 1, .inl (tA 0, 250, .inl (nF tx)))] rfl (fun H locs hP hD hS => ?_)
      refine lv_goto (tgt := 0) hx hb dX7_skipBlanks_34 (by decide) ?_
      exact ih_1 (a1 + 1) (show sz - (a1 + 1) < sz - a1 from by omega) ⟨(show at0 ≤ (a1 + 1) ∧ (a1 + 1) ≤ sz from ⟨by omega, by omega⟩), (show ruE tx sz 32 32 (a1 + 1) = ruE tx sz 32 32 at0 from by rw [ruE_1 (by omega), hr1])⟩ _ _ _ (lv_sub hl [0] rfl) hP hD hS

set_option maxHeartbeats 4000000 in
set_option maxRecDepth 100000 in
theorem c_X7_spelling (l : Launch) (G : va_G) (tA : Nat → ClassId) (ad av : Nat → Nat) (na : Nat) (w : Nat) (hw : w < 5) : CsR l yX7_spelling wsX7_spelling ({ frames := 0, cells := 0, slots := 0, locals := 0 }) G tA ad av na [.int (nI w)] ([]) (ad w) 0 0 := by
  refine entersR (cc := cX7_spelling) (maxL := 1) (ret := (some (.object "java/lang/String"))) (by decide) rfl (Nat.le_of_ble_eq_true rfl) ?_
  intro p0 e0 s m args below meth c0_ A ls hx hb hml hr hts hown hlocks hin hKK hA hP hD hl hS hE
  have hown : s.vm.findClass RX7 = some m.cls := hown
  have hl : lv_has ls 1 [(0, .int (nI w))] := hl
  refine lv_iload_n hx hb dX7_spelling_0 rfl (lv_at hl 0 rfl) ?_
  rcases (show ((w : Nat) : Int) = 0 ∨ ((w : Nat) : Int) = 1 ∨ ((w : Nat) : Int) = 2 ∨ ((w : Nat) : Int) = 3 ∨ (((w : Nat) : Int) < 0 ∨ 3 < ((w : Nat) : Int)) by omega) with sw_1 | sw_1 | sw_1 | sw_1 | sw_1
  · refine nv_tin (v := 0) (tgt := 32) hx hb dX7_spelling_1 (Eq.trans (nI_toIntC (by omega)) sw_1) (by decide) (by decide) rfl (by decide) ?_
    refine va_ldcS hx hb hown (hE.2.2.2.2.2.1 0 (by decide)) dX7_spelling_32 ?_
    obtain rfl : w = 0 := by omega
    exact retR hx hb hr hlocks hS hP hD dX7_spelling_34
  · refine nv_tin (v := 1) (tgt := 35) hx hb dX7_spelling_1 (Eq.trans (nI_toIntC (by omega)) sw_1) (by decide) (by decide) rfl (by decide) ?_
    refine va_ldcS hx hb hown (hE.2.2.2.2.2.1 1 (by decide)) dX7_spelling_35 ?_
    obtain rfl : w = 1 := by omega
    exact retR hx hb hr hlocks hS hP hD dX7_spelling_37
  · refine nv_tin (v := 2) (tgt := 38) hx hb dX7_spelling_1 (Eq.trans (nI_toIntC (by omega)) sw_1) (by decide) (by decide) rfl (by decide) ?_
    refine va_ldcS hx hb hown (hE.2.2.2.2.2.1 2 (by decide)) dX7_spelling_38 ?_
    obtain rfl : w = 2 := by omega
    exact retR hx hb hr hlocks hS hP hD dX7_spelling_40
  · refine nv_tin (v := 3) (tgt := 41) hx hb dX7_spelling_1 (Eq.trans (nI_toIntC (by omega)) sw_1) (by decide) (by decide) rfl (by decide) ?_
    refine va_ldcS hx hb hown (hE.2.2.2.2.2.1 3 (by decide)) dX7_spelling_41 ?_
    obtain rfl : w = 3 := by omega
    exact retR hx hb hr hlocks hS hP hD dX7_spelling_43
  · refine nv_tout (v := ((w : Nat) : Int)) (tgt := 44) hx hb dX7_spelling_1 (nI_toIntC (by omega)) (by omega) (by decide) ?_
    refine va_ldcS hx hb hown (hE.2.2.2.2.2.1 4 (by decide)) dX7_spelling_44 ?_
    obtain rfl : w = 4 := by omega
    exact retR hx hb hr hlocks hS hP hD dX7_spelling_46

set_option maxHeartbeats 4000000 in
set_option maxRecDepth 100000 in
theorem c_X7_isSpelled (l : Launch) (G : va_G) (tA : Nat → ClassId) (ad av : Nat → Nat) (na : Nat) (e : Nat → Nat) (sz : Nat) (at0 : Nat) (tx : Nat → Nat) (w : Nat) (e9 : Nat) (hty : sz ≤ 250) (hbx : ∀ j, tx j < 1048576) (hw : w < 5) (hat : at0 ≤ e9) (he9 : e9 ≤ sz) : CsI l yX7_isSpelled wsX7_isSpelled ({ frames := 4, cells := 0, slots := 0, locals := 85 }) G tA ad av na [.ref (e 0), .ref (ad w), .int (nI e9)] ([(e 0, .inr (5, [.ref (e 1), .ref (e 2), .int (nI sz), .int (nI at0)])), (e 1, .inl (tA 0, 250, .inl (nF tx)))]) (fun (r : Int32) (_ : Unit) => ((r = nI 1 ∧ (spl tx at0 (e9 - at0) w)) ∨ (r = nI 0 ∧ ¬ (spl tx at0 (e9 - at0) w)))) (fun (_ : Unit) => [(e 0, .inr (5, [.ref (e 1), .ref (e 2), .int (nI sz), .int (nI at0)])), (e 1, .inl (tA 0, 250, .inl (nF tx)))]) 0 0 := by
  refine entersI (cc := cX7_isSpelled) (maxL := 4) (ret := (some .boolean)) (by decide) rfl (Nat.le_of_ble_eq_true rfl) ?_
  intro p0 e0 s m args below meth c0_ A ls hx hb hml hr hts hown hlocks hin hKK hA hP hD hl hS hE
  have hown : s.vm.findClass RX7 = some m.cls := hown
  have hl : lv_has ls 4 [(0, .ref (e 0)), (1, .ref (ad w)), (2, .int (nI e9))] := hl
  have f22 := hts (Cond.fieldLink RX7 22 "LentTerms$Text" "at" "I") (List.mem_of_getElem? (i := 1) rfl)
  have iX7 : ∀ w ∈ wsX70, w ∈ wsX7_isSpelled := by decide +kernel
  have hln := lnW_lt w hw
  refine lv_iload_n hx hb dX7_isSpelled_0 rfl (lv_at hl 2 rfl) ?_
  refine lv_aload_n hx hb dX7_isSpelled_1 rfl (lv_at hl 0 rfl) ?_
  refine va_get (D := G) (ci := 5) (C := RX7) (T := TX7) (N := 4) hx hb hts iX7 hown hKK.1 hP 0 rfl rfl 3 (by decide) f22 (fun _ h9 => h9) rfl dX7_isSpelled_2 ?_
  refine nv_isub (show at0 ≤ e9 from by omega) hx hb dX7_isSpelled_5 ?_
  refine lv_aload_n hx hb dX7_isSpelled_6 rfl (lv_at hl 1 rfl) ?_
  refine roI hP hD hS hA [] rfl (runVt (As := []) (rest := [.int (nI (e9 - at0))]) (isC := []) ⟨hx, hb, hml, hown, hts⟩ hKK hP hD rfl (by decide) hE hS hA (by omega) (c_J0_length_8abf5 l G tA ad av na w (by omega) _) (cwV 0 hts gX7_isSpelled_J0_length_8abf5 rfl rfl rfl (by decide +kernel) ⟨Nat.le_of_ble_eq_true rfl, Nat.le_of_ble_eq_true rfl⟩) rfl rfl hl.1 rfl (lv_room (Nat.le_of_ble_eq_true rfl)) dX7_isSpelled_7 ⟨Nat.le_of_ble_eq_true rfl, Nat.le_of_ble_eq_true rfl⟩) (fun _ => rfl) (fun r_1 u_2 H locs q_3 hP hS => ?_)
  subst q_3
  refine nv_icmp_eq (tgt := 15) (by omega) (by omega) hx hb dX7_isSpelled_10 (by decide) (fun c_4 => ?_) (fun c_4 => ?_)
  · refine lv_iconst (v := nI 0) hx hb dX7_isSpelled_15 (by decide) ?_
    refine lv_istore_n (lv' := [(3, .int (nI 0)), (0, .ref (e 0)), (1, .ref (ad w)), (2, .int (nI e9))]) hx hb dX7_isSpelled_16 rfl hl (by decide) rfl (fun ls hl => ?_)
    refine wloop (σ := (Nat)) (fun | j => lnW w - j) (fun | j => (j ≤ lnW w) ∧ (∀ q, q < j → tx (at0 + q) = chW w q)) (fun | j => [(3, .int (nI j)), (0, .ref (e 0)), (1, .ref (ad w)), (2, .int (nI e9))]) (fun | j => [(e 0, .inr (5, [.ref (e 1), .ref (e 2), .int (nI sz), .int (nI at0)])), (e 1, .inl (tA 0, 250, .inl (nF tx)))]) 0 ⟨(show 0 ≤ lnW w from by omega), (show ∀ q, q < 0 → tx (at0 + q) = chW w q from by intro q z; omega)⟩ (lv_sub hl [0, 1, 2, 3] rfl) hP hD hS ?_
    rintro j ⟨hj, hno⟩ ih_5 ls H locs hl hP hD hS
    have hl : lv_has ls 4 [(3, .int (nI j)), (0, .ref (e 0)), (1, .ref (ad w)), (2, .int (nI e9))] := hl
    have hP : va_P G vwCl [(e 0, .inr (5, [.ref (e 1), .ref (e 2), .int (nI sz), .int (nI at0)])), (e 1, .inl (tA 0, 250, .inl (nF tx)))] H := hP
    have hD : va_D A [(e 0, .inr (5, [.ref (e 1), .ref (e 2), .int (nI sz), .int (nI at0)])), (e 1, .inl (tA 0, 250, .inl (nF tx)))] := hD
    have hj : j ≤ lnW w := hj
    have hno : ∀ q, q < j → tx (at0 + q) = chW w q := hno
    refine lv_iload_n hx hb dX7_isSpelled_17 rfl (lv_at hl 0 rfl) ?_
    refine lv_aload_n hx hb dX7_isSpelled_18 rfl (lv_at hl 2 rfl) ?_
    refine roI hP hD hS hA [] rfl (runVt (As := []) (rest := [.int (nI j)]) (isC := []) ⟨hx, hb, hml, hown, hts⟩ hKK hP hD rfl (by decide) hE hS hA (by omega) (c_J0_length_8abf5 l G tA ad av na w (by omega) _) (cwV 0 hts gX7_isSpelled_J0_length_8abf5 rfl rfl rfl (by decide +kernel) ⟨Nat.le_of_ble_eq_true rfl, Nat.le_of_ble_eq_true rfl⟩) rfl rfl hl.1 rfl (lv_room (Nat.le_of_ble_eq_true rfl)) dX7_isSpelled_19 ⟨Nat.le_of_ble_eq_true rfl, Nat.le_of_ble_eq_true rfl⟩) (fun _ => rfl) (fun r_6 u_7 H locs q_8 hP hS => ?_)
    subst q_8
    refine nv_icmp_ge (tgt := 51) (by omega) (by omega) hx hb dX7_isSpelled_22 (by decide) (fun c_9 => ?_) (fun c_9 => ?_)
    · refine lv_iconst (v := nI 1) hx hb dX7_isSpelled_51 (by decide) ?_
      exact retZ (ty := .boolean) hx hb hr rfl hlocks hS hP hD () (rfl) (Or.inl ⟨rfl, ⟨by omega, fun q z => hno q (by omega)⟩⟩) dX7_isSpelled_52
    · refine lv_aload_n hx hb dX7_isSpelled_25 rfl (lv_at hl 1 rfl) ?_
      refine lv_aload_n hx hb dX7_isSpelled_26 rfl (lv_at hl 1 rfl) ?_
      refine va_get (D := G) (ci := 5) (C := RX7) (T := TX7) (N := 4) hx hb hts iX7 hown hKK.1 hP 0 rfl rfl 3 (by decide) f22 (fun _ h9 => h9) rfl dX7_isSpelled_27 ?_
      refine lv_iload_n hx hb dX7_isSpelled_30 rfl (lv_at hl 0 rfl) ?_
      refine nv_iadd hx hb dX7_isSpelled_31 ?_
      refine roI hP hD hS hA [0, 1] rfl (runV (As := [.int (nI (at0 + j))]) (rest := []) (isC := [0, 1]) ⟨hx, hb, hml, hown, hts⟩ hKK hP hD rfl (by decide) (c_X7_bin l G tA e sz at0 tx (at0 + j) (by first | assumption | omega) (hbx) (by first | assumption | omega) _) (cwV 1 hts gX7_isSpelled_X7_byteAt rfl rfl rfl (by decide +kernel) ⟨Nat.le_of_ble_eq_true rfl, Nat.le_of_ble_eq_true rfl⟩) rfl rfl rfl rfl hl.1 rfl (lv_room (Nat.le_of_ble_eq_true rfl)) dX7_isSpelled_32 ⟨Nat.le_of_ble_eq_true rfl, Nat.le_of_ble_eq_true rfl⟩) (fun _ => rfl) (fun r_10 u_11 H locs q_12 hP hS => ?_)
      obtain ⟨rfl, e_13⟩ := q_12
      have e_13 : tx (at0 + j) < 1048576 := e_13
      refine lv_aload_n hx hb dX7_isSpelled_35 rfl (lv_at hl 2 rfl) ?_
      refine lv_iload_n hx hb dX7_isSpelled_36 rfl (lv_at hl 0 rfl) ?_
      refine roI hP hD hS hA [] rfl (runVt (As := [.int (nI j)]) (rest := [.int (nI (tx (at0 + j)))]) (isC := []) ⟨hx, hb, hml, hown, hts⟩ hKK hP hD rfl (by decide) hE hS hA (by omega) (c_J0_charAt_5068e l G tA ad av na w j (by omega) (by first | assumption | omega) _) (cwV 1 hts gX7_isSpelled_J0_charAt_5068e rfl rfl rfl (by decide +kernel) ⟨Nat.le_of_ble_eq_true rfl, Nat.le_of_ble_eq_true rfl⟩) rfl rfl hl.1 rfl (lv_room (Nat.le_of_ble_eq_true rfl)) dX7_isSpelled_37 ⟨Nat.le_of_ble_eq_true rfl, Nat.le_of_ble_eq_true rfl⟩) (fun _ => rfl) (fun r_14 u_15 H locs q_16 hP hS => ?_)
      subst q_16
      have hch := chW_lt w hw j (by omega)
      refine nv_icmp_eq (tgt := 45) (by omega) (by omega) hx hb dX7_isSpelled_40 (by decide) (fun c_17 => ?_) (fun c_17 => ?_)
      · refine lv_iinc (v := (nI (j + 1))) (lv' := [(3, .int (nI (j + 1))), (0, .ref (e 0)), (1, .ref (ad w)), (2, .int (nI e9))]) hx hb dX7_isSpelled_45 hl (k := 0) rfl (nI_add j 1) (by decide) rfl (fun ls hl => ?_)
        refine lv_goto (tgt := 17) hx hb dX7_isSpelled_48 (by decide) ?_
        exact ih_5 (j + 1) (show lnW w - (j + 1) < lnW w - j from by omega) ⟨(show (j + 1) ≤ lnW w from by omega), (show ∀ q, q < (j + 1) → tx (at0 + q) = chW w q from by intro q z; rcases Nat.lt_succ_iff_lt_or_eq.mp z with z3 | z3; exact hno q z3; rw [z3]; omega)⟩ _ _ _ (lv_sub hl [0, 1, 2, 3] rfl) hP hD hS
      · refine lv_iconst (v := nI 0) hx hb dX7_isSpelled_43 (by decide) ?_
        exact retZ (ty := .boolean) hx hb hr rfl hlocks hS hP hD () (rfl) (Or.inr ⟨rfl, fun z => by have := z.2 j (by omega); omega⟩) dX7_isSpelled_44
  · refine lv_iconst (v := nI 0) hx hb dX7_isSpelled_13 (by decide) ?_
    exact retZ (ty := .boolean) hx hb hr rfl hlocks hS hP hD () (rfl) (Or.inr ⟨rfl, fun z => by have := z.1; omega⟩) dX7_isSpelled_14

set_option maxHeartbeats 4000000 in
set_option maxRecDepth 100000 in
theorem c_X7_takeWord (l : Launch) (G : va_G) (tA : Nat → ClassId) (ad av : Nat → Nat) (na : Nat) (e : Nat → Nat) (sz : Nat) (at0 : Nat) (tx : Nat → Nat) (hty : sz ≤ 250) (hbx : ∀ j, tx j < 1048576) (hat : at0 ≤ sz) : CsI l yX7_takeWord wsX7_takeWord ({ frames := 5, cells := 0, slots := 0, locals := 108 }) G tA ad av na [.ref (e 0)] ([(e 0, .inr (5, [.ref (e 1), .ref (e 2), .int (nI sz), .int (nI at0)])), (e 1, .inl (tA 0, 250, .inl (nF tx)))]) (fun (r : Int32) (u : (Nat) × (Nat)) => r = (nI u.1) + (-1) ∧ u.1 = (wqS tx at0 ((ruE tx sz 97 122 at0) - at0)) ∧ (u.2 = if u.1 = 0 then at0 else (ruE tx sz 97 122 at0)) ∧ u.1 ≤ 5 ∧ at0 ≤ u.2 ∧ u.2 ≤ sz) (fun (u : (Nat) × (Nat)) => [(e 0, .inr (5, [.ref (e 1), .ref (e 2), .int (nI sz), .int (nI u.2)])), (e 1, .inl (tA 0, 250, .inl (nF tx)))]) 0 0 := by
  refine entersI (cc := cX7_takeWord) (maxL := 3) (ret := (some .int)) (by decide) rfl (Nat.le_of_ble_eq_true rfl) ?_
  intro p0 e0 s m args below meth c0_ A ls hx hb hml hr hts hown hlocks hin hKK hA hP hD hl hS hE
  have hown : s.vm.findClass RX7 = some m.cls := hown
  have hl : lv_has ls 3 [(0, .ref (e 0))] := hl
  have f22 := hts (Cond.fieldLink RX7 22 "LentTerms$Text" "at" "I") (List.mem_of_getElem? (i := 1) rfl)
  have iX7 : ∀ w ∈ wsX70, w ∈ wsX7_takeWord := by decide +kernel
  have f18 := hts (Cond.fieldLink RX7 18 "LentTerms$Text" "size" "I") (List.mem_of_getElem? (i := 2) rfl)
  refine lv_aload_n hx hb dX7_takeWord_0 rfl (lv_at hl 0 rfl) ?_
  refine va_get (D := G) (ci := 5) (C := RX7) (T := TX7) (N := 4) hx hb hts iX7 hown hKK.1 hP 0 rfl rfl 3 (by decide) f22 (fun _ h9 => h9) rfl dX7_takeWord_1 ?_
  refine lv_istore_n (lv' := [(1, .int (nI at0)), (0, .ref (e 0))]) hx hb dX7_takeWord_4 rfl hl (by decide) rfl (fun ls hl => ?_)
  refine wloop (σ := (Nat)) (fun | e1 => sz - e1) (fun | e1 => (at0 ≤ e1 ∧ e1 ≤ sz) ∧ (ruE tx sz 97 122 e1 = (ruE tx sz 97 122 at0))) (fun | e1 => [(1, .int (nI e1)), (0, .ref (e 0))]) (fun | e1 => [(e 0, .inr (5, [.ref (e 1), .ref (e 2), .int (nI sz), .int (nI at0)])), (e 1, .inl (tA 0, 250, .inl (nF tx)))]) at0 ⟨(show at0 ≤ at0 ∧ at0 ≤ sz from ⟨by omega, by omega⟩), (show ruE tx sz 97 122 at0 = (ruE tx sz 97 122 at0) from rfl)⟩ (lv_sub hl [0, 1] rfl) hP hD hS ?_
  rintro e1 ⟨he1, hr1⟩ ih_1 ls H locs hl hP hD hS
  have hl : lv_has ls 3 [(1, .int (nI e1)), (0, .ref (e 0))] := hl
  have hP : va_P G vwCl [(e 0, .inr (5, [.ref (e 1), .ref (e 2), .int (nI sz), .int (nI at0)])), (e 1, .inl (tA 0, 250, .inl (nF tx)))] H := hP
  have hD : va_D A [(e 0, .inr (5, [.ref (e 1), .ref (e 2), .int (nI sz), .int (nI at0)])), (e 1, .inl (tA 0, 250, .inl (nF tx)))] := hD
  have he1 : at0 ≤ e1 ∧ e1 ≤ sz := he1
  have hr1 : ruE tx sz 97 122 e1 = (ruE tx sz 97 122 at0) := hr1
  refine lv_iload_n hx hb dX7_takeWord_5 rfl (lv_at hl 0 rfl) ?_
  refine lv_aload_n hx hb dX7_takeWord_6 rfl (lv_at hl 1 rfl) ?_
  refine va_get (D := G) (ci := 5) (C := RX7) (T := TX7) (N := 4) hx hb hts iX7 hown hKK.1 hP 0 rfl rfl 2 (by decide) f18 (fun _ h9 => h9) rfl dX7_takeWord_7 ?_
  refine nv_icmp_ge (tgt := 27) (by omega) (by omega) hx hb dX7_takeWord_10 (by decide) (fun c_2 => ?_) (fun c_2 => ?_)
  · have hE1 : (ruE tx sz 97 122 at0) = e1 := by rw [← hr1]; exact ruE_2 (by omega)
    refine lv_iconst (v := nI 0) hx hb dX7_takeWord_27 (by decide) ?_
    refine lv_istore_n (lv' := [(2, .int (nI 0)), (1, .int (nI e1)), (0, .ref (e 0))]) hx hb dX7_takeWord_28 rfl hl (by decide) rfl (fun ls hl => ?_)
    refine wloop (σ := (Nat)) (fun | w => 5 - w) (fun | w => (w ≤ 5) ∧ (∀ q, q < w → ¬ spl tx at0 (e1 - at0) q)) (fun | w => [(2, .int (nI w)), (1, .int (nI e1)), (0, .ref (e 0))]) (fun | w => [(e 0, .inr (5, [.ref (e 1), .ref (e 2), .int (nI sz), .int (nI at0)])), (e 1, .inl (tA 0, 250, .inl (nF tx)))]) 0 ⟨(show 0 ≤ 5 from by omega), (show ∀ q, q < 0 → ¬ spl tx at0 (e1 - at0) q from by intro q z; omega)⟩ (lv_sub hl [0, 1, 2] rfl) hP hD hS ?_
    rintro w ⟨hw, hno⟩ ih_3 ls H locs hl hP hD hS
    have hl : lv_has ls 3 [(2, .int (nI w)), (1, .int (nI e1)), (0, .ref (e 0))] := hl
    have hP : va_P G vwCl [(e 0, .inr (5, [.ref (e 1), .ref (e 2), .int (nI sz), .int (nI at0)])), (e 1, .inl (tA 0, 250, .inl (nF tx)))] H := hP
    have hD : va_D A [(e 0, .inr (5, [.ref (e 1), .ref (e 2), .int (nI sz), .int (nI at0)])), (e 1, .inl (tA 0, 250, .inl (nF tx)))] := hD
    have hw : w ≤ 5 := hw
    have hno : ∀ q, q < w → ¬ spl tx at0 (e1 - at0) q := hno
    refine lv_iload_n hx hb dX7_takeWord_29 rfl (lv_at hl 0 rfl) ?_
    refine lv_iconst (v := nI 5) hx hb dX7_takeWord_30 (by decide) ?_
    refine nv_icmp_ge (tgt := 59) (by omega) (by omega) hx hb dX7_takeWord_31 (by decide) (fun c_4 => ?_) (fun c_4 => ?_)
    · have hq0 : (wqS tx at0 ((ruE tx sz 97 122 at0) - at0)) = 0 := by rw [hE1]; exact wqS_0 (fun q z => hno q (by omega))
      refine lv_iconst (v := (-1)) hx hb dX7_takeWord_59 (by decide) ?_
      exact retI hx hb hr hlocks hS hP hD (0, at0) (rfl) (⟨(show (-1 : Int32) = nI 0 + (-1) from by decide), hq0.symm, by rw [if_pos rfl], by omega, by omega, by omega⟩) dX7_takeWord_60
    · refine lv_aload_n hx hb dX7_takeWord_34 rfl (lv_at hl 2 rfl) ?_
      refine lv_iload_n hx hb dX7_takeWord_35 rfl (lv_at hl 0 rfl) ?_
      refine roR hP hD hS hA [] rfl (runSs (As := [.int (nI w)]) (rest := [.ref (e 0)]) (isC := []) ⟨hx, hb, hml, hown, hts⟩ hKK hP hD rfl (by decide) hE hS hA (c_X7_spelling l G tA ad av na w (by omega) _) (va_cwS 1 hts gX7_takeWord_X7_spelling rfl rfl rfl (by decide +kernel) ⟨Nat.le_of_ble_eq_true rfl, Nat.le_of_ble_eq_true rfl⟩) rfl rfl hl.1 rfl (lv_room (Nat.le_of_ble_eq_true rfl)) dX7_takeWord_36 ⟨Nat.le_of_ble_eq_true rfl, Nat.le_of_ble_eq_true rfl⟩) (fun H locs hP hS => ?_)
      refine lv_iload_n hx hb dX7_takeWord_39 rfl (lv_at hl 1 rfl) ?_
      refine roI hP hD hS hA [0, 1] rfl (runVs (As := [.ref (ad w), .int (nI e1)]) (rest := []) (isC := [0, 1]) ⟨hx, hb, hml, hown, hts⟩ hKK hP hD rfl (by decide) hE hS hA (c_X7_isSpelled l G tA ad av na e sz at0 tx w e1 (by first | assumption | omega) (hbx) (by omega) (by first | assumption | omega) (by first | assumption | omega) _) (cwV 2 hts gX7_takeWord_X7_isSpelled rfl rfl rfl (by decide +kernel) ⟨Nat.le_of_ble_eq_true rfl, Nat.le_of_ble_eq_true rfl⟩) rfl rfl rfl rfl hl.1 rfl (lv_room (Nat.le_of_ble_eq_true rfl)) dX7_takeWord_40 ⟨Nat.le_of_ble_eq_true rfl, Nat.le_of_ble_eq_true rfl⟩) (fun _ => rfl) (fun r_8 u_9 H locs q_10 hP hS => ?_)
      rcases q_10 with ⟨rfl, p_11⟩ | ⟨rfl, p_11⟩
      · have p_11 : spl tx at0 (e1 - at0) w := p_11
        refine nv_if_eq (tgt := 53) (by omega) hx hb dX7_takeWord_43 (by decide) (fun h => absurd h (by omega)) (fun _ => ?_)
        have hq1 : (wqS tx at0 ((ruE tx sz 97 122 at0) - at0)) = w + 1 := by rw [hE1]; exact wqS_1 (by omega) (by assumption) hno
        refine lv_aload_n hx hb dX7_takeWord_46 rfl (lv_at hl 2 rfl) ?_
        refine lv_iload_n hx hb dX7_takeWord_47 rfl (lv_at hl 1 rfl) ?_
        refine nv_put (D := G) (ci := 5) (v := .int (nI e1)) (ty := (tyX7 3)) (C := RX7) (T := TX7) (N := 4) hx hb hts iX7 tyX7 tyX7_ok nmX7 hown hKK.1 hP hD hS 0 rfl rfl 3 (by decide) f22 (fun _ h9 => h9) rfl (by decide +kernel) rfl rfl (Nat.le_of_ble_eq_true rfl) dX7_takeWord_48 [(e 0, .inr (5, [.ref (e 1), .ref (e 2), .int (nI sz), .int (nI e1)])), (e 1, .inl (tA 0, 250, .inl (nF tx)))] rfl (fun H locs hP hD hS => ?_)
        refine lv_iload_n hx hb dX7_takeWord_51 rfl (lv_at hl 0 rfl) ?_
        exact retI hx hb hr hlocks hS hP hD (w + 1, e1) (rfl) (⟨(pk_m1 w).symm, hq1.symm, by rw [if_neg (by omega), hE1], by omega, by omega, by omega⟩) dX7_takeWord_52
      · have p_11 : ¬ (spl tx at0 (e1 - at0) w) := p_11
        refine nv_if_eq (tgt := 53) (by omega) hx hb dX7_takeWord_43 (by decide) (fun _ => ?_) (fun h => absurd h (by omega))
        refine lv_iinc (v := (nI (w + 1))) (lv' := [(2, .int (nI (w + 1))), (1, .int (nI e1)), (0, .ref (e 0))]) hx hb dX7_takeWord_53 hl (k := 0) rfl (nI_add w 1) (by decide) rfl (fun ls hl => ?_)
        refine lv_goto (tgt := 29) hx hb dX7_takeWord_56 (by decide) ?_
        exact ih_3 (w + 1) (show 5 - (w + 1) < 5 - w from by omega) ⟨(show (w + 1) ≤ 5 from by omega), (show ∀ q, q < (w + 1) → ¬ spl tx at0 (e1 - at0) q from by intro q z; rcases Nat.lt_succ_iff_lt_or_eq.mp z with z3 | z3; exact hno q z3; rw [z3]; assumption)⟩ _ _ _ (lv_sub hl [0, 1, 2] rfl) hP hD hS
  · refine lv_aload_n hx hb dX7_takeWord_13 rfl (lv_at hl 1 rfl) ?_
    refine lv_iload_n hx hb dX7_takeWord_14 rfl (lv_at hl 0 rfl) ?_
    refine roI hP hD hS hA [0, 1] rfl (runV (As := [.int (nI e1)]) (rest := []) (isC := [0, 1]) ⟨hx, hb, hml, hown, hts⟩ hKK hP hD rfl (by decide) (c_X7_isLetter l G tA e sz at0 tx e1 (by first | assumption | omega) (hbx) (by first | assumption | omega) _) (cwV 1 hts gX7_takeWord_X7_isLetter rfl rfl rfl (by decide +kernel) ⟨Nat.le_of_ble_eq_true rfl, Nat.le_of_ble_eq_true rfl⟩) rfl rfl rfl rfl hl.1 rfl (lv_room (Nat.le_of_ble_eq_true rfl)) dX7_takeWord_15 ⟨Nat.le_of_ble_eq_true rfl, Nat.le_of_ble_eq_true rfl⟩) (fun _ => rfl) (fun r_14 u_15 H locs q_16 hP hS => ?_)
    rcases q_16 with ⟨rfl, p_17⟩ | ⟨rfl, p_17⟩
    · have p_17 : 97 ≤ tx e1 ∧ tx e1 ≤ 122 := p_17
      refine nv_if_eq (tgt := 27) (by omega) hx hb dX7_takeWord_18 (by decide) (fun h => absurd h (by omega)) (fun _ => ?_)
      refine lv_iinc (v := (nI (e1 + 1))) (lv' := [(1, .int (nI (e1 + 1))), (0, .ref (e 0))]) hx hb dX7_takeWord_21 hl (k := 0) rfl (nI_add e1 1) (by decide) rfl (fun ls hl => ?_)
      refine lv_goto (tgt := 5) hx hb dX7_takeWord_24 (by decide) ?_
      exact ih_1 (e1 + 1) (show sz - (e1 + 1) < sz - e1 from by omega) ⟨(show at0 ≤ (e1 + 1) ∧ (e1 + 1) ≤ sz from ⟨by omega, by omega⟩), (show ruE tx sz 97 122 (e1 + 1) = (ruE tx sz 97 122 at0) from by rw [ruE_1 (by omega), hr1])⟩ _ _ _ (lv_sub hl [0, 1] rfl) hP hD hS
    · have p_17 : ¬ (97 ≤ tx e1 ∧ tx e1 ≤ 122) := p_17
      refine nv_if_eq (tgt := 27) (by omega) hx hb dX7_takeWord_18 (by decide) (fun _ => ?_) (fun h => absurd h (by omega))
      have hE1 : (ruE tx sz 97 122 at0) = e1 := by rw [← hr1]; exact ruE_2 (by omega)
      refine lv_iconst (v := nI 0) hx hb dX7_takeWord_27 (by decide) ?_
      refine lv_istore_n (lv' := [(2, .int (nI 0)), (1, .int (nI e1)), (0, .ref (e 0))]) hx hb dX7_takeWord_28 rfl hl (by decide) rfl (fun ls hl => ?_)
      refine wloop (σ := (Nat)) (fun | w => 5 - w) (fun | w => (w ≤ 5) ∧ (∀ q, q < w → ¬ spl tx at0 (e1 - at0) q)) (fun | w => [(2, .int (nI w)), (1, .int (nI e1)), (0, .ref (e 0))]) (fun | w => [(e 0, .inr (5, [.ref (e 1), .ref (e 2), .int (nI sz), .int (nI at0)])), (e 1, .inl (tA 0, 250, .inl (nF tx)))]) 0 ⟨(show 0 ≤ 5 from by omega), (show ∀ q, q < 0 → ¬ spl tx at0 (e1 - at0) q from by intro q z; omega)⟩ (lv_sub hl [0, 1, 2] rfl) hP hD hS ?_
      rintro w ⟨hw, hno⟩ ih_20 ls H locs hl hP hD hS
      have hl : lv_has ls 3 [(2, .int (nI w)), (1, .int (nI e1)), (0, .ref (e 0))] := hl
      have hP : va_P G vwCl [(e 0, .inr (5, [.ref (e 1), .ref (e 2), .int (nI sz), .int (nI at0)])), (e 1, .inl (tA 0, 250, .inl (nF tx)))] H := hP
      have hD : va_D A [(e 0, .inr (5, [.ref (e 1), .ref (e 2), .int (nI sz), .int (nI at0)])), (e 1, .inl (tA 0, 250, .inl (nF tx)))] := hD
      have hw : w ≤ 5 := hw
      have hno : ∀ q, q < w → ¬ spl tx at0 (e1 - at0) q := hno
      refine lv_iload_n hx hb dX7_takeWord_29 rfl (lv_at hl 0 rfl) ?_
      refine lv_iconst (v := nI 5) hx hb dX7_takeWord_30 (by decide) ?_
      refine nv_icmp_ge (tgt := 59) (by omega) (by omega) hx hb dX7_takeWord_31 (by decide) (fun c_21 => ?_) (fun c_21 => ?_)
      · have hq0 : (wqS tx at0 ((ruE tx sz 97 122 at0) - at0)) = 0 := by rw [hE1]; exact wqS_0 (fun q z => hno q (by omega))
        refine lv_iconst (v := (-1)) hx hb dX7_takeWord_59 (by decide) ?_
        exact retI hx hb hr hlocks hS hP hD (0, at0) (rfl) (⟨(show (-1 : Int32) = nI 0 + (-1) from by decide), hq0.symm, by rw [if_pos rfl], by omega, by omega, by omega⟩) dX7_takeWord_60
      · refine lv_aload_n hx hb dX7_takeWord_34 rfl (lv_at hl 2 rfl) ?_
        refine lv_iload_n hx hb dX7_takeWord_35 rfl (lv_at hl 0 rfl) ?_
        refine roR hP hD hS hA [] rfl (runSs (As := [.int (nI w)]) (rest := [.ref (e 0)]) (isC := []) ⟨hx, hb, hml, hown, hts⟩ hKK hP hD rfl (by decide) hE hS hA (c_X7_spelling l G tA ad av na w (by omega) _) (va_cwS 1 hts gX7_takeWord_X7_spelling rfl rfl rfl (by decide +kernel) ⟨Nat.le_of_ble_eq_true rfl, Nat.le_of_ble_eq_true rfl⟩) rfl rfl hl.1 rfl (lv_room (Nat.le_of_ble_eq_true rfl)) dX7_takeWord_36 ⟨Nat.le_of_ble_eq_true rfl, Nat.le_of_ble_eq_true rfl⟩) (fun H locs hP hS => ?_)
        refine lv_iload_n hx hb dX7_takeWord_39 rfl (lv_at hl 1 rfl) ?_
        refine roI hP hD hS hA [0, 1] rfl (runVs (As := [.ref (ad w), .int (nI e1)]) (rest := []) (isC := [0, 1]) ⟨hx, hb, hml, hown, hts⟩ hKK hP hD rfl (by decide) hE hS hA (c_X7_isSpelled l G tA ad av na e sz at0 tx w e1 (by first | assumption | omega) (hbx) (by omega) (by first | assumption | omega) (by first | assumption | omega) _) (cwV 2 hts gX7_takeWord_X7_isSpelled rfl rfl rfl (by decide +kernel) ⟨Nat.le_of_ble_eq_true rfl, Nat.le_of_ble_eq_true rfl⟩) rfl rfl rfl rfl hl.1 rfl (lv_room (Nat.le_of_ble_eq_true rfl)) dX7_takeWord_40 ⟨Nat.le_of_ble_eq_true rfl, Nat.le_of_ble_eq_true rfl⟩) (fun _ => rfl) (fun r_25 u_26 H locs q_27 hP hS => ?_)
        rcases q_27 with ⟨rfl, p_28⟩ | ⟨rfl, p_28⟩
        · have p_28 : spl tx at0 (e1 - at0) w := p_28
          refine nv_if_eq (tgt := 53) (by omega) hx hb dX7_takeWord_43 (by decide) (fun h => absurd h (by omega)) (fun _ => ?_)
          have hq1 : (wqS tx at0 ((ruE tx sz 97 122 at0) - at0)) = w + 1 := by rw [hE1]; exact wqS_1 (by omega) (by assumption) hno
          refine lv_aload_n hx hb dX7_takeWord_46 rfl (lv_at hl 2 rfl) ?_
          refine lv_iload_n hx hb dX7_takeWord_47 rfl (lv_at hl 1 rfl) ?_
          refine nv_put (D := G) (ci := 5) (v := .int (nI e1)) (ty := (tyX7 3)) (C := RX7) (T := TX7) (N := 4) hx hb hts iX7 tyX7 tyX7_ok nmX7 hown hKK.1 hP hD hS 0 rfl rfl 3 (by decide) f22 (fun _ h9 => h9) rfl (by decide +kernel) rfl rfl (Nat.le_of_ble_eq_true rfl) dX7_takeWord_48 [(e 0, .inr (5, [.ref (e 1), .ref (e 2), .int (nI sz), .int (nI e1)])), (e 1, .inl (tA 0, 250, .inl (nF tx)))] rfl (fun H locs hP hD hS => ?_)
          refine lv_iload_n hx hb dX7_takeWord_51 rfl (lv_at hl 0 rfl) ?_
          exact retI hx hb hr hlocks hS hP hD (w + 1, e1) (rfl) (⟨(pk_m1 w).symm, hq1.symm, by rw [if_neg (by omega), hE1], by omega, by omega, by omega⟩) dX7_takeWord_52
        · have p_28 : ¬ (spl tx at0 (e1 - at0) w) := p_28
          refine nv_if_eq (tgt := 53) (by omega) hx hb dX7_takeWord_43 (by decide) (fun _ => ?_) (fun h => absurd h (by omega))
          refine lv_iinc (v := (nI (w + 1))) (lv' := [(2, .int (nI (w + 1))), (1, .int (nI e1)), (0, .ref (e 0))]) hx hb dX7_takeWord_53 hl (k := 0) rfl (nI_add w 1) (by decide) rfl (fun ls hl => ?_)
          refine lv_goto (tgt := 29) hx hb dX7_takeWord_56 (by decide) ?_
          exact ih_20 (w + 1) (show 5 - (w + 1) < 5 - w from by omega) ⟨(show (w + 1) ≤ 5 from by omega), (show ∀ q, q < (w + 1) → ¬ spl tx at0 (e1 - at0) q from by intro q z; rcases Nat.lt_succ_iff_lt_or_eq.mp z with z3 | z3; exact hno q z3; rw [z3]; assumption)⟩ _ _ _ (lv_sub hl [0, 1, 2] rfl) hP hD hS

/-- a number from a on, shifted by one; 0: none -/
def tnQ (tx : Nat → Nat) (sz a : Nat) : Nat := if ruE tx sz 48 57 a = a ∨ 3 < ruE tx sz 48 57 a - a then 0 else nuS tx a (ruE tx sz 48 57 a - a) + 1
def tnA (tx : Nat → Nat) (sz a : Nat) : Nat := if tnQ tx sz a = 0 then a else ruE tx sz 48 57 a
theorem tnQ_0 {tx : Nat → Nat} {sz a e : Nat} (he : ruE tx sz 48 57 a = e) (h : e = a ∨ 3 < e - a) : tnQ tx sz a = 0 ∧ tnA tx sz a = a := by
  have h0 : tnQ tx sz a = 0 := by unfold tnQ; rw [he]; exact if_pos h
  exact ⟨h0, if_pos h0⟩
theorem tnQ_1 {tx : Nat → Nat} {sz a e : Nat} (he : ruE tx sz 48 57 a = e) (h : ¬ (e = a ∨ 3 < e - a)) : tnQ tx sz a = nuS tx a (e - a) + 1 ∧ tnA tx sz a = e := by
  have h0 : tnQ tx sz a = nuS tx a (e - a) + 1 := by unfold tnQ; rw [he]; exact if_neg h
  exact ⟨h0, by unfold tnA; rw [if_neg (by omega), he]⟩
theorem nuS_lt {tx : Nat → Nat} {a e : Nat} : ∀ j, (∀ k, k < j → tx (a + k) ≤ 57) → nuS tx a j < 10 ^ (min j 3) := by
  intro j
  induction j with
  | zero => intro _; exact Nat.pow_pos (by omega)
  | succ j ih =>
    intro h
    have h1 := ih (fun k hk => h k (by omega))
    have h2 := h j (by omega)
    rw [nuS_s]
    by_cases e1 : j < 3
    · rw [if_pos e1]
      rcases (show j = 0 ∨ j = 1 ∨ j = 2 by omega) with rfl | rfl | rfl <;> simp at h1 h2 ⊢ <;> omega
    · rw [if_neg e1]
      rw [show min (j + 1) 3 = 3 from by omega]; rw [show min j 3 = 3 from by omega] at h1; exact h1

set_option maxHeartbeats 4000000 in
set_option maxRecDepth 100000 in
theorem c_X7_takeNumber (l : Launch) (G : va_G) (tA : Nat → ClassId) (e : Nat → Nat) (sz : Nat) (at0 : Nat) (tx : Nat → Nat) (hty : sz ≤ 250) (hbx : ∀ j, tx j < 1048576) (hat : at0 ≤ sz) : CtI l yX7_takeNumber wsX7_takeNumber ({ frames := 2, cells := 0, slots := 0, locals := 42 }) G tA [.ref (e 0)] ([(e 0, .inr (5, [.ref (e 1), .ref (e 2), .int (nI sz), .int (nI at0)])), (e 1, .inl (tA 0, 250, .inl (nF tx)))]) (fun (r : Int32) (_ : Unit) => r = (nI (tnQ tx sz (ruE tx sz 32 32 at0))) + (-1) ∧ at0 ≤ tnA tx sz (ruE tx sz 32 32 at0) ∧ tnA tx sz (ruE tx sz 32 32 at0) ≤ sz ∧ tnQ tx sz (ruE tx sz 32 32 at0) ≤ 1000) (fun (_ : Unit) => [(e 0, .inr (5, [.ref (e 1), .ref (e 2), .int (nI sz), .int (nI (tnA tx sz (ruE tx sz 32 32 at0)))])), (e 1, .inl (tA 0, 250, .inl (nF tx)))]) 0 0 := by
  refine enterI (cc := cX7_takeNumber) (maxL := 3) (ret := (some .int)) (by decide) rfl (Nat.le_of_ble_eq_true rfl) ?_
  intro p0 e0 s m args below meth c0_ A ls hx hb hml hr hts hown hlocks hin hKK hA hP hD hl hS
  have hown : s.vm.findClass RX7 = some m.cls := hown
  have hl : lv_has ls 3 [(0, .ref (e 0))] := hl
  have f22 := hts (Cond.fieldLink RX7 22 "LentTerms$Text" "at" "I") (List.mem_of_getElem? (i := 1) rfl)
  have iX7 : ∀ w ∈ wsX70, w ∈ wsX7_takeNumber := by decide +kernel
  have f18 := hts (Cond.fieldLink RX7 18 "LentTerms$Text" "size" "I") (List.mem_of_getElem? (i := 2) rfl)
  refine lv_aload_n hx hb dX7_takeNumber_0 rfl (lv_at hl 0 rfl) ?_
  refine rwV hP hD hS hA [0, 1] rfl (runV (As := []) (rest := []) (isC := [0, 1]) ⟨hx, hb, hml, hown, hts⟩ hKK hP hD rfl (by decide) (c_X7_skipBlanks l G tA e sz at0 tx (by first | assumption | omega) (hbx) (by first | assumption | omega) _) (cwV 0 hts gX7_takeNumber_X7_skipBlanks rfl rfl rfl (by decide +kernel) ⟨Nat.le_of_ble_eq_true rfl, Nat.le_of_ble_eq_true rfl⟩) rfl rfl rfl rfl hl.1 rfl (lv_room (Nat.le_of_ble_eq_true rfl)) dX7_takeNumber_1 ⟨Nat.le_of_ble_eq_true rfl, Nat.le_of_ble_eq_true rfl⟩) (fun (_ : Unit) => [(e 0, .inr (5, [.ref (e 1), .ref (e 2), .int (nI sz), .int (nI (ruE tx sz 32 32 at0))])), (e 1, .inl (tA 0, 250, .inl (nF tx)))]) (fun _ => rfl) (fun _ => rfl) (fun _ => rfl) (fun u_2 H locs q_3 hP hD hS => ?_)
  obtain ⟨e_4, e_5⟩ := q_3
  have e_4 : at0 ≤ ruE tx sz 32 32 at0 := e_4
  have e_5 : ruE tx sz 32 32 at0 ≤ sz := e_5
  refine lv_aload_n hx hb dX7_takeNumber_4 rfl (lv_at hl 0 rfl) ?_
  refine va_get (D := G) (ci := 5) (C := RX7) (T := TX7) (N := 4) hx hb hts iX7 hown hKK.1 hP 0 rfl rfl 3 (by decide) f22 (fun _ h9 => h9) rfl dX7_takeNumber_5 ?_
  refine lv_istore_n (lv' := [(1, .int (nI (ruE tx sz 32 32 at0))), (0, .ref (e 0))]) hx hb dX7_takeNumber_8 rfl hl (by decide) rfl (fun ls hl => ?_)
  refine lv_iconst (v := nI 0) hx hb dX7_takeNumber_9 (by decide) ?_
  refine lv_istore_n (lv' := [(2, .int (nI 0)), (1, .int (nI (ruE tx sz 32 32 at0))), (0, .ref (e 0))]) hx hb dX7_takeNumber_10 rfl hl (by decide) rfl (fun ls hl => ?_)
  refine wloop (σ := (Nat) × (Int32)) (fun | (e1, nm) => sz - e1) (fun | (e1, nm) => ((ruE tx sz 32 32 at0) ≤ e1 ∧ e1 ≤ sz) ∧ (ruE tx sz 48 57 e1 = ruE tx sz 48 57 (ruE tx sz 32 32 at0)) ∧ (e1 - (ruE tx sz 32 32 at0) ≤ 3 → nm = nI (nuS tx (ruE tx sz 32 32 at0) (e1 - (ruE tx sz 32 32 at0)))) ∧ (∀ q, q < e1 - (ruE tx sz 32 32 at0) → 48 ≤ tx ((ruE tx sz 32 32 at0) + q) ∧ tx ((ruE tx sz 32 32 at0) + q) ≤ 57)) (fun | (e1, nm) => [(2, .int nm), (1, .int (nI e1)), (0, .ref (e 0))]) (fun | (e1, nm) => [(e 0, .inr (5, [.ref (e 1), .ref (e 2), .int (nI sz), .int (nI (ruE tx sz 32 32 at0))])), (e 1, .inl (tA 0, 250, .inl (nF tx)))]) (ruE tx sz 32 32 at0, nI 0) ⟨(show (ruE tx sz 32 32 at0) ≤ (ruE tx sz 32 32 at0) ∧ (ruE tx sz 32 32 at0) ≤ sz from ⟨by omega, by omega⟩), (show ruE tx sz 48 57 (ruE tx sz 32 32 at0) = ruE tx sz 48 57 (ruE tx sz 32 32 at0) from rfl), (show (ruE tx sz 32 32 at0) - (ruE tx sz 32 32 at0) ≤ 3 → (nI 0) = nI (nuS tx (ruE tx sz 32 32 at0) ((ruE tx sz 32 32 at0) - (ruE tx sz 32 32 at0))) from by intro _; rw [Nat.sub_self, nuS_0]), (show ∀ q, q < (ruE tx sz 32 32 at0) - (ruE tx sz 32 32 at0) → 48 ≤ tx ((ruE tx sz 32 32 at0) + q) ∧ tx ((ruE tx sz 32 32 at0) + q) ≤ 57 from by intro q z; omega)⟩ (lv_sub hl [0, 1, 2] rfl) hP hD hS ?_
  rintro ⟨e1, nm⟩ ⟨he1, hr1, hnm, hfg⟩ ih_6 ls H locs hl hP hD hS
  have hl : lv_has ls 3 [(2, .int nm), (1, .int (nI e1)), (0, .ref (e 0))] := hl
  have hP : va_P G vwCl [(e 0, .inr (5, [.ref (e 1), .ref (e 2), .int (nI sz), .int (nI (ruE tx sz 32 32 at0))])), (e 1, .inl (tA 0, 250, .inl (nF tx)))] H := hP
  have hD : va_D A [(e 0, .inr (5, [.ref (e 1), .ref (e 2), .int (nI sz), .int (nI (ruE tx sz 32 32 at0))])), (e 1, .inl (tA 0, 250, .inl (nF tx)))] := hD
  have he1 : (ruE tx sz 32 32 at0) ≤ e1 ∧ e1 ≤ sz := he1
  have hr1 : ruE tx sz 48 57 e1 = ruE tx sz 48 57 (ruE tx sz 32 32 at0) := hr1
  have hnm : e1 - (ruE tx sz 32 32 at0) ≤ 3 → nm = nI (nuS tx (ruE tx sz 32 32 at0) (e1 - (ruE tx sz 32 32 at0))) := hnm
  have hfg : ∀ q, q < e1 - (ruE tx sz 32 32 at0) → 48 ≤ tx ((ruE tx sz 32 32 at0) + q) ∧ tx ((ruE tx sz 32 32 at0) + q) ≤ 57 := hfg
  refine lv_iload_n hx hb dX7_takeNumber_11 rfl (lv_at hl 1 rfl) ?_
  refine lv_aload_n hx hb dX7_takeNumber_12 rfl (lv_at hl 2 rfl) ?_
  refine va_get (D := G) (ci := 5) (C := RX7) (T := TX7) (N := 4) hx hb hts iX7 hown hKK.1 hP 0 rfl rfl 2 (by decide) f18 (fun _ h9 => h9) rfl dX7_takeNumber_13 ?_
  refine nv_icmp_ge (tgt := 47) (by omega) (by omega) hx hb dX7_takeNumber_16 (by decide) (fun c_7 => ?_) (fun c_7 => ?_)
  · have hE1 : ruE tx sz 48 57 (ruE tx sz 32 32 at0) = e1 := by rw [← hr1]; exact ruE_2 (by omega)
    refine lv_iload_n hx hb dX7_takeNumber_47 rfl (lv_at hl 1 rfl) ?_
    refine lv_aload_n hx hb dX7_takeNumber_48 rfl (lv_at hl 2 rfl) ?_
    refine va_get (D := G) (ci := 5) (C := RX7) (T := TX7) (N := 4) hx hb hts iX7 hown hKK.1 hP 0 rfl rfl 3 (by decide) f22 (fun _ h9 => h9) rfl dX7_takeNumber_49 ?_
    refine nv_icmp_eq (tgt := 65) (by omega) (by omega) hx hb dX7_takeNumber_52 (by decide) (fun c_8 => ?_) (fun c_8 => ?_)
    · refine lv_iconst (v := (-1)) hx hb dX7_takeNumber_65 (by decide) ?_
      exact retI hx hb hr hlocks hS hP hD () (by obtain ⟨q1, q2⟩ := (tnQ_0 hE1 (show e1 = (ruE tx sz 32 32 at0) ∨ 3 < e1 - (ruE tx sz 32 32 at0) from by omega)); rw [q2]) (by obtain ⟨q1, q2⟩ := (tnQ_0 hE1 (show e1 = (ruE tx sz 32 32 at0) ∨ 3 < e1 - (ruE tx sz 32 32 at0) from by omega)); rw [q1, q2]; exact ⟨rfl, by omega, by omega, by omega⟩) dX7_takeNumber_66
    · refine lv_iload_n hx hb dX7_takeNumber_55 rfl (lv_at hl 1 rfl) ?_
      refine lv_aload_n hx hb dX7_takeNumber_56 rfl (lv_at hl 2 rfl) ?_
      refine va_get (D := G) (ci := 5) (C := RX7) (T := TX7) (N := 4) hx hb hts iX7 hown hKK.1 hP 0 rfl rfl 3 (by decide) f22 (fun _ h9 => h9) rfl dX7_takeNumber_57 ?_
      refine nv_isub (show ruE tx sz 32 32 at0 ≤ e1 from by omega) hx hb dX7_takeNumber_60 ?_
      refine lv_iconst (v := nI 3) hx hb dX7_takeNumber_61 (by decide) ?_
      refine nv_icmp_le (tgt := 67) (by omega) (by omega) hx hb dX7_takeNumber_62 (by decide) (fun c_9 => ?_) (fun c_9 => ?_)
      · have hnl := nuS_lt (tx := tx) (a := (ruE tx sz 32 32 at0)) (e := 0) (e1 - (ruE tx sz 32 32 at0)) (fun q z => (hfg q z).2)
        have hnl2 : nuS tx (ruE tx sz 32 32 at0) (e1 - (ruE tx sz 32 32 at0)) < 1000 := Nat.lt_of_lt_of_le hnl (show 10 ^ min (e1 - (ruE tx sz 32 32 at0)) 3 ≤ 10 ^ 3 from Nat.pow_le_pow_right (by omega) (Nat.min_le_right _ _))
        refine lv_aload_n hx hb dX7_takeNumber_67 rfl (lv_at hl 2 rfl) ?_
        refine lv_iload_n hx hb dX7_takeNumber_68 rfl (lv_at hl 1 rfl) ?_
        refine nv_put (D := G) (ci := 5) (v := .int (nI e1)) (ty := (tyX7 3)) (C := RX7) (T := TX7) (N := 4) hx hb hts iX7 tyX7 tyX7_ok nmX7 hown hKK.1 hP hD hS 0 rfl rfl 3 (by decide) f22 (fun _ h9 => h9) rfl (by decide +kernel) rfl rfl (Nat.le_of_ble_eq_true rfl) dX7_takeNumber_69 [(e 0, .inr (5, [.ref (e 1), .ref (e 2), .int (nI sz), .int (nI e1)])), (e 1, .inl (tA 0, 250, .inl (nF tx)))] rfl (fun H locs hP hD hS => ?_)
        refine lv_iload_n hx hb dX7_takeNumber_72 rfl (lv_at hl 0 rfl) ?_
        exact retI hx hb hr hlocks hS hP hD () (by obtain ⟨q1, q2⟩ := (tnQ_1 hE1 (show ¬ (e1 = (ruE tx sz 32 32 at0) ∨ 3 < e1 - (ruE tx sz 32 32 at0)) from by omega)); rw [q2]) (by obtain ⟨q1, q2⟩ := (tnQ_1 hE1 (show ¬ (e1 = (ruE tx sz 32 32 at0) ∨ 3 < e1 - (ruE tx sz 32 32 at0)) from by omega)); rw [q1, q2]; exact ⟨by rw [pk_m1]; exact hnm (by omega), by omega, by omega, by omega⟩) dX7_takeNumber_73
      · refine lv_iconst (v := (-1)) hx hb dX7_takeNumber_65 (by decide) ?_
        exact retI hx hb hr hlocks hS hP hD () (by obtain ⟨q1, q2⟩ := (tnQ_0 hE1 (show e1 = (ruE tx sz 32 32 at0) ∨ 3 < e1 - (ruE tx sz 32 32 at0) from by omega)); rw [q2]) (by obtain ⟨q1, q2⟩ := (tnQ_0 hE1 (show e1 = (ruE tx sz 32 32 at0) ∨ 3 < e1 - (ruE tx sz 32 32 at0) from by omega)); rw [q1, q2]; exact ⟨rfl, by omega, by omega, by omega⟩) dX7_takeNumber_66
  · refine lv_aload_n hx hb dX7_takeNumber_19 rfl (lv_at hl 2 rfl) ?_
    refine lv_iload_n hx hb dX7_takeNumber_20 rfl (lv_at hl 1 rfl) ?_
    refine roI hP hD hS hA [0, 1] rfl (runV (As := [.int (nI e1)]) (rest := []) (isC := [0, 1]) ⟨hx, hb, hml, hown, hts⟩ hKK hP hD rfl (by decide) (c_X7_isFigure l G tA e sz (ruE tx sz 32 32 at0) tx e1 (by first | assumption | omega) (hbx) (by first | assumption | omega) _) (cwV 1 hts gX7_takeNumber_X7_isFigure rfl rfl rfl (by decide +kernel) ⟨Nat.le_of_ble_eq_true rfl, Nat.le_of_ble_eq_true rfl⟩) rfl rfl rfl rfl hl.1 rfl (lv_room (Nat.le_of_ble_eq_true rfl)) dX7_takeNumber_21 ⟨Nat.le_of_ble_eq_true rfl, Nat.le_of_ble_eq_true rfl⟩) (fun _ => rfl) (fun r_10 u_11 H locs q_12 hP hS => ?_)
    rcases q_12 with ⟨rfl, p_13⟩ | ⟨rfl, p_13⟩
    · have p_13 : 48 ≤ tx e1 ∧ tx e1 ≤ 57 := p_13
      refine nv_if_eq (tgt := 47) (by omega) hx hb dX7_takeNumber_24 (by decide) (fun h => absurd h (by omega)) (fun _ => ?_)
      refine lv_bipush (v := nI 10) hx hb dX7_takeNumber_27 (by decide +kernel) ?_
      refine lv_iload_n hx hb dX7_takeNumber_29 rfl (lv_at hl 0 rfl) ?_
      refine lv_imul hx hb dX7_takeNumber_30 ?_
      refine lv_aload_n hx hb dX7_takeNumber_31 rfl (lv_at hl 2 rfl) ?_
      refine lv_iload_n hx hb dX7_takeNumber_32 rfl (lv_at hl 1 rfl) ?_
      refine roI hP hD hS hA [0, 1] rfl (runV (As := [.int (nI e1)]) (rest := [.int ((nI 10) * nm)]) (isC := [0, 1]) ⟨hx, hb, hml, hown, hts⟩ hKK hP hD rfl (by decide) (c_X7_bin l G tA e sz (ruE tx sz 32 32 at0) tx e1 (by first | assumption | omega) (hbx) (by first | assumption | omega) _) (cwV 1 hts gX7_takeNumber_X7_byteAt rfl rfl rfl (by decide +kernel) ⟨Nat.le_of_ble_eq_true rfl, Nat.le_of_ble_eq_true rfl⟩) rfl rfl rfl rfl hl.1 rfl (lv_room (Nat.le_of_ble_eq_true rfl)) dX7_takeNumber_33 ⟨Nat.le_of_ble_eq_true rfl, Nat.le_of_ble_eq_true rfl⟩) (fun _ => rfl) (fun r_15 u_16 H locs q_17 hP hS => ?_)
      obtain ⟨rfl, e_18⟩ := q_17
      have e_18 : tx e1 < 1048576 := e_18
      refine lv_iadd hx hb dX7_takeNumber_36 ?_
      refine lv_bipush (v := nI 48) hx hb dX7_takeNumber_37 (by decide +kernel) ?_
      refine lv_isub hx hb dX7_takeNumber_39 ?_
      refine lv_istore_n (lv' := [(2, .int ((((nI 10) * nm) + (nI (tx e1))) - (nI 48))), (1, .int (nI e1)), (0, .ref (e 0))]) hx hb dX7_takeNumber_40 rfl hl (by decide) rfl (fun ls hl => ?_)
      refine lv_iinc (v := (nI (e1 + 1))) (lv' := [(1, .int (nI (e1 + 1))), (2, .int ((((nI 10) * nm) + (nI (tx e1))) - (nI 48))), (0, .ref (e 0))]) hx hb dX7_takeNumber_41 hl (k := 1) rfl (nI_add e1 1) (by decide) rfl (fun ls hl => ?_)
      refine lv_goto (tgt := 11) hx hb dX7_takeNumber_44 (by decide) ?_
      exact ih_6 (e1 + 1, (((nI 10) * nm) + (nI (tx e1))) - (nI 48)) (show sz - (e1 + 1) < sz - e1 from by omega) ⟨(show (ruE tx sz 32 32 at0) ≤ (e1 + 1) ∧ (e1 + 1) ≤ sz from ⟨by omega, by omega⟩), (show ruE tx sz 48 57 (e1 + 1) = ruE tx sz 48 57 (ruE tx sz 32 32 at0) from by rw [ruE_1 (by omega), hr1]), (show (e1 + 1) - (ruE tx sz 32 32 at0) ≤ 3 → ((((nI 10) * nm) + (nI (tx e1))) - (nI 48)) = nI (nuS tx (ruE tx sz 32 32 at0) ((e1 + 1) - (ruE tx sz 32 32 at0))) from by intro z; rw [hnm (by omega), show e1 + 1 - (ruE tx sz 32 32 at0) = (e1 - (ruE tx sz 32 32 at0)) + 1 from by omega, nuS_s, if_pos (by omega), pk_mul, nI_add, pk_sub (by omega), show (ruE tx sz 32 32 at0) + (e1 - (ruE tx sz 32 32 at0)) = e1 from by omega]), (show ∀ q, q < (e1 + 1) - (ruE tx sz 32 32 at0) → 48 ≤ tx ((ruE tx sz 32 32 at0) + q) ∧ tx ((ruE tx sz 32 32 at0) + q) ≤ 57 from by intro q z; rcases (show q < e1 - (ruE tx sz 32 32 at0) ∨ q = e1 - (ruE tx sz 32 32 at0) by omega) with z3 | z3; exact hfg q z3; rw [z3, show (ruE tx sz 32 32 at0) + (e1 - (ruE tx sz 32 32 at0)) = e1 from by omega]; omega)⟩ _ _ _ (lv_sub hl [1, 0, 2] rfl) hP hD hS
    · have p_13 : ¬ (48 ≤ tx e1 ∧ tx e1 ≤ 57) := p_13
      refine nv_if_eq (tgt := 47) (by omega) hx hb dX7_takeNumber_24 (by decide) (fun _ => ?_) (fun h => absurd h (by omega))
      have hE1 : ruE tx sz 48 57 (ruE tx sz 32 32 at0) = e1 := by rw [← hr1]; exact ruE_2 (by omega)
      refine lv_iload_n hx hb dX7_takeNumber_47 rfl (lv_at hl 1 rfl) ?_
      refine lv_aload_n hx hb dX7_takeNumber_48 rfl (lv_at hl 2 rfl) ?_
      refine va_get (D := G) (ci := 5) (C := RX7) (T := TX7) (N := 4) hx hb hts iX7 hown hKK.1 hP 0 rfl rfl 3 (by decide) f22 (fun _ h9 => h9) rfl dX7_takeNumber_49 ?_
      refine nv_icmp_eq (tgt := 65) (by omega) (by omega) hx hb dX7_takeNumber_52 (by decide) (fun c_20 => ?_) (fun c_20 => ?_)
      · refine lv_iconst (v := (-1)) hx hb dX7_takeNumber_65 (by decide) ?_
        exact retI hx hb hr hlocks hS hP hD () (by obtain ⟨q1, q2⟩ := (tnQ_0 hE1 (show e1 = (ruE tx sz 32 32 at0) ∨ 3 < e1 - (ruE tx sz 32 32 at0) from by omega)); rw [q2]) (by obtain ⟨q1, q2⟩ := (tnQ_0 hE1 (show e1 = (ruE tx sz 32 32 at0) ∨ 3 < e1 - (ruE tx sz 32 32 at0) from by omega)); rw [q1, q2]; exact ⟨rfl, by omega, by omega, by omega⟩) dX7_takeNumber_66
      · refine lv_iload_n hx hb dX7_takeNumber_55 rfl (lv_at hl 1 rfl) ?_
        refine lv_aload_n hx hb dX7_takeNumber_56 rfl (lv_at hl 2 rfl) ?_
        refine va_get (D := G) (ci := 5) (C := RX7) (T := TX7) (N := 4) hx hb hts iX7 hown hKK.1 hP 0 rfl rfl 3 (by decide) f22 (fun _ h9 => h9) rfl dX7_takeNumber_57 ?_
        refine nv_isub (show ruE tx sz 32 32 at0 ≤ e1 from by omega) hx hb dX7_takeNumber_60 ?_
        refine lv_iconst (v := nI 3) hx hb dX7_takeNumber_61 (by decide) ?_
        refine nv_icmp_le (tgt := 67) (by omega) (by omega) hx hb dX7_takeNumber_62 (by decide) (fun c_21 => ?_) (fun c_21 => ?_)
        · have hnl := nuS_lt (tx := tx) (a := (ruE tx sz 32 32 at0)) (e := 0) (e1 - (ruE tx sz 32 32 at0)) (fun q z => (hfg q z).2)
          have hnl2 : nuS tx (ruE tx sz 32 32 at0) (e1 - (ruE tx sz 32 32 at0)) < 1000 := Nat.lt_of_lt_of_le hnl (show 10 ^ min (e1 - (ruE tx sz 32 32 at0)) 3 ≤ 10 ^ 3 from Nat.pow_le_pow_right (by omega) (Nat.min_le_right _ _))
          refine lv_aload_n hx hb dX7_takeNumber_67 rfl (lv_at hl 2 rfl) ?_
          refine lv_iload_n hx hb dX7_takeNumber_68 rfl (lv_at hl 1 rfl) ?_
          refine nv_put (D := G) (ci := 5) (v := .int (nI e1)) (ty := (tyX7 3)) (C := RX7) (T := TX7) (N := 4) hx hb hts iX7 tyX7 tyX7_ok nmX7 hown hKK.1 hP hD hS 0 rfl rfl 3 (by decide) f22 (fun _ h9 => h9) rfl (by decide +kernel) rfl rfl (Nat.le_of_ble_eq_true rfl) dX7_takeNumber_69 [(e 0, .inr (5, [.ref (e 1), .ref (e 2), .int (nI sz), .int (nI e1)])), (e 1, .inl (tA 0, 250, .inl (nF tx)))] rfl (fun H locs hP hD hS => ?_)
          refine lv_iload_n hx hb dX7_takeNumber_72 rfl (lv_at hl 0 rfl) ?_
          exact retI hx hb hr hlocks hS hP hD () (by obtain ⟨q1, q2⟩ := (tnQ_1 hE1 (show ¬ (e1 = (ruE tx sz 32 32 at0) ∨ 3 < e1 - (ruE tx sz 32 32 at0)) from by omega)); rw [q2]) (by obtain ⟨q1, q2⟩ := (tnQ_1 hE1 (show ¬ (e1 = (ruE tx sz 32 32 at0) ∨ 3 < e1 - (ruE tx sz 32 32 at0)) from by omega)); rw [q1, q2]; exact ⟨by rw [pk_m1]; exact hnm (by omega), by omega, by omega, by omega⟩) dX7_takeNumber_73
        · refine lv_iconst (v := (-1)) hx hb dX7_takeNumber_65 (by decide) ?_
          exact retI hx hb hr hlocks hS hP hD () (by obtain ⟨q1, q2⟩ := (tnQ_0 hE1 (show e1 = (ruE tx sz 32 32 at0) ∨ 3 < e1 - (ruE tx sz 32 32 at0) from by omega)); rw [q2]) (by obtain ⟨q1, q2⟩ := (tnQ_0 hE1 (show e1 = (ruE tx sz 32 32 at0) ∨ 3 < e1 - (ruE tx sz 32 32 at0) from by omega)); rw [q1, q2]; exact ⟨rfl, by omega, by omega, by omega⟩) dX7_takeNumber_66

/-- numbers of an item: none is told again -/
def nmC (tx : Nat → Nat) (sz : Nat) : Nat → Nat → Nat → (Nat → Int32) → Bool × Nat × (Nat → Int32)
  | 0, _, a, N => (true, a, N)
  | j + 1, k, a, N => if tnQ tx sz (ruE tx sz 32 32 a) = 0 then (false, tnA tx sz (ruE tx sz 32 32 a), upd N k ((nI (tnQ tx sz (ruE tx sz 32 32 a))) + (-1))) else nmC tx sz j (k + 1) (tnA tx sz (ruE tx sz 32 32 a)) (upd N k ((nI (tnQ tx sz (ruE tx sz 32 32 a))) + (-1)))
theorem nmC_1 {tx : Nat → Nat} {sz j k a : Nat} {N : Nat → Int32} (h : tnQ tx sz (ruE tx sz 32 32 a) = 0) : nmC tx sz (j + 1) k a N = (false, tnA tx sz (ruE tx sz 32 32 a), upd N k ((nI (tnQ tx sz (ruE tx sz 32 32 a))) + (-1))) := if_pos h
theorem nmC_2 {tx : Nat → Nat} {sz j k a : Nat} {N : Nat → Int32} (h : ¬ tnQ tx sz (ruE tx sz 32 32 a) = 0) : nmC tx sz (j + 1) k a N = nmC tx sz j (k + 1) (tnA tx sz (ruE tx sz 32 32 a)) (upd N k ((nI (tnQ tx sz (ruE tx sz 32 32 a))) + (-1))) := if_neg h
theorem upd_s (N : Nat → Int32) (k : Nat) (v : Int32) : upd N k v k = v := if_pos rfl

set_option maxHeartbeats 4000000 in
set_option maxRecDepth 100000 in
theorem c_X7_takeNumbers (l : Launch) (G : va_G) (tA : Nat → ClassId) (ad av : Nat → Nat) (na : Nat) (e : Nat → Nat) (sz : Nat) (at0 : Nat) (tx : Nat → Nat) (nu : Nat → Int32) (w : Nat) (hty : sz ≤ 250) (hbx : ∀ j, tx j < 1048576) (hat : at0 ≤ sz) (hw : w < 5) : CsI l yX7_takeNumbers wsX7_takeNumbers ({ frames := 3, cells := 0, slots := 0, locals := 64 }) G tA ad av na [.ref (e 0), .int (nI w)] ([(e 0, .inr (5, [.ref (e 1), .ref (e 2), .int (nI sz), .int (nI at0)])), (e 1, .inl (tA 0, 250, .inl (nF tx))), (e 2, .inl (tA 0, 4, .inl nu))]) (fun (r : Int32) (u : (Bool × Nat × (Nat → Int32))) => ((r = nI 1 ∧ (u.1 = true)) ∨ (r = nI 0 ∧ ¬ (u.1 = true))) ∧ u = (nmC tx sz (nuV w) 0 at0 nu) ∧ at0 ≤ u.2.1 ∧ u.2.1 ≤ sz) (fun (u : (Bool × Nat × (Nat → Int32))) => [(e 0, .inr (5, [.ref (e 1), .ref (e 2), .int (nI sz), .int (nI u.2.1)])), (e 1, .inl (tA 0, 250, .inl (nF tx))), (e 2, .inl (tA 0, 4, .inl u.2.2))]) 0 0 := by
  refine entersI (cc := cX7_takeNumbers) (maxL := 4) (ret := (some .boolean)) (by decide) rfl (Nat.le_of_ble_eq_true rfl) ?_
  intro p0 e0 s m args below meth c0_ A ls hx hb hml hr hts hown hlocks hin hKK hA hP hD hl hS hE
  have hown : s.vm.findClass RX7 = some m.cls := hown
  have hl : lv_has ls 4 [(0, .ref (e 0)), (1, .int (nI w))] := hl
  have f100 := hts (Cond.fieldLink RX7 100 "LentTerms$Text" "NUMBERS_OF" "[I") (List.mem_of_getElem? (i := 1) rfl)
  have f15 := hts (Cond.fieldLink RX7 15 "LentTerms$Text" "numbers" "[I") (List.mem_of_getElem? (i := 2) rfl)
  have iX7 : ∀ w ∈ wsX70, w ∈ wsX7_takeNumbers := by decide +kernel
  have hnv := nuV_ge w
  refine lv_iload_n hx hb dX7_takeNumbers_0 rfl (lv_at hl 1 rfl) ?_
  refine nv_if_lt (tgt := 17) (by omega) hx hb dX7_takeNumbers_1 (by decide) ?_
  refine lv_iload_n hx hb dX7_takeNumbers_4 rfl (lv_at hl 1 rfl) ?_
  refine lv_iconst (v := nI 5) hx hb dX7_takeNumbers_5 (by decide) ?_
  refine nv_icmp_ge (tgt := 17) (by omega) (by omega) hx hb dX7_takeNumbers_6 (by decide) (fun h => absurd h (by omega)) (fun _ => ?_)
  refine va_gets hx hb hE.2.2.2.1 hS hown f100 (fun _ h9 => h9) dX7_takeNumbers_9 ?_
  refine lv_iload_n hx hb dX7_takeNumbers_12 rfl (lv_at hl 1 rfl) ?_
  refine va_ti (v := .int (nI (nuV w))) hx hb hE.2.2.2.2.1 hS (vp_in_nI (show w < 5 from by omega) (by omega)) (by rw [nI_clamp (by omega), numW_at w (by omega)]) dX7_takeNumbers_13 ?_
  refine lv_goto (tgt := 18) hx hb dX7_takeNumbers_14 (by decide) ?_
  refine lv_istore_n (lv' := [(2, .int (nI (nuV w))), (0, .ref (e 0)), (1, .int (nI w))]) hx hb dX7_takeNumbers_18 rfl hl (by decide) rfl (fun ls hl => ?_)
  refine lv_iconst (v := nI 0) hx hb dX7_takeNumbers_19 (by decide) ?_
  refine lv_istore_n (lv' := [(3, .int (nI 0)), (2, .int (nI (nuV w))), (0, .ref (e 0)), (1, .int (nI w))]) hx hb dX7_takeNumbers_20 rfl hl (by decide) rfl (fun ls hl => ?_)
  refine wloop (σ := (Nat) × (Nat) × (Nat → Int32)) (fun | (k, a1, N1) => nuV w - k) (fun | (k, a1, N1) => (k ≤ nuV w) ∧ (at0 ≤ a1 ∧ a1 ≤ sz) ∧ (nmC tx sz (nuV w - k) k a1 N1 = (nmC tx sz (nuV w) 0 at0 nu))) (fun | (k, a1, N1) => [(3, .int (nI k)), (2, .int (nI (nuV w))), (0, .ref (e 0)), (1, .int (nI w))]) (fun | (k, a1, N1) => [(e 0, .inr (5, [.ref (e 1), .ref (e 2), .int (nI sz), .int (nI a1)])), (e 1, .inl (tA 0, 250, .inl (nF tx))), (e 2, .inl (tA 0, 4, .inl N1))]) (0, at0, nu) ⟨(show 0 ≤ nuV w from by omega), (show at0 ≤ at0 ∧ at0 ≤ sz from ⟨by omega, by omega⟩), (show nmC tx sz (nuV w - 0) 0 at0 nu = (nmC tx sz (nuV w) 0 at0 nu) from rfl)⟩ (lv_sub hl [0, 1, 2, 3] rfl) hP hD hS ?_
  rintro ⟨k, a1, N1⟩ ⟨hk, ha1, hnc⟩ ih_3 ls H locs hl hP hD hS
  have hl : lv_has ls 4 [(3, .int (nI k)), (2, .int (nI (nuV w))), (0, .ref (e 0)), (1, .int (nI w))] := hl
  have hP : va_P G vwCl [(e 0, .inr (5, [.ref (e 1), .ref (e 2), .int (nI sz), .int (nI a1)])), (e 1, .inl (tA 0, 250, .inl (nF tx))), (e 2, .inl (tA 0, 4, .inl N1))] H := hP
  have hD : va_D A [(e 0, .inr (5, [.ref (e 1), .ref (e 2), .int (nI sz), .int (nI a1)])), (e 1, .inl (tA 0, 250, .inl (nF tx))), (e 2, .inl (tA 0, 4, .inl N1))] := hD
  have hk : k ≤ nuV w := hk
  have ha1 : at0 ≤ a1 ∧ a1 ≤ sz := ha1
  have hnc : nmC tx sz (nuV w - k) k a1 N1 = (nmC tx sz (nuV w) 0 at0 nu) := hnc
  refine lv_iload_n hx hb dX7_takeNumbers_21 rfl (lv_at hl 0 rfl) ?_
  refine lv_iload_n hx hb dX7_takeNumbers_22 rfl (lv_at hl 1 rfl) ?_
  refine nv_icmp_ge (tgt := 59) (by omega) (by omega) hx hb dX7_takeNumbers_23 (by decide) (fun c_4 => ?_) (fun c_4 => ?_)
  · refine lv_iconst (v := nI 1) hx hb dX7_takeNumbers_59 (by decide) ?_
    exact retZ (ty := .boolean) hx hb hr rfl hlocks hS hP hD (true, a1, N1) (rfl) (⟨Or.inl ⟨rfl, rfl⟩, by first | exact ⟨(show (nmC tx sz (nuV w) 0 at0 nu) = (false, tnA tx sz (ruE tx sz 32 32 a1), upd N1 k ((nI (tnQ tx sz (ruE tx sz 32 32 a1))) + (-1))) from by rw [← hnc, show nuV w - k = (nuV w - (k + 1)) + 1 from by omega]; exact nmC_1 (by omega)).symm, by dsimp only; omega, by dsimp only; omega⟩ | exact ⟨(show (nmC tx sz (nuV w) 0 at0 nu) = (true, a1, N1) from by rw [← hnc, show nuV w - k = 0 from by omega]; rfl).symm, by dsimp only; omega, by dsimp only; omega⟩⟩) dX7_takeNumbers_60
  · refine lv_iload_n hx hb dX7_takeNumbers_26 rfl (lv_at hl 0 rfl) ?_
    refine lv_iconst (v := nI 4) hx hb dX7_takeNumbers_27 (by decide) ?_
    refine nv_icmp_ge (tgt := 59) (by omega) (by omega) hx hb dX7_takeNumbers_28 (by decide) (fun h => absurd h (by omega)) (fun _ => ?_)
    refine lv_aload_n hx hb dX7_takeNumbers_31 rfl (lv_at hl 2 rfl) ?_
    refine va_get (D := G) (ci := 5) (C := RX7) (T := TX7) (N := 4) hx hb hts iX7 hown hKK.1 hP 0 rfl rfl 1 (by decide) f15 (fun _ h9 => h9) rfl dX7_takeNumbers_32 ?_
    refine lv_iload_n hx hb dX7_takeNumbers_35 rfl (lv_at hl 0 rfl) ?_
    refine lv_aload_n hx hb dX7_takeNumbers_36 rfl (lv_at hl 2 rfl) ?_
    refine rwI hP hD hS hA [0, 1] rfl (runV (As := []) (rest := [.int (nI k), .ref (e 2)]) (isC := [0, 1]) ⟨hx, hb, hml, hown, hts⟩ hKK hP hD rfl (by decide) (c_X7_takeNumber l G tA e sz a1 tx (by first | assumption | omega) (hbx) (by omega) _) (cwV 0 hts gX7_takeNumbers_X7_takeNumber rfl rfl rfl (by decide +kernel) ⟨Nat.le_of_ble_eq_true rfl, Nat.le_of_ble_eq_true rfl⟩) rfl rfl rfl rfl hl.1 rfl (lv_room (Nat.le_of_ble_eq_true rfl)) dX7_takeNumbers_37 ⟨Nat.le_of_ble_eq_true rfl, Nat.le_of_ble_eq_true rfl⟩) (fun (_ : Unit) => [(e 0, .inr (5, [.ref (e 1), .ref (e 2), .int (nI sz), .int (nI (tnA tx sz (ruE tx sz 32 32 a1)))])), (e 1, .inl (tA 0, 250, .inl (nF tx))), (e 2, .inl (tA 0, 4, .inl N1))]) (fun _ => rfl) (fun _ => rfl) (fun _ => rfl) (fun r_6 u_7 H locs q_8 hP hD hS => ?_)
    obtain ⟨rfl, e_9, e_10, e_11⟩ := q_8
    have e_9 : a1 ≤ tnA tx sz (ruE tx sz 32 32 a1) := e_9
    have e_10 : tnA tx sz (ruE tx sz 32 32 a1) ≤ sz := e_10
    have e_11 : tnQ tx sz (ruE tx sz 32 32 a1) ≤ 1000 := e_11
    refine nv_iastR (i := k) hx hb hKK.1 hP hD hS 2 0 rfl rfl (by omega) (by decide) dX7_takeNumbers_40 [(e 0, .inr (5, [.ref (e 1), .ref (e 2), .int (nI sz), .int (nI (tnA tx sz (ruE tx sz 32 32 a1)))])), (e 1, .inl (tA 0, 250, .inl (nF tx))), (e 2, .inl (tA 0, 4, .inl (upd N1 k ((nI (tnQ tx sz (ruE tx sz 32 32 a1))) + (-1)))))] rfl (fun H locs hP hD hS => ?_)
    refine lv_aload_n hx hb dX7_takeNumbers_41 rfl (lv_at hl 2 rfl) ?_
    refine va_get (D := G) (ci := 5) (C := RX7) (T := TX7) (N := 4) hx hb hts iX7 hown hKK.1 hP 0 rfl rfl 1 (by decide) f15 (fun _ h9 => h9) rfl dX7_takeNumbers_42 ?_
    refine lv_iload_n hx hb dX7_takeNumbers_45 rfl (lv_at hl 0 rfl) ?_
    refine nv_ialdR (i := k) hx hb hKK.1 hP 2 0 rfl rfl (by omega) (by decide) dX7_takeNumbers_46 ?_
    refine nv_topx (y := (nI (tnQ tx sz (ruE tx sz 32 32 a1))) + (-1)) (upd_s _ _ _) ?_
    refine lv_iconst (v := (-1)) hx hb dX7_takeNumbers_47 (by decide) ?_
    refine zv_icmp_ne (tgt := 53) (X := (((tnQ tx sz (ruE tx sz 32 32 a1)) : Nat) : Int) - 1) (Y := (-1 : Int)) (predZ (by omega)) rfl hx hb dX7_takeNumbers_48 (by decide) (fun c_12 => ?_) (fun c_12 => ?_)
    · refine lv_iinc (v := (nI (k + 1))) (lv' := [(3, .int (nI (k + 1))), (2, .int (nI (nuV w))), (0, .ref (e 0)), (1, .int (nI w))]) hx hb dX7_takeNumbers_53 hl (k := 0) rfl (nI_add k 1) (by decide) rfl (fun ls hl => ?_)
      refine lv_goto (tgt := 21) hx hb dX7_takeNumbers_56 (by decide) ?_
      exact ih_3 (k + 1, tnA tx sz (ruE tx sz 32 32 a1), upd N1 k ((nI (tnQ tx sz (ruE tx sz 32 32 a1))) + (-1))) (show nuV w - (k + 1) < nuV w - k from by omega) ⟨(show (k + 1) ≤ nuV w from by omega), (show at0 ≤ (tnA tx sz (ruE tx sz 32 32 a1)) ∧ (tnA tx sz (ruE tx sz 32 32 a1)) ≤ sz from ⟨by omega, by omega⟩), (show nmC tx sz (nuV w - (k + 1)) (k + 1) (tnA tx sz (ruE tx sz 32 32 a1)) (upd N1 k ((nI (tnQ tx sz (ruE tx sz 32 32 a1))) + (-1))) = (nmC tx sz (nuV w) 0 at0 nu) from by rw [← hnc, show nuV w - k = (nuV w - (k + 1)) + 1 from by omega]; exact (nmC_2 (by omega)).symm)⟩ _ _ _ (lv_sub hl [0, 1, 2, 3] rfl) hP hD hS
    · refine lv_iconst (v := nI 0) hx hb dX7_takeNumbers_51 (by decide) ?_
      exact retZ (ty := .boolean) hx hb hr rfl hlocks hS hP hD (false, tnA tx sz (ruE tx sz 32 32 a1), upd N1 k ((nI (tnQ tx sz (ruE tx sz 32 32 a1))) + (-1))) (rfl) (⟨Or.inr ⟨rfl, Bool.false_ne_true⟩, by first | exact ⟨(show (nmC tx sz (nuV w) 0 at0 nu) = (false, tnA tx sz (ruE tx sz 32 32 a1), upd N1 k ((nI (tnQ tx sz (ruE tx sz 32 32 a1))) + (-1))) from by rw [← hnc, show nuV w - k = (nuV w - (k + 1)) + 1 from by omega]; exact nmC_1 (by omega)).symm, by dsimp only; omega, by dsimp only; omega⟩ | exact ⟨(show (nmC tx sz (nuV w) 0 at0 nu) = (true, a1, N1) from by rw [← hnc, show nuV w - k = 0 from by omega]; rfl).symm, by dsimp only; omega, by dsimp only; omega⟩⟩) dX7_takeNumbers_52

set_option maxHeartbeats 4000000 in
set_option maxRecDepth 100000 in
theorem c_X7_takeEnd (l : Launch) (G : va_G) (tA : Nat → ClassId) (e : Nat → Nat) (sz : Nat) (at0 : Nat) (tx : Nat → Nat) (hty : sz ≤ 250) (hbx : ∀ j, tx j < 1048576) (hat : at0 ≤ sz) : CtI l yX7_takeEnd wsX7_takeEnd ({ frames := 2, cells := 0, slots := 0, locals := 41 }) G tA [.ref (e 0)] ([(e 0, .inr (5, [.ref (e 1), .ref (e 2), .int (nI sz), .int (nI at0)])), (e 1, .inl (tA 0, 250, .inl (nF tx)))]) (fun (r : Int32) (u : (Nat)) => ((r = nI 1 ∧ ((ruE tx sz 32 32 at0) < sz ∧ tx (ruE tx sz 32 32 at0) = 59)) ∨ (r = nI 0 ∧ ¬ ((ruE tx sz 32 32 at0) < sz ∧ tx (ruE tx sz 32 32 at0) = 59))) ∧ ((u = if (ruE tx sz 32 32 at0) < sz ∧ tx (ruE tx sz 32 32 at0) = 59 then (ruE tx sz 32 32 at0) + 1 else (ruE tx sz 32 32 at0))) ∧ u ≤ sz ∧ at0 ≤ u) (fun (u : (Nat)) => [(e 0, .inr (5, [.ref (e 1), .ref (e 2), .int (nI sz), .int (nI u)])), (e 1, .inl (tA 0, 250, .inl (nF tx)))]) 0 0 := by
  refine enterI (cc := cX7_takeEnd) (maxL := 1) (ret := (some .boolean)) (by decide) rfl (Nat.le_of_ble_eq_true rfl) ?_
  intro p0 e0 s m args below meth c0_ A ls hx hb hml hr hts hown hlocks hin hKK hA hP hD hl hS
  have hown : s.vm.findClass RX7 = some m.cls := hown
  have hl : lv_has ls 1 [(0, .ref (e 0))] := hl
  have f22 := hts (Cond.fieldLink RX7 22 "LentTerms$Text" "at" "I") (List.mem_of_getElem? (i := 1) rfl)
  have iX7 : ∀ w ∈ wsX70, w ∈ wsX7_takeEnd := by decide +kernel
  refine lv_aload_n hx hb dX7_takeEnd_0 rfl (lv_at hl 0 rfl) ?_
  refine rwV hP hD hS hA [0, 1] rfl (runV (As := []) (rest := []) (isC := [0, 1]) ⟨hx, hb, hml, hown, hts⟩ hKK hP hD rfl (by decide) (c_X7_skipBlanks l G tA e sz at0 tx (by first | assumption | omega) (hbx) (by omega) _) (cwV 0 hts gX7_takeEnd_X7_skipBlanks rfl rfl rfl (by decide +kernel) ⟨Nat.le_of_ble_eq_true rfl, Nat.le_of_ble_eq_true rfl⟩) rfl rfl rfl rfl hl.1 rfl (lv_room (Nat.le_of_ble_eq_true rfl)) dX7_takeEnd_1 ⟨Nat.le_of_ble_eq_true rfl, Nat.le_of_ble_eq_true rfl⟩) (fun (_ : Unit) => [(e 0, .inr (5, [.ref (e 1), .ref (e 2), .int (nI sz), .int (nI (ruE tx sz 32 32 at0))])), (e 1, .inl (tA 0, 250, .inl (nF tx)))]) (fun _ => rfl) (fun _ => rfl) (fun _ => rfl) (fun u_2 H locs q_3 hP hD hS => ?_)
  obtain ⟨e_4, e_5⟩ := q_3
  have e_4 : at0 ≤ ruE tx sz 32 32 at0 := e_4
  have e_5 : ruE tx sz 32 32 at0 ≤ sz := e_5
  refine lv_aload_n hx hb dX7_takeEnd_4 rfl (lv_at hl 0 rfl) ?_
  refine lv_aload_n hx hb dX7_takeEnd_5 rfl (lv_at hl 0 rfl) ?_
  refine va_get (D := G) (ci := 5) (C := RX7) (T := TX7) (N := 4) hx hb hts iX7 hown hKK.1 hP 0 rfl rfl 3 (by decide) f22 (fun _ h9 => h9) rfl dX7_takeEnd_6 ?_
  rcases Nat.lt_or_ge (ruE tx sz 32 32 at0) sz with hz | hz
  · refine roI hP hD hS hA [0, 1] rfl (runV (As := [.int (nI (ruE tx sz 32 32 at0))]) (rest := []) (isC := [0, 1]) ⟨hx, hb, hml, hown, hts⟩ hKK hP hD rfl (by decide) (c_X7_bin l G tA e sz (ruE tx sz 32 32 at0) tx (ruE tx sz 32 32 at0) (by first | assumption | omega) (hbx) (by first | assumption | omega) _) (cwV 1 hts gX7_takeEnd_X7_byteAt rfl rfl rfl (by decide +kernel) ⟨Nat.le_of_ble_eq_true rfl, Nat.le_of_ble_eq_true rfl⟩) rfl rfl rfl rfl hl.1 rfl (lv_room (Nat.le_of_ble_eq_true rfl)) dX7_takeEnd_9 ⟨Nat.le_of_ble_eq_true rfl, Nat.le_of_ble_eq_true rfl⟩) (fun _ => rfl) (fun r_6 u_7 H locs q_8 hP hS => ?_)
    obtain ⟨rfl, e_9⟩ := q_8
    have e_9 : tx (ruE tx sz 32 32 at0) < 1048576 := e_9
    refine lv_bipush (v := nI 59) hx hb dX7_takeEnd_12 (by decide +kernel) ?_
    refine nv_icmp_eq (tgt := 19) (by omega) (by omega) hx hb dX7_takeEnd_14 (by decide) (fun c_10 => ?_) (fun c_10 => ?_)
    · refine lv_aload_n hx hb dX7_takeEnd_19 rfl (lv_at hl 0 rfl) ?_
      refine lv_dup hx hb dX7_takeEnd_20 rfl ?_
      refine va_get (D := G) (ci := 5) (C := RX7) (T := TX7) (N := 4) hx hb hts iX7 hown hKK.1 hP 0 rfl rfl 3 (by decide) f22 (fun _ h9 => h9) rfl dX7_takeEnd_21 ?_
      refine lv_iconst (v := nI 1) hx hb dX7_takeEnd_24 (by decide) ?_
      refine nv_iadd hx hb dX7_takeEnd_25 ?_
      refine nv_put (D := G) (ci := 5) (v := .int (nI ((ruE tx sz 32 32 at0) + 1))) (ty := (tyX7 3)) (C := RX7) (T := TX7) (N := 4) hx hb hts iX7 tyX7 tyX7_ok nmX7 hown hKK.1 hP hD hS 0 rfl rfl 3 (by decide) f22 (fun _ h9 => h9) rfl (by decide +kernel) rfl rfl (Nat.le_of_ble_eq_true rfl) dX7_takeEnd_26 [(e 0, .inr (5, [.ref (e 1), .ref (e 2), .int (nI sz), .int (nI ((ruE tx sz 32 32 at0) + 1))])), (e 1, .inl (tA 0, 250, .inl (nF tx)))] rfl (fun H locs hP hD hS => ?_)
      refine lv_iconst (v := nI 1) hx hb dX7_takeEnd_29 (by decide) ?_
      exact retZ (ty := .boolean) hx hb hr rfl hlocks hS hP hD ((ruE tx sz 32 32 at0) + 1) (rfl) (⟨Or.inl ⟨rfl, by omega⟩, ⟨by first | rw [if_neg (by omega)] | rw [if_pos (by omega)], by omega, by omega⟩⟩) dX7_takeEnd_30
    · refine lv_iconst (v := nI 0) hx hb dX7_takeEnd_17 (by decide) ?_
      exact retZ (ty := .boolean) hx hb hr rfl hlocks hS hP hD (ruE tx sz 32 32 at0) (rfl) (⟨Or.inr ⟨rfl, by omega⟩, ⟨by first | rw [if_neg (by omega)] | rw [if_pos (by omega)], by omega, by omega⟩⟩) dX7_takeEnd_18
  · refine roI hP hD hS hA [0, 1] rfl (runV (As := [.int (nI (ruE tx sz 32 32 at0))]) (rest := []) (isC := [0, 1]) ⟨hx, hb, hml, hown, hts⟩ hKK hP hD rfl (by decide) (c_X7_bout l G tA e sz (ruE tx sz 32 32 at0) tx (ruE tx sz 32 32 at0) (by first | assumption | omega) (hbx) (by first | assumption | omega) (by first | assumption | omega) _) (cwV 1 hts gX7_takeEnd_X7_byteAt rfl rfl rfl (by decide +kernel) ⟨Nat.le_of_ble_eq_true rfl, Nat.le_of_ble_eq_true rfl⟩) rfl rfl rfl rfl hl.1 rfl (lv_room (Nat.le_of_ble_eq_true rfl)) dX7_takeEnd_9 ⟨Nat.le_of_ble_eq_true rfl, Nat.le_of_ble_eq_true rfl⟩) (fun _ => rfl) (fun r_11 u_12 H locs q_13 hP hS => ?_)
    subst q_13
    refine lv_bipush (v := nI 59) hx hb dX7_takeEnd_12 (by decide +kernel) ?_
    refine zv_icmp_eq (tgt := 19) (X := (-1 : Int)) (Y := (59 : Int)) rfl rfl hx hb dX7_takeEnd_14 (by decide) (fun h => absurd h (by omega)) (fun _ => ?_)
    refine lv_iconst (v := nI 0) hx hb dX7_takeEnd_17 (by decide) ?_
    exact retZ (ty := .boolean) hx hb hr rfl hlocks hS hP hD (ruE tx sz 32 32 at0) (rfl) (⟨Or.inr ⟨rfl, by omega⟩, ⟨by first | rw [if_neg (by omega)] | rw [if_pos (by omega)], by omega, by omega⟩⟩) dX7_takeEnd_18

set_option maxHeartbeats 4000000 in
set_option maxRecDepth 100000 in
theorem c_X7_append (l : Launch) (G : va_G) (tA : Nat → ClassId) (e : Nat → Nat) (sz : Nat) (at0 : Nat) (tx : Nat → Nat) (v : Int64) (ne : Int32) (NE : Int) (hty : sz ≤ 250) (hne : ne.toInt = NE) : CtI l yX7_append wsX7_append ({ frames := 0, cells := 0, slots := 0, locals := 0 }) G tA [.ref (e 0), .long v, .int ne] ([(e 0, .inr (5, [.ref (e 1), .ref (e 2), .int (nI sz), .int (nI at0)])), (e 1, .inl (tA 0, 250, .inl (nF tx)))]) (fun (r : Int32) (_ : Unit) => r = (if 1 ≤ NE ∧ NE ≤ 8 then (if sz + NE.toNat ≤ 250 then nI (sz + NE.toNat) else -4) else -2)) (fun (_ : Unit) => [(e 0, .inr (5, [.ref (e 1), .ref (e 2), .int (nI (if (1 ≤ NE ∧ NE ≤ 8) ∧ sz + NE.toNat ≤ 250 then sz + NE.toNat else sz)), .int (nI at0)])), (e 1, .inl (tA 0, 250, .inl (nF (if (1 ≤ NE ∧ NE ≤ 8) ∧ sz + NE.toNat ≤ 250 then typC tx sz v NE.toNat NE.toNat else tx))))]) 0 0 := by
  refine enterI (cc := cX7_append) (maxL := 5) (ret := (some .int)) (by decide) rfl (Nat.le_of_ble_eq_true rfl) ?_
  intro p0 e0 s m args below meth c0_ A ls hx hb hml hr hts hown hlocks hin hKK hA hP hD hl hS
  have hown : s.vm.findClass RX7 = some m.cls := hown
  have hl : lv_has ls 5 [(0, .ref (e 0)), (1, .long v), (3, .int ne)] := hl
  have f18 := hts (Cond.fieldLink RX7 18 "LentTerms$Text" "size" "I") (List.mem_of_getElem? (i := 1) rfl)
  have iX7 : ∀ w ∈ wsX70, w ∈ wsX7_append := by decide +kernel
  have f9 := hts (Cond.fieldLink RX7 9 "LentTerms$Text" "bytes" "[I") (List.mem_of_getElem? (i := 2) rfl)
  have f25 := hts (Cond.constantLong RX7 25 (255)) (List.mem_of_getElem? (i := 3) rfl)
  refine lv_iload_n hx hb dX7_append_0 rfl (lv_at hl 2 rfl) ?_
  refine lv_iconst (v := nI 1) hx hb dX7_append_1 (by decide) ?_
  refine zv_icmp_lt (tgt := 11) (X := NE) (Y := (1 : Int)) hne rfl hx hb dX7_append_2 (by decide) (fun c_1 => ?_) (fun c_1 => ?_)
  · refine lv_bipush (v := (-2)) hx hb dX7_append_11 (by decide +kernel) ?_
    exact retI hx hb hr hlocks hS hP hD () (by simp only [if_neg (show ¬ ((1 ≤ NE ∧ NE ≤ 8) ∧ sz + NE.toNat ≤ 250) from by omega)]) (by rw [if_neg (by omega)]) dX7_append_13
  · refine lv_iload_n hx hb dX7_append_5 rfl (lv_at hl 2 rfl) ?_
    refine lv_bipush (v := nI 8) hx hb dX7_append_6 (by decide +kernel) ?_
    refine zv_icmp_le (tgt := 14) (X := NE) (Y := (8 : Int)) hne rfl hx hb dX7_append_8 (by decide) (fun c_2 => ?_) (fun c_2 => ?_)
    · have hok : 1 ≤ NE ∧ NE ≤ 8 := by omega
      obtain ⟨nen, h_nen, rfl⟩ := toN (x := ne) (by omega)
      have t_nen : (nI nen).toInt = (nen : Int) := nI_toInt h_nen
      have z_nen : NE.toNat = nen := by omega
      refine lv_aload_n hx hb dX7_append_14 rfl (lv_at hl 0 rfl) ?_
      refine va_get (D := G) (ci := 5) (C := RX7) (T := TX7) (N := 4) hx hb hts iX7 hown hKK.1 hP 0 rfl rfl 2 (by decide) f18 (fun _ h9 => h9) rfl dX7_append_15 ?_
      refine lv_iload_n hx hb dX7_append_18 rfl (lv_at hl 2 rfl) ?_
      refine nv_iadd hx hb dX7_append_19 ?_
      refine lv_sipush (v := nI 250) hx hb dX7_append_20 (by decide +kernel) ?_
      refine nv_icmp_le (tgt := 29) (by omega) (by omega) hx hb dX7_append_23 (by decide) (fun c_3 => ?_) (fun c_3 => ?_)
      · refine lv_iload_n hx hb dX7_append_29 rfl (lv_at hl 2 rfl) ?_
        refine lv_iconst (v := nI 1) hx hb dX7_append_30 (by decide) ?_
        refine lv_isub hx hb dX7_append_31 ?_
        refine nv_topx (y := (nI nen) + (-1)) (by rw [Int32.sub_eq_add_neg]; rfl) ?_
        refine lv_istore (lv' := [(4, .int ((nI nen) + (-1))), (0, .ref (e 0)), (1, .long v), (3, .int (nI nen))]) hx hb dX7_append_32 hl (by decide) rfl (fun ls hl => ?_)
        refine wloop (σ := (Nat) × (Nat) × (Nat) × (Nat → Nat)) (fun | (j, w, ty2, X) => j) (fun | (j, w, ty2, X) => (j + w = nen) ∧ (ty2 = sz + w) ∧ (X = typC tx sz v nen w)) (fun | (j, w, ty2, X) => [(4, .int ((nI j) + (-1))), (0, .ref (e 0)), (1, .long v), (3, .int (nI nen))]) (fun | (j, w, ty2, X) => [(e 0, .inr (5, [.ref (e 1), .ref (e 2), .int (nI ty2), .int (nI at0)])), (e 1, .inl (tA 0, 250, .inl (nF X)))]) (nen, 0, sz, tx) ⟨(show nen + 0 = nen from by omega), (show sz = sz + 0 from by omega), (show tx = typC tx sz v nen 0 from (typC_0 _ _ _ _).symm)⟩ (lv_sub hl [0, 1, 2, 3] rfl) hP hD hS ?_
        rintro ⟨j, w, ty2, X⟩ ⟨hjw, ht2, hX⟩ ih_4 ls H locs hl hP hD hS
        have hl : lv_has ls 5 [(4, .int ((nI j) + (-1))), (0, .ref (e 0)), (1, .long v), (3, .int (nI nen))] := hl
        have hP : va_P G vwCl [(e 0, .inr (5, [.ref (e 1), .ref (e 2), .int (nI ty2), .int (nI at0)])), (e 1, .inl (tA 0, 250, .inl (nF X)))] H := hP
        have hD : va_D A [(e 0, .inr (5, [.ref (e 1), .ref (e 2), .int (nI ty2), .int (nI at0)])), (e 1, .inl (tA 0, 250, .inl (nF X)))] := hD
        have hjw : j + w = nen := hjw
        have ht2 : ty2 = sz + w := ht2
        have hX : X = typC tx sz v nen w := hX
        refine lv_iload hx hb dX7_append_34 (lv_at hl 0 rfl) ?_
        refine zv_if_lt (tgt := 76) (X := ((j : Nat) : Int) - 1) (predZ (by omega)) hx hb dX7_append_36 (by decide) (fun c_5 => ?_) (fun c_5 => ?_)
        · refine lv_aload_n hx hb dX7_append_76 rfl (lv_at hl 1 rfl) ?_
          refine va_get (D := G) (ci := 5) (C := RX7) (T := TX7) (N := 4) hx hb hts iX7 hown hKK.1 hP 0 rfl rfl 2 (by decide) f18 (fun _ h9 => h9) rfl dX7_append_77 ?_
          exact retI hx hb hr hlocks hS hP hD () (by simp only [z_nen, if_pos (show (1 ≤ NE ∧ NE ≤ 8) ∧ sz + nen ≤ 250 from by omega)]; rw [hX, ht2, show w = nen from by omega]) (by rw [if_pos hok, z_nen, if_pos (by omega)]; exact congrArg nI (by omega)) dX7_append_80
        · obtain ⟨j9, rfl⟩ : ∃ z, j = z + 1 := ⟨j - 1, by omega⟩
          have hl : lv_has ls 5 [(4, .int (nI j9)), (0, .ref (e 0)), (1, .long v), (3, .int (nI nen))] := by rw [pk_m1] at hl; exact hl
          refine lv_aload_n hx hb dX7_append_39 rfl (lv_at hl 1 rfl) ?_
          refine va_get (D := G) (ci := 5) (C := RX7) (T := TX7) (N := 4) hx hb hts iX7 hown hKK.1 hP 0 rfl rfl 0 (by decide) f9 (fun _ h9 => h9) rfl dX7_append_40 ?_
          refine lv_aload_n hx hb dX7_append_43 rfl (lv_at hl 1 rfl) ?_
          refine va_get (D := G) (ci := 5) (C := RX7) (T := TX7) (N := 4) hx hb hts iX7 hown hKK.1 hP 0 rfl rfl 2 (by decide) f18 (fun _ h9 => h9) rfl dX7_append_44 ?_
          refine lv_lload_n hx hb dX7_append_47 rfl (lv_at hl 2 rfl) ?_
          refine lv_bipush (v := nI 8) hx hb dX7_append_48 (by decide +kernel) ?_
          refine lv_iload hx hb dX7_append_50 (lv_at hl 0 rfl) ?_
          refine nv_imul hx hb dX7_append_52 ?_
          refine lv_lshr hx hb dX7_append_53 rfl ?_
          refine lv_ldc2 (v := 255) hx hb hown f25 dX7_append_54 ?_
          refine nv_topl (y := (nI 255).toInt64) (by decide +kernel) ?_
          refine lv_land hx hb dX7_append_57 ?_
          refine lv_l2i hx hb dX7_append_58 rfl ?_
          refine nv_top (y := byteN v j9) (nI_all (byteX v j9)) ?_
          refine nv_iast (i := ty2) hx hb hKK.1 hP hD hS 1 0 rfl rfl (by omega) (by decide) dX7_append_59 [(e 0, .inr (5, [.ref (e 1), .ref (e 2), .int (nI ty2), .int (nI at0)])), (e 1, .inl (tA 0, 250, .inl (nF (updN X ty2 (byteN v j9)))))] rfl (fun H locs hP hD hS => ?_)
          refine lv_aload_n hx hb dX7_append_60 rfl (lv_at hl 1 rfl) ?_
          refine lv_dup hx hb dX7_append_61 rfl ?_
          refine va_get (D := G) (ci := 5) (C := RX7) (T := TX7) (N := 4) hx hb hts iX7 hown hKK.1 hP 0 rfl rfl 2 (by decide) f18 (fun _ h9 => h9) rfl dX7_append_62 ?_
          refine lv_iconst (v := nI 1) hx hb dX7_append_65 (by decide) ?_
          refine nv_iadd hx hb dX7_append_66 ?_
          refine nv_put (D := G) (ci := 5) (v := .int (nI (ty2 + 1))) (ty := (tyX7 2)) (C := RX7) (T := TX7) (N := 4) hx hb hts iX7 tyX7 tyX7_ok nmX7 hown hKK.1 hP hD hS 0 rfl rfl 2 (by decide) f18 (fun _ h9 => h9) rfl (by decide +kernel) rfl rfl (Nat.le_of_ble_eq_true rfl) dX7_append_67 [(e 0, .inr (5, [.ref (e 1), .ref (e 2), .int (nI (ty2 + 1)), .int (nI at0)])), (e 1, .inl (tA 0, 250, .inl (nF (updN X ty2 (byteN v j9)))))] rfl (fun H locs hP hD hS => ?_)
          refine lv_iinc (v := ((nI j9) + (-1))) (lv' := [(4, .int ((nI j9) + (-1))), (0, .ref (e 0)), (1, .long v), (3, .int (nI nen))]) hx hb dX7_append_70 hl (k := 0) rfl rfl (by decide) rfl (fun ls hl => ?_)
          refine lv_goto (tgt := 34) hx hb dX7_append_73 (by decide) ?_
          exact ih_4 (j9, w + 1, ty2 + 1, updN X ty2 (byteN v j9)) (show j9 < (j9 + 1) from by omega) ⟨(show j9 + (w + 1) = nen from by omega), (show (ty2 + 1) = sz + (w + 1) from by omega), (show (updN X ty2 (byteN v j9)) = typC tx sz v nen (w + 1) from by rw [typC_s, hX, ht2, show nen - 1 - w = j9 from by omega])⟩ _ _ _ (lv_sub hl [0, 1, 2, 3] rfl) hP hD hS
      · refine lv_bipush (v := (-4)) hx hb dX7_append_26 (by decide +kernel) ?_
        exact retI hx hb hr hlocks hS hP hD () (by simp only [z_nen, if_neg (show ¬ ((1 ≤ NE ∧ NE ≤ 8) ∧ sz + nen ≤ 250) from by omega)]) (by rw [if_pos hok, z_nen, if_neg (by omega)]) dX7_append_28
    · refine lv_bipush (v := (-2)) hx hb dX7_append_11 (by decide +kernel) ?_
      exact retI hx hb hr hlocks hS hP hD () (by simp only [if_neg (show ¬ ((1 ≤ NE ∧ NE ≤ 8) ∧ sz + NE.toNat ≤ 250) from by omega)]) (by rw [if_neg (by omega)]) dX7_append_13

set_option maxHeartbeats 4000000 in
set_option maxRecDepth 100000 in
theorem c_X7_init (l : Launch) (G : va_G) (tA : Nat → ClassId) (o0 : Nat)  : CtV l yX7_init wsX7_init ({ frames := 1, cells := 2, slots := 254, locals := 12 }) G tA [.ref o0] ([(o0, .inr (5, [.null, .null, .int (nI 0), .int (nI 0)]))]) (fun (u : (Nat → Nat)) => u 0 = o0) (fun (u : (Nat → Nat)) => [(u 0, .inr (5, [.ref (u 1), .ref (u 2), .int (nI 0), .int (nI 0)])), (u 1, .inl (tA 0, 250, .inl (nF (fun _ => 0)))), (u 2, .inl (tA 0, 4, .inl (nF (fun _ => 0))))]) 2 254 := by
  refine enterV (cc := cX7_init) (maxL := 1) (ret := none) (by decide) rfl (Nat.le_of_ble_eq_true rfl) ?_
  intro p0 e0 s m args below meth c0_ A ls hx hb hml hr hts hown hlocks hin hKK hA hP hD hl hS
  have hown : s.vm.findClass RX7 = some m.cls := hown
  have hin : meth.name = "<init>" := hin
  have hl : lv_has ls 1 [(0, .ref o0)] := hl
  have f3 := hts (Cond.methodLink RX7 3 objectInit) (List.mem_of_getElem? (i := 1) rfl)
  have f9 := hts (Cond.fieldLink RX7 9 "LentTerms$Text" "bytes" "[I") (List.mem_of_getElem? (i := 5) rfl)
  have iX7 : ∀ w ∈ wsX70, w ∈ wsX7_init := by decide +kernel
  have f15 := hts (Cond.fieldLink RX7 15 "LentTerms$Text" "numbers" "[I") (List.mem_of_getElem? (i := 6) rfl)
  have f18 := hts (Cond.fieldLink RX7 18 "LentTerms$Text" "size" "I") (List.mem_of_getElem? (i := 7) rfl)
  have f22 := hts (Cond.fieldLink RX7 22 "LentTerms$Text" "at" "I") (List.mem_of_getElem? (i := 8) rfl)
  refine lv_aload_n hx hb dX7_init_0 rfl (lv_at hl 0 rfl) ?_
  refine W.objInit hx hb hown f3 (hts (.instanceMethod objectInit) (List.mem_of_getElem? (i := 2) rfl)) (hts (.code objectInit ⟨#[0xb1]⟩ 1 none) (List.mem_of_getElem? (i := 3) rfl)) rfl (by rw [hml]; exact hl.1) rfl dX7_init_1 (Nat.le_of_ble_eq_true rfl) (Nat.le_of_ble_eq_true rfl) ?_
  refine W.eq (g2 := F0 m 4 ls []) rfl ?_
  refine lv_aload_n hx hb dX7_init_4 rfl (lv_at hl 0 rfl) ?_
  refine lv_sipush (v := nI 250) hx hb dX7_init_5 (by decide +kernel) ?_
  refine nv_newI hx hb (hts (.arrayClass .int) (List.mem_of_getElem? (i := 4) rfl)) hKK hP hD hS hA (by decide) (Nat.le_of_ble_eq_true rfl) (Nat.le_of_ble_eq_true rfl) dX7_init_8 (fun x1 H hP hD hS => ?_)
  have hP : va_P G vwCl [(o0, .inr (5, [.null, .null, .int (nI 0), .int (nI 0)])), (x1, .inl (tA 0, 250, .inl (nF (fun _ => 0))))] H := hP
  have hD : va_D A [(o0, .inr (5, [.null, .null, .int (nI 0), .int (nI 0)])), (x1, .inl (tA 0, 250, .inl (nF (fun _ => 0))))] := hD
  refine va_putF (D := G) (ci := 5) (v := .ref x1) (ty := (tyX7 0)) (C := RX7) (T := TX7) (N := 4) hx hb hts iX7 tyX7 tyX7_ok nmX7 hown hKK.1 hP hD hS 0 rfl rfl 0 (by decide) f9 (fun _ h9 => h9) rfl hin rfl (by decide +kernel) rfl rfl (Nat.le_of_ble_eq_true rfl) dX7_init_10 (fun H locs hP hD hS => ?_)
  have hP : va_P G vwCl [(o0, .inr (5, [.ref x1, .null, .int (nI 0), .int (nI 0)])), (x1, .inl (tA 0, 250, .inl (nF (fun _ => 0))))] H := hP
  have hD : va_D A [(o0, .inr (5, [.ref x1, .null, .int (nI 0), .int (nI 0)])), (x1, .inl (tA 0, 250, .inl (nF (fun _ => 0))))] := hD
  refine lv_aload_n hx hb dX7_init_13 rfl (lv_at hl 0 rfl) ?_
  refine lv_iconst (v := nI 4) hx hb dX7_init_14 (by decide) ?_
  refine nv_newI hx hb (hts (.arrayClass .int) (List.mem_of_getElem? (i := 4) rfl)) hKK hP hD hS hA (by decide) (Nat.le_of_ble_eq_true rfl) (Nat.le_of_ble_eq_true rfl) dX7_init_15 (fun x2 H hP hD hS => ?_)
  have hP : va_P G vwCl [(o0, .inr (5, [.ref x1, .null, .int (nI 0), .int (nI 0)])), (x1, .inl (tA 0, 250, .inl (nF (fun _ => 0)))), (x2, .inl (tA 0, 4, .inl (nF (fun _ => 0))))] H := hP
  have hD : va_D A [(o0, .inr (5, [.ref x1, .null, .int (nI 0), .int (nI 0)])), (x1, .inl (tA 0, 250, .inl (nF (fun _ => 0)))), (x2, .inl (tA 0, 4, .inl (nF (fun _ => 0))))] := hD
  refine va_putF (D := G) (ci := 5) (v := .ref x2) (ty := (tyX7 1)) (C := RX7) (T := TX7) (N := 4) hx hb hts iX7 tyX7 tyX7_ok nmX7 hown hKK.1 hP hD hS 0 rfl rfl 1 (by decide) f15 (fun _ h9 => h9) rfl hin rfl (by decide +kernel) rfl rfl (Nat.le_of_ble_eq_true rfl) dX7_init_17 (fun H locs hP hD hS => ?_)
  have hP : va_P G vwCl [(o0, .inr (5, [.ref x1, .ref x2, .int (nI 0), .int (nI 0)])), (x1, .inl (tA 0, 250, .inl (nF (fun _ => 0)))), (x2, .inl (tA 0, 4, .inl (nF (fun _ => 0))))] H := hP
  have hD : va_D A [(o0, .inr (5, [.ref x1, .ref x2, .int (nI 0), .int (nI 0)])), (x1, .inl (tA 0, 250, .inl (nF (fun _ => 0)))), (x2, .inl (tA 0, 4, .inl (nF (fun _ => 0))))] := hD
  refine lv_aload_n hx hb dX7_init_20 rfl (lv_at hl 0 rfl) ?_
  refine lv_iconst (v := nI 0) hx hb dX7_init_21 (by decide) ?_
  refine nv_put (D := G) (ci := 5) (v := .int (nI 0)) (ty := (tyX7 2)) (C := RX7) (T := TX7) (N := 4) hx hb hts iX7 tyX7 tyX7_ok nmX7 hown hKK.1 hP hD hS 0 rfl rfl 2 (by decide) f18 (fun _ h9 => h9) rfl (by decide +kernel) rfl rfl (Nat.le_of_ble_eq_true rfl) dX7_init_22 [(o0, .inr (5, [.ref x1, .ref x2, .int (nI 0), .int (nI 0)])), (x1, .inl (tA 0, 250, .inl (nF (fun _ => 0)))), (x2, .inl (tA 0, 4, .inl (nF (fun _ => 0))))] rfl (fun H locs hP hD hS => ?_)
  refine lv_aload_n hx hb dX7_init_25 rfl (lv_at hl 0 rfl) ?_
  refine lv_iconst (v := nI 0) hx hb dX7_init_26 (by decide) ?_
  refine nv_put (D := G) (ci := 5) (v := .int (nI 0)) (ty := (tyX7 3)) (C := RX7) (T := TX7) (N := 4) hx hb hts iX7 tyX7 tyX7_ok nmX7 hown hKK.1 hP hD hS 0 rfl rfl 3 (by decide) f22 (fun _ h9 => h9) rfl (by decide +kernel) rfl rfl (Nat.le_of_ble_eq_true rfl) dX7_init_27 [(o0, .inr (5, [.ref x1, .ref x2, .int (nI 0), .int (nI 0)])), (x1, .inl (tA 0, 250, .inl (nF (fun _ => 0)))), (x2, .inl (tA 0, 4, .inl (nF (fun _ => 0))))] rfl (fun H locs hP hD hS => ?_)
  refine W.widen (k := 2) (n := 254) (Nat.le_of_ble_eq_true rfl) (Nat.le_of_ble_eq_true rfl) ?_
  exact retV hx hb hr hlocks hS hP hD (adr [o0, x1, x2]) (rfl) (rfl) dX7_init_30

set_option maxHeartbeats 4000000 in
set_option maxRecDepth 100000 in
theorem c_X1_init (l : Launch) (G : va_G) (tA : Nat → ClassId) (o0 : Nat)  : CtV l yX1_init wsX1_init ({ frames := 1, cells := 3, slots := 19, locals := 12 }) G tA [.ref o0] ([(o0, .inr (1, [.null, .null, .null, .int (nI 0)]))]) (fun (u : (Nat → Nat)) => u 0 = o0) (fun (u : (Nat → Nat)) => [(u 0, .inr (1, [.ref (u 1), .ref (u 2), .ref (u 3), .int (nI 0)])), (u 1, .inl (tA 0, 8, .inl (nF (fun _ => 0)))), (u 2, .inl (tA 0, 5, .inl (nF (fun _ => 0)))), (u 3, .inl (tA 0, 6, .inl (nF (fun _ => 0))))]) 3 19 := by
  refine enterV (cc := cX1_init) (maxL := 1) (ret := none) (by decide) rfl (Nat.le_of_ble_eq_true rfl) ?_
  intro p0 e0 s m args below meth c0_ A ls hx hb hml hr hts hown hlocks hin hKK hA hP hD hl hS
  have hown : s.vm.findClass RX1 = some m.cls := hown
  have hin : meth.name = "<init>" := hin
  have hl : lv_has ls 1 [(0, .ref o0)] := hl
  have f3 := hts (Cond.methodLink RX1 3 objectInit) (List.mem_of_getElem? (i := 1) rfl)
  have f9 := hts (Cond.fieldLink RX1 9 "LentTerms$Deal" "left" "[I") (List.mem_of_getElem? (i := 5) rfl)
  have iX1 : ∀ w ∈ wsX10, w ∈ wsX1_init := by decide +kernel
  have f15 := hts (Cond.fieldLink RX1 15 "LentTerms$Deal" "gets" "[I") (List.mem_of_getElem? (i := 6) rfl)
  have f18 := hts (Cond.fieldLink RX1 18 "LentTerms$Deal" "hope" "[I") (List.mem_of_getElem? (i := 7) rfl)
  have f21 := hts (Cond.fieldLink RX1 21 "LentTerms$Deal" "most" "I") (List.mem_of_getElem? (i := 8) rfl)
  refine lv_aload_n hx hb dX1_init_0 rfl (lv_at hl 0 rfl) ?_
  refine W.objInit hx hb hown f3 (hts (.instanceMethod objectInit) (List.mem_of_getElem? (i := 2) rfl)) (hts (.code objectInit ⟨#[0xb1]⟩ 1 none) (List.mem_of_getElem? (i := 3) rfl)) rfl (by rw [hml]; exact hl.1) rfl dX1_init_1 (Nat.le_of_ble_eq_true rfl) (Nat.le_of_ble_eq_true rfl) ?_
  refine W.eq (g2 := F0 m 4 ls []) rfl ?_
  refine lv_aload_n hx hb dX1_init_4 rfl (lv_at hl 0 rfl) ?_
  refine lv_bipush (v := nI 8) hx hb dX1_init_5 (by decide +kernel) ?_
  refine nv_newI hx hb (hts (.arrayClass .int) (List.mem_of_getElem? (i := 4) rfl)) hKK hP hD hS hA (by decide) (Nat.le_of_ble_eq_true rfl) (Nat.le_of_ble_eq_true rfl) dX1_init_7 (fun x1 H hP hD hS => ?_)
  have hP : va_P G vwCl [(o0, .inr (1, [.null, .null, .null, .int (nI 0)])), (x1, .inl (tA 0, 8, .inl (nF (fun _ => 0))))] H := hP
  have hD : va_D A [(o0, .inr (1, [.null, .null, .null, .int (nI 0)])), (x1, .inl (tA 0, 8, .inl (nF (fun _ => 0))))] := hD
  refine va_putF (D := G) (ci := 1) (v := .ref x1) (ty := (tyX1 0)) (C := RX1) (T := TX1) (N := 4) hx hb hts iX1 tyX1 tyX1_ok nmX1 hown hKK.1 hP hD hS 0 rfl rfl 0 (by decide) f9 (fun _ h9 => h9) rfl hin rfl (by decide +kernel) rfl rfl (Nat.le_of_ble_eq_true rfl) dX1_init_9 (fun H locs hP hD hS => ?_)
  have hP : va_P G vwCl [(o0, .inr (1, [.ref x1, .null, .null, .int (nI 0)])), (x1, .inl (tA 0, 8, .inl (nF (fun _ => 0))))] H := hP
  have hD : va_D A [(o0, .inr (1, [.ref x1, .null, .null, .int (nI 0)])), (x1, .inl (tA 0, 8, .inl (nF (fun _ => 0))))] := hD
  refine lv_aload_n hx hb dX1_init_12 rfl (lv_at hl 0 rfl) ?_
  refine lv_iconst (v := nI 5) hx hb dX1_init_13 (by decide) ?_
  refine nv_newI hx hb (hts (.arrayClass .int) (List.mem_of_getElem? (i := 4) rfl)) hKK hP hD hS hA (by decide) (Nat.le_of_ble_eq_true rfl) (Nat.le_of_ble_eq_true rfl) dX1_init_14 (fun x2 H hP hD hS => ?_)
  have hP : va_P G vwCl [(o0, .inr (1, [.ref x1, .null, .null, .int (nI 0)])), (x1, .inl (tA 0, 8, .inl (nF (fun _ => 0)))), (x2, .inl (tA 0, 5, .inl (nF (fun _ => 0))))] H := hP
  have hD : va_D A [(o0, .inr (1, [.ref x1, .null, .null, .int (nI 0)])), (x1, .inl (tA 0, 8, .inl (nF (fun _ => 0)))), (x2, .inl (tA 0, 5, .inl (nF (fun _ => 0))))] := hD
  refine va_putF (D := G) (ci := 1) (v := .ref x2) (ty := (tyX1 1)) (C := RX1) (T := TX1) (N := 4) hx hb hts iX1 tyX1 tyX1_ok nmX1 hown hKK.1 hP hD hS 0 rfl rfl 1 (by decide) f15 (fun _ h9 => h9) rfl hin rfl (by decide +kernel) rfl rfl (Nat.le_of_ble_eq_true rfl) dX1_init_16 (fun H locs hP hD hS => ?_)
  have hP : va_P G vwCl [(o0, .inr (1, [.ref x1, .ref x2, .null, .int (nI 0)])), (x1, .inl (tA 0, 8, .inl (nF (fun _ => 0)))), (x2, .inl (tA 0, 5, .inl (nF (fun _ => 0))))] H := hP
  have hD : va_D A [(o0, .inr (1, [.ref x1, .ref x2, .null, .int (nI 0)])), (x1, .inl (tA 0, 8, .inl (nF (fun _ => 0)))), (x2, .inl (tA 0, 5, .inl (nF (fun _ => 0))))] := hD
  refine lv_aload_n hx hb dX1_init_19 rfl (lv_at hl 0 rfl) ?_
  refine lv_bipush (v := nI 6) hx hb dX1_init_20 (by decide +kernel) ?_
  refine nv_newI hx hb (hts (.arrayClass .int) (List.mem_of_getElem? (i := 4) rfl)) hKK hP hD hS hA (by decide) (Nat.le_of_ble_eq_true rfl) (Nat.le_of_ble_eq_true rfl) dX1_init_22 (fun x3 H hP hD hS => ?_)
  have hP : va_P G vwCl [(o0, .inr (1, [.ref x1, .ref x2, .null, .int (nI 0)])), (x1, .inl (tA 0, 8, .inl (nF (fun _ => 0)))), (x2, .inl (tA 0, 5, .inl (nF (fun _ => 0)))), (x3, .inl (tA 0, 6, .inl (nF (fun _ => 0))))] H := hP
  have hD : va_D A [(o0, .inr (1, [.ref x1, .ref x2, .null, .int (nI 0)])), (x1, .inl (tA 0, 8, .inl (nF (fun _ => 0)))), (x2, .inl (tA 0, 5, .inl (nF (fun _ => 0)))), (x3, .inl (tA 0, 6, .inl (nF (fun _ => 0))))] := hD
  refine va_putF (D := G) (ci := 1) (v := .ref x3) (ty := (tyX1 2)) (C := RX1) (T := TX1) (N := 4) hx hb hts iX1 tyX1 tyX1_ok nmX1 hown hKK.1 hP hD hS 0 rfl rfl 2 (by decide) f18 (fun _ h9 => h9) rfl hin rfl (by decide +kernel) rfl rfl (Nat.le_of_ble_eq_true rfl) dX1_init_24 (fun H locs hP hD hS => ?_)
  have hP : va_P G vwCl [(o0, .inr (1, [.ref x1, .ref x2, .ref x3, .int (nI 0)])), (x1, .inl (tA 0, 8, .inl (nF (fun _ => 0)))), (x2, .inl (tA 0, 5, .inl (nF (fun _ => 0)))), (x3, .inl (tA 0, 6, .inl (nF (fun _ => 0))))] H := hP
  have hD : va_D A [(o0, .inr (1, [.ref x1, .ref x2, .ref x3, .int (nI 0)])), (x1, .inl (tA 0, 8, .inl (nF (fun _ => 0)))), (x2, .inl (tA 0, 5, .inl (nF (fun _ => 0)))), (x3, .inl (tA 0, 6, .inl (nF (fun _ => 0))))] := hD
  refine lv_aload_n hx hb dX1_init_27 rfl (lv_at hl 0 rfl) ?_
  refine lv_iconst (v := nI 0) hx hb dX1_init_28 (by decide) ?_
  refine nv_put (D := G) (ci := 1) (v := .int (nI 0)) (ty := (tyX1 3)) (C := RX1) (T := TX1) (N := 4) hx hb hts iX1 tyX1 tyX1_ok nmX1 hown hKK.1 hP hD hS 0 rfl rfl 3 (by decide) f21 (fun _ h9 => h9) rfl (by decide +kernel) rfl rfl (Nat.le_of_ble_eq_true rfl) dX1_init_29 [(o0, .inr (1, [.ref x1, .ref x2, .ref x3, .int (nI 0)])), (x1, .inl (tA 0, 8, .inl (nF (fun _ => 0)))), (x2, .inl (tA 0, 5, .inl (nF (fun _ => 0)))), (x3, .inl (tA 0, 6, .inl (nF (fun _ => 0))))] rfl (fun H locs hP hD hS => ?_)
  refine W.widen (k := 3) (n := 19) (Nat.le_of_ble_eq_true rfl) (Nat.le_of_ble_eq_true rfl) ?_
  exact retV hx hb hr hlocks hS hP hD (adr [o0, x1, x2, x3]) (rfl) (rfl) dX1_init_32

set_option maxHeartbeats 4000000 in
set_option maxRecDepth 100000 in
theorem c_X5_init (l : Launch) (G : va_G) (tA : Nat → ClassId) (o0 : Nat)  : CtV l yX5_init wsX5_init ({ frames := 1, cells := 3, slots := 18, locals := 12 }) G tA [.ref o0] ([(o0, .inr (3, [.null, .null, .null, .int (nI 0)]))]) (fun (u : (Nat → Nat)) => u 0 = o0) (fun (u : (Nat → Nat)) => [(u 0, .inr (3, [.ref (u 1), .ref (u 2), .ref (u 3), .int (nI 0)])), (u 1, .inl (tA 0, 8, .inl (nF (fun _ => 0)))), (u 2, .inl (tA 0, 5, .inl (nF (fun _ => 0)))), (u 3, .inl (tA 0, 5, .inl (nF (fun _ => 0))))]) 3 18 := by
  refine enterV (cc := cX5_init) (maxL := 1) (ret := none) (by decide) rfl (Nat.le_of_ble_eq_true rfl) ?_
  intro p0 e0 s m args below meth c0_ A ls hx hb hml hr hts hown hlocks hin hKK hA hP hD hl hS
  have hown : s.vm.findClass RX5 = some m.cls := hown
  have hin : meth.name = "<init>" := hin
  have hl : lv_has ls 1 [(0, .ref o0)] := hl
  have f3 := hts (Cond.methodLink RX5 3 objectInit) (List.mem_of_getElem? (i := 1) rfl)
  have f9 := hts (Cond.fieldLink RX5 9 "LentTerms$Schedule" "mays" "[I") (List.mem_of_getElem? (i := 5) rfl)
  have iX5 : ∀ w ∈ wsX50, w ∈ wsX5_init := by decide +kernel
  have f15 := hts (Cond.fieldLink RX5 15 "LentTerms$Schedule" "hours" "[I") (List.mem_of_getElem? (i := 6) rfl)
  have f18 := hts (Cond.fieldLink RX5 18 "LentTerms$Schedule" "best" "[I") (List.mem_of_getElem? (i := 7) rfl)
  have f21 := hts (Cond.fieldLink RX5 21 "LentTerms$Schedule" "met" "I") (List.mem_of_getElem? (i := 8) rfl)
  refine lv_aload_n hx hb dX5_init_0 rfl (lv_at hl 0 rfl) ?_
  refine W.objInit hx hb hown f3 (hts (.instanceMethod objectInit) (List.mem_of_getElem? (i := 2) rfl)) (hts (.code objectInit ⟨#[0xb1]⟩ 1 none) (List.mem_of_getElem? (i := 3) rfl)) rfl (by rw [hml]; exact hl.1) rfl dX5_init_1 (Nat.le_of_ble_eq_true rfl) (Nat.le_of_ble_eq_true rfl) ?_
  refine W.eq (g2 := F0 m 4 ls []) rfl ?_
  refine lv_aload_n hx hb dX5_init_4 rfl (lv_at hl 0 rfl) ?_
  refine lv_bipush (v := nI 8) hx hb dX5_init_5 (by decide +kernel) ?_
  refine nv_newI hx hb (hts (.arrayClass .int) (List.mem_of_getElem? (i := 4) rfl)) hKK hP hD hS hA (by decide) (Nat.le_of_ble_eq_true rfl) (Nat.le_of_ble_eq_true rfl) dX5_init_7 (fun x1 H hP hD hS => ?_)
  have hP : va_P G vwCl [(o0, .inr (3, [.null, .null, .null, .int (nI 0)])), (x1, .inl (tA 0, 8, .inl (nF (fun _ => 0))))] H := hP
  have hD : va_D A [(o0, .inr (3, [.null, .null, .null, .int (nI 0)])), (x1, .inl (tA 0, 8, .inl (nF (fun _ => 0))))] := hD
  refine va_putF (D := G) (ci := 3) (v := .ref x1) (ty := (tyX5 0)) (C := RX5) (T := TX5) (N := 4) hx hb hts iX5 tyX5 tyX5_ok nmX5 hown hKK.1 hP hD hS 0 rfl rfl 0 (by decide) f9 (fun _ h9 => h9) rfl hin rfl (by decide +kernel) rfl rfl (Nat.le_of_ble_eq_true rfl) dX5_init_9 (fun H locs hP hD hS => ?_)
  have hP : va_P G vwCl [(o0, .inr (3, [.ref x1, .null, .null, .int (nI 0)])), (x1, .inl (tA 0, 8, .inl (nF (fun _ => 0))))] H := hP
  have hD : va_D A [(o0, .inr (3, [.ref x1, .null, .null, .int (nI 0)])), (x1, .inl (tA 0, 8, .inl (nF (fun _ => 0))))] := hD
  refine lv_aload_n hx hb dX5_init_12 rfl (lv_at hl 0 rfl) ?_
  refine lv_iconst (v := nI 5) hx hb dX5_init_13 (by decide) ?_
  refine nv_newI hx hb (hts (.arrayClass .int) (List.mem_of_getElem? (i := 4) rfl)) hKK hP hD hS hA (by decide) (Nat.le_of_ble_eq_true rfl) (Nat.le_of_ble_eq_true rfl) dX5_init_14 (fun x2 H hP hD hS => ?_)
  have hP : va_P G vwCl [(o0, .inr (3, [.ref x1, .null, .null, .int (nI 0)])), (x1, .inl (tA 0, 8, .inl (nF (fun _ => 0)))), (x2, .inl (tA 0, 5, .inl (nF (fun _ => 0))))] H := hP
  have hD : va_D A [(o0, .inr (3, [.ref x1, .null, .null, .int (nI 0)])), (x1, .inl (tA 0, 8, .inl (nF (fun _ => 0)))), (x2, .inl (tA 0, 5, .inl (nF (fun _ => 0))))] := hD
  refine va_putF (D := G) (ci := 3) (v := .ref x2) (ty := (tyX5 1)) (C := RX5) (T := TX5) (N := 4) hx hb hts iX5 tyX5 tyX5_ok nmX5 hown hKK.1 hP hD hS 0 rfl rfl 1 (by decide) f15 (fun _ h9 => h9) rfl hin rfl (by decide +kernel) rfl rfl (Nat.le_of_ble_eq_true rfl) dX5_init_16 (fun H locs hP hD hS => ?_)
  have hP : va_P G vwCl [(o0, .inr (3, [.ref x1, .ref x2, .null, .int (nI 0)])), (x1, .inl (tA 0, 8, .inl (nF (fun _ => 0)))), (x2, .inl (tA 0, 5, .inl (nF (fun _ => 0))))] H := hP
  have hD : va_D A [(o0, .inr (3, [.ref x1, .ref x2, .null, .int (nI 0)])), (x1, .inl (tA 0, 8, .inl (nF (fun _ => 0)))), (x2, .inl (tA 0, 5, .inl (nF (fun _ => 0))))] := hD
  refine lv_aload_n hx hb dX5_init_19 rfl (lv_at hl 0 rfl) ?_
  refine lv_iconst (v := nI 5) hx hb dX5_init_20 (by decide) ?_
  refine nv_newI hx hb (hts (.arrayClass .int) (List.mem_of_getElem? (i := 4) rfl)) hKK hP hD hS hA (by decide) (Nat.le_of_ble_eq_true rfl) (Nat.le_of_ble_eq_true rfl) dX5_init_21 (fun x3 H hP hD hS => ?_)
  have hP : va_P G vwCl [(o0, .inr (3, [.ref x1, .ref x2, .null, .int (nI 0)])), (x1, .inl (tA 0, 8, .inl (nF (fun _ => 0)))), (x2, .inl (tA 0, 5, .inl (nF (fun _ => 0)))), (x3, .inl (tA 0, 5, .inl (nF (fun _ => 0))))] H := hP
  have hD : va_D A [(o0, .inr (3, [.ref x1, .ref x2, .null, .int (nI 0)])), (x1, .inl (tA 0, 8, .inl (nF (fun _ => 0)))), (x2, .inl (tA 0, 5, .inl (nF (fun _ => 0)))), (x3, .inl (tA 0, 5, .inl (nF (fun _ => 0))))] := hD
  refine va_putF (D := G) (ci := 3) (v := .ref x3) (ty := (tyX5 2)) (C := RX5) (T := TX5) (N := 4) hx hb hts iX5 tyX5 tyX5_ok nmX5 hown hKK.1 hP hD hS 0 rfl rfl 2 (by decide) f18 (fun _ h9 => h9) rfl hin rfl (by decide +kernel) rfl rfl (Nat.le_of_ble_eq_true rfl) dX5_init_23 (fun H locs hP hD hS => ?_)
  have hP : va_P G vwCl [(o0, .inr (3, [.ref x1, .ref x2, .ref x3, .int (nI 0)])), (x1, .inl (tA 0, 8, .inl (nF (fun _ => 0)))), (x2, .inl (tA 0, 5, .inl (nF (fun _ => 0)))), (x3, .inl (tA 0, 5, .inl (nF (fun _ => 0))))] H := hP
  have hD : va_D A [(o0, .inr (3, [.ref x1, .ref x2, .ref x3, .int (nI 0)])), (x1, .inl (tA 0, 8, .inl (nF (fun _ => 0)))), (x2, .inl (tA 0, 5, .inl (nF (fun _ => 0)))), (x3, .inl (tA 0, 5, .inl (nF (fun _ => 0))))] := hD
  refine lv_aload_n hx hb dX5_init_26 rfl (lv_at hl 0 rfl) ?_
  refine lv_iconst (v := nI 0) hx hb dX5_init_27 (by decide) ?_
  refine nv_put (D := G) (ci := 3) (v := .int (nI 0)) (ty := (tyX5 3)) (C := RX5) (T := TX5) (N := 4) hx hb hts iX5 tyX5 tyX5_ok nmX5 hown hKK.1 hP hD hS 0 rfl rfl 3 (by decide) f21 (fun _ h9 => h9) rfl (by decide +kernel) rfl rfl (Nat.le_of_ble_eq_true rfl) dX5_init_28 [(o0, .inr (3, [.ref x1, .ref x2, .ref x3, .int (nI 0)])), (x1, .inl (tA 0, 8, .inl (nF (fun _ => 0)))), (x2, .inl (tA 0, 5, .inl (nF (fun _ => 0)))), (x3, .inl (tA 0, 5, .inl (nF (fun _ => 0))))] rfl (fun H locs hP hD hS => ?_)
  refine W.widen (k := 3) (n := 18) (Nat.le_of_ble_eq_true rfl) (Nat.le_of_ble_eq_true rfl) ?_
  exact retV hx hb hr hlocks hS hP hD (adr [o0, x1, x2, x3]) (rfl) (rfl) dX5_init_31

set_option maxHeartbeats 4000000 in
set_option maxRecDepth 100000 in
theorem c_X6_init (l : Launch) (G : va_G) (tA : Nat → ClassId) (o0 : Nat)  : CtV l yX6_init wsX6_init ({ frames := 1, cells := 3, slots := 24, locals := 12 }) G tA [.ref o0] ([(o0, .inr (4, [.null, .null, .null, .int (nI 0)]))]) (fun (u : (Nat → Nat)) => u 0 = o0) (fun (u : (Nat → Nat)) => [(u 0, .inr (4, [.ref (u 1), .ref (u 2), .ref (u 3), .int (nI 0)])), (u 1, .inl (tA 0, 8, .inl (nF (fun _ => 0)))), (u 2, .inl (tA 0, 8, .inl (nF (fun _ => 0)))), (u 3, .inl (tA 0, 8, .inl (nF (fun _ => 0))))]) 3 24 := by
  refine enterV (cc := cX6_init) (maxL := 1) (ret := none) (by decide) rfl (Nat.le_of_ble_eq_true rfl) ?_
  intro p0 e0 s m args below meth c0_ A ls hx hb hml hr hts hown hlocks hin hKK hA hP hD hl hS
  have hown : s.vm.findClass RX6 = some m.cls := hown
  have hin : meth.name = "<init>" := hin
  have hl : lv_has ls 1 [(0, .ref o0)] := hl
  have f3 := hts (Cond.methodLink RX6 3 objectInit) (List.mem_of_getElem? (i := 1) rfl)
  have f9 := hts (Cond.fieldLink RX6 9 "LentTerms$Talk" "least" "[I") (List.mem_of_getElem? (i := 5) rfl)
  have iX6 : ∀ w ∈ wsX60, w ∈ wsX6_init := by decide +kernel
  have f15 := hts (Cond.fieldLink RX6 15 "LentTerms$Talk" "says" "[I") (List.mem_of_getElem? (i := 6) rfl)
  have f18 := hts (Cond.fieldLink RX6 18 "LentTerms$Talk" "needs" "[I") (List.mem_of_getElem? (i := 7) rfl)
  have f21 := hts (Cond.fieldLink RX6 21 "LentTerms$Talk" "rules" "I") (List.mem_of_getElem? (i := 8) rfl)
  refine lv_aload_n hx hb dX6_init_0 rfl (lv_at hl 0 rfl) ?_
  refine W.objInit hx hb hown f3 (hts (.instanceMethod objectInit) (List.mem_of_getElem? (i := 2) rfl)) (hts (.code objectInit ⟨#[0xb1]⟩ 1 none) (List.mem_of_getElem? (i := 3) rfl)) rfl (by rw [hml]; exact hl.1) rfl dX6_init_1 (Nat.le_of_ble_eq_true rfl) (Nat.le_of_ble_eq_true rfl) ?_
  refine W.eq (g2 := F0 m 4 ls []) rfl ?_
  refine lv_aload_n hx hb dX6_init_4 rfl (lv_at hl 0 rfl) ?_
  refine lv_bipush (v := nI 8) hx hb dX6_init_5 (by decide +kernel) ?_
  refine nv_newI hx hb (hts (.arrayClass .int) (List.mem_of_getElem? (i := 4) rfl)) hKK hP hD hS hA (by decide) (Nat.le_of_ble_eq_true rfl) (Nat.le_of_ble_eq_true rfl) dX6_init_7 (fun x1 H hP hD hS => ?_)
  have hP : va_P G vwCl [(o0, .inr (4, [.null, .null, .null, .int (nI 0)])), (x1, .inl (tA 0, 8, .inl (nF (fun _ => 0))))] H := hP
  have hD : va_D A [(o0, .inr (4, [.null, .null, .null, .int (nI 0)])), (x1, .inl (tA 0, 8, .inl (nF (fun _ => 0))))] := hD
  refine va_putF (D := G) (ci := 4) (v := .ref x1) (ty := (tyX6 0)) (C := RX6) (T := TX6) (N := 4) hx hb hts iX6 tyX6 tyX6_ok nmX6 hown hKK.1 hP hD hS 0 rfl rfl 0 (by decide) f9 (fun _ h9 => h9) rfl hin rfl (by decide +kernel) rfl rfl (Nat.le_of_ble_eq_true rfl) dX6_init_9 (fun H locs hP hD hS => ?_)
  have hP : va_P G vwCl [(o0, .inr (4, [.ref x1, .null, .null, .int (nI 0)])), (x1, .inl (tA 0, 8, .inl (nF (fun _ => 0))))] H := hP
  have hD : va_D A [(o0, .inr (4, [.ref x1, .null, .null, .int (nI 0)])), (x1, .inl (tA 0, 8, .inl (nF (fun _ => 0))))] := hD
  refine lv_aload_n hx hb dX6_init_12 rfl (lv_at hl 0 rfl) ?_
  refine lv_bipush (v := nI 8) hx hb dX6_init_13 (by decide +kernel) ?_
  refine nv_newI hx hb (hts (.arrayClass .int) (List.mem_of_getElem? (i := 4) rfl)) hKK hP hD hS hA (by decide) (Nat.le_of_ble_eq_true rfl) (Nat.le_of_ble_eq_true rfl) dX6_init_15 (fun x2 H hP hD hS => ?_)
  have hP : va_P G vwCl [(o0, .inr (4, [.ref x1, .null, .null, .int (nI 0)])), (x1, .inl (tA 0, 8, .inl (nF (fun _ => 0)))), (x2, .inl (tA 0, 8, .inl (nF (fun _ => 0))))] H := hP
  have hD : va_D A [(o0, .inr (4, [.ref x1, .null, .null, .int (nI 0)])), (x1, .inl (tA 0, 8, .inl (nF (fun _ => 0)))), (x2, .inl (tA 0, 8, .inl (nF (fun _ => 0))))] := hD
  refine va_putF (D := G) (ci := 4) (v := .ref x2) (ty := (tyX6 1)) (C := RX6) (T := TX6) (N := 4) hx hb hts iX6 tyX6 tyX6_ok nmX6 hown hKK.1 hP hD hS 0 rfl rfl 1 (by decide) f15 (fun _ h9 => h9) rfl hin rfl (by decide +kernel) rfl rfl (Nat.le_of_ble_eq_true rfl) dX6_init_17 (fun H locs hP hD hS => ?_)
  have hP : va_P G vwCl [(o0, .inr (4, [.ref x1, .ref x2, .null, .int (nI 0)])), (x1, .inl (tA 0, 8, .inl (nF (fun _ => 0)))), (x2, .inl (tA 0, 8, .inl (nF (fun _ => 0))))] H := hP
  have hD : va_D A [(o0, .inr (4, [.ref x1, .ref x2, .null, .int (nI 0)])), (x1, .inl (tA 0, 8, .inl (nF (fun _ => 0)))), (x2, .inl (tA 0, 8, .inl (nF (fun _ => 0))))] := hD
  refine lv_aload_n hx hb dX6_init_20 rfl (lv_at hl 0 rfl) ?_
  refine lv_bipush (v := nI 8) hx hb dX6_init_21 (by decide +kernel) ?_
  refine nv_newI hx hb (hts (.arrayClass .int) (List.mem_of_getElem? (i := 4) rfl)) hKK hP hD hS hA (by decide) (Nat.le_of_ble_eq_true rfl) (Nat.le_of_ble_eq_true rfl) dX6_init_23 (fun x3 H hP hD hS => ?_)
  have hP : va_P G vwCl [(o0, .inr (4, [.ref x1, .ref x2, .null, .int (nI 0)])), (x1, .inl (tA 0, 8, .inl (nF (fun _ => 0)))), (x2, .inl (tA 0, 8, .inl (nF (fun _ => 0)))), (x3, .inl (tA 0, 8, .inl (nF (fun _ => 0))))] H := hP
  have hD : va_D A [(o0, .inr (4, [.ref x1, .ref x2, .null, .int (nI 0)])), (x1, .inl (tA 0, 8, .inl (nF (fun _ => 0)))), (x2, .inl (tA 0, 8, .inl (nF (fun _ => 0)))), (x3, .inl (tA 0, 8, .inl (nF (fun _ => 0))))] := hD
  refine va_putF (D := G) (ci := 4) (v := .ref x3) (ty := (tyX6 2)) (C := RX6) (T := TX6) (N := 4) hx hb hts iX6 tyX6 tyX6_ok nmX6 hown hKK.1 hP hD hS 0 rfl rfl 2 (by decide) f18 (fun _ h9 => h9) rfl hin rfl (by decide +kernel) rfl rfl (Nat.le_of_ble_eq_true rfl) dX6_init_25 (fun H locs hP hD hS => ?_)
  have hP : va_P G vwCl [(o0, .inr (4, [.ref x1, .ref x2, .ref x3, .int (nI 0)])), (x1, .inl (tA 0, 8, .inl (nF (fun _ => 0)))), (x2, .inl (tA 0, 8, .inl (nF (fun _ => 0)))), (x3, .inl (tA 0, 8, .inl (nF (fun _ => 0))))] H := hP
  have hD : va_D A [(o0, .inr (4, [.ref x1, .ref x2, .ref x3, .int (nI 0)])), (x1, .inl (tA 0, 8, .inl (nF (fun _ => 0)))), (x2, .inl (tA 0, 8, .inl (nF (fun _ => 0)))), (x3, .inl (tA 0, 8, .inl (nF (fun _ => 0))))] := hD
  refine lv_aload_n hx hb dX6_init_28 rfl (lv_at hl 0 rfl) ?_
  refine lv_iconst (v := nI 0) hx hb dX6_init_29 (by decide) ?_
  refine nv_put (D := G) (ci := 4) (v := .int (nI 0)) (ty := (tyX6 3)) (C := RX6) (T := TX6) (N := 4) hx hb hts iX6 tyX6 tyX6_ok nmX6 hown hKK.1 hP hD hS 0 rfl rfl 3 (by decide) f21 (fun _ h9 => h9) rfl (by decide +kernel) rfl rfl (Nat.le_of_ble_eq_true rfl) dX6_init_30 [(o0, .inr (4, [.ref x1, .ref x2, .ref x3, .int (nI 0)])), (x1, .inl (tA 0, 8, .inl (nF (fun _ => 0)))), (x2, .inl (tA 0, 8, .inl (nF (fun _ => 0)))), (x3, .inl (tA 0, 8, .inl (nF (fun _ => 0))))] rfl (fun H locs hP hD hS => ?_)
  refine W.widen (k := 3) (n := 24) (Nat.le_of_ble_eq_true rfl) (Nat.le_of_ble_eq_true rfl) ?_
  exact retV hx hb hr hlocks hS hP hD (adr [o0, x1, x2, x3]) (rfl) (rfl) dX6_init_33
