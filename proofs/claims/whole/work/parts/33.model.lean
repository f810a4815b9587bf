/-! the model: round about, rings, what is dumb -/
def initM (fw : Nat → Nat) (x n : Nat) : Nat → Nat := it (fun t F => updN F t (if x / 2 ^ t % 2 = 1 then 1 else 100000)) n fw
theorem initM_0 (fw : Nat → Nat) (x : Nat) : initM fw x 0 = fw := rfl
theorem initM_s (fw : Nat → Nat) (x n : Nat) : initM fw x (n + 1) = updN (initM fw x n) n (if x / 2 ^ n % 2 = 1 then 1 else 100000) := rfl
def stepM (B : Nat → Nat) (q : Nat) (F : Nat → Nat) : Nat → Nat := if F (B (102 + 3 * q + 1)) + F (B (102 + 3 * q + 2)) < F (B (102 + 3 * q)) then updN F (B (102 + 3 * q)) (F (B (102 + 3 * q + 1)) + F (B (102 + 3 * q + 2))) else F
def rndF (B : Nat → Nat) (F : Nat → Nat) (n : Nat) : Nat → Nat := it (fun q F => stepM B q F) n F
theorem rndF_0 (B F : Nat → Nat) : rndF B F 0 = F := rfl
theorem rndF_s (B F : Nat → Nat) (n : Nat) : rndF B F (n + 1) = stepM B n (rndF B F n) := rfl
def fewM (B : Nat → Nat) (F : Nat → Nat) (n : Nat) : Nat → Nat := it (fun _ F => rndF B F (B 3)) n F
theorem fewM_0 (B F : Nat → Nat) : fewM B F 0 = F := rfl
theorem fewM_s (B F : Nat → Nat) (n : Nat) : fewM B F (n + 1) = rndF B (fewM B F n) (B 3) := rfl
theorem initM_lt {fw : Nat → Nat} (h : ∀ j, fw j < 1048576) (x n : Nat) : ∀ j, initM fw x n j < 1048576 := by
  induction n with
  | zero => exact h
  | succ n ih => rw [initM_s]; exact updN_lt ih _ (by split <;> omega)
theorem stepM_lt {B F : Nat → Nat} (h : ∀ j, F j < 1048576) (q : Nat) : ∀ j, stepM B q F j < 1048576 := by
  unfold stepM; split
  · rename_i h2; exact updN_lt h _ (Nat.lt_trans h2 (h _))
  · exact h
theorem rndF_lt {B F : Nat → Nat} (h : ∀ j, F j < 1048576) (n : Nat) : ∀ j, rndF B F n j < 1048576 := by
  induction n with
  | zero => exact h
  | succ n ih => rw [rndF_s]; exact stepM_lt ih n
theorem fewM_lt {B F : Nat → Nat} (h : ∀ j, F j < 1048576) (n : Nat) : ∀ j, fewM B F n j < 1048576 := by
  induction n with
  | zero => exact h
  | succ n ih => rw [fewM_s]; exact rndF_lt ih _
def fewS (B fw : Nat → Nat) (x : Nat) : Nat → Nat := fewM B (initM fw x (B 0)) 9
theorem fewS_lt {B fw : Nat → Nat} (h : ∀ j, fw j < 1048576) (x : Nat) : ∀ j, fewS B fw x j < 1048576 := fewM_lt (initM_lt h x _) 9

set_option maxHeartbeats 4000000 in
set_option maxRecDepth 100000 in
theorem c_X9_fewest (l : Launch) (G : va_G) (tA : Nat → ClassId) (b : Nat → Nat) (qu : Nat) (ab : Int64) (bl : Int64) (tyd : Nat) (at0 : Nat) (sta : Nat) (tok : Nat) (val : Nat) (man : Nat) (B : Nat → Nat) (fw : Nat → Nat) (x9 : Nat) (hWB : WB B) (hbf : ∀ j, fw j < 1048576) (hx9 : x9 < 1048576) : CtV l yX9_fewest wsX9_fewest ({ frames := 0, cells := 0, slots := 0, locals := 0 }) G tA [.ref (b 0), .int (nI x9)] ([(b 0, .inr (7, [.ref (b 1), .ref (b 2), .ref (b 3), .ref (b 4), .ref (b 5), .int (nI qu), .long ab, .long bl, .ref (b 6), .int (nI tyd), .int (nI at0), .int (nI sta), .int (nI tok), .int (nI val), .ref (b 7), .int (nI man), .ref (b 8), .ref (b 9), .ref (b 10), .ref (b 11), .ref (b 12), .ref (b 13), .ref (b 14)])), (b 1, .inl (tA 0, 212, .inl (nF B))), (b 8, .inl (tA 0, 8, .inl (nF fw)))]) (fun (_ : Unit) => True) (fun (_ : Unit) => [(b 0, .inr (7, [.ref (b 1), .ref (b 2), .ref (b 3), .ref (b 4), .ref (b 5), .int (nI qu), .long ab, .long bl, .ref (b 6), .int (nI tyd), .int (nI at0), .int (nI sta), .int (nI tok), .int (nI val), .ref (b 7), .int (nI man), .ref (b 8), .ref (b 9), .ref (b 10), .ref (b 11), .ref (b 12), .ref (b 13), .ref (b 14)])), (b 1, .inl (tA 0, 212, .inl (nF B))), (b 8, .inl (tA 0, 8, .inl (nF (fewS B fw x9))))]) 0 0 := by
  refine enterV (cc := cX9_fewest) (maxL := 6) (ret := none) (by decide) rfl (Nat.le_of_ble_eq_true rfl) ?_
  intro p0 e0 s m args below meth c0_ A ls hx hb hml hr hts hown hlocks hin hKK hA hP hD hl hS
  have hown : s.vm.findClass RX9 = some m.cls := hown
  have hl : lv_has ls 6 [(0, .ref (b 0)), (1, .int (nI x9))] := hl
  have f7 := hts (Cond.fieldLink RX9 7 "LentTermsModel" "book" "[I") (List.mem_of_getElem? (i := 1) rfl)
  have iX9 : ∀ w ∈ wsX90, w ∈ wsX9_fewest := by decide +kernel
  have f32 := hts (Cond.fieldLink RX9 32 "LentTermsModel" "few" "[I") (List.mem_of_getElem? (i := 2) rfl)
  have f183 := hts (Cond.constant RX9 183 (100000)) (List.mem_of_getElem? (i := 3) rfl)
  obtain ⟨⟨hn0, hn1, hn2, hn3, hn4, hn5⟩, hbB, hv0, hv1, hv2, hv3, hv4, hv5, hv6, hv7⟩ := id hWB
  refine lv_iconst (v := nI 0) hx hb dX9_fewest_0 (by decide) ?_
  refine lv_istore_n (lv' := [(2, .int (nI 0)), (0, .ref (b 0)), (1, .int (nI x9))]) hx hb dX9_fewest_1 rfl hl (by decide) rfl (fun ls hl => ?_)
  refine wloop (σ := (Nat) × (Nat → Nat)) (fun | (t, F) => B 0 - t) (fun | (t, F) => (t ≤ B 0) ∧ (F = initM fw x9 t)) (fun | (t, F) => [(2, .int (nI t)), (0, .ref (b 0)), (1, .int (nI x9))]) (fun | (t, F) => [(b 0, .inr (7, [.ref (b 1), .ref (b 2), .ref (b 3), .ref (b 4), .ref (b 5), .int (nI qu), .long ab, .long bl, .ref (b 6), .int (nI tyd), .int (nI at0), .int (nI sta), .int (nI tok), .int (nI val), .ref (b 7), .int (nI man), .ref (b 8), .ref (b 9), .ref (b 10), .ref (b 11), .ref (b 12), .ref (b 13), .ref (b 14)])), (b 1, .inl (tA 0, 212, .inl (nF B))), (b 8, .inl (tA 0, 8, .inl (nF F)))]) (0, fw) ⟨(show 0 ≤ B 0 from by omega), (show fw = initM fw x9 0 from rfl)⟩ (lv_sub hl [0, 1, 2] rfl) hP hD hS ?_
  rintro ⟨t, F⟩ ⟨ht, hF⟩ ih_1 ls H locs hl hP hD hS
  have hl : lv_has ls 6 [(2, .int (nI t)), (0, .ref (b 0)), (1, .int (nI x9))] := hl
  have hP : va_P G vwCl [(b 0, .inr (7, [.ref (b 1), .ref (b 2), .ref (b 3), .ref (b 4), .ref (b 5), .int (nI qu), .long ab, .long bl, .ref (b 6), .int (nI tyd), .int (nI at0), .int (nI sta), .int (nI tok), .int (nI val), .ref (b 7), .int (nI man), .ref (b 8), .ref (b 9), .ref (b 10), .ref (b 11), .ref (b 12), .ref (b 13), .ref (b 14)])), (b 1, .inl (tA 0, 212, .inl (nF B))), (b 8, .inl (tA 0, 8, .inl (nF F)))] H := hP
  have hD : va_D A [(b 0, .inr (7, [.ref (b 1), .ref (b 2), .ref (b 3), .ref (b 4), .ref (b 5), .int (nI qu), .long ab, .long bl, .ref (b 6), .int (nI tyd), .int (nI at0), .int (nI sta), .int (nI tok), .int (nI val), .ref (b 7), .int (nI man), .ref (b 8), .ref (b 9), .ref (b 10), .ref (b 11), .ref (b 12), .ref (b 13), .ref (b 14)])), (b 1, .inl (tA 0, 212, .inl (nF B))), (b 8, .inl (tA 0, 8, .inl (nF F)))] := hD
  have ht : t ≤ B 0 := ht
  have hF : F = initM fw x9 t := hF
  refine lv_iload_n hx hb dX9_fewest_2 rfl (lv_at hl 0 rfl) ?_
  refine lv_aload_n hx hb dX9_fewest_3 rfl (lv_at hl 1 rfl) ?_
  refine va_get (D := G) (ci := 7) (C := RX9) (T := TX9) (N := 23) hx hb hts iX9 hown hKK.1 hP 0 rfl rfl 0 (by decide) f7 (fun _ h9 => h9) rfl dX9_fewest_4 ?_
  refine lv_iconst (v := nI 0) hx hb dX9_fewest_7 (by decide) ?_
  refine nv_iald (i := 0) hx hb hKK.1 hP 1 0 rfl rfl (by omega) (by decide) dX9_fewest_8 ?_
  have b_2 := hbB 0
  refine nv_icmp_ge (tgt := 39) (by omega) (by omega) hx hb dX9_fewest_9 (by decide) (fun c_3 => ?_) (fun c_3 => ?_)
  · refine lv_iconst (v := nI 0) hx hb dX9_fewest_39 (by decide) ?_
    refine lv_istore_n (lv' := [(2, .int (nI 0)), (0, .ref (b 0)), (1, .int (nI x9))]) hx hb dX9_fewest_40 rfl hl (by decide) rfl (fun ls hl => ?_)
    refine wloop (σ := (Nat) × (Nat → Nat)) (fun | (u, F2) => 9 - u) (fun | (u, F2) => (u ≤ 9) ∧ (F2 = fewM B (initM fw x9 (B 0)) u)) (fun | (u, F2) => [(2, .int (nI u)), (0, .ref (b 0)), (1, .int (nI x9))]) (fun | (u, F2) => [(b 0, .inr (7, [.ref (b 1), .ref (b 2), .ref (b 3), .ref (b 4), .ref (b 5), .int (nI qu), .long ab, .long bl, .ref (b 6), .int (nI tyd), .int (nI at0), .int (nI sta), .int (nI tok), .int (nI val), .ref (b 7), .int (nI man), .ref (b 8), .ref (b 9), .ref (b 10), .ref (b 11), .ref (b 12), .ref (b 13), .ref (b 14)])), (b 1, .inl (tA 0, 212, .inl (nF B))), (b 8, .inl (tA 0, 8, .inl (nF F2)))]) (0, F) ⟨(show 0 ≤ 9 from by omega), (show F = fewM B (initM fw x9 (B 0)) 0 from by rw [fewM_0, hF, show t = B 0 from by omega])⟩ (lv_sub hl [0, 1, 2] rfl) hP hD hS ?_
    rintro ⟨u, F2⟩ ⟨hu, hF2⟩ ih_4 ls H locs hl hP hD hS
    have hl : lv_has ls 6 [(2, .int (nI u)), (0, .ref (b 0)), (1, .int (nI x9))] := hl
    have hP : va_P G vwCl [(b 0, .inr (7, [.ref (b 1), .ref (b 2), .ref (b 3), .ref (b 4), .ref (b 5), .int (nI qu), .long ab, .long bl, .ref (b 6), .int (nI tyd), .int (nI at0), .int (nI sta), .int (nI tok), .int (nI val), .ref (b 7), .int (nI man), .ref (b 8), .ref (b 9), .ref (b 10), .ref (b 11), .ref (b 12), .ref (b 13), .ref (b 14)])), (b 1, .inl (tA 0, 212, .inl (nF B))), (b 8, .inl (tA 0, 8, .inl (nF F2)))] H := hP
    have hD : va_D A [(b 0, .inr (7, [.ref (b 1), .ref (b 2), .ref (b 3), .ref (b 4), .ref (b 5), .int (nI qu), .long ab, .long bl, .ref (b 6), .int (nI tyd), .int (nI at0), .int (nI sta), .int (nI tok), .int (nI val), .ref (b 7), .int (nI man), .ref (b 8), .ref (b 9), .ref (b 10), .ref (b 11), .ref (b 12), .ref (b 13), .ref (b 14)])), (b 1, .inl (tA 0, 212, .inl (nF B))), (b 8, .inl (tA 0, 8, .inl (nF F2)))] := hD
    have hu : u ≤ 9 := hu
    have hF2 : F2 = fewM B (initM fw x9 (B 0)) u := hF2
    refine lv_iload_n hx hb dX9_fewest_41 rfl (lv_at hl 0 rfl) ?_
    refine lv_bipush (v := nI 8) hx hb dX9_fewest_42 (by decide +kernel) ?_
    refine nv_icmp_gt (tgt := 141) (by omega) (by omega) hx hb dX9_fewest_44 (by decide) (fun c_5 => ?_) (fun c_5 => ?_)
    · exact retV hx hb hr hlocks hS hP hD () (by unfold fewS; rw [hF2, show u = 9 from by omega]) (trivial) dX9_fewest_141
    · refine lv_iconst (v := nI 0) hx hb dX9_fewest_47 (by decide) ?_
      refine lv_istore_n (lv' := [(3, .int (nI 0)), (2, .int (nI u)), (0, .ref (b 0)), (1, .int (nI x9))]) hx hb dX9_fewest_48 rfl hl (by decide) rfl (fun ls hl => ?_)
      refine wloop (σ := (Nat) × (Nat → Nat)) (fun | (q, F3) => B 3 - q) (fun | (q, F3) => (q ≤ B 3) ∧ (F3 = rndF B F2 q) ∧ (∀ j, F3 j < 1048576)) (fun | (q, F3) => [(3, .int (nI q)), (2, .int (nI u)), (0, .ref (b 0)), (1, .int (nI x9))]) (fun | (q, F3) => [(b 0, .inr (7, [.ref (b 1), .ref (b 2), .ref (b 3), .ref (b 4), .ref (b 5), .int (nI qu), .long ab, .long bl, .ref (b 6), .int (nI tyd), .int (nI at0), .int (nI sta), .int (nI tok), .int (nI val), .ref (b 7), .int (nI man), .ref (b 8), .ref (b 9), .ref (b 10), .ref (b 11), .ref (b 12), .ref (b 13), .ref (b 14)])), (b 1, .inl (tA 0, 212, .inl (nF B))), (b 8, .inl (tA 0, 8, .inl (nF F3)))]) (0, F2) ⟨(show 0 ≤ B 3 from by omega), (show F2 = rndF B F2 0 from rfl), (show ∀ j, F2 j < 1048576 from by rw [hF2]; exact fewM_lt (initM_lt hbf _ _) _)⟩ (lv_sub hl [0, 1, 2, 3] rfl) hP hD hS ?_
      rintro ⟨q, F3⟩ ⟨hq, hF3, hbF⟩ ih_6 ls H locs hl hP hD hS
      have hl : lv_has ls 6 [(3, .int (nI q)), (2, .int (nI u)), (0, .ref (b 0)), (1, .int (nI x9))] := hl
      have hP : va_P G vwCl [(b 0, .inr (7, [.ref (b 1), .ref (b 2), .ref (b 3), .ref (b 4), .ref (b 5), .int (nI qu), .long ab, .long bl, .ref (b 6), .int (nI tyd), .int (nI at0), .int (nI sta), .int (nI tok), .int (nI val), .ref (b 7), .int (nI man), .ref (b 8), .ref (b 9), .ref (b 10), .ref (b 11), .ref (b 12), .ref (b 13), .ref (b 14)])), (b 1, .inl (tA 0, 212, .inl (nF B))), (b 8, .inl (tA 0, 8, .inl (nF F3)))] H := hP
      have hD : va_D A [(b 0, .inr (7, [.ref (b 1), .ref (b 2), .ref (b 3), .ref (b 4), .ref (b 5), .int (nI qu), .long ab, .long bl, .ref (b 6), .int (nI tyd), .int (nI at0), .int (nI sta), .int (nI tok), .int (nI val), .ref (b 7), .int (nI man), .ref (b 8), .ref (b 9), .ref (b 10), .ref (b 11), .ref (b 12), .ref (b 13), .ref (b 14)])), (b 1, .inl (tA 0, 212, .inl (nF B))), (b 8, .inl (tA 0, 8, .inl (nF F3)))] := hD
      have hq : q ≤ B 3 := hq
      have hF3 : F3 = rndF B F2 q := hF3
      have hbF : ∀ j, F3 j < 1048576 := hbF
      refine lv_iload_n hx hb dX9_fewest_49 rfl (lv_at hl 0 rfl) ?_
      refine lv_aload_n hx hb dX9_fewest_50 rfl (lv_at hl 2 rfl) ?_
      refine va_get (D := G) (ci := 7) (C := RX9) (T := TX9) (N := 23) hx hb hts iX9 hown hKK.1 hP 0 rfl rfl 0 (by decide) f7 (fun _ h9 => h9) rfl dX9_fewest_51 ?_
      refine lv_iconst (v := nI 3) hx hb dX9_fewest_54 (by decide) ?_
      refine nv_iald (i := 3) hx hb hKK.1 hP 1 0 rfl rfl (by omega) (by decide) dX9_fewest_55 ?_
      have b_7 := hbB 3
      refine nv_icmp_ge (tgt := 135) (by omega) (by omega) hx hb dX9_fewest_56 (by decide) (fun c_8 => ?_) (fun c_8 => ?_)
      · refine lv_iinc (v := (nI (u + 1))) (lv' := [(2, .int (nI (u + 1))), (3, .int (nI q)), (0, .ref (b 0)), (1, .int (nI x9))]) hx hb dX9_fewest_135 hl (k := 1) rfl (nI_add u 1) (by decide) rfl (fun ls hl => ?_)
        refine lv_goto (tgt := 41) hx hb dX9_fewest_138 (by decide) ?_
        exact ih_4 (u + 1, F3) (show 9 - (u + 1) < 9 - u from by omega) ⟨(show (u + 1) ≤ 9 from by omega), (show F3 = fewM B (initM fw x9 (B 0)) (u + 1) from by rw [fewM_s, ← hF2, hF3, show q = B 3 from by omega])⟩ _ _ _ (lv_sub hl [0, 2, 3] rfl) hP hD hS
      · have hv := hv3 q (by omega)
        refine lv_bipush (v := nI 102) hx hb dX9_fewest_59 (by decide +kernel) ?_
        refine lv_iconst (v := nI 3) hx hb dX9_fewest_61 (by decide) ?_
        refine lv_iload_n hx hb dX9_fewest_62 rfl (lv_at hl 0 rfl) ?_
        refine nv_imul hx hb dX9_fewest_63 ?_
        refine nv_iadd hx hb dX9_fewest_64 ?_
        refine lv_istore (lv' := [(4, .int (nI (102 + (3 * q)))), (3, .int (nI q)), (2, .int (nI u)), (0, .ref (b 0)), (1, .int (nI x9))]) hx hb dX9_fewest_65 hl (by decide) rfl (fun ls hl => ?_)
        refine lv_aload_n hx hb dX9_fewest_67 rfl (lv_at hl 3 rfl) ?_
        refine va_get (D := G) (ci := 7) (C := RX9) (T := TX9) (N := 23) hx hb hts iX9 hown hKK.1 hP 0 rfl rfl 16 (by decide) f32 (fun _ h9 => h9) rfl dX9_fewest_68 ?_
        refine lv_aload_n hx hb dX9_fewest_71 rfl (lv_at hl 3 rfl) ?_
        refine va_get (D := G) (ci := 7) (C := RX9) (T := TX9) (N := 23) hx hb hts iX9 hown hKK.1 hP 0 rfl rfl 0 (by decide) f7 (fun _ h9 => h9) rfl dX9_fewest_72 ?_
        refine lv_iload hx hb dX9_fewest_75 (lv_at hl 0 rfl) ?_
        refine lv_iconst (v := nI 1) hx hb dX9_fewest_77 (by decide) ?_
        refine nv_iadd hx hb dX9_fewest_78 ?_
        refine nv_iald (i := (102 + (3 * q)) + 1) hx hb hKK.1 hP 1 0 rfl rfl (by omega) (by decide) dX9_fewest_79 ?_
        have b_9 := hbB ((102 + (3 * q)) + 1)
        refine nv_iald (i := B ((102 + (3 * q)) + 1)) hx hb hKK.1 hP 2 0 rfl rfl (by omega) (by decide) dX9_fewest_80 ?_
        have b_10 := hbF (B ((102 + (3 * q)) + 1))
        refine lv_aload_n hx hb dX9_fewest_81 rfl (lv_at hl 3 rfl) ?_
        refine va_get (D := G) (ci := 7) (C := RX9) (T := TX9) (N := 23) hx hb hts iX9 hown hKK.1 hP 0 rfl rfl 16 (by decide) f32 (fun _ h9 => h9) rfl dX9_fewest_82 ?_
        refine lv_aload_n hx hb dX9_fewest_85 rfl (lv_at hl 3 rfl) ?_
        refine va_get (D := G) (ci := 7) (C := RX9) (T := TX9) (N := 23) hx hb hts iX9 hown hKK.1 hP 0 rfl rfl 0 (by decide) f7 (fun _ h9 => h9) rfl dX9_fewest_86 ?_
        refine lv_iload hx hb dX9_fewest_89 (lv_at hl 0 rfl) ?_
        refine lv_iconst (v := nI 2) hx hb dX9_fewest_91 (by decide) ?_
        refine nv_iadd hx hb dX9_fewest_92 ?_
        refine nv_iald (i := (102 + (3 * q)) + 2) hx hb hKK.1 hP 1 0 rfl rfl (by omega) (by decide) dX9_fewest_93 ?_
        have b_11 := hbB ((102 + (3 * q)) + 2)
        refine nv_iald (i := B ((102 + (3 * q)) + 2)) hx hb hKK.1 hP 2 0 rfl rfl (by omega) (by decide) dX9_fewest_94 ?_
        have b_12 := hbF (B ((102 + (3 * q)) + 2))
        refine nv_iadd hx hb dX9_fewest_95 ?_
        refine lv_istore (lv' := [(5, .int (nI ((F3 (B ((102 + (3 * q)) + 1))) + (F3 (B ((102 + (3 * q)) + 2)))))), (4, .int (nI (102 + (3 * q)))), (3, .int (nI q)), (2, .int (nI u)), (0, .ref (b 0)), (1, .int (nI x9))]) hx hb dX9_fewest_96 hl (by decide) rfl (fun ls hl => ?_)
        refine lv_iload hx hb dX9_fewest_98 (lv_at hl 0 rfl) ?_
        refine lv_aload_n hx hb dX9_fewest_100 rfl (lv_at hl 4 rfl) ?_
        refine va_get (D := G) (ci := 7) (C := RX9) (T := TX9) (N := 23) hx hb hts iX9 hown hKK.1 hP 0 rfl rfl 16 (by decide) f32 (fun _ h9 => h9) rfl dX9_fewest_101 ?_
        refine lv_aload_n hx hb dX9_fewest_104 rfl (lv_at hl 4 rfl) ?_
        refine va_get (D := G) (ci := 7) (C := RX9) (T := TX9) (N := 23) hx hb hts iX9 hown hKK.1 hP 0 rfl rfl 0 (by decide) f7 (fun _ h9 => h9) rfl dX9_fewest_105 ?_
        refine lv_iload hx hb dX9_fewest_108 (lv_at hl 1 rfl) ?_
        refine nv_iald (i := 102 + (3 * q)) hx hb hKK.1 hP 1 0 rfl rfl (by omega) (by decide) dX9_fewest_110 ?_
        have b_13 := hbB (102 + (3 * q))
        refine nv_iald (i := B (102 + (3 * q))) hx hb hKK.1 hP 2 0 rfl rfl (by omega) (by decide) dX9_fewest_111 ?_
        have b_14 := hbF (B (102 + (3 * q)))
        refine nv_icmp_ge (tgt := 129) (by omega) (by omega) hx hb dX9_fewest_112 (by decide) (fun c_15 => ?_) (fun c_15 => ?_)
        · refine lv_iinc (v := (nI (q + 1))) (lv' := [(3, .int (nI (q + 1))), (5, .int (nI ((F3 (B ((102 + (3 * q)) + 1))) + (F3 (B ((102 + (3 * q)) + 2)))))), (4, .int (nI (102 + (3 * q)))), (2, .int (nI u)), (0, .ref (b 0)), (1, .int (nI x9))]) hx hb dX9_fewest_129 hl (k := 2) rfl (nI_add q 1) (by decide) rfl (fun ls hl => ?_)
          refine lv_goto (tgt := 49) hx hb dX9_fewest_132 (by decide) ?_
          exact ih_6 (q + 1, F3) (show B 3 - (q + 1) < B 3 - q from by omega) ⟨(show (q + 1) ≤ B 3 from by omega), (show F3 = rndF B F2 (q + 1) from by rw [rndF_s, ← hF3]; unfold stepM; first | rw [if_pos (by omega)] | rw [if_neg (by omega)]), (show ∀ j, F3 j < 1048576 from by first | assumption | exact updN_lt hbF _ (by omega))⟩ _ _ _ (lv_sub hl [0, 3, 4, 5] rfl) hP hD hS
        · refine lv_aload_n hx hb dX9_fewest_115 rfl (lv_at hl 4 rfl) ?_
          refine va_get (D := G) (ci := 7) (C := RX9) (T := TX9) (N := 23) hx hb hts iX9 hown hKK.1 hP 0 rfl rfl 16 (by decide) f32 (fun _ h9 => h9) rfl dX9_fewest_116 ?_
          refine lv_aload_n hx hb dX9_fewest_119 rfl (lv_at hl 4 rfl) ?_
          refine va_get (D := G) (ci := 7) (C := RX9) (T := TX9) (N := 23) hx hb hts iX9 hown hKK.1 hP 0 rfl rfl 0 (by decide) f7 (fun _ h9 => h9) rfl dX9_fewest_120 ?_
          refine lv_iload hx hb dX9_fewest_123 (lv_at hl 1 rfl) ?_
          refine nv_iald (i := 102 + (3 * q)) hx hb hKK.1 hP 1 0 rfl rfl (by omega) (by decide) dX9_fewest_125 ?_
          have b_16 := hbB (102 + (3 * q))
          refine lv_iload hx hb dX9_fewest_126 (lv_at hl 0 rfl) ?_
          refine nv_iast (i := B (102 + (3 * q))) hx hb hKK.1 hP hD hS 2 0 rfl rfl (by omega) (by decide) dX9_fewest_128 [(b 0, .inr (7, [.ref (b 1), .ref (b 2), .ref (b 3), .ref (b 4), .ref (b 5), .int (nI qu), .long ab, .long bl, .ref (b 6), .int (nI tyd), .int (nI at0), .int (nI sta), .int (nI tok), .int (nI val), .ref (b 7), .int (nI man), .ref (b 8), .ref (b 9), .ref (b 10), .ref (b 11), .ref (b 12), .ref (b 13), .ref (b 14)])), (b 1, .inl (tA 0, 212, .inl (nF B))), (b 8, .inl (tA 0, 8, .inl (nF (updN F3 (B (102 + (3 * q))) ((F3 (B ((102 + (3 * q)) + 1))) + (F3 (B ((102 + (3 * q)) + 2))))))))] rfl (fun H locs hP hD hS => ?_)
          have B_17 := updN_lt hbF (B (102 + (3 * q))) (show (F3 (B ((102 + (3 * q)) + 1))) + (F3 (B ((102 + (3 * q)) + 2))) < 1048576 from by omega)
          refine lv_iinc (v := (nI (q + 1))) (lv' := [(3, .int (nI (q + 1))), (5, .int (nI ((F3 (B ((102 + (3 * q)) + 1))) + (F3 (B ((102 + (3 * q)) + 2)))))), (4, .int (nI (102 + (3 * q)))), (2, .int (nI u)), (0, .ref (b 0)), (1, .int (nI x9))]) hx hb dX9_fewest_129 hl (k := 2) rfl (nI_add q 1) (by decide) rfl (fun ls hl => ?_)
          refine lv_goto (tgt := 49) hx hb dX9_fewest_132 (by decide) ?_
          exact ih_6 (q + 1, updN F3 (B (102 + (3 * q))) ((F3 (B ((102 + (3 * q)) + 1))) + (F3 (B ((102 + (3 * q)) + 2))))) (show B 3 - (q + 1) < B 3 - q from by omega) ⟨(show (q + 1) ≤ B 3 from by omega), (show (updN F3 (B (102 + (3 * q))) ((F3 (B ((102 + (3 * q)) + 1))) + (F3 (B ((102 + (3 * q)) + 2))))) = rndF B F2 (q + 1) from by rw [rndF_s, ← hF3]; unfold stepM; first | rw [if_pos (by omega)] | rw [if_neg (by omega)]), (show ∀ j, (updN F3 (B (102 + (3 * q))) ((F3 (B ((102 + (3 * q)) + 1))) + (F3 (B ((102 + (3 * q)) + 2))))) j < 1048576 from by first | assumption | exact updN_lt hbF _ (by omega))⟩ _ _ _ (lv_sub hl [0, 3, 4, 5] rfl) hP hD hS
  · refine lv_aload_n hx hb dX9_fewest_12 rfl (lv_at hl 1 rfl) ?_
    refine va_get (D := G) (ci := 7) (C := RX9) (T := TX9) (N := 23) hx hb hts iX9 hown hKK.1 hP 0 rfl rfl 16 (by decide) f32 (fun _ h9 => h9) rfl dX9_fewest_13 ?_
    refine lv_iload_n hx hb dX9_fewest_16 rfl (lv_at hl 0 rfl) ?_
    refine lv_iload_n hx hb dX9_fewest_17 rfl (lv_at hl 2 rfl) ?_
    refine lv_iload_n hx hb dX9_fewest_18 rfl (lv_at hl 0 rfl) ?_
    refine nv_ishr (by omega) (by omega) hx hb dX9_fewest_19 ?_
    refine lv_iconst (v := nI 1) hx hb dX9_fewest_20 (by decide) ?_
    refine nv_iand1 hx hb dX9_fewest_21 ?_
    refine lv_iconst (v := nI 1) hx hb dX9_fewest_22 (by decide) ?_
    refine nv_icmp_ne (tgt := 30) (by omega) (by omega) hx hb dX9_fewest_23 (by decide) (fun c_18 => ?_) (fun c_18 => ?_)
    · refine lv_ldc (v := 100000) hx hb hown f183 dX9_fewest_30 ?_
      refine nv_top (y := 100000) (by decide +kernel) ?_
      refine nv_iast (i := t) hx hb hKK.1 hP hD hS 2 0 rfl rfl (by omega) (by decide) dX9_fewest_32 [(b 0, .inr (7, [.ref (b 1), .ref (b 2), .ref (b 3), .ref (b 4), .ref (b 5), .int (nI qu), .long ab, .long bl, .ref (b 6), .int (nI tyd), .int (nI at0), .int (nI sta), .int (nI tok), .int (nI val), .ref (b 7), .int (nI man), .ref (b 8), .ref (b 9), .ref (b 10), .ref (b 11), .ref (b 12), .ref (b 13), .ref (b 14)])), (b 1, .inl (tA 0, 212, .inl (nF B))), (b 8, .inl (tA 0, 8, .inl (nF (updN F t 100000))))] rfl (fun H locs hP hD hS => ?_)
      refine lv_iinc (v := (nI (t + 1))) (lv' := [(2, .int (nI (t + 1))), (0, .ref (b 0)), (1, .int (nI x9))]) hx hb dX9_fewest_33 hl (k := 0) rfl (nI_add t 1) (by decide) rfl (fun ls hl => ?_)
      refine lv_goto (tgt := 2) hx hb dX9_fewest_36 (by decide) ?_
      exact ih_1 (t + 1, updN F t 100000) (show B 0 - (t + 1) < B 0 - t from by omega) ⟨(show (t + 1) ≤ B 0 from by omega), (show (updN F t 100000) = initM fw x9 (t + 1) from by rw [initM_s, hF]; first | rw [if_pos (by omega)] | rw [if_neg (by omega)])⟩ _ _ _ (lv_sub hl [0, 1, 2] rfl) hP hD hS
    · refine lv_iconst (v := nI 1) hx hb dX9_fewest_26 (by decide) ?_
      refine lv_goto (tgt := 32) hx hb dX9_fewest_27 (by decide) ?_
      refine nv_iast (i := t) hx hb hKK.1 hP hD hS 2 0 rfl rfl (by omega) (by decide) dX9_fewest_32 [(b 0, .inr (7, [.ref (b 1), .ref (b 2), .ref (b 3), .ref (b 4), .ref (b 5), .int (nI qu), .long ab, .long bl, .ref (b 6), .int (nI tyd), .int (nI at0), .int (nI sta), .int (nI tok), .int (nI val), .ref (b 7), .int (nI man), .ref (b 8), .ref (b 9), .ref (b 10), .ref (b 11), .ref (b 12), .ref (b 13), .ref (b 14)])), (b 1, .inl (tA 0, 212, .inl (nF B))), (b 8, .inl (tA 0, 8, .inl (nF (updN F t 1))))] rfl (fun H locs hP hD hS => ?_)
      refine lv_iinc (v := (nI (t + 1))) (lv' := [(2, .int (nI (t + 1))), (0, .ref (b 0)), (1, .int (nI x9))]) hx hb dX9_fewest_33 hl (k := 0) rfl (nI_add t 1) (by decide) rfl (fun ls hl => ?_)
      refine lv_goto (tgt := 2) hx hb dX9_fewest_36 (by decide) ?_
      exact ih_1 (t + 1, updN F t 1) (show B 0 - (t + 1) < B 0 - t from by omega) ⟨(show (t + 1) ≤ B 0 from by omega), (show (updN F t 1) = initM fw x9 (t + 1) from by rw [initM_s, hF]; first | rw [if_pos (by omega)] | rw [if_neg (by omega)])⟩ _ _ _ (lv_sub hl [0, 1, 2] rfl) hP hD hS

def hvM (B : Nat → Nat) (l t n : Nat) : Nat := it (fun q a => a + if l / 2 ^ q % 2 = 1 then B (146 + q) / 2 ^ t % 2 else 0) n 0
theorem hvM_0 (B : Nat → Nat) (l t : Nat) : hvM B l t 0 = 0 := rfl
theorem hvM_s (B : Nat → Nat) (l t n : Nat) : hvM B l t (n + 1) = hvM B l t n + if l / 2 ^ n % 2 = 1 then B (146 + n) / 2 ^ t % 2 else 0 := rfl
def freeM (B : Nat → Nat) (l p t : Nat) : Prop := B (151 + p) / 2 ^ t % 2 = 0 ∨ hvM B l t 5 < mayM B t
def doneM (B : Nat → Nat) (l p n : Nat) : Prop := ∀ t, t < n → freeM B l p t
noncomputable def rndM (B : Nat → Nat) (l n : Nat) : Nat := it (fun p th => if pB (doneM B l p (B 0)) = true then andn th (2 ^ p) else th) n l
theorem rndM_0 (B : Nat → Nat) (l : Nat) : rndM B l 0 = l := rfl
theorem rndM_s (B : Nat → Nat) (l n : Nat) : rndM B l (n + 1) = if pB (doneM B l n (B 0)) = true then andn (rndM B l n) (2 ^ n) else rndM B l n := rfl
noncomputable def stuckM (B : Nat → Nat) (g n : Nat) : Nat := it (fun _ l => rndM B l 5) n (andn 31 g)
theorem stuckM_0 (B : Nat → Nat) (g : Nat) : stuckM B g 0 = andn 31 g := rfl
theorem stuckM_s (B : Nat → Nat) (g n : Nat) : stuckM B g (n + 1) = rndM B (stuckM B g n) 5 := rfl
theorem rndM_le (B : Nat → Nat) (l n : Nat) : rndM B l n ≤ l := by
  induction n with
  | zero => exact Nat.le_refl _
  | succ n ih => rw [rndM_s]; split; exact Nat.le_trans (andn_le _ _) ih; exact ih
theorem stuckM_le (B : Nat → Nat) (g n : Nat) : stuckM B g n ≤ 31 := by
  induction n with
  | zero => exact andn_le _ _
  | succ n ih => rw [stuckM_s]; exact Nat.le_trans (rndM_le _ _ _) ih

set_option maxHeartbeats 4000000 in
set_option maxRecDepth 100000 in
theorem c_X9_stuckBy (l : Launch) (G : va_G) (tA : Nat → ClassId) (b : Nat → Nat) (qu : Nat) (ab : Int64) (bl : Int64) (tyd : Nat) (at0 : Nat) (sta : Nat) (tok : Nat) (val : Nat) (man : Nat) (B : Nat → Nat) (g : Nat) (hWB : WB B) (hg : g < 1048576) : CtI l yX9_stuckBy wsX9_stuckBy ({ frames := 1, cells := 0, slots := 0, locals := 22 }) G tA [.ref (b 0), .int (nI g)] ([(b 0, .inr (7, [.ref (b 1), .ref (b 2), .ref (b 3), .ref (b 4), .ref (b 5), .int (nI qu), .long ab, .long bl, .ref (b 6), .int (nI tyd), .int (nI at0), .int (nI sta), .int (nI tok), .int (nI val), .ref (b 7), .int (nI man), .ref (b 8), .ref (b 9), .ref (b 10), .ref (b 11), .ref (b 12), .ref (b 13), .ref (b 14)])), (b 1, .inl (tA 0, 212, .inl (nF B)))]) (fun (r : Int32) (_ : Unit) => r = nI (stuckM B g 5) ∧ stuckM B g 5 ≤ 31) (fun (_ : Unit) => [(b 0, .inr (7, [.ref (b 1), .ref (b 2), .ref (b 3), .ref (b 4), .ref (b 5), .int (nI qu), .long ab, .long bl, .ref (b 6), .int (nI tyd), .int (nI at0), .int (nI sta), .int (nI tok), .int (nI val), .ref (b 7), .int (nI man), .ref (b 8), .ref (b 9), .ref (b 10), .ref (b 11), .ref (b 12), .ref (b 13), .ref (b 14)])), (b 1, .inl (tA 0, 212, .inl (nF B)))]) 0 0 := by
  refine enterI (cc := cX9_stuckBy) (maxL := 10) (ret := (some .int)) (by decide) rfl (Nat.le_of_ble_eq_true rfl) ?_
  intro p0 e0 s m args below meth c0_ A ls hx hb hml hr hts hown hlocks hin hKK hA hP hD hl hS
  have hown : s.vm.findClass RX9 = some m.cls := hown
  have hl : lv_has ls 10 [(0, .ref (b 0)), (1, .int (nI g))] := hl
  have f7 := hts (Cond.fieldLink RX9 7 "LentTermsModel" "book" "[I") (List.mem_of_getElem? (i := 1) rfl)
  have iX9 : ∀ w ∈ wsX90, w ∈ wsX9_stuckBy := by decide +kernel
  obtain ⟨⟨hn0, hn1, hn2, hn3, hn4, hn5⟩, hbB, hv0, hv1, hv2, hv3, hv4, hv5, hv6, hv7⟩ := id hWB
  have h256 := p256 hn0
  refine lv_bipush (v := nI 31) hx hb dX9_stuckBy_0 (by decide +kernel) ?_
  refine lv_iload_n hx hb dX9_stuckBy_2 rfl (lv_at hl 1 rfl) ?_
  refine lv_iconst (v := (-1)) hx hb dX9_stuckBy_3 (by decide) ?_
  refine lv_ixor hx hb dX9_stuckBy_4 ?_
  refine nv_andn hx hb dX9_stuckBy_5 ?_
  refine lv_istore_n (lv' := [(2, .int (nI (andn 31 g))), (0, .ref (b 0)), (1, .int (nI g))]) hx hb dX9_stuckBy_6 rfl hl (by decide) rfl (fun ls hl => ?_)
  refine lv_iconst (v := nI 0) hx hb dX9_stuckBy_7 (by decide) ?_
  refine lv_istore_n (lv' := [(3, .int (nI 0)), (2, .int (nI (andn 31 g))), (0, .ref (b 0)), (1, .int (nI g))]) hx hb dX9_stuckBy_8 rfl hl (by decide) rfl (fun ls hl => ?_)
  refine wloop (σ := (Nat) × (Nat)) (fun | (u, lf) => 5 - u) (fun | (u, lf) => (u ≤ 5) ∧ (lf = stuckM B g u) ∧ (lf ≤ 31)) (fun | (u, lf) => [(3, .int (nI u)), (2, .int (nI lf)), (0, .ref (b 0)), (1, .int (nI g))]) (fun | (u, lf) => [(b 0, .inr (7, [.ref (b 1), .ref (b 2), .ref (b 3), .ref (b 4), .ref (b 5), .int (nI qu), .long ab, .long bl, .ref (b 6), .int (nI tyd), .int (nI at0), .int (nI sta), .int (nI tok), .int (nI val), .ref (b 7), .int (nI man), .ref (b 8), .ref (b 9), .ref (b 10), .ref (b 11), .ref (b 12), .ref (b 13), .ref (b 14)])), (b 1, .inl (tA 0, 212, .inl (nF B)))]) (0, andn 31 g) ⟨(show 0 ≤ 5 from by omega), (show (andn 31 g) = stuckM B g 0 from rfl), (show (andn 31 g) ≤ 31 from andn_le 31 g)⟩ (lv_sub hl [0, 1, 2, 3] rfl) hP hD hS ?_
  rintro ⟨u, lf⟩ ⟨hu, hlf, hlf2⟩ ih_1 ls H locs hl hP hD hS
  have hl : lv_has ls 10 [(3, .int (nI u)), (2, .int (nI lf)), (0, .ref (b 0)), (1, .int (nI g))] := hl
  have hP : va_P G vwCl [(b 0, .inr (7, [.ref (b 1), .ref (b 2), .ref (b 3), .ref (b 4), .ref (b 5), .int (nI qu), .long ab, .long bl, .ref (b 6), .int (nI tyd), .int (nI at0), .int (nI sta), .int (nI tok), .int (nI val), .ref (b 7), .int (nI man), .ref (b 8), .ref (b 9), .ref (b 10), .ref (b 11), .ref (b 12), .ref (b 13), .ref (b 14)])), (b 1, .inl (tA 0, 212, .inl (nF B)))] H := hP
  have hD : va_D A [(b 0, .inr (7, [.ref (b 1), .ref (b 2), .ref (b 3), .ref (b 4), .ref (b 5), .int (nI qu), .long ab, .long bl, .ref (b 6), .int (nI tyd), .int (nI at0), .int (nI sta), .int (nI tok), .int (nI val), .ref (b 7), .int (nI man), .ref (b 8), .ref (b 9), .ref (b 10), .ref (b 11), .ref (b 12), .ref (b 13), .ref (b 14)])), (b 1, .inl (tA 0, 212, .inl (nF B)))] := hD
  have hu : u ≤ 5 := hu
  have hlf : lf = stuckM B g u := hlf
  have hlf2 : lf ≤ 31 := hlf2
  refine lv_iload_n hx hb dX9_stuckBy_9 rfl (lv_at hl 0 rfl) ?_
  refine lv_iconst (v := nI 5) hx hb dX9_stuckBy_10 (by decide) ?_
  refine nv_icmp_ge (tgt := 179) (by omega) (by omega) hx hb dX9_stuckBy_11 (by decide) (fun c_2 => ?_) (fun c_2 => ?_)
  · refine lv_iload_n hx hb dX9_stuckBy_179 rfl (lv_at hl 1 rfl) ?_
    exact retI hx hb hr hlocks hS hP hD () (rfl) (⟨congrArg nI (show (lf : Nat) = stuckM B g 5 from by rw [hlf, show u = 5 from by omega]), stuckM_le _ _ _⟩) dX9_stuckBy_180
  · refine lv_iload_n hx hb dX9_stuckBy_14 rfl (lv_at hl 1 rfl) ?_
    refine lv_istore (lv' := [(4, .int (nI lf)), (3, .int (nI u)), (2, .int (nI lf)), (0, .ref (b 0)), (1, .int (nI g))]) hx hb dX9_stuckBy_15 hl (by decide) rfl (fun ls hl => ?_)
    refine lv_iconst (v := nI 0) hx hb dX9_stuckBy_17 (by decide) ?_
    refine lv_istore (lv' := [(5, .int (nI 0)), (4, .int (nI lf)), (3, .int (nI u)), (2, .int (nI lf)), (0, .ref (b 0)), (1, .int (nI g))]) hx hb dX9_stuckBy_18 hl (by decide) rfl (fun ls hl => ?_)
    refine wloop (σ := (Nat) × (Nat)) (fun | (p, th) => 5 - p) (fun | (p, th) => (p ≤ 5) ∧ (th = rndM B lf p) ∧ (th ≤ 31)) (fun | (p, th) => [(5, .int (nI p)), (4, .int (nI th)), (3, .int (nI u)), (2, .int (nI lf)), (0, .ref (b 0)), (1, .int (nI g))]) (fun | (p, th) => [(b 0, .inr (7, [.ref (b 1), .ref (b 2), .ref (b 3), .ref (b 4), .ref (b 5), .int (nI qu), .long ab, .long bl, .ref (b 6), .int (nI tyd), .int (nI at0), .int (nI sta), .int (nI tok), .int (nI val), .ref (b 7), .int (nI man), .ref (b 8), .ref (b 9), .ref (b 10), .ref (b 11), .ref (b 12), .ref (b 13), .ref (b 14)])), (b 1, .inl (tA 0, 212, .inl (nF B)))]) (0, lf) ⟨(show 0 ≤ 5 from by omega), (show lf = rndM B lf 0 from rfl), (show lf ≤ 31 from by first | omega | exact Nat.le_trans (andn_le _ _) hth2)⟩ (lv_sub hl [0, 1, 2, 3, 4, 5] rfl) hP hD hS ?_
    rintro ⟨p, th⟩ ⟨hp, hth, hth2⟩ ih_3 ls H locs hl hP hD hS
    have hl : lv_has ls 10 [(5, .int (nI p)), (4, .int (nI th)), (3, .int (nI u)), (2, .int (nI lf)), (0, .ref (b 0)), (1, .int (nI g))] := hl
    have hP : va_P G vwCl [(b 0, .inr (7, [.ref (b 1), .ref (b 2), .ref (b 3), .ref (b 4), .ref (b 5), .int (nI qu), .long ab, .long bl, .ref (b 6), .int (nI tyd), .int (nI at0), .int (nI sta), .int (nI tok), .int (nI val), .ref (b 7), .int (nI man), .ref (b 8), .ref (b 9), .ref (b 10), .ref (b 11), .ref (b 12), .ref (b 13), .ref (b 14)])), (b 1, .inl (tA 0, 212, .inl (nF B)))] H := hP
    have hD : va_D A [(b 0, .inr (7, [.ref (b 1), .ref (b 2), .ref (b 3), .ref (b 4), .ref (b 5), .int (nI qu), .long ab, .long bl, .ref (b 6), .int (nI tyd), .int (nI at0), .int (nI sta), .int (nI tok), .int (nI val), .ref (b 7), .int (nI man), .ref (b 8), .ref (b 9), .ref (b 10), .ref (b 11), .ref (b 12), .ref (b 13), .ref (b 14)])), (b 1, .inl (tA 0, 212, .inl (nF B)))] := hD
    have hp : p ≤ 5 := hp
    have hth : th = rndM B lf p := hth
    have hth2 : th ≤ 31 := hth2
    refine lv_iload hx hb dX9_stuckBy_20 (lv_at hl 0 rfl) ?_
    refine lv_iconst (v := nI 5) hx hb dX9_stuckBy_22 (by decide) ?_
    refine nv_icmp_ge (tgt := 170) (by omega) (by omega) hx hb dX9_stuckBy_23 (by decide) (fun c_4 => ?_) (fun c_4 => ?_)
    · refine lv_iload hx hb dX9_stuckBy_170 (lv_at hl 1 rfl) ?_
      refine lv_istore_n (lv' := [(2, .int (nI th)), (5, .int (nI p)), (4, .int (nI th)), (3, .int (nI u)), (0, .ref (b 0)), (1, .int (nI g))]) hx hb dX9_stuckBy_172 rfl hl (by decide) rfl (fun ls hl => ?_)
      refine lv_iinc (v := (nI (u + 1))) (lv' := [(3, .int (nI (u + 1))), (2, .int (nI th)), (5, .int (nI p)), (4, .int (nI th)), (0, .ref (b 0)), (1, .int (nI g))]) hx hb dX9_stuckBy_173 hl (k := 3) rfl (nI_add u 1) (by decide) rfl (fun ls hl => ?_)
      refine lv_goto (tgt := 9) hx hb dX9_stuckBy_176 (by decide) ?_
      exact ih_1 (u + 1, th) (show 5 - (u + 1) < 5 - u from by omega) ⟨(show (u + 1) ≤ 5 from by omega), (show th = stuckM B g (u + 1) from by rw [stuckM_s, ← hlf, hth, show p = 5 from by omega]), (show th ≤ 31 from by omega)⟩ _ _ _ (lv_sub hl [0, 1, 4, 5] rfl) hP hD hS
    · refine lv_iconst (v := nI 1) hx hb dX9_stuckBy_26 (by decide) ?_
      refine lv_istore (lv' := [(6, .int (nI 1)), (5, .int (nI p)), (4, .int (nI th)), (3, .int (nI u)), (2, .int (nI lf)), (0, .ref (b 0)), (1, .int (nI g))]) hx hb dX9_stuckBy_27 hl (by decide) rfl (fun ls hl => ?_)
      refine lv_iconst (v := nI 0) hx hb dX9_stuckBy_29 (by decide) ?_
      refine lv_istore (lv' := [(7, .int (nI 0)), (6, .int (nI 1)), (5, .int (nI p)), (4, .int (nI th)), (3, .int (nI u)), (2, .int (nI lf)), (0, .ref (b 0)), (1, .int (nI g))]) hx hb dX9_stuckBy_30 hl (by decide) rfl (fun ls hl => ?_)
      refine wloop (σ := (Nat) × (Nat)) (fun | (t, dn) => B 0 - t) (fun | (t, dn) => (t ≤ B 0 ∧ dn < 2) ∧ (dn = 1 → doneM B lf p t) ∧ (¬ dn = 1 → ¬ doneM B lf p (B 0))) (fun | (t, dn) => [(7, .int (nI t)), (6, .int (nI dn)), (5, .int (nI p)), (4, .int (nI th)), (3, .int (nI u)), (2, .int (nI lf)), (0, .ref (b 0)), (1, .int (nI g))]) (fun | (t, dn) => [(b 0, .inr (7, [.ref (b 1), .ref (b 2), .ref (b 3), .ref (b 4), .ref (b 5), .int (nI qu), .long ab, .long bl, .ref (b 6), .int (nI tyd), .int (nI at0), .int (nI sta), .int (nI tok), .int (nI val), .ref (b 7), .int (nI man), .ref (b 8), .ref (b 9), .ref (b 10), .ref (b 11), .ref (b 12), .ref (b 13), .ref (b 14)])), (b 1, .inl (tA 0, 212, .inl (nF B)))]) (0, 1) ⟨(show 0 ≤ B 0 ∧ 1 < 2 from ⟨by omega, by omega⟩), (show 1 = 1 → doneM B lf p 0 from fun _ z hz => by omega), (show ¬ 1 = 1 → ¬ doneM B lf p (B 0) from by intro z; omega)⟩ (lv_sub hl [0, 1, 2, 3, 4, 5, 6, 7] rfl) hP hD hS ?_
      rintro ⟨t, dn⟩ ⟨ht, hdn, hdn9⟩ ih_5 ls H locs hl hP hD hS
      have hl : lv_has ls 10 [(7, .int (nI t)), (6, .int (nI dn)), (5, .int (nI p)), (4, .int (nI th)), (3, .int (nI u)), (2, .int (nI lf)), (0, .ref (b 0)), (1, .int (nI g))] := hl
      have hP : va_P G vwCl [(b 0, .inr (7, [.ref (b 1), .ref (b 2), .ref (b 3), .ref (b 4), .ref (b 5), .int (nI qu), .long ab, .long bl, .ref (b 6), .int (nI tyd), .int (nI at0), .int (nI sta), .int (nI tok), .int (nI val), .ref (b 7), .int (nI man), .ref (b 8), .ref (b 9), .ref (b 10), .ref (b 11), .ref (b 12), .ref (b 13), .ref (b 14)])), (b 1, .inl (tA 0, 212, .inl (nF B)))] H := hP
      have hD : va_D A [(b 0, .inr (7, [.ref (b 1), .ref (b 2), .ref (b 3), .ref (b 4), .ref (b 5), .int (nI qu), .long ab, .long bl, .ref (b 6), .int (nI tyd), .int (nI at0), .int (nI sta), .int (nI tok), .int (nI val), .ref (b 7), .int (nI man), .ref (b 8), .ref (b 9), .ref (b 10), .ref (b 11), .ref (b 12), .ref (b 13), .ref (b 14)])), (b 1, .inl (tA 0, 212, .inl (nF B)))] := hD
      have ht : t ≤ B 0 ∧ dn < 2 := ht
      have hdn : dn = 1 → doneM B lf p t := hdn
      have hdn9 : ¬ dn = 1 → ¬ doneM B lf p (B 0) := hdn9
      refine lv_iload hx hb dX9_stuckBy_32 (lv_at hl 0 rfl) ?_
      refine lv_aload_n hx hb dX9_stuckBy_34 rfl (lv_at hl 6 rfl) ?_
      refine va_get (D := G) (ci := 7) (C := RX9) (T := TX9) (N := 23) hx hb hts iX9 hown hKK.1 hP 0 rfl rfl 0 (by decide) f7 (fun _ h9 => h9) rfl dX9_stuckBy_35 ?_
      refine lv_iconst (v := nI 0) hx hb dX9_stuckBy_38 (by decide) ?_
      refine nv_iald (i := 0) hx hb hKK.1 hP 1 0 rfl rfl (by omega) (by decide) dX9_stuckBy_39 ?_
      have b_6 := hbB 0
      refine nv_icmp_ge (tgt := 144) (by omega) (by omega) hx hb dX9_stuckBy_40 (by decide) (fun c_7 => ?_) (fun c_7 => ?_)
      · refine lv_iload hx hb dX9_stuckBy_144 (lv_at hl 3 rfl) ?_
        refine lv_iload hx hb dX9_stuckBy_146 (lv_at hl 1 rfl) ?_
        refine nv_if_eq (tgt := 160) (by omega) hx hb dX9_stuckBy_148 (by decide) (fun c_8 => ?_) (fun c_8 => ?_)
        · refine lv_iconst (v := (-1)) hx hb dX9_stuckBy_160 (by decide) ?_
          refine nv_andm hx hb dX9_stuckBy_161 ?_
          refine lv_istore (lv' := [(4, .int (nI th)), (7, .int (nI t)), (6, .int (nI dn)), (5, .int (nI p)), (3, .int (nI u)), (2, .int (nI lf)), (0, .ref (b 0)), (1, .int (nI g))]) hx hb dX9_stuckBy_162 hl (by decide) rfl (fun ls hl => ?_)
          refine lv_iinc (v := (nI (p + 1))) (lv' := [(5, .int (nI (p + 1))), (4, .int (nI th)), (7, .int (nI t)), (6, .int (nI dn)), (3, .int (nI u)), (2, .int (nI lf)), (0, .ref (b 0)), (1, .int (nI g))]) hx hb dX9_stuckBy_164 hl (k := 3) rfl (nI_add p 1) (by decide) rfl (fun ls hl => ?_)
          refine lv_goto (tgt := 20) hx hb dX9_stuckBy_167 (by decide) ?_
          exact ih_3 (p + 1, th) (show 5 - (p + 1) < 5 - p from by omega) ⟨(show (p + 1) ≤ 5 from by omega), (show th = rndM B lf (p + 1) from by rw [rndM_s, ← hth]; first | rw [if_pos (pB_t.mpr (show doneM B lf p (B 0) from by have e := hdn (by omega); rw [show t = B 0 from by omega] at e; exact e))] | rw [if_neg (fun z => hdn9 (by omega) (pB_t.mp z))]), (show th ≤ 31 from by first | omega | exact Nat.le_trans (andn_le _ _) hth2)⟩ _ _ _ (lv_sub hl [0, 1, 4, 5, 6, 7] rfl) hP hD hS
        · refine lv_iconst (v := nI 1) hx hb dX9_stuckBy_151 (by decide) ?_
          refine lv_iload hx hb dX9_stuckBy_152 (lv_at hl 2 rfl) ?_
          refine nv_shl1 (by omega) hx hb dX9_stuckBy_154 ?_
          refine lv_iconst (v := (-1)) hx hb dX9_stuckBy_155 (by decide) ?_
          refine lv_ixor hx hb dX9_stuckBy_156 ?_
          refine lv_goto (tgt := 161) hx hb dX9_stuckBy_157 (by decide) ?_
          refine nv_andn hx hb dX9_stuckBy_161 ?_
          refine lv_istore (lv' := [(4, .int (nI (andn th (2 ^ p)))), (7, .int (nI t)), (6, .int (nI dn)), (5, .int (nI p)), (3, .int (nI u)), (2, .int (nI lf)), (0, .ref (b 0)), (1, .int (nI g))]) hx hb dX9_stuckBy_162 hl (by decide) rfl (fun ls hl => ?_)
          refine lv_iinc (v := (nI (p + 1))) (lv' := [(5, .int (nI (p + 1))), (4, .int (nI (andn th (2 ^ p)))), (7, .int (nI t)), (6, .int (nI dn)), (3, .int (nI u)), (2, .int (nI lf)), (0, .ref (b 0)), (1, .int (nI g))]) hx hb dX9_stuckBy_164 hl (k := 3) rfl (nI_add p 1) (by decide) rfl (fun ls hl => ?_)
          refine lv_goto (tgt := 20) hx hb dX9_stuckBy_167 (by decide) ?_
          exact ih_3 (p + 1, andn th (2 ^ p)) (show 5 - (p + 1) < 5 - p from by omega) ⟨(show (p + 1) ≤ 5 from by omega), (show (andn th (2 ^ p)) = rndM B lf (p + 1) from by rw [rndM_s, ← hth]; first | rw [if_pos (pB_t.mpr (show doneM B lf p (B 0) from by have e := hdn (by omega); rw [show t = B 0 from by omega] at e; exact e))] | rw [if_neg (fun z => hdn9 (by omega) (pB_t.mp z))]), (show (andn th (2 ^ p)) ≤ 31 from by first | omega | exact Nat.le_trans (andn_le _ _) hth2)⟩ _ _ _ (lv_sub hl [0, 1, 4, 5, 6, 7] rfl) hP hD hS
      · refine lv_iconst (v := nI 0) hx hb dX9_stuckBy_43 (by decide) ?_
        refine lv_istore (lv' := [(8, .int (nI 0)), (7, .int (nI t)), (6, .int (nI dn)), (5, .int (nI p)), (4, .int (nI th)), (3, .int (nI u)), (2, .int (nI lf)), (0, .ref (b 0)), (1, .int (nI g))]) hx hb dX9_stuckBy_44 hl (by decide) rfl (fun ls hl => ?_)
        refine lv_iconst (v := nI 0) hx hb dX9_stuckBy_46 (by decide) ?_
        refine lv_istore (lv' := [(9, .int (nI 0)), (8, .int (nI 0)), (7, .int (nI t)), (6, .int (nI dn)), (5, .int (nI p)), (4, .int (nI th)), (3, .int (nI u)), (2, .int (nI lf)), (0, .ref (b 0)), (1, .int (nI g))]) hx hb dX9_stuckBy_47 hl (by decide) rfl (fun ls hl => ?_)
        refine wloop (σ := (Nat) × (Nat)) (fun | (q, hv9) => 5 - q) (fun | (q, hv9) => (q ≤ 5 ∧ hv9 ≤ q) ∧ (hv9 = hvM B lf t q)) (fun | (q, hv9) => [(9, .int (nI q)), (8, .int (nI hv9)), (7, .int (nI t)), (6, .int (nI dn)), (5, .int (nI p)), (4, .int (nI th)), (3, .int (nI u)), (2, .int (nI lf)), (0, .ref (b 0)), (1, .int (nI g))]) (fun | (q, hv9) => [(b 0, .inr (7, [.ref (b 1), .ref (b 2), .ref (b 3), .ref (b 4), .ref (b 5), .int (nI qu), .long ab, .long bl, .ref (b 6), .int (nI tyd), .int (nI at0), .int (nI sta), .int (nI tok), .int (nI val), .ref (b 7), .int (nI man), .ref (b 8), .ref (b 9), .ref (b 10), .ref (b 11), .ref (b 12), .ref (b 13), .ref (b 14)])), (b 1, .inl (tA 0, 212, .inl (nF B)))]) (0, 0) ⟨(show 0 ≤ 5 ∧ 0 ≤ 0 from ⟨by omega, by omega⟩), (show 0 = hvM B lf t 0 from rfl)⟩ (lv_sub hl [0, 1, 2, 3, 4, 5, 6, 7, 8, 9] rfl) hP hD hS ?_
        rintro ⟨q, hv9⟩ ⟨hq, hh⟩ ih_9 ls H locs hl hP hD hS
        have hl : lv_has ls 10 [(9, .int (nI q)), (8, .int (nI hv9)), (7, .int (nI t)), (6, .int (nI dn)), (5, .int (nI p)), (4, .int (nI th)), (3, .int (nI u)), (2, .int (nI lf)), (0, .ref (b 0)), (1, .int (nI g))] := hl
        have hP : va_P G vwCl [(b 0, .inr (7, [.ref (b 1), .ref (b 2), .ref (b 3), .ref (b 4), .ref (b 5), .int (nI qu), .long ab, .long bl, .ref (b 6), .int (nI tyd), .int (nI at0), .int (nI sta), .int (nI tok), .int (nI val), .ref (b 7), .int (nI man), .ref (b 8), .ref (b 9), .ref (b 10), .ref (b 11), .ref (b 12), .ref (b 13), .ref (b 14)])), (b 1, .inl (tA 0, 212, .inl (nF B)))] H := hP
        have hD : va_D A [(b 0, .inr (7, [.ref (b 1), .ref (b 2), .ref (b 3), .ref (b 4), .ref (b 5), .int (nI qu), .long ab, .long bl, .ref (b 6), .int (nI tyd), .int (nI at0), .int (nI sta), .int (nI tok), .int (nI val), .ref (b 7), .int (nI man), .ref (b 8), .ref (b 9), .ref (b 10), .ref (b 11), .ref (b 12), .ref (b 13), .ref (b 14)])), (b 1, .inl (tA 0, 212, .inl (nF B)))] := hD
        have hq : q ≤ 5 ∧ hv9 ≤ q := hq
        have hh : hv9 = hvM B lf t q := hh
        refine lv_iload hx hb dX9_stuckBy_49 (lv_at hl 0 rfl) ?_
        refine lv_iconst (v := nI 5) hx hb dX9_stuckBy_51 (by decide) ?_
        refine nv_icmp_ge (tgt := 96) (by omega) (by omega) hx hb dX9_stuckBy_52 (by decide) (fun c_10 => ?_) (fun c_10 => ?_)
        · have hq5 : q = 5 := by omega
          rw [hq5] at hh
          refine lv_iload hx hb dX9_stuckBy_96 (lv_at hl 3 rfl) ?_
          refine nv_if_eq (tgt := 135) (by omega) hx hb dX9_stuckBy_98 (by decide) (fun c_11 => ?_) (fun c_11 => ?_)
          · refine lv_iconst (v := nI 0) hx hb dX9_stuckBy_135 (by decide) ?_
            refine lv_istore (lv' := [(6, .int (nI 0)), (9, .int (nI q)), (8, .int (nI hv9)), (7, .int (nI t)), (5, .int (nI p)), (4, .int (nI th)), (3, .int (nI u)), (2, .int (nI lf)), (0, .ref (b 0)), (1, .int (nI g))]) hx hb dX9_stuckBy_136 hl (by decide) rfl (fun ls hl => ?_)
            refine lv_iinc (v := (nI (t + 1))) (lv' := [(7, .int (nI (t + 1))), (6, .int (nI 0)), (9, .int (nI q)), (8, .int (nI hv9)), (5, .int (nI p)), (4, .int (nI th)), (3, .int (nI u)), (2, .int (nI lf)), (0, .ref (b 0)), (1, .int (nI g))]) hx hb dX9_stuckBy_138 hl (k := 3) rfl (nI_add t 1) (by decide) rfl (fun ls hl => ?_)
            refine lv_goto (tgt := 32) hx hb dX9_stuckBy_141 (by decide) ?_
            exact ih_5 (t + 1, 0) (show B 0 - (t + 1) < B 0 - t from by omega) ⟨(show (t + 1) ≤ B 0 ∧ 0 < 2 from ⟨by omega, by omega⟩), (show 0 = 1 → doneM B lf p (t + 1) from by intro z; first | omega | exact fun y hy => by (rcases Nat.lt_succ_iff_lt_or_eq.mp hy with y2 | y2); exact hdn (by omega) y y2; rw [y2]; first | exact Or.inl (by omega) | exact Or.inr (by omega)), (show ¬ 0 = 1 → ¬ doneM B lf p (B 0) from by intro z; first | omega | exact hdn9 (by omega) | exact fun y => by (rcases y t (by omega) with y2 | y2) <;> omega)⟩ _ _ _ (lv_sub hl [0, 1, 4, 5, 6, 7, 8, 9] rfl) hP hD hS
          · refine lv_aload_n hx hb dX9_stuckBy_101 rfl (lv_at hl 8 rfl) ?_
            refine va_get (D := G) (ci := 7) (C := RX9) (T := TX9) (N := 23) hx hb hts iX9 hown hKK.1 hP 0 rfl rfl 0 (by decide) f7 (fun _ h9 => h9) rfl dX9_stuckBy_102 ?_
            refine lv_sipush (v := nI 151) hx hb dX9_stuckBy_105 (by decide +kernel) ?_
            refine lv_iload hx hb dX9_stuckBy_108 (lv_at hl 4 rfl) ?_
            refine nv_iadd hx hb dX9_stuckBy_110 ?_
            refine nv_iald (i := 151 + p) hx hb hKK.1 hP 1 0 rfl rfl (by omega) (by decide) dX9_stuckBy_111 ?_
            have b_12 := hbB (151 + p)
            refine lv_iload hx hb dX9_stuckBy_112 (lv_at hl 2 rfl) ?_
            refine nv_ishr (by omega) (by omega) hx hb dX9_stuckBy_114 ?_
            refine lv_iconst (v := nI 1) hx hb dX9_stuckBy_115 (by decide) ?_
            refine nv_iand1 hx hb dX9_stuckBy_116 ?_
            refine nv_if_eq (tgt := 131) (by omega) hx hb dX9_stuckBy_117 (by decide) (fun c_13 => ?_) (fun c_13 => ?_)
            · refine lv_iconst (v := nI 1) hx hb dX9_stuckBy_131 (by decide) ?_
              refine lv_goto (tgt := 136) hx hb dX9_stuckBy_132 (by decide) ?_
              refine lv_istore (lv' := [(6, .int (nI 1)), (9, .int (nI q)), (8, .int (nI hv9)), (7, .int (nI t)), (5, .int (nI p)), (4, .int (nI th)), (3, .int (nI u)), (2, .int (nI lf)), (0, .ref (b 0)), (1, .int (nI g))]) hx hb dX9_stuckBy_136 hl (by decide) rfl (fun ls hl => ?_)
              refine lv_iinc (v := (nI (t + 1))) (lv' := [(7, .int (nI (t + 1))), (6, .int (nI 1)), (9, .int (nI q)), (8, .int (nI hv9)), (5, .int (nI p)), (4, .int (nI th)), (3, .int (nI u)), (2, .int (nI lf)), (0, .ref (b 0)), (1, .int (nI g))]) hx hb dX9_stuckBy_138 hl (k := 3) rfl (nI_add t 1) (by decide) rfl (fun ls hl => ?_)
              refine lv_goto (tgt := 32) hx hb dX9_stuckBy_141 (by decide) ?_
              exact ih_5 (t + 1, 1) (show B 0 - (t + 1) < B 0 - t from by omega) ⟨(show (t + 1) ≤ B 0 ∧ 1 < 2 from ⟨by omega, by omega⟩), (show 1 = 1 → doneM B lf p (t + 1) from by intro z; first | omega | exact fun y hy => by (rcases Nat.lt_succ_iff_lt_or_eq.mp hy with y2 | y2); exact hdn (by omega) y y2; rw [y2]; first | exact Or.inl (by omega) | exact Or.inr (by omega)), (show ¬ 1 = 1 → ¬ doneM B lf p (B 0) from by intro z; first | omega | exact hdn9 (by omega) | exact fun y => by (rcases y t (by omega) with y2 | y2) <;> omega)⟩ _ _ _ (lv_sub hl [0, 1, 4, 5, 6, 7, 8, 9] rfl) hP hD hS
            · refine lv_iload hx hb dX9_stuckBy_120 (lv_at hl 1 rfl) ?_
              refine lv_aload_n hx hb dX9_stuckBy_122 rfl (lv_at hl 8 rfl) ?_
              refine lv_iload hx hb dX9_stuckBy_123 (lv_at hl 2 rfl) ?_
              refine roI hP hD hS hA [0, 1] rfl (runV (As := [.int (nI t)]) (rest := [.int (nI hv9)]) (isC := [0, 1]) ⟨hx, hb, hml, hown, hts⟩ hKK hP hD rfl (by decide) (c_X9_mayOf l G tA b qu ab bl tyd at0 sta tok val man B t (hWB) (by omega) _) (cwV 1 hts gX9_stuckBy_X9_mayOf rfl rfl rfl (by decide +kernel) ⟨Nat.le_of_ble_eq_true rfl, Nat.le_of_ble_eq_true rfl⟩) rfl rfl rfl rfl hl.1 rfl (lv_room (Nat.le_of_ble_eq_true rfl)) dX9_stuckBy_125 ⟨Nat.le_of_ble_eq_true rfl, Nat.le_of_ble_eq_true rfl⟩) (fun _ => rfl) (fun r_14 u_15 H locs q_16 hP hS => ?_)
              obtain ⟨rfl, e_17⟩ := q_16
              have e_17 : mayM B t < 4 := e_17
              refine nv_icmp_ge (tgt := 135) (by omega) (by omega) hx hb dX9_stuckBy_128 (by decide) (fun c_18 => ?_) (fun c_18 => ?_)
              · refine lv_iconst (v := nI 0) hx hb dX9_stuckBy_135 (by decide) ?_
                refine lv_istore (lv' := [(6, .int (nI 0)), (9, .int (nI q)), (8, .int (nI hv9)), (7, .int (nI t)), (5, .int (nI p)), (4, .int (nI th)), (3, .int (nI u)), (2, .int (nI lf)), (0, .ref (b 0)), (1, .int (nI g))]) hx hb dX9_stuckBy_136 hl (by decide) rfl (fun ls hl => ?_)
                refine lv_iinc (v := (nI (t + 1))) (lv' := [(7, .int (nI (t + 1))), (6, .int (nI 0)), (9, .int (nI q)), (8, .int (nI hv9)), (5, .int (nI p)), (4, .int (nI th)), (3, .int (nI u)), (2, .int (nI lf)), (0, .ref (b 0)), (1, .int (nI g))]) hx hb dX9_stuckBy_138 hl (k := 3) rfl (nI_add t 1) (by decide) rfl (fun ls hl => ?_)
                refine lv_goto (tgt := 32) hx hb dX9_stuckBy_141 (by decide) ?_
                exact ih_5 (t + 1, 0) (show B 0 - (t + 1) < B 0 - t from by omega) ⟨(show (t + 1) ≤ B 0 ∧ 0 < 2 from ⟨by omega, by omega⟩), (show 0 = 1 → doneM B lf p (t + 1) from by intro z; first | omega | exact fun y hy => by (rcases Nat.lt_succ_iff_lt_or_eq.mp hy with y2 | y2); exact hdn (by omega) y y2; rw [y2]; first | exact Or.inl (by omega) | exact Or.inr (by omega)), (show ¬ 0 = 1 → ¬ doneM B lf p (B 0) from by intro z; first | omega | exact hdn9 (by omega) | exact fun y => by (rcases y t (by omega) with y2 | y2) <;> omega)⟩ _ _ _ (lv_sub hl [0, 1, 4, 5, 6, 7, 8, 9] rfl) hP hD hS
              · refine lv_iconst (v := nI 1) hx hb dX9_stuckBy_131 (by decide) ?_
                refine lv_goto (tgt := 136) hx hb dX9_stuckBy_132 (by decide) ?_
                refine lv_istore (lv' := [(6, .int (nI 1)), (9, .int (nI q)), (8, .int (nI hv9)), (7, .int (nI t)), (5, .int (nI p)), (4, .int (nI th)), (3, .int (nI u)), (2, .int (nI lf)), (0, .ref (b 0)), (1, .int (nI g))]) hx hb dX9_stuckBy_136 hl (by decide) rfl (fun ls hl => ?_)
                refine lv_iinc (v := (nI (t + 1))) (lv' := [(7, .int (nI (t + 1))), (6, .int (nI 1)), (9, .int (nI q)), (8, .int (nI hv9)), (5, .int (nI p)), (4, .int (nI th)), (3, .int (nI u)), (2, .int (nI lf)), (0, .ref (b 0)), (1, .int (nI g))]) hx hb dX9_stuckBy_138 hl (k := 3) rfl (nI_add t 1) (by decide) rfl (fun ls hl => ?_)
                refine lv_goto (tgt := 32) hx hb dX9_stuckBy_141 (by decide) ?_
                exact ih_5 (t + 1, 1) (show B 0 - (t + 1) < B 0 - t from by omega) ⟨(show (t + 1) ≤ B 0 ∧ 1 < 2 from ⟨by omega, by omega⟩), (show 1 = 1 → doneM B lf p (t + 1) from by intro z; first | omega | exact fun y hy => by (rcases Nat.lt_succ_iff_lt_or_eq.mp hy with y2 | y2); exact hdn (by omega) y y2; rw [y2]; first | exact Or.inl (by omega) | exact Or.inr (by omega)), (show ¬ 1 = 1 → ¬ doneM B lf p (B 0) from by intro z; first | omega | exact hdn9 (by omega) | exact fun y => by (rcases y t (by omega) with y2 | y2) <;> omega)⟩ _ _ _ (lv_sub hl [0, 1, 4, 5, 6, 7, 8, 9] rfl) hP hD hS
        · have h7 := hv6 q (by omega)
          refine lv_iload hx hb dX9_stuckBy_55 (lv_at hl 1 rfl) ?_
          refine lv_iload_n hx hb dX9_stuckBy_57 rfl (lv_at hl 7 rfl) ?_
          refine lv_iload hx hb dX9_stuckBy_58 (lv_at hl 0 rfl) ?_
          refine nv_ishr (by omega) (by omega) hx hb dX9_stuckBy_60 ?_
          refine lv_iconst (v := nI 1) hx hb dX9_stuckBy_61 (by decide) ?_
          refine nv_iand1 hx hb dX9_stuckBy_62 ?_
          refine lv_iconst (v := nI 1) hx hb dX9_stuckBy_63 (by decide) ?_
          refine nv_icmp_ne (tgt := 86) (by omega) (by omega) hx hb dX9_stuckBy_64 (by decide) (fun c_19 => ?_) (fun c_19 => ?_)
          · refine lv_iconst (v := nI 0) hx hb dX9_stuckBy_86 (by decide) ?_
            refine nv_iadd hx hb dX9_stuckBy_87 ?_
            refine lv_istore (lv' := [(8, .int (nI (hv9 + 0))), (9, .int (nI q)), (7, .int (nI t)), (6, .int (nI dn)), (5, .int (nI p)), (4, .int (nI th)), (3, .int (nI u)), (2, .int (nI lf)), (0, .ref (b 0)), (1, .int (nI g))]) hx hb dX9_stuckBy_88 hl (by decide) rfl (fun ls hl => ?_)
            refine lv_iinc (v := (nI (q + 1))) (lv' := [(9, .int (nI (q + 1))), (8, .int (nI (hv9 + 0))), (7, .int (nI t)), (6, .int (nI dn)), (5, .int (nI p)), (4, .int (nI th)), (3, .int (nI u)), (2, .int (nI lf)), (0, .ref (b 0)), (1, .int (nI g))]) hx hb dX9_stuckBy_90 hl (k := 1) rfl (nI_add q 1) (by decide) rfl (fun ls hl => ?_)
            refine lv_goto (tgt := 49) hx hb dX9_stuckBy_93 (by decide) ?_
            exact ih_9 (q + 1, hv9 + 0) (show 5 - (q + 1) < 5 - q from by omega) ⟨(show (q + 1) ≤ 5 ∧ (hv9 + 0) ≤ (q + 1) from ⟨by omega, by omega⟩), (show (hv9 + 0) = hvM B lf t (q + 1) from by rw [hvM_s, ← hh]; first | rw [if_pos (by assumption)] | rw [if_neg (by assumption)])⟩ _ _ _ (lv_sub hl [0, 1, 2, 3, 4, 5, 6, 7, 8, 9] rfl) hP hD hS
          · refine lv_aload_n hx hb dX9_stuckBy_67 rfl (lv_at hl 8 rfl) ?_
            refine va_get (D := G) (ci := 7) (C := RX9) (T := TX9) (N := 23) hx hb hts iX9 hown hKK.1 hP 0 rfl rfl 0 (by decide) f7 (fun _ h9 => h9) rfl dX9_stuckBy_68 ?_
            refine lv_sipush (v := nI 146) hx hb dX9_stuckBy_71 (by decide +kernel) ?_
            refine lv_iload hx hb dX9_stuckBy_74 (lv_at hl 0 rfl) ?_
            refine nv_iadd hx hb dX9_stuckBy_76 ?_
            refine nv_iald (i := 146 + q) hx hb hKK.1 hP 1 0 rfl rfl (by omega) (by decide) dX9_stuckBy_77 ?_
            have b_20 := hbB (146 + q)
            refine lv_iload hx hb dX9_stuckBy_78 (lv_at hl 2 rfl) ?_
            refine nv_ishr (by omega) (by omega) hx hb dX9_stuckBy_80 ?_
            refine lv_iconst (v := nI 1) hx hb dX9_stuckBy_81 (by decide) ?_
            refine nv_iand1 hx hb dX9_stuckBy_82 ?_
            refine lv_goto (tgt := 87) hx hb dX9_stuckBy_83 (by decide) ?_
            refine nv_iadd hx hb dX9_stuckBy_87 ?_
            refine lv_istore (lv' := [(8, .int (nI (hv9 + (((B (146 + q)) / 2 ^ t) % 2)))), (9, .int (nI q)), (7, .int (nI t)), (6, .int (nI dn)), (5, .int (nI p)), (4, .int (nI th)), (3, .int (nI u)), (2, .int (nI lf)), (0, .ref (b 0)), (1, .int (nI g))]) hx hb dX9_stuckBy_88 hl (by decide) rfl (fun ls hl => ?_)
            refine lv_iinc (v := (nI (q + 1))) (lv' := [(9, .int (nI (q + 1))), (8, .int (nI (hv9 + (((B (146 + q)) / 2 ^ t) % 2)))), (7, .int (nI t)), (6, .int (nI dn)), (5, .int (nI p)), (4, .int (nI th)), (3, .int (nI u)), (2, .int (nI lf)), (0, .ref (b 0)), (1, .int (nI g))]) hx hb dX9_stuckBy_90 hl (k := 1) rfl (nI_add q 1) (by decide) rfl (fun ls hl => ?_)
            refine lv_goto (tgt := 49) hx hb dX9_stuckBy_93 (by decide) ?_
            exact ih_9 (q + 1, hv9 + (((B (146 + q)) / 2 ^ t) % 2)) (show 5 - (q + 1) < 5 - q from by omega) ⟨(show (q + 1) ≤ 5 ∧ (hv9 + (((B (146 + q)) / 2 ^ t) % 2)) ≤ (q + 1) from ⟨by omega, by omega⟩), (show (hv9 + (((B (146 + q)) / 2 ^ t) % 2)) = hvM B lf t (q + 1) from by rw [hvM_s, ← hh]; first | rw [if_pos (by assumption)] | rw [if_neg (by assumption)])⟩ _ _ _ (lv_sub hl [0, 1, 2, 3, 4, 5, 6, 7, 8, 9] rfl) hP hD hS

def bestB (P : Nat → Prop) (x f : Nat) : Prop := (f = 0 ∨ popM x 10 < popM (f - 1) 10) ∧ P x
/-- the first of the fewest bits, shifted by one; 0: none -/
noncomputable def leastM (P : Nat → Prop) (n : Nat) : Nat := it (fun x f => if pB (bestB P x f) = true then x + 1 else f) n 0
theorem leastM_0 (P : Nat → Prop) : leastM P 0 = 0 := rfl
theorem leastM_s (P : Nat → Prop) (n : Nat) : leastM P (n + 1) = if pB (bestB P n (leastM P n)) = true then n + 1 else leastM P n := rfl
theorem leastM_le (P : Nat → Prop) (n : Nat) : leastM P n ≤ n := by
  induction n with
  | zero => exact Nat.le_refl _
  | succ n ih => rw [leastM_s]; split <;> omega
def breakP (B : Nat → Nat) (all : Nat) (x : Nat) : Prop := andn x all = 0 ∧ stuckM B x 5 = 0

set_option maxHeartbeats 4000000 in
set_option maxRecDepth 100000 in
theorem c_X9_stuck (l : Launch) (G : va_G) (tA : Nat → ClassId) (b : Nat → Nat) (qu : Nat) (ab : Int64) (bl : Int64) (tyd : Nat) (at0 : Nat) (sta : Nat) (tok : Nat) (val : Nat) (man : Nat) (B : Nat → Nat) (rf : Nat → Int32) (we : Int32) (WE : Int) (hWB : WB B) (hqu : qu < 2) (hwe : we.toInt = WE) : CtI l yX9_stuck wsX9_stuck ({ frames := 2, cells := 0, slots := 0, locals := 51 }) G tA [.ref (b 0), .int we] ([(b 0, .inr (7, [.ref (b 1), .ref (b 2), .ref (b 3), .ref (b 4), .ref (b 5), .int (nI qu), .long ab, .long bl, .ref (b 6), .int (nI tyd), .int (nI at0), .int (nI sta), .int (nI tok), .int (nI val), .ref (b 7), .int (nI man), .ref (b 8), .ref (b 9), .ref (b 10), .ref (b 11), .ref (b 12), .ref (b 13), .ref (b 14)])), (b 1, .inl (tA 0, 212, .inl (nF B))), (b 5, .inl (tA 0, 3, .inl rf))]) (fun (r : Int32) (_ : Unit) => r = (if 0 ≤ WE ∧ WE ≤ 1 then (if WE = 0 then nI (stuckM B 0 5) else (nI (leastM (breakP B (stuckM B 0 5)) (stuckM B 0 5 + 1))) + (-1)) else -2)) (fun (_ : Unit) => [(b 0, .inr (7, [.ref (b 1), .ref (b 2), .ref (b 3), .ref (b 4), .ref (b 5), .int (nI qu), .long ab, .long bl, .ref (b 6), .int (nI tyd), .int (nI at0), .int (nI sta), .int (nI tok), .int (nI val), .ref (b 7), .int (nI man), .ref (b 8), .ref (b 9), .ref (b 10), .ref (b 11), .ref (b 12), .ref (b 13), .ref (b 14)])), (b 1, .inl (tA 0, 212, .inl (nF B))), (b 5, .inl (tA 0, 3, .inl (if 0 ≤ WE ∧ WE ≤ 1 then rf else bump qu rf 0)))]) 0 0 := by
  refine enterI (cc := cX9_stuck) (maxL := 6) (ret := (some .int)) (by decide) rfl (Nat.le_of_ble_eq_true rfl) ?_
  intro p0 e0 s m args below meth c0_ A ls hx hb hml hr hts hown hlocks hin hKK hA hP hD hl hS
  have hown : s.vm.findClass RX9 = some m.cls := hown
  have hl : lv_has ls 6 [(0, .ref (b 0)), (1, .int we)] := hl
  obtain ⟨⟨hn0, hn1, hn2, hn3, hn4, hn5⟩, hbB, hv0, hv1, hv2, hv3, hv4, hv5, hv6, hv7⟩ := id hWB
  have h256 := p256 hn0
  have ha31 : stuckM B 0 5 ≤ 31 := stuckM_le _ _ _
  refine lv_iload_n hx hb dX9_stuck_0 rfl (lv_at hl 1 rfl) ?_
  refine lv_i2l hx hb dX9_stuck_1 rfl ?_
  refine lv_lconst (v := (nI 0).toInt64) hx hb dX9_stuck_2 (by decide +kernel) ?_
  refine lv_lconst (v := (nI 1).toInt64) hx hb dX9_stuck_3 (by decide +kernel) ?_
  refine roI hP hD hS hA [] rfl (runS (As := [.long we.toInt64, .long ((nI 0).toInt64), .long ((nI 1).toInt64)]) (rest := []) (isC := []) ⟨hx, hb, hml, hown, hts⟩ hKK hP hD rfl (by decide) (c_X9_is l G tA we WE (nI 0) (0 : Int) (nI 1) (1 : Int) hwe rfl rfl _) (va_cwS 3 hts gX9_stuck_X9_is rfl rfl rfl (by decide +kernel) ⟨Nat.le_of_ble_eq_true rfl, Nat.le_of_ble_eq_true rfl⟩) rfl rfl hl.1 rfl (lv_room (Nat.le_of_ble_eq_true rfl)) dX9_stuck_4 ⟨Nat.le_of_ble_eq_true rfl, Nat.le_of_ble_eq_true rfl⟩) (fun _ => rfl) (fun r_1 u_2 H locs q_3 hP hS => ?_)
  rcases q_3 with ⟨rfl, p_4⟩ | ⟨rfl, p_4⟩
  · have p_4 : (0 : Int) ≤ WE ∧ WE ≤ (1 : Int) := p_4
    refine nv_if_ne (tgt := 15) (by omega) hx hb dX9_stuck_7 (by decide) (fun _ => ?_) (fun h => absurd h (by omega))
    have hok : 0 ≤ WE ∧ WE ≤ 1 := by omega
    refine lv_aload_n hx hb dX9_stuck_15 rfl (lv_at hl 0 rfl) ?_
    refine lv_iconst (v := nI 0) hx hb dX9_stuck_16 (by decide) ?_
    refine roI hP hD hS hA [0, 1] rfl (runV (As := [.int (nI 0)]) (rest := []) (isC := [0, 1]) ⟨hx, hb, hml, hown, hts⟩ hKK hP hD rfl (by decide) (c_X9_stuckBy l G tA b qu ab bl tyd at0 sta tok val man B 0 (hWB) (by first | assumption | omega) _) (cwV 1 hts gX9_stuck_X9_stuckBy rfl rfl rfl (by decide +kernel) ⟨Nat.le_of_ble_eq_true rfl, Nat.le_of_ble_eq_true rfl⟩) rfl rfl rfl rfl hl.1 rfl (lv_room (Nat.le_of_ble_eq_true rfl)) dX9_stuck_17 ⟨Nat.le_of_ble_eq_true rfl, Nat.le_of_ble_eq_true rfl⟩) (fun _ => rfl) (fun r_6 u_7 H locs q_8 hP hS => ?_)
    obtain ⟨rfl, e_9⟩ := q_8
    have e_9 : stuckM B 0 5 ≤ 31 := e_9
    refine lv_istore_n (lv' := [(2, .int (nI (stuckM B 0 5))), (0, .ref (b 0)), (1, .int we)]) hx hb dX9_stuck_20 rfl hl (by decide) rfl (fun ls hl => ?_)
    refine lv_iload_n hx hb dX9_stuck_21 rfl (lv_at hl 2 rfl) ?_
    refine zv_if_ne (tgt := 27) (X := WE) hwe hx hb dX9_stuck_22 (by decide) (fun c_10 => ?_) (fun c_10 => ?_)
    · refine lv_iconst (v := (-1)) hx hb dX9_stuck_27 (by decide) ?_
      refine nv_topx (y := (nI 0) + (-1)) (by decide) ?_
      refine lv_istore_n (lv' := [(3, .int ((nI 0) + (-1))), (2, .int (nI (stuckM B 0 5))), (0, .ref (b 0)), (1, .int we)]) hx hb dX9_stuck_28 rfl hl (by decide) rfl (fun ls hl => ?_)
      refine lv_iconst (v := nI 0) hx hb dX9_stuck_29 (by decide) ?_
      refine lv_istore (lv' := [(4, .int (nI 0)), (3, .int ((nI 0) + (-1))), (2, .int (nI (stuckM B 0 5))), (0, .ref (b 0)), (1, .int we)]) hx hb dX9_stuck_30 hl (by decide) rfl (fun ls hl => ?_)
      refine wloop (σ := (Nat) × (Nat)) (fun | (x, fd) => (stuckM B 0 5) + 1 - x) (fun | (x, fd) => (x ≤ (stuckM B 0 5) + 1) ∧ (fd = leastM (breakP B (stuckM B 0 5)) x) ∧ (fd ≤ x)) (fun | (x, fd) => [(4, .int (nI x)), (3, .int ((nI fd) + (-1))), (2, .int (nI (stuckM B 0 5))), (0, .ref (b 0)), (1, .int we)]) (fun | (x, fd) => [(b 0, .inr (7, [.ref (b 1), .ref (b 2), .ref (b 3), .ref (b 4), .ref (b 5), .int (nI qu), .long ab, .long bl, .ref (b 6), .int (nI tyd), .int (nI at0), .int (nI sta), .int (nI tok), .int (nI val), .ref (b 7), .int (nI man), .ref (b 8), .ref (b 9), .ref (b 10), .ref (b 11), .ref (b 12), .ref (b 13), .ref (b 14)])), (b 1, .inl (tA 0, 212, .inl (nF B))), (b 5, .inl (tA 0, 3, .inl rf))]) (0, 0) ⟨(show 0 ≤ (stuckM B 0 5) + 1 from by omega), (show 0 = leastM (breakP B (stuckM B 0 5)) 0 from rfl), (show 0 ≤ 0 from by omega)⟩ (lv_sub hl [0, 1, 2, 3, 4] rfl) hP hD hS ?_
      rintro ⟨x, fd⟩ ⟨hx9, hfd, hfd2⟩ ih_11 ls H locs hl hP hD hS
      have hl : lv_has ls 6 [(4, .int (nI x)), (3, .int ((nI fd) + (-1))), (2, .int (nI (stuckM B 0 5))), (0, .ref (b 0)), (1, .int we)] := hl
      have hP : va_P G vwCl [(b 0, .inr (7, [.ref (b 1), .ref (b 2), .ref (b 3), .ref (b 4), .ref (b 5), .int (nI qu), .long ab, .long bl, .ref (b 6), .int (nI tyd), .int (nI at0), .int (nI sta), .int (nI tok), .int (nI val), .ref (b 7), .int (nI man), .ref (b 8), .ref (b 9), .ref (b 10), .ref (b 11), .ref (b 12), .ref (b 13), .ref (b 14)])), (b 1, .inl (tA 0, 212, .inl (nF B))), (b 5, .inl (tA 0, 3, .inl rf))] H := hP
      have hD : va_D A [(b 0, .inr (7, [.ref (b 1), .ref (b 2), .ref (b 3), .ref (b 4), .ref (b 5), .int (nI qu), .long ab, .long bl, .ref (b 6), .int (nI tyd), .int (nI at0), .int (nI sta), .int (nI tok), .int (nI val), .ref (b 7), .int (nI man), .ref (b 8), .ref (b 9), .ref (b 10), .ref (b 11), .ref (b 12), .ref (b 13), .ref (b 14)])), (b 1, .inl (tA 0, 212, .inl (nF B))), (b 5, .inl (tA 0, 3, .inl rf))] := hD
      have hx9 : x ≤ (stuckM B 0 5) + 1 := hx9
      have hfd : fd = leastM (breakP B (stuckM B 0 5)) x := hfd
      have hfd2 : fd ≤ x := hfd2
      refine lv_iload hx hb dX9_stuck_32 (lv_at hl 0 rfl) ?_
      refine lv_iload_n hx hb dX9_stuck_34 rfl (lv_at hl 2 rfl) ?_
      refine nv_icmp_gt (tgt := 98) (by omega) (by omega) hx hb dX9_stuck_35 (by decide) (fun c_12 => ?_) (fun c_12 => ?_)
      · refine lv_iload_n hx hb dX9_stuck_98 rfl (lv_at hl 1 rfl) ?_
        exact retI hx hb hr hlocks hS hP hD () (by rw [if_pos hok]) (by rw [if_pos hok, if_neg (by omega), hfd, show x = stuckM B 0 5 + 1 from by omega]) dX9_stuck_99
      · have ha31 : stuckM B 0 5 ≤ 31 := stuckM_le _ _ _
        have handx := andn_le x (stuckM B 0 5)
        refine lv_iload hx hb dX9_stuck_38 (lv_at hl 0 rfl) ?_
        refine lv_iload_n hx hb dX9_stuck_40 rfl (lv_at hl 2 rfl) ?_
        refine lv_iconst (v := (-1)) hx hb dX9_stuck_41 (by decide) ?_
        refine lv_ixor hx hb dX9_stuck_42 ?_
        refine nv_andn hx hb dX9_stuck_43 ?_
        refine nv_if_ne (tgt := 68) (by omega) hx hb dX9_stuck_44 (by decide) (fun c_13 => ?_) (fun c_13 => ?_)
        · refine lv_iconst (v := nI 0) hx hb dX9_stuck_68 (by decide) ?_
          refine lv_istore (lv' := [(5, .int (nI 0)), (4, .int (nI x)), (3, .int ((nI fd) + (-1))), (2, .int (nI (stuckM B 0 5))), (0, .ref (b 0)), (1, .int we)]) hx hb dX9_stuck_69 hl (by decide) rfl (fun ls hl => ?_)
          refine lv_iload hx hb dX9_stuck_71 (lv_at hl 0 rfl) ?_
          refine nv_if_eq (tgt := 90) (by omega) hx hb dX9_stuck_73 (by decide) (fun _ => ?_) (fun h => absurd h (by omega))
          refine lv_iload_n hx hb dX9_stuck_90 rfl (lv_at hl 2 rfl) ?_
          refine lv_istore_n (lv' := [(3, .int ((nI fd) + (-1))), (5, .int (nI 0)), (4, .int (nI x)), (2, .int (nI (stuckM B 0 5))), (0, .ref (b 0)), (1, .int we)]) hx hb dX9_stuck_91 rfl hl (by decide) rfl (fun ls hl => ?_)
          refine lv_iinc (v := (nI (x + 1))) (lv' := [(4, .int (nI (x + 1))), (3, .int ((nI fd) + (-1))), (5, .int (nI 0)), (2, .int (nI (stuckM B 0 5))), (0, .ref (b 0)), (1, .int we)]) hx hb dX9_stuck_92 hl (k := 2) rfl (nI_add x 1) (by decide) rfl (fun ls hl => ?_)
          refine lv_goto (tgt := 32) hx hb dX9_stuck_95 (by decide) ?_
          exact ih_11 (x + 1, fd) (show (stuckM B 0 5) + 1 - (x + 1) < (stuckM B 0 5) + 1 - x from by omega) ⟨(show (x + 1) ≤ (stuckM B 0 5) + 1 from by omega), (show fd = leastM (breakP B (stuckM B 0 5)) (x + 1) from by rw [leastM_s, ← hfd]; first | rw [if_pos (pB_t.mpr ⟨by first | exact Or.inl (by omega) | exact Or.inr (by simp only [Nat.add_sub_cancel]; omega), by omega, by omega⟩)] | rw [if_neg (fun z => by (rcases (pB_t.mp z) with ⟨z1, z2, z3⟩); (rcases z1 with z1 | z1) <;> first | omega | (simp only [Nat.add_sub_cancel] at z1; omega))]), (show fd ≤ (x + 1) from by omega)⟩ _ _ _ (lv_sub hl [0, 1, 3, 4, 5] rfl) hP hD hS
        · refine lv_iload_n hx hb dX9_stuck_47 rfl (lv_at hl 1 rfl) ?_
          refine lv_iconst (v := (-1)) hx hb dX9_stuck_48 (by decide) ?_
          refine zv_icmp_eq (tgt := 64) (X := ((fd : Nat) : Int) - 1) (Y := (-1 : Int)) (predZ (by omega)) rfl hx hb dX9_stuck_49 (by decide) (fun c_15 => ?_) (fun c_15 => ?_)
          · refine lv_iconst (v := nI 1) hx hb dX9_stuck_64 (by decide) ?_
            refine lv_goto (tgt := 69) hx hb dX9_stuck_65 (by decide) ?_
            refine lv_istore (lv' := [(5, .int (nI 1)), (4, .int (nI x)), (3, .int ((nI fd) + (-1))), (2, .int (nI (stuckM B 0 5))), (0, .ref (b 0)), (1, .int we)]) hx hb dX9_stuck_69 hl (by decide) rfl (fun ls hl => ?_)
            refine lv_iload hx hb dX9_stuck_71 (lv_at hl 0 rfl) ?_
            refine nv_if_eq (tgt := 90) (by omega) hx hb dX9_stuck_73 (by decide) (fun h => absurd h (by omega)) (fun _ => ?_)
            refine lv_aload_n hx hb dX9_stuck_76 rfl (lv_at hl 4 rfl) ?_
            refine lv_iload hx hb dX9_stuck_77 (lv_at hl 1 rfl) ?_
            refine roI hP hD hS hA [0, 1] rfl (runV (As := [.int (nI x)]) (rest := []) (isC := [0, 1]) ⟨hx, hb, hml, hown, hts⟩ hKK hP hD rfl (by decide) (c_X9_stuckBy l G tA b qu ab bl tyd at0 sta tok val man B x (hWB) (by first | assumption | omega) _) (cwV 1 hts gX9_stuck_X9_stuckBy rfl rfl rfl (by decide +kernel) ⟨Nat.le_of_ble_eq_true rfl, Nat.le_of_ble_eq_true rfl⟩) rfl rfl rfl rfl hl.1 rfl (lv_room (Nat.le_of_ble_eq_true rfl)) dX9_stuck_79 ⟨Nat.le_of_ble_eq_true rfl, Nat.le_of_ble_eq_true rfl⟩) (fun _ => rfl) (fun r_17 u_18 H locs q_19 hP hS => ?_)
            obtain ⟨rfl, e_20⟩ := q_19
            have e_20 : stuckM B x 5 ≤ 31 := e_20
            refine nv_if_ne (tgt := 90) (by omega) hx hb dX9_stuck_82 (by decide) (fun c_21 => ?_) (fun c_21 => ?_)
            · refine lv_iload_n hx hb dX9_stuck_90 rfl (lv_at hl 2 rfl) ?_
              refine lv_istore_n (lv' := [(3, .int ((nI fd) + (-1))), (5, .int (nI 1)), (4, .int (nI x)), (2, .int (nI (stuckM B 0 5))), (0, .ref (b 0)), (1, .int we)]) hx hb dX9_stuck_91 rfl hl (by decide) rfl (fun ls hl => ?_)
              refine lv_iinc (v := (nI (x + 1))) (lv' := [(4, .int (nI (x + 1))), (3, .int ((nI fd) + (-1))), (5, .int (nI 1)), (2, .int (nI (stuckM B 0 5))), (0, .ref (b 0)), (1, .int we)]) hx hb dX9_stuck_92 hl (k := 2) rfl (nI_add x 1) (by decide) rfl (fun ls hl => ?_)
              refine lv_goto (tgt := 32) hx hb dX9_stuck_95 (by decide) ?_
              exact ih_11 (x + 1, fd) (show (stuckM B 0 5) + 1 - (x + 1) < (stuckM B 0 5) + 1 - x from by omega) ⟨(show (x + 1) ≤ (stuckM B 0 5) + 1 from by omega), (show fd = leastM (breakP B (stuckM B 0 5)) (x + 1) from by rw [leastM_s, ← hfd]; first | rw [if_pos (pB_t.mpr ⟨by first | exact Or.inl (by omega) | exact Or.inr (by simp only [Nat.add_sub_cancel]; omega), by omega, by omega⟩)] | rw [if_neg (fun z => by (rcases (pB_t.mp z) with ⟨z1, z2, z3⟩); (rcases z1 with z1 | z1) <;> first | omega | (simp only [Nat.add_sub_cancel] at z1; omega))]), (show fd ≤ (x + 1) from by omega)⟩ _ _ _ (lv_sub hl [0, 1, 3, 4, 5] rfl) hP hD hS
            · refine lv_iload hx hb dX9_stuck_85 (lv_at hl 1 rfl) ?_
              refine lv_goto (tgt := 91) hx hb dX9_stuck_87 (by decide) ?_
              refine nv_topx (y := (nI (x + 1)) + (-1)) (pk_m1 x).symm ?_
              refine lv_istore_n (lv' := [(3, .int ((nI (x + 1)) + (-1))), (5, .int (nI 1)), (4, .int (nI x)), (2, .int (nI (stuckM B 0 5))), (0, .ref (b 0)), (1, .int we)]) hx hb dX9_stuck_91 rfl hl (by decide) rfl (fun ls hl => ?_)
              refine lv_iinc (v := (nI (x + 1))) (lv' := [(4, .int (nI (x + 1))), (3, .int ((nI (x + 1)) + (-1))), (5, .int (nI 1)), (2, .int (nI (stuckM B 0 5))), (0, .ref (b 0)), (1, .int we)]) hx hb dX9_stuck_92 hl (k := 2) rfl (nI_add x 1) (by decide) rfl (fun ls hl => ?_)
              refine lv_goto (tgt := 32) hx hb dX9_stuck_95 (by decide) ?_
              exact ih_11 (x + 1, (x + 1)) (show (stuckM B 0 5) + 1 - (x + 1) < (stuckM B 0 5) + 1 - x from by omega) ⟨(show (x + 1) ≤ (stuckM B 0 5) + 1 from by omega), (show (x + 1) = leastM (breakP B (stuckM B 0 5)) (x + 1) from by rw [leastM_s, ← hfd]; first | rw [if_pos (pB_t.mpr ⟨by first | exact Or.inl (by omega) | exact Or.inr (by simp only [Nat.add_sub_cancel]; omega), by omega, by omega⟩)] | rw [if_neg (fun z => by (rcases (pB_t.mp z) with ⟨z1, z2, z3⟩); (rcases z1 with z1 | z1) <;> first | omega | (simp only [Nat.add_sub_cancel] at z1; omega))]), (show (x + 1) ≤ (x + 1) from by omega)⟩ _ _ _ (lv_sub hl [0, 1, 3, 4, 5] rfl) hP hD hS
          · obtain ⟨f9, rfl⟩ : ∃ z, fd = z + 1 := ⟨fd - 1, by omega⟩
            have hl : lv_has ls 6 [(4, .int (nI x)), (3, .int (nI f9)), (2, .int (nI (stuckM B 0 5))), (0, .ref (b 0)), (1, .int we)] := by rw [pk_m1] at hl; exact hl
            refine lv_iload hx hb dX9_stuck_52 (lv_at hl 0 rfl) ?_
            refine roI hP hD hS hA [] rfl (runS (As := [.int (nI x)]) (rest := []) (isC := []) ⟨hx, hb, hml, hown, hts⟩ hKK hP hD rfl (by decide) (c_X9_bits l G tA x (by first | assumption | omega) _) (va_cwS 1 hts gX9_stuck_X9_bits rfl rfl rfl (by decide +kernel) ⟨Nat.le_of_ble_eq_true rfl, Nat.le_of_ble_eq_true rfl⟩) rfl rfl hl.1 rfl (lv_room (Nat.le_of_ble_eq_true rfl)) dX9_stuck_54 ⟨Nat.le_of_ble_eq_true rfl, Nat.le_of_ble_eq_true rfl⟩) (fun _ => rfl) (fun r_22 u_23 H locs q_24 hP hS => ?_)
            obtain ⟨rfl, e_25⟩ := q_24
            have e_25 : popM x 10 ≤ 10 := e_25
            refine lv_iload_n hx hb dX9_stuck_57 rfl (lv_at hl 1 rfl) ?_
            refine roI hP hD hS hA [] rfl (runS (As := [.int (nI f9)]) (rest := [.int (nI (popM x 10))]) (isC := []) ⟨hx, hb, hml, hown, hts⟩ hKK hP hD rfl (by decide) (c_X9_bits l G tA f9 (by first | assumption | omega) _) (va_cwS 1 hts gX9_stuck_X9_bits rfl rfl rfl (by decide +kernel) ⟨Nat.le_of_ble_eq_true rfl, Nat.le_of_ble_eq_true rfl⟩) rfl rfl hl.1 rfl (lv_room (Nat.le_of_ble_eq_true rfl)) dX9_stuck_58 ⟨Nat.le_of_ble_eq_true rfl, Nat.le_of_ble_eq_true rfl⟩) (fun _ => rfl) (fun r_26 u_27 H locs q_28 hP hS => ?_)
            obtain ⟨rfl, e_29⟩ := q_28
            have e_29 : popM f9 10 ≤ 10 := e_29
            refine nv_icmp_ge (tgt := 68) (by omega) (by omega) hx hb dX9_stuck_61 (by decide) (fun c_30 => ?_) (fun c_30 => ?_)
            · refine lv_iconst (v := nI 0) hx hb dX9_stuck_68 (by decide) ?_
              refine lv_istore (lv' := [(5, .int (nI 0)), (4, .int (nI x)), (3, .int (nI f9)), (2, .int (nI (stuckM B 0 5))), (0, .ref (b 0)), (1, .int we)]) hx hb dX9_stuck_69 hl (by decide) rfl (fun ls hl => ?_)
              refine lv_iload hx hb dX9_stuck_71 (lv_at hl 0 rfl) ?_
              refine nv_if_eq (tgt := 90) (by omega) hx hb dX9_stuck_73 (by decide) (fun _ => ?_) (fun h => absurd h (by omega))
              refine lv_iload_n hx hb dX9_stuck_90 rfl (lv_at hl 2 rfl) ?_
              refine nv_topx (y := (nI (f9 + 1)) + (-1)) (pk_m1 f9).symm ?_
              refine lv_istore_n (lv' := [(3, .int ((nI (f9 + 1)) + (-1))), (5, .int (nI 0)), (4, .int (nI x)), (2, .int (nI (stuckM B 0 5))), (0, .ref (b 0)), (1, .int we)]) hx hb dX9_stuck_91 rfl hl (by decide) rfl (fun ls hl => ?_)
              refine lv_iinc (v := (nI (x + 1))) (lv' := [(4, .int (nI (x + 1))), (3, .int ((nI (f9 + 1)) + (-1))), (5, .int (nI 0)), (2, .int (nI (stuckM B 0 5))), (0, .ref (b 0)), (1, .int we)]) hx hb dX9_stuck_92 hl (k := 2) rfl (nI_add x 1) (by decide) rfl (fun ls hl => ?_)
              refine lv_goto (tgt := 32) hx hb dX9_stuck_95 (by decide) ?_
              exact ih_11 (x + 1, (f9 + 1)) (show (stuckM B 0 5) + 1 - (x + 1) < (stuckM B 0 5) + 1 - x from by omega) ⟨(show (x + 1) ≤ (stuckM B 0 5) + 1 from by omega), (show (f9 + 1) = leastM (breakP B (stuckM B 0 5)) (x + 1) from by rw [leastM_s, ← hfd]; first | rw [if_pos (pB_t.mpr ⟨by first | exact Or.inl (by omega) | exact Or.inr (by simp only [Nat.add_sub_cancel]; omega), by omega, by omega⟩)] | rw [if_neg (fun z => by (rcases (pB_t.mp z) with ⟨z1, z2, z3⟩); (rcases z1 with z1 | z1) <;> first | omega | (simp only [Nat.add_sub_cancel] at z1; omega))]), (show (f9 + 1) ≤ (x + 1) from by omega)⟩ _ _ _ (lv_sub hl [0, 1, 3, 4, 5] rfl) hP hD hS
            · refine lv_iconst (v := nI 1) hx hb dX9_stuck_64 (by decide) ?_
              refine lv_goto (tgt := 69) hx hb dX9_stuck_65 (by decide) ?_
              refine lv_istore (lv' := [(5, .int (nI 1)), (4, .int (nI x)), (3, .int (nI f9)), (2, .int (nI (stuckM B 0 5))), (0, .ref (b 0)), (1, .int we)]) hx hb dX9_stuck_69 hl (by decide) rfl (fun ls hl => ?_)
              refine lv_iload hx hb dX9_stuck_71 (lv_at hl 0 rfl) ?_
              refine nv_if_eq (tgt := 90) (by omega) hx hb dX9_stuck_73 (by decide) (fun h => absurd h (by omega)) (fun _ => ?_)
              refine lv_aload_n hx hb dX9_stuck_76 rfl (lv_at hl 4 rfl) ?_
              refine lv_iload hx hb dX9_stuck_77 (lv_at hl 1 rfl) ?_
              refine roI hP hD hS hA [0, 1] rfl (runV (As := [.int (nI x)]) (rest := []) (isC := [0, 1]) ⟨hx, hb, hml, hown, hts⟩ hKK hP hD rfl (by decide) (c_X9_stuckBy l G tA b qu ab bl tyd at0 sta tok val man B x (hWB) (by first | assumption | omega) _) (cwV 1 hts gX9_stuck_X9_stuckBy rfl rfl rfl (by decide +kernel) ⟨Nat.le_of_ble_eq_true rfl, Nat.le_of_ble_eq_true rfl⟩) rfl rfl rfl rfl hl.1 rfl (lv_room (Nat.le_of_ble_eq_true rfl)) dX9_stuck_79 ⟨Nat.le_of_ble_eq_true rfl, Nat.le_of_ble_eq_true rfl⟩) (fun _ => rfl) (fun r_33 u_34 H locs q_35 hP hS => ?_)
              obtain ⟨rfl, e_36⟩ := q_35
              have e_36 : stuckM B x 5 ≤ 31 := e_36
              refine nv_if_ne (tgt := 90) (by omega) hx hb dX9_stuck_82 (by decide) (fun c_37 => ?_) (fun c_37 => ?_)
              · refine lv_iload_n hx hb dX9_stuck_90 rfl (lv_at hl 2 rfl) ?_
                refine nv_topx (y := (nI (f9 + 1)) + (-1)) (pk_m1 f9).symm ?_
                refine lv_istore_n (lv' := [(3, .int ((nI (f9 + 1)) + (-1))), (5, .int (nI 1)), (4, .int (nI x)), (2, .int (nI (stuckM B 0 5))), (0, .ref (b 0)), (1, .int we)]) hx hb dX9_stuck_91 rfl hl (by decide) rfl (fun ls hl => ?_)
                refine lv_iinc (v := (nI (x + 1))) (lv' := [(4, .int (nI (x + 1))), (3, .int ((nI (f9 + 1)) + (-1))), (5, .int (nI 1)), (2, .int (nI (stuckM B 0 5))), (0, .ref (b 0)), (1, .int we)]) hx hb dX9_stuck_92 hl (k := 2) rfl (nI_add x 1) (by decide) rfl (fun ls hl => ?_)
                refine lv_goto (tgt := 32) hx hb dX9_stuck_95 (by decide) ?_
                exact ih_11 (x + 1, (f9 + 1)) (show (stuckM B 0 5) + 1 - (x + 1) < (stuckM B 0 5) + 1 - x from by omega) ⟨(show (x + 1) ≤ (stuckM B 0 5) + 1 from by omega), (show (f9 + 1) = leastM (breakP B (stuckM B 0 5)) (x + 1) from by rw [leastM_s, ← hfd]; first | rw [if_pos (pB_t.mpr ⟨by first | exact Or.inl (by omega) | exact Or.inr (by simp only [Nat.add_sub_cancel]; omega), by omega, by omega⟩)] | rw [if_neg (fun z => by (rcases (pB_t.mp z) with ⟨z1, z2, z3⟩); (rcases z1 with z1 | z1) <;> first | omega | (simp only [Nat.add_sub_cancel] at z1; omega))]), (show (f9 + 1) ≤ (x + 1) from by omega)⟩ _ _ _ (lv_sub hl [0, 1, 3, 4, 5] rfl) hP hD hS
              · refine lv_iload hx hb dX9_stuck_85 (lv_at hl 1 rfl) ?_
                refine lv_goto (tgt := 91) hx hb dX9_stuck_87 (by decide) ?_
                refine nv_topx (y := (nI (x + 1)) + (-1)) (pk_m1 x).symm ?_
                refine lv_istore_n (lv' := [(3, .int ((nI (x + 1)) + (-1))), (5, .int (nI 1)), (4, .int (nI x)), (2, .int (nI (stuckM B 0 5))), (0, .ref (b 0)), (1, .int we)]) hx hb dX9_stuck_91 rfl hl (by decide) rfl (fun ls hl => ?_)
                refine lv_iinc (v := (nI (x + 1))) (lv' := [(4, .int (nI (x + 1))), (3, .int ((nI (x + 1)) + (-1))), (5, .int (nI 1)), (2, .int (nI (stuckM B 0 5))), (0, .ref (b 0)), (1, .int we)]) hx hb dX9_stuck_92 hl (k := 2) rfl (nI_add x 1) (by decide) rfl (fun ls hl => ?_)
                refine lv_goto (tgt := 32) hx hb dX9_stuck_95 (by decide) ?_
                exact ih_11 (x + 1, (x + 1)) (show (stuckM B 0 5) + 1 - (x + 1) < (stuckM B 0 5) + 1 - x from by omega) ⟨(show (x + 1) ≤ (stuckM B 0 5) + 1 from by omega), (show (x + 1) = leastM (breakP B (stuckM B 0 5)) (x + 1) from by rw [leastM_s, ← hfd]; first | rw [if_pos (pB_t.mpr ⟨by first | exact Or.inl (by omega) | exact Or.inr (by simp only [Nat.add_sub_cancel]; omega), by omega, by omega⟩)] | rw [if_neg (fun z => by (rcases (pB_t.mp z) with ⟨z1, z2, z3⟩); (rcases z1 with z1 | z1) <;> first | omega | (simp only [Nat.add_sub_cancel] at z1; omega))]), (show (x + 1) ≤ (x + 1) from by omega)⟩ _ _ _ (lv_sub hl [0, 1, 3, 4, 5] rfl) hP hD hS
    · refine lv_iload_n hx hb dX9_stuck_25 rfl (lv_at hl 0 rfl) ?_
      exact retI hx hb hr hlocks hS hP hD () (by rw [if_pos hok]) (by rw [if_pos hok, if_pos (by omega)]) dX9_stuck_26
  · have p_4 : ¬ ((0 : Int) ≤ WE ∧ WE ≤ (1 : Int)) := p_4
    refine nv_if_ne (tgt := 15) (by omega) hx hb dX9_stuck_7 (by decide) (fun h => absurd h (by omega)) (fun _ => ?_)
    refine lv_aload_n hx hb dX9_stuck_10 rfl (lv_at hl 0 rfl) ?_
    refine rwI hP hD hS hA [0, 2] rfl (runV (As := []) (rest := []) (isC := [0, 2]) ⟨hx, hb, hml, hown, hts⟩ hKK hP hD rfl (by decide) (c_X9_bad l G tA b qu ab bl tyd at0 sta tok val man rf (hqu) _) (cwV 0 hts gX9_stuck_X9_bad rfl rfl rfl (by decide +kernel) ⟨Nat.le_of_ble_eq_true rfl, Nat.le_of_ble_eq_true rfl⟩) rfl rfl rfl rfl hl.1 rfl (lv_room (Nat.le_of_ble_eq_true rfl)) dX9_stuck_11 ⟨Nat.le_of_ble_eq_true rfl, Nat.le_of_ble_eq_true rfl⟩) (fun (_ : Unit) => [(b 0, .inr (7, [.ref (b 1), .ref (b 2), .ref (b 3), .ref (b 4), .ref (b 5), .int (nI qu), .long ab, .long bl, .ref (b 6), .int (nI tyd), .int (nI at0), .int (nI sta), .int (nI tok), .int (nI val), .ref (b 7), .int (nI man), .ref (b 8), .ref (b 9), .ref (b 10), .ref (b 11), .ref (b 12), .ref (b 13), .ref (b 14)])), (b 1, .inl (tA 0, 212, .inl (nF B))), (b 5, .inl (tA 0, 3, .inl (bump qu rf 0)))]) (fun _ => rfl) (fun _ => rfl) (fun _ => rfl) (fun r_39 u_40 H locs q_41 hP hD hS => ?_)
    subst q_41
    exact retI hx hb hr hlocks hS hP hD () (by rw [if_neg (by omega)]) (by rw [if_neg (by omega)]) dX9_stuck_14

def canS (B F : Nat → Nat) (k n : Nat) : Prop := ∀ t, t < n → (B (196 + 2 * k) / 2 ^ t % 2 = 0 ∨ F t < 100000)
def dumbP (B F : Nat → Nat) (m9 n : Nat) : Prop := ∀ k, k < n → ¬ (m9 / 2 ^ k % 2 = 1 ∧ canS B F k (B 0))
def allM (B : Nat → Nat) : Nat := 2 ^ B 0 - 1

set_option maxHeartbeats 4000000 in
set_option maxRecDepth 100000 in
theorem c_X9_isDumb (l : Launch) (G : va_G) (tA : Nat → ClassId) (b : Nat → Nat) (qu : Nat) (ab : Int64) (bl : Int64) (tyd : Nat) (at0 : Nat) (sta : Nat) (tok : Nat) (val : Nat) (man : Nat) (B : Nat → Nat) (fw : Nat → Nat) (m9 : Nat) (wo : Nat) (hWB : WB B) (hbf : ∀ j, fw j < 1048576) (hm9 : m9 < 1048576) (hwo : wo < 1048576) : CtI l yX9_isDumb wsX9_isDumb ({ frames := 1, cells := 0, slots := 0, locals := 25 }) G tA [.ref (b 0), .int (nI m9), .int (nI wo)] ([(b 0, .inr (7, [.ref (b 1), .ref (b 2), .ref (b 3), .ref (b 4), .ref (b 5), .int (nI qu), .long ab, .long bl, .ref (b 6), .int (nI tyd), .int (nI at0), .int (nI sta), .int (nI tok), .int (nI val), .ref (b 7), .int (nI man), .ref (b 8), .ref (b 9), .ref (b 10), .ref (b 11), .ref (b 12), .ref (b 13), .ref (b 14)])), (b 1, .inl (tA 0, 212, .inl (nF B))), (b 8, .inl (tA 0, 8, .inl (nF fw)))]) (fun (r : Int32) (_ : Unit) => ((r = nI 1 ∧ (dumbP B (fewS B fw (andn (2 ^ B 0 - 1) wo)) m9 (B 5))) ∨ (r = nI 0 ∧ ¬ (dumbP B (fewS B fw (andn (2 ^ B 0 - 1) wo)) m9 (B 5))))) (fun (_ : Unit) => [(b 0, .inr (7, [.ref (b 1), .ref (b 2), .ref (b 3), .ref (b 4), .ref (b 5), .int (nI qu), .long ab, .long bl, .ref (b 6), .int (nI tyd), .int (nI at0), .int (nI sta), .int (nI tok), .int (nI val), .ref (b 7), .int (nI man), .ref (b 8), .ref (b 9), .ref (b 10), .ref (b 11), .ref (b 12), .ref (b 13), .ref (b 14)])), (b 1, .inl (tA 0, 212, .inl (nF B))), (b 8, .inl (tA 0, 8, .inl (nF (fewS B fw (andn (2 ^ B 0 - 1) wo)))))]) 0 0 := by
  refine enterI (cc := cX9_isDumb) (maxL := 7) (ret := (some .boolean)) (by decide) rfl (Nat.le_of_ble_eq_true rfl) ?_
  intro p0 e0 s m args below meth c0_ A ls hx hb hml hr hts hown hlocks hin hKK hA hP hD hl hS
  have hown : s.vm.findClass RX9 = some m.cls := hown
  have hl : lv_has ls 7 [(0, .ref (b 0)), (1, .int (nI m9)), (2, .int (nI wo))] := hl
  have f7 := hts (Cond.fieldLink RX9 7 "LentTermsModel" "book" "[I") (List.mem_of_getElem? (i := 1) rfl)
  have iX9 : ∀ w ∈ wsX90, w ∈ wsX9_isDumb := by decide +kernel
  have f32 := hts (Cond.fieldLink RX9 32 "LentTermsModel" "few" "[I") (List.mem_of_getElem? (i := 2) rfl)
  have f183 := hts (Cond.constant RX9 183 (100000)) (List.mem_of_getElem? (i := 3) rfl)
  obtain ⟨⟨hn0, hn1, hn2, hn3, hn4, hn5⟩, hbB, hv0, hv1, hv2, hv3, hv4, hv5, hv6, hv7⟩ := id hWB
  have h256 := p256 hn0
  refine lv_aload_n hx hb dX9_isDumb_0 rfl (lv_at hl 0 rfl) ?_
  refine lv_iconst (v := nI 1) hx hb dX9_isDumb_1 (by decide) ?_
  refine lv_aload_n hx hb dX9_isDumb_2 rfl (lv_at hl 0 rfl) ?_
  refine va_get (D := G) (ci := 7) (C := RX9) (T := TX9) (N := 23) hx hb hts iX9 hown hKK.1 hP 0 rfl rfl 0 (by decide) f7 (fun _ h9 => h9) rfl dX9_isDumb_3 ?_
  refine lv_iconst (v := nI 0) hx hb dX9_isDumb_6 (by decide) ?_
  refine nv_iald (i := 0) hx hb hKK.1 hP 1 0 rfl rfl (by omega) (by decide) dX9_isDumb_7 ?_
  have b_1 := hbB 0
  refine nv_shl1 (by omega) hx hb dX9_isDumb_8 ?_
  refine lv_iconst (v := nI 1) hx hb dX9_isDumb_9 (by decide) ?_
  refine nv_isub (show 1 ≤ 2 ^ (B 0) from by omega) hx hb dX9_isDumb_10 ?_
  refine lv_iload_n hx hb dX9_isDumb_11 rfl (lv_at hl 2 rfl) ?_
  refine lv_iconst (v := (-1)) hx hb dX9_isDumb_12 (by decide) ?_
  refine lv_ixor hx hb dX9_isDumb_13 ?_
  refine nv_andn hx hb dX9_isDumb_14 ?_
  have hand := andn_le (2 ^ B 0 - 1) wo
  refine rwV hP hD hS hA [0, 1, 2] rfl (runV (As := [.int (nI (andn ((2 ^ (B 0)) - 1) wo))]) (rest := []) (isC := [0, 1, 2]) ⟨hx, hb, hml, hown, hts⟩ hKK hP hD rfl (by decide) (c_X9_fewest l G tA b qu ab bl tyd at0 sta tok val man B fw (andn ((2 ^ (B 0)) - 1) wo) (hWB) (hbf) (by first | assumption | omega) _) (cwV 1 hts gX9_isDumb_X9_fewest rfl rfl rfl (by decide +kernel) ⟨Nat.le_of_ble_eq_true rfl, Nat.le_of_ble_eq_true rfl⟩) rfl rfl rfl rfl hl.1 rfl (lv_room (Nat.le_of_ble_eq_true rfl)) dX9_isDumb_15 ⟨Nat.le_of_ble_eq_true rfl, Nat.le_of_ble_eq_true rfl⟩) (fun (_ : Unit) => [(b 0, .inr (7, [.ref (b 1), .ref (b 2), .ref (b 3), .ref (b 4), .ref (b 5), .int (nI qu), .long ab, .long bl, .ref (b 6), .int (nI tyd), .int (nI at0), .int (nI sta), .int (nI tok), .int (nI val), .ref (b 7), .int (nI man), .ref (b 8), .ref (b 9), .ref (b 10), .ref (b 11), .ref (b 12), .ref (b 13), .ref (b 14)])), (b 1, .inl (tA 0, 212, .inl (nF B))), (b 8, .inl (tA 0, 8, .inl (nF (fewS B fw (andn ((2 ^ (B 0)) - 1) wo)))))]) (fun _ => rfl) (fun _ => rfl) (fun _ => rfl) (fun u_3 H locs q_4 hP hD hS => ?_)
  have hb8 : ∀ j, (fewS B fw (andn (2 ^ B 0 - 1) wo)) j < 1048576 := fewS_lt hbf _
  refine lv_iconst (v := nI 1) hx hb dX9_isDumb_18 (by decide) ?_
  refine lv_istore_n (lv' := [(3, .int (nI 1)), (0, .ref (b 0)), (1, .int (nI m9)), (2, .int (nI wo))]) hx hb dX9_isDumb_19 rfl hl (by decide) rfl (fun ls hl => ?_)
  refine lv_iconst (v := nI 0) hx hb dX9_isDumb_20 (by decide) ?_
  refine lv_istore (lv' := [(4, .int (nI 0)), (3, .int (nI 1)), (0, .ref (b 0)), (1, .int (nI m9)), (2, .int (nI wo))]) hx hb dX9_isDumb_21 hl (by decide) rfl (fun ls hl => ?_)
  refine wloop (σ := (Nat) × (Nat)) (fun | (k, du) => B 5 - k) (fun | (k, du) => (k ≤ B 5 ∧ du < 2) ∧ (du = 1 → dumbP B (fewS B fw (andn (2 ^ B 0 - 1) wo)) m9 k) ∧ (¬ du = 1 → ¬ dumbP B (fewS B fw (andn (2 ^ B 0 - 1) wo)) m9 (B 5))) (fun | (k, du) => [(4, .int (nI k)), (3, .int (nI du)), (0, .ref (b 0)), (1, .int (nI m9)), (2, .int (nI wo))]) (fun | (k, du) => [(b 0, .inr (7, [.ref (b 1), .ref (b 2), .ref (b 3), .ref (b 4), .ref (b 5), .int (nI qu), .long ab, .long bl, .ref (b 6), .int (nI tyd), .int (nI at0), .int (nI sta), .int (nI tok), .int (nI val), .ref (b 7), .int (nI man), .ref (b 8), .ref (b 9), .ref (b 10), .ref (b 11), .ref (b 12), .ref (b 13), .ref (b 14)])), (b 1, .inl (tA 0, 212, .inl (nF B))), (b 8, .inl (tA 0, 8, .inl (nF (fewS B fw (andn ((2 ^ (B 0)) - 1) wo)))))]) (0, 1) ⟨(show 0 ≤ B 5 ∧ 1 < 2 from ⟨by omega, by omega⟩), (show 1 = 1 → dumbP B (fewS B fw (andn (2 ^ B 0 - 1) wo)) m9 0 from fun _ z hz => by omega), (show ¬ 1 = 1 → ¬ dumbP B (fewS B fw (andn (2 ^ B 0 - 1) wo)) m9 (B 5) from by intro z; omega)⟩ (lv_sub hl [0, 1, 2, 3, 4] rfl) hP hD hS ?_
  rintro ⟨k, du⟩ ⟨hk, hdu, hdu9⟩ ih_5 ls H locs hl hP hD hS
  have hl : lv_has ls 7 [(4, .int (nI k)), (3, .int (nI du)), (0, .ref (b 0)), (1, .int (nI m9)), (2, .int (nI wo))] := hl
  have hP : va_P G vwCl [(b 0, .inr (7, [.ref (b 1), .ref (b 2), .ref (b 3), .ref (b 4), .ref (b 5), .int (nI qu), .long ab, .long bl, .ref (b 6), .int (nI tyd), .int (nI at0), .int (nI sta), .int (nI tok), .int (nI val), .ref (b 7), .int (nI man), .ref (b 8), .ref (b 9), .ref (b 10), .ref (b 11), .ref (b 12), .ref (b 13), .ref (b 14)])), (b 1, .inl (tA 0, 212, .inl (nF B))), (b 8, .inl (tA 0, 8, .inl (nF (fewS B fw (andn ((2 ^ (B 0)) - 1) wo)))))] H := hP
  have hD : va_D A [(b 0, .inr (7, [.ref (b 1), .ref (b 2), .ref (b 3), .ref (b 4), .ref (b 5), .int (nI qu), .long ab, .long bl, .ref (b 6), .int (nI tyd), .int (nI at0), .int (nI sta), .int (nI tok), .int (nI val), .ref (b 7), .int (nI man), .ref (b 8), .ref (b 9), .ref (b 10), .ref (b 11), .ref (b 12), .ref (b 13), .ref (b 14)])), (b 1, .inl (tA 0, 212, .inl (nF B))), (b 8, .inl (tA 0, 8, .inl (nF (fewS B fw (andn ((2 ^ (B 0)) - 1) wo)))))] := hD
  have hk : k ≤ B 5 ∧ du < 2 := hk
  have hdu : du = 1 → dumbP B (fewS B fw (andn (2 ^ B 0 - 1) wo)) m9 k := hdu
  have hdu9 : ¬ du = 1 → ¬ dumbP B (fewS B fw (andn (2 ^ B 0 - 1) wo)) m9 (B 5) := hdu9
  refine lv_iload hx hb dX9_isDumb_23 (lv_at hl 0 rfl) ?_
  refine lv_aload_n hx hb dX9_isDumb_25 rfl (lv_at hl 2 rfl) ?_
  refine va_get (D := G) (ci := 7) (C := RX9) (T := TX9) (N := 23) hx hb hts iX9 hown hKK.1 hP 0 rfl rfl 0 (by decide) f7 (fun _ h9 => h9) rfl dX9_isDumb_26 ?_
  refine lv_iconst (v := nI 5) hx hb dX9_isDumb_29 (by decide) ?_
  refine nv_iald (i := 5) hx hb hKK.1 hP 1 0 rfl rfl (by omega) (by decide) dX9_isDumb_30 ?_
  have b_6 := hbB 5
  refine nv_icmp_ge (tgt := 137) (by omega) (by omega) hx hb dX9_isDumb_31 (by decide) (fun c_7 => ?_) (fun c_7 => ?_)
  · refine lv_iload_n hx hb dX9_isDumb_137 rfl (lv_at hl 1 rfl) ?_
    rcases (show du = 1 ∨ du = 0 by omega) with rfl | rfl
    · exact retZ (ty := .boolean) hx hb hr rfl hlocks hS hP hD () (rfl) (Or.inl ⟨rfl, by first | exact hdu9 (by omega) | (have e9 : k = B 5 := (by omega); rw [e9] at hdu; exact hdu (by omega))⟩) dX9_isDumb_138
    · exact retZ (ty := .boolean) hx hb hr rfl hlocks hS hP hD () (rfl) (Or.inr ⟨rfl, by first | exact hdu9 (by omega) | (have e9 : k = B 5 := (by omega); rw [e9] at hdu; exact hdu (by omega))⟩) dX9_isDumb_138
  · have hv := hv5 k (by omega)
    refine lv_iload_n hx hb dX9_isDumb_34 rfl (lv_at hl 3 rfl) ?_
    refine lv_iload hx hb dX9_isDumb_35 (lv_at hl 0 rfl) ?_
    refine nv_ishr (by omega) (by omega) hx hb dX9_isDumb_37 ?_
    refine lv_iconst (v := nI 1) hx hb dX9_isDumb_38 (by decide) ?_
    refine nv_iand1 hx hb dX9_isDumb_39 ?_
    refine lv_iconst (v := nI 1) hx hb dX9_isDumb_40 (by decide) ?_
    refine nv_icmp_ne (tgt := 48) (by omega) (by omega) hx hb dX9_isDumb_41 (by decide) (fun c_8 => ?_) (fun c_8 => ?_)
    · refine lv_iconst (v := nI 0) hx hb dX9_isDumb_48 (by decide) ?_
      refine lv_istore (lv' := [(5, .int (nI 0)), (4, .int (nI k)), (3, .int (nI du)), (0, .ref (b 0)), (1, .int (nI m9)), (2, .int (nI wo))]) hx hb dX9_isDumb_49 hl (by decide) rfl (fun ls hl => ?_)
      refine lv_iconst (v := nI 0) hx hb dX9_isDumb_51 (by decide) ?_
      refine lv_istore (lv' := [(6, .int (nI 0)), (5, .int (nI 0)), (4, .int (nI k)), (3, .int (nI du)), (0, .ref (b 0)), (1, .int (nI m9)), (2, .int (nI wo))]) hx hb dX9_isDumb_52 hl (by decide) rfl (fun ls hl => ?_)
      refine wloop (σ := (Nat) × (Nat)) (fun | (t, cn) => B 0 - t) (fun | (t, cn) => (t ≤ B 0 ∧ cn < 2) ∧ (cn = 1 → (m9 / 2 ^ k % 2 = 1 ∧ canS B (fewS B fw (andn (2 ^ B 0 - 1) wo)) k t)) ∧ (¬ cn = 1 → ¬ (m9 / 2 ^ k % 2 = 1 ∧ canS B (fewS B fw (andn (2 ^ B 0 - 1) wo)) k (B 0)))) (fun | (t, cn) => [(6, .int (nI t)), (5, .int (nI cn)), (4, .int (nI k)), (3, .int (nI du)), (0, .ref (b 0)), (1, .int (nI m9)), (2, .int (nI wo))]) (fun | (t, cn) => [(b 0, .inr (7, [.ref (b 1), .ref (b 2), .ref (b 3), .ref (b 4), .ref (b 5), .int (nI qu), .long ab, .long bl, .ref (b 6), .int (nI tyd), .int (nI at0), .int (nI sta), .int (nI tok), .int (nI val), .ref (b 7), .int (nI man), .ref (b 8), .ref (b 9), .ref (b 10), .ref (b 11), .ref (b 12), .ref (b 13), .ref (b 14)])), (b 1, .inl (tA 0, 212, .inl (nF B))), (b 8, .inl (tA 0, 8, .inl (nF (fewS B fw (andn ((2 ^ (B 0)) - 1) wo)))))]) (0, 0) ⟨(show 0 ≤ B 0 ∧ 0 < 2 from ⟨by omega, by omega⟩), (show 0 = 1 → (m9 / 2 ^ k % 2 = 1 ∧ canS B (fewS B fw (andn (2 ^ B 0 - 1) wo)) k 0) from by intro z; first | omega | exact ⟨by omega, fun y hy => by omega⟩), (show ¬ 0 = 1 → ¬ (m9 / 2 ^ k % 2 = 1 ∧ canS B (fewS B fw (andn (2 ^ B 0 - 1) wo)) k (B 0)) from by intro z; first | omega | exact fun y => by omega)⟩ (lv_sub hl [0, 1, 2, 3, 4, 5, 6] rfl) hP hD hS ?_
      rintro ⟨t, cn⟩ ⟨ht, hcn8, hcn9⟩ ih_9 ls H locs hl hP hD hS
      have hl : lv_has ls 7 [(6, .int (nI t)), (5, .int (nI cn)), (4, .int (nI k)), (3, .int (nI du)), (0, .ref (b 0)), (1, .int (nI m9)), (2, .int (nI wo))] := hl
      have hP : va_P G vwCl [(b 0, .inr (7, [.ref (b 1), .ref (b 2), .ref (b 3), .ref (b 4), .ref (b 5), .int (nI qu), .long ab, .long bl, .ref (b 6), .int (nI tyd), .int (nI at0), .int (nI sta), .int (nI tok), .int (nI val), .ref (b 7), .int (nI man), .ref (b 8), .ref (b 9), .ref (b 10), .ref (b 11), .ref (b 12), .ref (b 13), .ref (b 14)])), (b 1, .inl (tA 0, 212, .inl (nF B))), (b 8, .inl (tA 0, 8, .inl (nF (fewS B fw (andn ((2 ^ (B 0)) - 1) wo)))))] H := hP
      have hD : va_D A [(b 0, .inr (7, [.ref (b 1), .ref (b 2), .ref (b 3), .ref (b 4), .ref (b 5), .int (nI qu), .long ab, .long bl, .ref (b 6), .int (nI tyd), .int (nI at0), .int (nI sta), .int (nI tok), .int (nI val), .ref (b 7), .int (nI man), .ref (b 8), .ref (b 9), .ref (b 10), .ref (b 11), .ref (b 12), .ref (b 13), .ref (b 14)])), (b 1, .inl (tA 0, 212, .inl (nF B))), (b 8, .inl (tA 0, 8, .inl (nF (fewS B fw (andn ((2 ^ (B 0)) - 1) wo)))))] := hD
      have ht : t ≤ B 0 ∧ cn < 2 := ht
      have hcn8 : cn = 1 → (m9 / 2 ^ k % 2 = 1 ∧ canS B (fewS B fw (andn (2 ^ B 0 - 1) wo)) k t) := hcn8
      have hcn9 : ¬ cn = 1 → ¬ (m9 / 2 ^ k % 2 = 1 ∧ canS B (fewS B fw (andn (2 ^ B 0 - 1) wo)) k (B 0)) := hcn9
      refine lv_iload hx hb dX9_isDumb_54 (lv_at hl 0 rfl) ?_
      refine lv_aload_n hx hb dX9_isDumb_56 rfl (lv_at hl 4 rfl) ?_
      refine va_get (D := G) (ci := 7) (C := RX9) (T := TX9) (N := 23) hx hb hts iX9 hown hKK.1 hP 0 rfl rfl 0 (by decide) f7 (fun _ h9 => h9) rfl dX9_isDumb_57 ?_
      refine lv_iconst (v := nI 0) hx hb dX9_isDumb_60 (by decide) ?_
      refine nv_iald (i := 0) hx hb hKK.1 hP 1 0 rfl rfl (by omega) (by decide) dX9_isDumb_61 ?_
      have b_10 := hbB 0
      refine nv_icmp_ge (tgt := 116) (by omega) (by omega) hx hb dX9_isDumb_62 (by decide) (fun c_11 => ?_) (fun c_11 => ?_)
      · have hcn : cn = 1 → (m9 / 2 ^ k % 2 = 1 ∧ canS B (fewS B fw (andn (2 ^ B 0 - 1) wo)) k (B 0)) := by have e9 : t = B 0 := (by omega); rw [e9] at hcn8; exact hcn8
        refine lv_iload_n hx hb dX9_isDumb_116 rfl (lv_at hl 3 rfl) ?_
        refine nv_if_eq (tgt := 129) (by omega) hx hb dX9_isDumb_117 (by decide) (fun c_12 => ?_) (fun c_12 => ?_)
        · refine lv_iconst (v := nI 0) hx hb dX9_isDumb_129 (by decide) ?_
          refine lv_istore_n (lv' := [(3, .int (nI 0)), (6, .int (nI t)), (5, .int (nI cn)), (4, .int (nI k)), (0, .ref (b 0)), (1, .int (nI m9)), (2, .int (nI wo))]) hx hb dX9_isDumb_130 rfl hl (by decide) rfl (fun ls hl => ?_)
          refine lv_iinc (v := (nI (k + 1))) (lv' := [(4, .int (nI (k + 1))), (3, .int (nI 0)), (6, .int (nI t)), (5, .int (nI cn)), (0, .ref (b 0)), (1, .int (nI m9)), (2, .int (nI wo))]) hx hb dX9_isDumb_131 hl (k := 3) rfl (nI_add k 1) (by decide) rfl (fun ls hl => ?_)
          refine lv_goto (tgt := 23) hx hb dX9_isDumb_134 (by decide) ?_
          exact ih_5 (k + 1, 0) (show B 5 - (k + 1) < B 5 - k from by omega) ⟨(show (k + 1) ≤ B 5 ∧ 0 < 2 from ⟨by omega, by omega⟩), (show 0 = 1 → dumbP B (fewS B fw (andn (2 ^ B 0 - 1) wo)) m9 (k + 1) from by intro z; first | omega | exact fun y hy => by (rcases Nat.lt_succ_iff_lt_or_eq.mp hy with y2 | y2); exact hdu (by omega) y y2; rw [y2]; exact fun y3 => absurd y3 (by first | exact hcn9 (by omega) | exact fun y4 => by omega)), (show ¬ 0 = 1 → ¬ dumbP B (fewS B fw (andn (2 ^ B 0 - 1) wo)) m9 (B 5) from by intro z; first | omega | exact hdu9 (by omega) | exact fun y => y k (by omega) (hcn (by omega)))⟩ _ _ _ (lv_sub hl [0, 1, 4, 5, 6] rfl) hP hD hS
        · refine lv_iload hx hb dX9_isDumb_120 (lv_at hl 1 rfl) ?_
          refine nv_if_ne (tgt := 129) (by omega) hx hb dX9_isDumb_122 (by decide) (fun c_13 => ?_) (fun c_13 => ?_)
          · refine lv_iconst (v := nI 0) hx hb dX9_isDumb_129 (by decide) ?_
            refine lv_istore_n (lv' := [(3, .int (nI 0)), (6, .int (nI t)), (5, .int (nI cn)), (4, .int (nI k)), (0, .ref (b 0)), (1, .int (nI m9)), (2, .int (nI wo))]) hx hb dX9_isDumb_130 rfl hl (by decide) rfl (fun ls hl => ?_)
            refine lv_iinc (v := (nI (k + 1))) (lv' := [(4, .int (nI (k + 1))), (3, .int (nI 0)), (6, .int (nI t)), (5, .int (nI cn)), (0, .ref (b 0)), (1, .int (nI m9)), (2, .int (nI wo))]) hx hb dX9_isDumb_131 hl (k := 3) rfl (nI_add k 1) (by decide) rfl (fun ls hl => ?_)
            refine lv_goto (tgt := 23) hx hb dX9_isDumb_134 (by decide) ?_
            exact ih_5 (k + 1, 0) (show B 5 - (k + 1) < B 5 - k from by omega) ⟨(show (k + 1) ≤ B 5 ∧ 0 < 2 from ⟨by omega, by omega⟩), (show 0 = 1 → dumbP B (fewS B fw (andn (2 ^ B 0 - 1) wo)) m9 (k + 1) from by intro z; first | omega | exact fun y hy => by (rcases Nat.lt_succ_iff_lt_or_eq.mp hy with y2 | y2); exact hdu (by omega) y y2; rw [y2]; exact fun y3 => absurd y3 (by first | exact hcn9 (by omega) | exact fun y4 => by omega)), (show ¬ 0 = 1 → ¬ dumbP B (fewS B fw (andn (2 ^ B 0 - 1) wo)) m9 (B 5) from by intro z; first | omega | exact hdu9 (by omega) | exact fun y => y k (by omega) (hcn (by omega)))⟩ _ _ _ (lv_sub hl [0, 1, 4, 5, 6] rfl) hP hD hS
          · refine lv_iconst (v := nI 1) hx hb dX9_isDumb_125 (by decide) ?_
            refine lv_goto (tgt := 130) hx hb dX9_isDumb_126 (by decide) ?_
            refine lv_istore_n (lv' := [(3, .int (nI 1)), (6, .int (nI t)), (5, .int (nI cn)), (4, .int (nI k)), (0, .ref (b 0)), (1, .int (nI m9)), (2, .int (nI wo))]) hx hb dX9_isDumb_130 rfl hl (by decide) rfl (fun ls hl => ?_)
            refine lv_iinc (v := (nI (k + 1))) (lv' := [(4, .int (nI (k + 1))), (3, .int (nI 1)), (6, .int (nI t)), (5, .int (nI cn)), (0, .ref (b 0)), (1, .int (nI m9)), (2, .int (nI wo))]) hx hb dX9_isDumb_131 hl (k := 3) rfl (nI_add k 1) (by decide) rfl (fun ls hl => ?_)
            refine lv_goto (tgt := 23) hx hb dX9_isDumb_134 (by decide) ?_
            exact ih_5 (k + 1, 1) (show B 5 - (k + 1) < B 5 - k from by omega) ⟨(show (k + 1) ≤ B 5 ∧ 1 < 2 from ⟨by omega, by omega⟩), (show 1 = 1 → dumbP B (fewS B fw (andn (2 ^ B 0 - 1) wo)) m9 (k + 1) from by intro z; first | omega | exact fun y hy => by (rcases Nat.lt_succ_iff_lt_or_eq.mp hy with y2 | y2); exact hdu (by omega) y y2; rw [y2]; exact fun y3 => absurd y3 (by first | exact hcn9 (by omega) | exact fun y4 => by omega)), (show ¬ 1 = 1 → ¬ dumbP B (fewS B fw (andn (2 ^ B 0 - 1) wo)) m9 (B 5) from by intro z; first | omega | exact hdu9 (by omega) | exact fun y => y k (by omega) (hcn (by omega)))⟩ _ _ _ (lv_sub hl [0, 1, 4, 5, 6] rfl) hP hD hS
      · refine lv_iload hx hb dX9_isDumb_65 (lv_at hl 1 rfl) ?_
        refine nv_if_eq (tgt := 107) (by omega) hx hb dX9_isDumb_67 (by decide) (fun c_14 => ?_) (fun c_14 => ?_)
        · refine lv_iconst (v := nI 0) hx hb dX9_isDumb_107 (by decide) ?_
          refine lv_istore (lv' := [(5, .int (nI 0)), (6, .int (nI t)), (4, .int (nI k)), (3, .int (nI du)), (0, .ref (b 0)), (1, .int (nI m9)), (2, .int (nI wo))]) hx hb dX9_isDumb_108 hl (by decide) rfl (fun ls hl => ?_)
          refine lv_iinc (v := (nI (t + 1))) (lv' := [(6, .int (nI (t + 1))), (5, .int (nI 0)), (4, .int (nI k)), (3, .int (nI du)), (0, .ref (b 0)), (1, .int (nI m9)), (2, .int (nI wo))]) hx hb dX9_isDumb_110 hl (k := 1) rfl (nI_add t 1) (by decide) rfl (fun ls hl => ?_)
          refine lv_goto (tgt := 54) hx hb dX9_isDumb_113 (by decide) ?_
          exact ih_9 (t + 1, 0) (show B 0 - (t + 1) < B 0 - t from by omega) ⟨(show (t + 1) ≤ B 0 ∧ 0 < 2 from ⟨by omega, by omega⟩), (show 0 = 1 → (m9 / 2 ^ k % 2 = 1 ∧ canS B (fewS B fw (andn (2 ^ B 0 - 1) wo)) k (t + 1)) from by intro z; first | omega | exact ⟨(hcn8 (by omega)).1, fun y hy => by (rcases Nat.lt_succ_iff_lt_or_eq.mp hy with y2 | y2); exact (hcn8 (by omega)).2 y y2; rw [y2]; first | exact Or.inl (by omega) | exact Or.inr (by omega)⟩), (show ¬ 0 = 1 → ¬ (m9 / 2 ^ k % 2 = 1 ∧ canS B (fewS B fw (andn (2 ^ B 0 - 1) wo)) k (B 0)) from by intro z; first | omega | exact hcn9 (by omega) | exact fun y => by (rcases y.2 t (by omega) with y2 | y2) <;> omega)⟩ _ _ _ (lv_sub hl [0, 1, 2, 3, 4, 5, 6] rfl) hP hD hS
        · refine lv_aload_n hx hb dX9_isDumb_70 rfl (lv_at hl 4 rfl) ?_
          refine va_get (D := G) (ci := 7) (C := RX9) (T := TX9) (N := 23) hx hb hts iX9 hown hKK.1 hP 0 rfl rfl 0 (by decide) f7 (fun _ h9 => h9) rfl dX9_isDumb_71 ?_
          refine lv_sipush (v := nI 196) hx hb dX9_isDumb_74 (by decide +kernel) ?_
          refine lv_iconst (v := nI 2) hx hb dX9_isDumb_77 (by decide) ?_
          refine lv_iload hx hb dX9_isDumb_78 (lv_at hl 2 rfl) ?_
          refine nv_imul hx hb dX9_isDumb_80 ?_
          refine nv_iadd hx hb dX9_isDumb_81 ?_
          refine nv_iald (i := 196 + (2 * k)) hx hb hKK.1 hP 1 0 rfl rfl (by omega) (by decide) dX9_isDumb_82 ?_
          have b_15 := hbB (196 + (2 * k))
          refine lv_iload hx hb dX9_isDumb_83 (lv_at hl 0 rfl) ?_
          refine nv_ishr (by omega) (by omega) hx hb dX9_isDumb_85 ?_
          refine lv_iconst (v := nI 1) hx hb dX9_isDumb_86 (by decide) ?_
          refine nv_iand1 hx hb dX9_isDumb_87 ?_
          refine nv_if_eq (tgt := 103) (by omega) hx hb dX9_isDumb_88 (by decide) (fun c_16 => ?_) (fun c_16 => ?_)
          · refine lv_iconst (v := nI 1) hx hb dX9_isDumb_103 (by decide) ?_
            refine lv_goto (tgt := 108) hx hb dX9_isDumb_104 (by decide) ?_
            refine lv_istore (lv' := [(5, .int (nI 1)), (6, .int (nI t)), (4, .int (nI k)), (3, .int (nI du)), (0, .ref (b 0)), (1, .int (nI m9)), (2, .int (nI wo))]) hx hb dX9_isDumb_108 hl (by decide) rfl (fun ls hl => ?_)
            refine lv_iinc (v := (nI (t + 1))) (lv' := [(6, .int (nI (t + 1))), (5, .int (nI 1)), (4, .int (nI k)), (3, .int (nI du)), (0, .ref (b 0)), (1, .int (nI m9)), (2, .int (nI wo))]) hx hb dX9_isDumb_110 hl (k := 1) rfl (nI_add t 1) (by decide) rfl (fun ls hl => ?_)
            refine lv_goto (tgt := 54) hx hb dX9_isDumb_113 (by decide) ?_
            exact ih_9 (t + 1, 1) (show B 0 - (t + 1) < B 0 - t from by omega) ⟨(show (t + 1) ≤ B 0 ∧ 1 < 2 from ⟨by omega, by omega⟩), (show 1 = 1 → (m9 / 2 ^ k % 2 = 1 ∧ canS B (fewS B fw (andn (2 ^ B 0 - 1) wo)) k (t + 1)) from by intro z; first | omega | exact ⟨(hcn8 (by omega)).1, fun y hy => by (rcases Nat.lt_succ_iff_lt_or_eq.mp hy with y2 | y2); exact (hcn8 (by omega)).2 y y2; rw [y2]; first | exact Or.inl (by omega) | exact Or.inr (by omega)⟩), (show ¬ 1 = 1 → ¬ (m9 / 2 ^ k % 2 = 1 ∧ canS B (fewS B fw (andn (2 ^ B 0 - 1) wo)) k (B 0)) from by intro z; first | omega | exact hcn9 (by omega) | exact fun y => by (rcases y.2 t (by omega) with y2 | y2) <;> omega)⟩ _ _ _ (lv_sub hl [0, 1, 2, 3, 4, 5, 6] rfl) hP hD hS
          · refine lv_aload_n hx hb dX9_isDumb_91 rfl (lv_at hl 4 rfl) ?_
            refine va_get (D := G) (ci := 7) (C := RX9) (T := TX9) (N := 23) hx hb hts iX9 hown hKK.1 hP 0 rfl rfl 16 (by decide) f32 (fun _ h9 => h9) rfl dX9_isDumb_92 ?_
            refine lv_iload hx hb dX9_isDumb_95 (lv_at hl 0 rfl) ?_
            refine nv_iald (i := t) hx hb hKK.1 hP 2 0 rfl rfl (by omega) (by decide) dX9_isDumb_97 ?_
            have b_17 := hb8 t
            refine lv_ldc (v := 100000) hx hb hown f183 dX9_isDumb_98 ?_
            refine nv_top (y := 100000) (by decide +kernel) ?_
            refine nv_icmp_ge (tgt := 107) (by omega) (by omega) hx hb dX9_isDumb_100 (by decide) (fun c_18 => ?_) (fun c_18 => ?_)
            · refine lv_iconst (v := nI 0) hx hb dX9_isDumb_107 (by decide) ?_
              refine lv_istore (lv' := [(5, .int (nI 0)), (6, .int (nI t)), (4, .int (nI k)), (3, .int (nI du)), (0, .ref (b 0)), (1, .int (nI m9)), (2, .int (nI wo))]) hx hb dX9_isDumb_108 hl (by decide) rfl (fun ls hl => ?_)
              refine lv_iinc (v := (nI (t + 1))) (lv' := [(6, .int (nI (t + 1))), (5, .int (nI 0)), (4, .int (nI k)), (3, .int (nI du)), (0, .ref (b 0)), (1, .int (nI m9)), (2, .int (nI wo))]) hx hb dX9_isDumb_110 hl (k := 1) rfl (nI_add t 1) (by decide) rfl (fun ls hl => ?_)
              refine lv_goto (tgt := 54) hx hb dX9_isDumb_113 (by decide) ?_
              exact ih_9 (t + 1, 0) (show B 0 - (t + 1) < B 0 - t from by omega) ⟨(show (t + 1) ≤ B 0 ∧ 0 < 2 from ⟨by omega, by omega⟩), (show 0 = 1 → (m9 / 2 ^ k % 2 = 1 ∧ canS B (fewS B fw (andn (2 ^ B 0 - 1) wo)) k (t + 1)) from by intro z; first | omega | exact ⟨(hcn8 (by omega)).1, fun y hy => by (rcases Nat.lt_succ_iff_lt_or_eq.mp hy with y2 | y2); exact (hcn8 (by omega)).2 y y2; rw [y2]; first | exact Or.inl (by omega) | exact Or.inr (by omega)⟩), (show ¬ 0 = 1 → ¬ (m9 / 2 ^ k % 2 = 1 ∧ canS B (fewS B fw (andn (2 ^ B 0 - 1) wo)) k (B 0)) from by intro z; first | omega | exact hcn9 (by omega) | exact fun y => by (rcases y.2 t (by omega) with y2 | y2) <;> omega)⟩ _ _ _ (lv_sub hl [0, 1, 2, 3, 4, 5, 6] rfl) hP hD hS
            · refine lv_iconst (v := nI 1) hx hb dX9_isDumb_103 (by decide) ?_
              refine lv_goto (tgt := 108) hx hb dX9_isDumb_104 (by decide) ?_
              refine lv_istore (lv' := [(5, .int (nI 1)), (6, .int (nI t)), (4, .int (nI k)), (3, .int (nI du)), (0, .ref (b 0)), (1, .int (nI m9)), (2, .int (nI wo))]) hx hb dX9_isDumb_108 hl (by decide) rfl (fun ls hl => ?_)
              refine lv_iinc (v := (nI (t + 1))) (lv' := [(6, .int (nI (t + 1))), (5, .int (nI 1)), (4, .int (nI k)), (3, .int (nI du)), (0, .ref (b 0)), (1, .int (nI m9)), (2, .int (nI wo))]) hx hb dX9_isDumb_110 hl (k := 1) rfl (nI_add t 1) (by decide) rfl (fun ls hl => ?_)
              refine lv_goto (tgt := 54) hx hb dX9_isDumb_113 (by decide) ?_
              exact ih_9 (t + 1, 1) (show B 0 - (t + 1) < B 0 - t from by omega) ⟨(show (t + 1) ≤ B 0 ∧ 1 < 2 from ⟨by omega, by omega⟩), (show 1 = 1 → (m9 / 2 ^ k % 2 = 1 ∧ canS B (fewS B fw (andn (2 ^ B 0 - 1) wo)) k (t + 1)) from by intro z; first | omega | exact ⟨(hcn8 (by omega)).1, fun y hy => by (rcases Nat.lt_succ_iff_lt_or_eq.mp hy with y2 | y2); exact (hcn8 (by omega)).2 y y2; rw [y2]; first | exact Or.inl (by omega) | exact Or.inr (by omega)⟩), (show ¬ 1 = 1 → ¬ (m9 / 2 ^ k % 2 = 1 ∧ canS B (fewS B fw (andn (2 ^ B 0 - 1) wo)) k (B 0)) from by intro z; first | omega | exact hcn9 (by omega) | exact fun y => by (rcases y.2 t (by omega) with y2 | y2) <;> omega)⟩ _ _ _ (lv_sub hl [0, 1, 2, 3, 4, 5, 6] rfl) hP hD hS
    · refine lv_iconst (v := nI 1) hx hb dX9_isDumb_44 (by decide) ?_
      refine lv_goto (tgt := 49) hx hb dX9_isDumb_45 (by decide) ?_
      refine lv_istore (lv' := [(5, .int (nI 1)), (4, .int (nI k)), (3, .int (nI du)), (0, .ref (b 0)), (1, .int (nI m9)), (2, .int (nI wo))]) hx hb dX9_isDumb_49 hl (by decide) rfl (fun ls hl => ?_)
      refine lv_iconst (v := nI 0) hx hb dX9_isDumb_51 (by decide) ?_
      refine lv_istore (lv' := [(6, .int (nI 0)), (5, .int (nI 1)), (4, .int (nI k)), (3, .int (nI du)), (0, .ref (b 0)), (1, .int (nI m9)), (2, .int (nI wo))]) hx hb dX9_isDumb_52 hl (by decide) rfl (fun ls hl => ?_)
      refine wloop (σ := (Nat) × (Nat)) (fun | (t, cn) => B 0 - t) (fun | (t, cn) => (t ≤ B 0 ∧ cn < 2) ∧ (cn = 1 → (m9 / 2 ^ k % 2 = 1 ∧ canS B (fewS B fw (andn (2 ^ B 0 - 1) wo)) k t)) ∧ (¬ cn = 1 → ¬ (m9 / 2 ^ k % 2 = 1 ∧ canS B (fewS B fw (andn (2 ^ B 0 - 1) wo)) k (B 0)))) (fun | (t, cn) => [(6, .int (nI t)), (5, .int (nI cn)), (4, .int (nI k)), (3, .int (nI du)), (0, .ref (b 0)), (1, .int (nI m9)), (2, .int (nI wo))]) (fun | (t, cn) => [(b 0, .inr (7, [.ref (b 1), .ref (b 2), .ref (b 3), .ref (b 4), .ref (b 5), .int (nI qu), .long ab, .long bl, .ref (b 6), .int (nI tyd), .int (nI at0), .int (nI sta), .int (nI tok), .int (nI val), .ref (b 7), .int (nI man), .ref (b 8), .ref (b 9), .ref (b 10), .ref (b 11), .ref (b 12), .ref (b 13), .ref (b 14)])), (b 1, .inl (tA 0, 212, .inl (nF B))), (b 8, .inl (tA 0, 8, .inl (nF (fewS B fw (andn ((2 ^ (B 0)) - 1) wo)))))]) (0, 1) ⟨(show 0 ≤ B 0 ∧ 1 < 2 from ⟨by omega, by omega⟩), (show 1 = 1 → (m9 / 2 ^ k % 2 = 1 ∧ canS B (fewS B fw (andn (2 ^ B 0 - 1) wo)) k 0) from by intro z; first | omega | exact ⟨by omega, fun y hy => by omega⟩), (show ¬ 1 = 1 → ¬ (m9 / 2 ^ k % 2 = 1 ∧ canS B (fewS B fw (andn (2 ^ B 0 - 1) wo)) k (B 0)) from by intro z; first | omega | exact fun y => by omega)⟩ (lv_sub hl [0, 1, 2, 3, 4, 5, 6] rfl) hP hD hS ?_
      rintro ⟨t, cn⟩ ⟨ht, hcn8, hcn9⟩ ih_19 ls H locs hl hP hD hS
      have hl : lv_has ls 7 [(6, .int (nI t)), (5, .int (nI cn)), (4, .int (nI k)), (3, .int (nI du)), (0, .ref (b 0)), (1, .int (nI m9)), (2, .int (nI wo))] := hl
      have hP : va_P G vwCl [(b 0, .inr (7, [.ref (b 1), .ref (b 2), .ref (b 3), .ref (b 4), .ref (b 5), .int (nI qu), .long ab, .long bl, .ref (b 6), .int (nI tyd), .int (nI at0), .int (nI sta), .int (nI tok), .int (nI val), .ref (b 7), .int (nI man), .ref (b 8), .ref (b 9), .ref (b 10), .ref (b 11), .ref (b 12), .ref (b 13), .ref (b 14)])), (b 1, .inl (tA 0, 212, .inl (nF B))), (b 8, .inl (tA 0, 8, .inl (nF (fewS B fw (andn ((2 ^ (B 0)) - 1) wo)))))] H := hP
      have hD : va_D A [(b 0, .inr (7, [.ref (b 1), .ref (b 2), .ref (b 3), .ref (b 4), .ref (b 5), .int (nI qu), .long ab, .long bl, .ref (b 6), .int (nI tyd), .int (nI at0), .int (nI sta), .int (nI tok), .int (nI val), .ref (b 7), .int (nI man), .ref (b 8), .ref (b 9), .ref (b 10), .ref (b 11), .ref (b 12), .ref (b 13), .ref (b 14)])), (b 1, .inl (tA 0, 212, .inl (nF B))), (b 8, .inl (tA 0, 8, .inl (nF (fewS B fw (andn ((2 ^ (B 0)) - 1) wo)))))] := hD
      have ht : t ≤ B 0 ∧ cn < 2 := ht
      have hcn8 : cn = 1 → (m9 / 2 ^ k % 2 = 1 ∧ canS B (fewS B fw (andn (2 ^ B 0 - 1) wo)) k t) := hcn8
      have hcn9 : ¬ cn = 1 → ¬ (m9 / 2 ^ k % 2 = 1 ∧ canS B (fewS B fw (andn (2 ^ B 0 - 1) wo)) k (B 0)) := hcn9
      refine lv_iload hx hb dX9_isDumb_54 (lv_at hl 0 rfl) ?_
      refine lv_aload_n hx hb dX9_isDumb_56 rfl (lv_at hl 4 rfl) ?_
      refine va_get (D := G) (ci := 7) (C := RX9) (T := TX9) (N := 23) hx hb hts iX9 hown hKK.1 hP 0 rfl rfl 0 (by decide) f7 (fun _ h9 => h9) rfl dX9_isDumb_57 ?_
      refine lv_iconst (v := nI 0) hx hb dX9_isDumb_60 (by decide) ?_
      refine nv_iald (i := 0) hx hb hKK.1 hP 1 0 rfl rfl (by omega) (by decide) dX9_isDumb_61 ?_
      have b_20 := hbB 0
      refine nv_icmp_ge (tgt := 116) (by omega) (by omega) hx hb dX9_isDumb_62 (by decide) (fun c_21 => ?_) (fun c_21 => ?_)
      · have hcn : cn = 1 → (m9 / 2 ^ k % 2 = 1 ∧ canS B (fewS B fw (andn (2 ^ B 0 - 1) wo)) k (B 0)) := by have e9 : t = B 0 := (by omega); rw [e9] at hcn8; exact hcn8
        refine lv_iload_n hx hb dX9_isDumb_116 rfl (lv_at hl 3 rfl) ?_
        refine nv_if_eq (tgt := 129) (by omega) hx hb dX9_isDumb_117 (by decide) (fun c_22 => ?_) (fun c_22 => ?_)
        · refine lv_iconst (v := nI 0) hx hb dX9_isDumb_129 (by decide) ?_
          refine lv_istore_n (lv' := [(3, .int (nI 0)), (6, .int (nI t)), (5, .int (nI cn)), (4, .int (nI k)), (0, .ref (b 0)), (1, .int (nI m9)), (2, .int (nI wo))]) hx hb dX9_isDumb_130 rfl hl (by decide) rfl (fun ls hl => ?_)
          refine lv_iinc (v := (nI (k + 1))) (lv' := [(4, .int (nI (k + 1))), (3, .int (nI 0)), (6, .int (nI t)), (5, .int (nI cn)), (0, .ref (b 0)), (1, .int (nI m9)), (2, .int (nI wo))]) hx hb dX9_isDumb_131 hl (k := 3) rfl (nI_add k 1) (by decide) rfl (fun ls hl => ?_)
          refine lv_goto (tgt := 23) hx hb dX9_isDumb_134 (by decide) ?_
          exact ih_5 (k + 1, 0) (show B 5 - (k + 1) < B 5 - k from by omega) ⟨(show (k + 1) ≤ B 5 ∧ 0 < 2 from ⟨by omega, by omega⟩), (show 0 = 1 → dumbP B (fewS B fw (andn (2 ^ B 0 - 1) wo)) m9 (k + 1) from by intro z; first | omega | exact fun y hy => by (rcases Nat.lt_succ_iff_lt_or_eq.mp hy with y2 | y2); exact hdu (by omega) y y2; rw [y2]; exact fun y3 => absurd y3 (by first | exact hcn9 (by omega) | exact fun y4 => by omega)), (show ¬ 0 = 1 → ¬ dumbP B (fewS B fw (andn (2 ^ B 0 - 1) wo)) m9 (B 5) from by intro z; first | omega | exact hdu9 (by omega) | exact fun y => y k (by omega) (hcn (by omega)))⟩ _ _ _ (lv_sub hl [0, 1, 4, 5, 6] rfl) hP hD hS
        · refine lv_iload hx hb dX9_isDumb_120 (lv_at hl 1 rfl) ?_
          refine nv_if_ne (tgt := 129) (by omega) hx hb dX9_isDumb_122 (by decide) (fun c_23 => ?_) (fun c_23 => ?_)
          · refine lv_iconst (v := nI 0) hx hb dX9_isDumb_129 (by decide) ?_
            refine lv_istore_n (lv' := [(3, .int (nI 0)), (6, .int (nI t)), (5, .int (nI cn)), (4, .int (nI k)), (0, .ref (b 0)), (1, .int (nI m9)), (2, .int (nI wo))]) hx hb dX9_isDumb_130 rfl hl (by decide) rfl (fun ls hl => ?_)
            refine lv_iinc (v := (nI (k + 1))) (lv' := [(4, .int (nI (k + 1))), (3, .int (nI 0)), (6, .int (nI t)), (5, .int (nI cn)), (0, .ref (b 0)), (1, .int (nI m9)), (2, .int (nI wo))]) hx hb dX9_isDumb_131 hl (k := 3) rfl (nI_add k 1) (by decide) rfl (fun ls hl => ?_)
            refine lv_goto (tgt := 23) hx hb dX9_isDumb_134 (by decide) ?_
            exact ih_5 (k + 1, 0) (show B 5 - (k + 1) < B 5 - k from by omega) ⟨(show (k + 1) ≤ B 5 ∧ 0 < 2 from ⟨by omega, by omega⟩), (show 0 = 1 → dumbP B (fewS B fw (andn (2 ^ B 0 - 1) wo)) m9 (k + 1) from by intro z; first | omega | exact fun y hy => by (rcases Nat.lt_succ_iff_lt_or_eq.mp hy with y2 | y2); exact hdu (by omega) y y2; rw [y2]; exact fun y3 => absurd y3 (by first | exact hcn9 (by omega) | exact fun y4 => by omega)), (show ¬ 0 = 1 → ¬ dumbP B (fewS B fw (andn (2 ^ B 0 - 1) wo)) m9 (B 5) from by intro z; first | omega | exact hdu9 (by omega) | exact fun y => y k (by omega) (hcn (by omega)))⟩ _ _ _ (lv_sub hl [0, 1, 4, 5, 6] rfl) hP hD hS
          · refine lv_iconst (v := nI 1) hx hb dX9_isDumb_125 (by decide) ?_
            refine lv_goto (tgt := 130) hx hb dX9_isDumb_126 (by decide) ?_
            refine lv_istore_n (lv' := [(3, .int (nI 1)), (6, .int (nI t)), (5, .int (nI cn)), (4, .int (nI k)), (0, .ref (b 0)), (1, .int (nI m9)), (2, .int (nI wo))]) hx hb dX9_isDumb_130 rfl hl (by decide) rfl (fun ls hl => ?_)
            refine lv_iinc (v := (nI (k + 1))) (lv' := [(4, .int (nI (k + 1))), (3, .int (nI 1)), (6, .int (nI t)), (5, .int (nI cn)), (0, .ref (b 0)), (1, .int (nI m9)), (2, .int (nI wo))]) hx hb dX9_isDumb_131 hl (k := 3) rfl (nI_add k 1) (by decide) rfl (fun ls hl => ?_)
            refine lv_goto (tgt := 23) hx hb dX9_isDumb_134 (by decide) ?_
            exact ih_5 (k + 1, 1) (show B 5 - (k + 1) < B 5 - k from by omega) ⟨(show (k + 1) ≤ B 5 ∧ 1 < 2 from ⟨by omega, by omega⟩), (show 1 = 1 → dumbP B (fewS B fw (andn (2 ^ B 0 - 1) wo)) m9 (k + 1) from by intro z; first | omega | exact fun y hy => by (rcases Nat.lt_succ_iff_lt_or_eq.mp hy with y2 | y2); exact hdu (by omega) y y2; rw [y2]; exact fun y3 => absurd y3 (by first | exact hcn9 (by omega) | exact fun y4 => by omega)), (show ¬ 1 = 1 → ¬ dumbP B (fewS B fw (andn (2 ^ B 0 - 1) wo)) m9 (B 5) from by intro z; first | omega | exact hdu9 (by omega) | exact fun y => y k (by omega) (hcn (by omega)))⟩ _ _ _ (lv_sub hl [0, 1, 4, 5, 6] rfl) hP hD hS
      · refine lv_iload hx hb dX9_isDumb_65 (lv_at hl 1 rfl) ?_
        refine nv_if_eq (tgt := 107) (by omega) hx hb dX9_isDumb_67 (by decide) (fun c_24 => ?_) (fun c_24 => ?_)
        · refine lv_iconst (v := nI 0) hx hb dX9_isDumb_107 (by decide) ?_
          refine lv_istore (lv' := [(5, .int (nI 0)), (6, .int (nI t)), (4, .int (nI k)), (3, .int (nI du)), (0, .ref (b 0)), (1, .int (nI m9)), (2, .int (nI wo))]) hx hb dX9_isDumb_108 hl (by decide) rfl (fun ls hl => ?_)
          refine lv_iinc (v := (nI (t + 1))) (lv' := [(6, .int (nI (t + 1))), (5, .int (nI 0)), (4, .int (nI k)), (3, .int (nI du)), (0, .ref (b 0)), (1, .int (nI m9)), (2, .int (nI wo))]) hx hb dX9_isDumb_110 hl (k := 1) rfl (nI_add t 1) (by decide) rfl (fun ls hl => ?_)
          refine lv_goto (tgt := 54) hx hb dX9_isDumb_113 (by decide) ?_
          exact ih_19 (t + 1, 0) (show B 0 - (t + 1) < B 0 - t from by omega) ⟨(show (t + 1) ≤ B 0 ∧ 0 < 2 from ⟨by omega, by omega⟩), (show 0 = 1 → (m9 / 2 ^ k % 2 = 1 ∧ canS B (fewS B fw (andn (2 ^ B 0 - 1) wo)) k (t + 1)) from by intro z; first | omega | exact ⟨(hcn8 (by omega)).1, fun y hy => by (rcases Nat.lt_succ_iff_lt_or_eq.mp hy with y2 | y2); exact (hcn8 (by omega)).2 y y2; rw [y2]; first | exact Or.inl (by omega) | exact Or.inr (by omega)⟩), (show ¬ 0 = 1 → ¬ (m9 / 2 ^ k % 2 = 1 ∧ canS B (fewS B fw (andn (2 ^ B 0 - 1) wo)) k (B 0)) from by intro z; first | omega | exact hcn9 (by omega) | exact fun y => by (rcases y.2 t (by omega) with y2 | y2) <;> omega)⟩ _ _ _ (lv_sub hl [0, 1, 2, 3, 4, 5, 6] rfl) hP hD hS
        · refine lv_aload_n hx hb dX9_isDumb_70 rfl (lv_at hl 4 rfl) ?_
          refine va_get (D := G) (ci := 7) (C := RX9) (T := TX9) (N := 23) hx hb hts iX9 hown hKK.1 hP 0 rfl rfl 0 (by decide) f7 (fun _ h9 => h9) rfl dX9_isDumb_71 ?_
          refine lv_sipush (v := nI 196) hx hb dX9_isDumb_74 (by decide +kernel) ?_
          refine lv_iconst (v := nI 2) hx hb dX9_isDumb_77 (by decide) ?_
          refine lv_iload hx hb dX9_isDumb_78 (lv_at hl 2 rfl) ?_
          refine nv_imul hx hb dX9_isDumb_80 ?_
          refine nv_iadd hx hb dX9_isDumb_81 ?_
          refine nv_iald (i := 196 + (2 * k)) hx hb hKK.1 hP 1 0 rfl rfl (by omega) (by decide) dX9_isDumb_82 ?_
          have b_25 := hbB (196 + (2 * k))
          refine lv_iload hx hb dX9_isDumb_83 (lv_at hl 0 rfl) ?_
          refine nv_ishr (by omega) (by omega) hx hb dX9_isDumb_85 ?_
          refine lv_iconst (v := nI 1) hx hb dX9_isDumb_86 (by decide) ?_
          refine nv_iand1 hx hb dX9_isDumb_87 ?_
          refine nv_if_eq (tgt := 103) (by omega) hx hb dX9_isDumb_88 (by decide) (fun c_26 => ?_) (fun c_26 => ?_)
          · refine lv_iconst (v := nI 1) hx hb dX9_isDumb_103 (by decide) ?_
            refine lv_goto (tgt := 108) hx hb dX9_isDumb_104 (by decide) ?_
            refine lv_istore (lv' := [(5, .int (nI 1)), (6, .int (nI t)), (4, .int (nI k)), (3, .int (nI du)), (0, .ref (b 0)), (1, .int (nI m9)), (2, .int (nI wo))]) hx hb dX9_isDumb_108 hl (by decide) rfl (fun ls hl => ?_)
            refine lv_iinc (v := (nI (t + 1))) (lv' := [(6, .int (nI (t + 1))), (5, .int (nI 1)), (4, .int (nI k)), (3, .int (nI du)), (0, .ref (b 0)), (1, .int (nI m9)), (2, .int (nI wo))]) hx hb dX9_isDumb_110 hl (k := 1) rfl (nI_add t 1) (by decide) rfl (fun ls hl => ?_)
            refine lv_goto (tgt := 54) hx hb dX9_isDumb_113 (by decide) ?_
            exact ih_19 (t + 1, 1) (show B 0 - (t + 1) < B 0 - t from by omega) ⟨(show (t + 1) ≤ B 0 ∧ 1 < 2 from ⟨by omega, by omega⟩), (show 1 = 1 → (m9 / 2 ^ k % 2 = 1 ∧ canS B (fewS B fw (andn (2 ^ B 0 - 1) wo)) k (t + 1)) from by intro z; first | omega | exact ⟨(hcn8 (by omega)).1, fun y hy => by (rcases Nat.lt_succ_iff_lt_or_eq.mp hy with y2 | y2); exact (hcn8 (by omega)).2 y y2; rw [y2]; first | exact Or.inl (by omega) | exact Or.inr (by omega)⟩), (show ¬ 1 = 1 → ¬ (m9 / 2 ^ k % 2 = 1 ∧ canS B (fewS B fw (andn (2 ^ B 0 - 1) wo)) k (B 0)) from by intro z; first | omega | exact hcn9 (by omega) | exact fun y => by (rcases y.2 t (by omega) with y2 | y2) <;> omega)⟩ _ _ _ (lv_sub hl [0, 1, 2, 3, 4, 5, 6] rfl) hP hD hS
          · refine lv_aload_n hx hb dX9_isDumb_91 rfl (lv_at hl 4 rfl) ?_
            refine va_get (D := G) (ci := 7) (C := RX9) (T := TX9) (N := 23) hx hb hts iX9 hown hKK.1 hP 0 rfl rfl 16 (by decide) f32 (fun _ h9 => h9) rfl dX9_isDumb_92 ?_
            refine lv_iload hx hb dX9_isDumb_95 (lv_at hl 0 rfl) ?_
            refine nv_iald (i := t) hx hb hKK.1 hP 2 0 rfl rfl (by omega) (by decide) dX9_isDumb_97 ?_
            have b_27 := hb8 t
            refine lv_ldc (v := 100000) hx hb hown f183 dX9_isDumb_98 ?_
            refine nv_top (y := 100000) (by decide +kernel) ?_
            refine nv_icmp_ge (tgt := 107) (by omega) (by omega) hx hb dX9_isDumb_100 (by decide) (fun c_28 => ?_) (fun c_28 => ?_)
            · refine lv_iconst (v := nI 0) hx hb dX9_isDumb_107 (by decide) ?_
              refine lv_istore (lv' := [(5, .int (nI 0)), (6, .int (nI t)), (4, .int (nI k)), (3, .int (nI du)), (0, .ref (b 0)), (1, .int (nI m9)), (2, .int (nI wo))]) hx hb dX9_isDumb_108 hl (by decide) rfl (fun ls hl => ?_)
              refine lv_iinc (v := (nI (t + 1))) (lv' := [(6, .int (nI (t + 1))), (5, .int (nI 0)), (4, .int (nI k)), (3, .int (nI du)), (0, .ref (b 0)), (1, .int (nI m9)), (2, .int (nI wo))]) hx hb dX9_isDumb_110 hl (k := 1) rfl (nI_add t 1) (by decide) rfl (fun ls hl => ?_)
              refine lv_goto (tgt := 54) hx hb dX9_isDumb_113 (by decide) ?_
              exact ih_19 (t + 1, 0) (show B 0 - (t + 1) < B 0 - t from by omega) ⟨(show (t + 1) ≤ B 0 ∧ 0 < 2 from ⟨by omega, by omega⟩), (show 0 = 1 → (m9 / 2 ^ k % 2 = 1 ∧ canS B (fewS B fw (andn (2 ^ B 0 - 1) wo)) k (t + 1)) from by intro z; first | omega | exact ⟨(hcn8 (by omega)).1, fun y hy => by (rcases Nat.lt_succ_iff_lt_or_eq.mp hy with y2 | y2); exact (hcn8 (by omega)).2 y y2; rw [y2]; first | exact Or.inl (by omega) | exact Or.inr (by omega)⟩), (show ¬ 0 = 1 → ¬ (m9 / 2 ^ k % 2 = 1 ∧ canS B (fewS B fw (andn (2 ^ B 0 - 1) wo)) k (B 0)) from by intro z; first | omega | exact hcn9 (by omega) | exact fun y => by (rcases y.2 t (by omega) with y2 | y2) <;> omega)⟩ _ _ _ (lv_sub hl [0, 1, 2, 3, 4, 5, 6] rfl) hP hD hS
            · refine lv_iconst (v := nI 1) hx hb dX9_isDumb_103 (by decide) ?_
              refine lv_goto (tgt := 108) hx hb dX9_isDumb_104 (by decide) ?_
              refine lv_istore (lv' := [(5, .int (nI 1)), (6, .int (nI t)), (4, .int (nI k)), (3, .int (nI du)), (0, .ref (b 0)), (1, .int (nI m9)), (2, .int (nI wo))]) hx hb dX9_isDumb_108 hl (by decide) rfl (fun ls hl => ?_)
              refine lv_iinc (v := (nI (t + 1))) (lv' := [(6, .int (nI (t + 1))), (5, .int (nI 1)), (4, .int (nI k)), (3, .int (nI du)), (0, .ref (b 0)), (1, .int (nI m9)), (2, .int (nI wo))]) hx hb dX9_isDumb_110 hl (k := 1) rfl (nI_add t 1) (by decide) rfl (fun ls hl => ?_)
              refine lv_goto (tgt := 54) hx hb dX9_isDumb_113 (by decide) ?_
              exact ih_19 (t + 1, 1) (show B 0 - (t + 1) < B 0 - t from by omega) ⟨(show (t + 1) ≤ B 0 ∧ 1 < 2 from ⟨by omega, by omega⟩), (show 1 = 1 → (m9 / 2 ^ k % 2 = 1 ∧ canS B (fewS B fw (andn (2 ^ B 0 - 1) wo)) k (t + 1)) from by intro z; first | omega | exact ⟨(hcn8 (by omega)).1, fun y hy => by (rcases Nat.lt_succ_iff_lt_or_eq.mp hy with y2 | y2); exact (hcn8 (by omega)).2 y y2; rw [y2]; first | exact Or.inl (by omega) | exact Or.inr (by omega)⟩), (show ¬ 1 = 1 → ¬ (m9 / 2 ^ k % 2 = 1 ∧ canS B (fewS B fw (andn (2 ^ B 0 - 1) wo)) k (B 0)) from by intro z; first | omega | exact hcn9 (by omega) | exact fun y => by (rcases y.2 t (by omega) with y2 | y2) <;> omega)⟩ _ _ _ (lv_sub hl [0, 1, 2, 3, 4, 5, 6] rfl) hP hD hS

def dumbS (B fw : Nat → Nat) (m9 x : Nat) : Prop := dumbP B (fewS B fw (andn (2 ^ B 0 - 1) x)) m9 (B 5)
theorem fewS_ext (B : Nat → Nat) (x : Nat) (fw fw2 : Nat → Nat) : ∀ t, t < B 0 → initM fw x (B 0) t = initM fw2 x (B 0) t := by
  have key : ∀ n t, t < n → initM fw x n t = initM fw2 x n t := by
    intro n
    induction n with
    | zero => intro t h; omega
    | succ n ih =>
      intro t h
      rw [initM_s, initM_s]
      by_cases e : t = n
      · subst e; rw [updN_s, updN_s]
      · rw [updN_n _ _ e, updN_n _ _ e]; exact ih t (by omega)
  exact key _
theorem rndF_ext {B : Nat → Nat} (hw : WB B) {F F2 : Nat → Nat} (h : ∀ t, t < B 0 → F t = F2 t) : ∀ n, n ≤ B 3 → ∀ t, t < B 0 → rndF B F n t = rndF B F2 n t := by
  obtain ⟨-, -, -, -, -, hv3, -⟩ := hw
  intro n
  induction n with
  | zero => intro _; exact h
  | succ n ih =>
    intro hn
    have ih := ih (by omega)
    have hv := hv3 n (by omega)
    rw [rndF_s, rndF_s]
    unfold stepM
    rw [ih _ hv.1, ih _ hv.2.1, ih _ hv.2.2.1]
    split
    · intro t ht
      by_cases e : t = B (102 + 3 * n)
      · rw [e, updN_s, updN_s]
      · rw [updN_n _ _ e, updN_n _ _ e]; exact ih t ht
    · exact ih
theorem fewM_ext {B : Nat → Nat} (hw : WB B) {F F2 : Nat → Nat} (h : ∀ t, t < B 0 → F t = F2 t) : ∀ n t, t < B 0 → fewM B F n t = fewM B F2 n t := by
  intro n
  induction n with
  | zero => exact h
  | succ n ih => rw [fewM_s, fewM_s]; exact rndF_ext hw ih _ (Nat.le_refl _)
theorem fewS_ext2 {B : Nat → Nat} (hw : WB B) (x : Nat) (fw fw2 : Nat → Nat) : ∀ t, t < B 0 → fewS B fw x t = fewS B fw2 x t := fewM_ext hw (fewS_ext B x fw fw2) 9
theorem dumbS_ext {B : Nat → Nat} (hw : WB B) (m9 x : Nat) (fw fw2 : Nat → Nat) : dumbS B fw m9 x ↔ dumbS B fw2 m9 x := by
  have h := fewS_ext2 hw (andn (2 ^ B 0 - 1) x) fw fw2
  unfold dumbS dumbP canS
  constructor
  · intro q k hk y; exact q k hk ⟨y.1, fun t ht => by rw [h t ht]; exact y.2 t ht⟩
  · intro q k hk y; exact q k hk ⟨y.1, fun t ht => by rw [← h t ht]; exact y.2 t ht⟩
def z0 : Nat → Nat := fun _ => 0

set_option maxHeartbeats 4000000 in
set_option maxRecDepth 100000 in
theorem c_X9_dumb (l : Launch) (G : va_G) (tA : Nat → ClassId) (b : Nat → Nat) (qu : Nat) (ab : Int64) (bl : Int64) (tyd : Nat) (at0 : Nat) (sta : Nat) (tok : Nat) (val : Nat) (man : Nat) (B : Nat → Nat) (fw : Nat → Nat) (rf : Nat → Int32) (me : Int32) (ME : Int) (hWB : WB B) (hqu : qu < 2) (hbf : ∀ j, fw j < 1048576) (hme : me.toInt = ME) : CtI l yX9_dumb wsX9_dumb ({ frames := 2, cells := 0, slots := 0, locals := 51 }) G tA [.ref (b 0), .int me] ([(b 0, .inr (7, [.ref (b 1), .ref (b 2), .ref (b 3), .ref (b 4), .ref (b 5), .int (nI qu), .long ab, .long bl, .ref (b 6), .int (nI tyd), .int (nI at0), .int (nI sta), .int (nI tok), .int (nI val), .ref (b 7), .int (nI man), .ref (b 8), .ref (b 9), .ref (b 10), .ref (b 11), .ref (b 12), .ref (b 13), .ref (b 14)])), (b 1, .inl (tA 0, 212, .inl (nF B))), (b 8, .inl (tA 0, 8, .inl (nF fw))), (b 5, .inl (tA 0, 3, .inl rf))]) (fun (r : Int32) (u : (Nat → Nat)) => r = (if 0 ≤ ME ∧ ME < ((2 ^ B 5 : Nat) : Int) then (nI (leastM (dumbS B z0 ME.toNat) (2 ^ B 0))) + (-1) else -2) ∧ (∀ j, u j < 1048576)) (fun (u : (Nat → Nat)) => [(b 0, .inr (7, [.ref (b 1), .ref (b 2), .ref (b 3), .ref (b 4), .ref (b 5), .int (nI qu), .long ab, .long bl, .ref (b 6), .int (nI tyd), .int (nI at0), .int (nI sta), .int (nI tok), .int (nI val), .ref (b 7), .int (nI man), .ref (b 8), .ref (b 9), .ref (b 10), .ref (b 11), .ref (b 12), .ref (b 13), .ref (b 14)])), (b 1, .inl (tA 0, 212, .inl (nF B))), (b 8, .inl (tA 0, 8, .inl (nF u))), (b 5, .inl (tA 0, 3, .inl (if 0 ≤ ME ∧ ME < ((2 ^ B 5 : Nat) : Int) then rf else bump qu rf 0)))]) 0 0 := by
  refine enterI (cc := cX9_dumb) (maxL := 5) (ret := (some .int)) (by decide) rfl (Nat.le_of_ble_eq_true rfl) ?_
  intro p0 e0 s m args below meth c0_ A ls hx hb hml hr hts hown hlocks hin hKK hA hP hD hl hS
  have hown : s.vm.findClass RX9 = some m.cls := hown
  have hl : lv_has ls 5 [(0, .ref (b 0)), (1, .int me)] := hl
  have f7 := hts (Cond.fieldLink RX9 7 "LentTermsModel" "book" "[I") (List.mem_of_getElem? (i := 1) rfl)
  have iX9 : ∀ w ∈ wsX90, w ∈ wsX9_dumb := by decide +kernel
  obtain ⟨⟨hn0, hn1, hn2, hn3, hn4, hn5⟩, hbB, hv0, hv1, hv2, hv3, hv4, hv5, hv6, hv7⟩ := id hWB
  have h256 := p256 hn0
  have hp5 := p256 hn5
  refine lv_iload_n hx hb dX9_dumb_0 rfl (lv_at hl 1 rfl) ?_
  refine lv_i2l hx hb dX9_dumb_1 rfl ?_
  refine lv_lconst (v := (nI 0).toInt64) hx hb dX9_dumb_2 (by decide +kernel) ?_
  refine lv_iconst (v := nI 1) hx hb dX9_dumb_3 (by decide) ?_
  refine lv_aload_n hx hb dX9_dumb_4 rfl (lv_at hl 0 rfl) ?_
  refine va_get (D := G) (ci := 7) (C := RX9) (T := TX9) (N := 23) hx hb hts iX9 hown hKK.1 hP 0 rfl rfl 0 (by decide) f7 (fun _ h9 => h9) rfl dX9_dumb_5 ?_
  refine lv_iconst (v := nI 5) hx hb dX9_dumb_8 (by decide) ?_
  refine nv_iald (i := 5) hx hb hKK.1 hP 1 0 rfl rfl (by omega) (by decide) dX9_dumb_9 ?_
  have b_1 := hbB 5
  refine nv_shl1 (by omega) hx hb dX9_dumb_10 ?_
  refine lv_iconst (v := nI 1) hx hb dX9_dumb_11 (by decide) ?_
  refine lv_isub hx hb dX9_dumb_12 ?_
  refine lv_i2l hx hb dX9_dumb_13 rfl ?_
  refine roI hP hD hS hA [] rfl (runS (As := [.long me.toInt64, .long ((nI 0).toInt64), .long (((nI (2 ^ (B 5))) - (nI 1)).toInt64)]) (rest := []) (isC := []) ⟨hx, hb, hml, hown, hts⟩ hKK hP hD rfl (by decide) (c_X9_is l G tA me ME (nI 0) (0 : Int) ((nI (2 ^ (B 5))) - (nI 1)) (((2 ^ (B 5) : Nat) : Int) - ((1 : Nat) : Int)) hme rfl (pk_sub_toInt (by omega) (by omega)) _) (va_cwS 3 hts gX9_dumb_X9_is rfl rfl rfl (by decide +kernel) ⟨Nat.le_of_ble_eq_true rfl, Nat.le_of_ble_eq_true rfl⟩) rfl rfl hl.1 rfl (lv_room (Nat.le_of_ble_eq_true rfl)) dX9_dumb_14 ⟨Nat.le_of_ble_eq_true rfl, Nat.le_of_ble_eq_true rfl⟩) (fun _ => rfl) (fun r_2 u_3 H locs q_4 hP hS => ?_)
  rcases q_4 with ⟨rfl, p_5⟩ | ⟨rfl, p_5⟩
  · have p_5 : (0 : Int) ≤ ME ∧ ME ≤ (((2 ^ (B 5) : Nat) : Int) - ((1 : Nat) : Int)) := p_5
    refine nv_if_ne (tgt := 25) (by omega) hx hb dX9_dumb_17 (by decide) (fun _ => ?_) (fun h => absurd h (by omega))
    have hok : 0 ≤ ME ∧ ME < ((2 ^ B 5 : Nat) : Int) := by omega
    obtain ⟨men, h_men, rfl⟩ := toN (x := me) (by omega)
    have t_men : (nI men).toInt = (men : Int) := nI_toInt h_men
    have z_men : ME.toNat = men := by omega
    refine lv_iconst (v := (-1)) hx hb dX9_dumb_25 (by decide) ?_
    refine nv_topx (y := (nI 0) + (-1)) (by decide) ?_
    refine lv_istore_n (lv' := [(2, .int ((nI 0) + (-1))), (0, .ref (b 0)), (1, .int (nI men))]) hx hb dX9_dumb_26 rfl hl (by decide) rfl (fun ls hl => ?_)
    refine lv_iconst (v := nI 0) hx hb dX9_dumb_27 (by decide) ?_
    refine lv_istore_n (lv' := [(3, .int (nI 0)), (2, .int ((nI 0) + (-1))), (0, .ref (b 0)), (1, .int (nI men))]) hx hb dX9_dumb_28 rfl hl (by decide) rfl (fun ls hl => ?_)
    refine wloop (σ := (Nat) × (Nat) × (Nat → Nat)) (fun | (x, fd, fwx) => 2 ^ B 0 - x) (fun | (x, fd, fwx) => (x ≤ 2 ^ B 0) ∧ (fd = leastM (dumbS B z0 men) x) ∧ (fd ≤ x) ∧ (∀ j, fwx j < 1048576)) (fun | (x, fd, fwx) => [(3, .int (nI x)), (2, .int ((nI fd) + (-1))), (0, .ref (b 0)), (1, .int (nI men))]) (fun | (x, fd, fwx) => [(b 0, .inr (7, [.ref (b 1), .ref (b 2), .ref (b 3), .ref (b 4), .ref (b 5), .int (nI qu), .long ab, .long bl, .ref (b 6), .int (nI tyd), .int (nI at0), .int (nI sta), .int (nI tok), .int (nI val), .ref (b 7), .int (nI man), .ref (b 8), .ref (b 9), .ref (b 10), .ref (b 11), .ref (b 12), .ref (b 13), .ref (b 14)])), (b 1, .inl (tA 0, 212, .inl (nF B))), (b 8, .inl (tA 0, 8, .inl (nF fwx))), (b 5, .inl (tA 0, 3, .inl rf))]) (0, 0, fw) ⟨(show 0 ≤ 2 ^ B 0 from by omega), (show 0 = leastM (dumbS B z0 men) 0 from rfl), (show 0 ≤ 0 from by omega), (show ∀ j, fw j < 1048576 from hbf)⟩ (lv_sub hl [0, 1, 2, 3] rfl) hP hD hS ?_
    rintro ⟨x, fd, fwx⟩ ⟨hx9, hfd, hfd2, hbx⟩ ih_7 ls H locs hl hP hD hS
    have hl : lv_has ls 5 [(3, .int (nI x)), (2, .int ((nI fd) + (-1))), (0, .ref (b 0)), (1, .int (nI men))] := hl
    have hP : va_P G vwCl [(b 0, .inr (7, [.ref (b 1), .ref (b 2), .ref (b 3), .ref (b 4), .ref (b 5), .int (nI qu), .long ab, .long bl, .ref (b 6), .int (nI tyd), .int (nI at0), .int (nI sta), .int (nI tok), .int (nI val), .ref (b 7), .int (nI man), .ref (b 8), .ref (b 9), .ref (b 10), .ref (b 11), .ref (b 12), .ref (b 13), .ref (b 14)])), (b 1, .inl (tA 0, 212, .inl (nF B))), (b 8, .inl (tA 0, 8, .inl (nF fwx))), (b 5, .inl (tA 0, 3, .inl rf))] H := hP
    have hD : va_D A [(b 0, .inr (7, [.ref (b 1), .ref (b 2), .ref (b 3), .ref (b 4), .ref (b 5), .int (nI qu), .long ab, .long bl, .ref (b 6), .int (nI tyd), .int (nI at0), .int (nI sta), .int (nI tok), .int (nI val), .ref (b 7), .int (nI man), .ref (b 8), .ref (b 9), .ref (b 10), .ref (b 11), .ref (b 12), .ref (b 13), .ref (b 14)])), (b 1, .inl (tA 0, 212, .inl (nF B))), (b 8, .inl (tA 0, 8, .inl (nF fwx))), (b 5, .inl (tA 0, 3, .inl rf))] := hD
    have hx9 : x ≤ 2 ^ B 0 := hx9
    have hfd : fd = leastM (dumbS B z0 men) x := hfd
    have hfd2 : fd ≤ x := hfd2
    have hbx : ∀ j, fwx j < 1048576 := hbx
    refine lv_iload_n hx hb dX9_dumb_29 rfl (lv_at hl 0 rfl) ?_
    refine lv_iconst (v := nI 1) hx hb dX9_dumb_30 (by decide) ?_
    refine lv_aload_n hx hb dX9_dumb_31 rfl (lv_at hl 2 rfl) ?_
    refine va_get (D := G) (ci := 7) (C := RX9) (T := TX9) (N := 23) hx hb hts iX9 hown hKK.1 hP 0 rfl rfl 0 (by decide) f7 (fun _ h9 => h9) rfl dX9_dumb_32 ?_
    refine lv_iconst (v := nI 0) hx hb dX9_dumb_35 (by decide) ?_
    refine nv_iald (i := 0) hx hb hKK.1 hP 1 0 rfl rfl (by omega) (by decide) dX9_dumb_36 ?_
    have b_8 := hbB 0
    refine nv_shl1 (by omega) hx hb dX9_dumb_37 ?_
    refine nv_icmp_ge (tgt := 90) (by omega) (by omega) hx hb dX9_dumb_38 (by decide) (fun c_9 => ?_) (fun c_9 => ?_)
    · refine lv_iload_n hx hb dX9_dumb_90 rfl (lv_at hl 1 rfl) ?_
      exact retI hx hb hr hlocks hS hP hD (fwx) (by rw [if_pos hok]) (⟨by rw [if_pos hok, hfd, z_men, show x = 2 ^ B 0 from by omega], hbx⟩) dX9_dumb_91
    · refine lv_iload_n hx hb dX9_dumb_41 rfl (lv_at hl 1 rfl) ?_
      refine lv_iconst (v := (-1)) hx hb dX9_dumb_42 (by decide) ?_
      refine zv_icmp_eq (tgt := 57) (X := ((fd : Nat) : Int) - 1) (Y := (-1 : Int)) (predZ (by omega)) rfl hx hb dX9_dumb_43 (by decide) (fun c_10 => ?_) (fun c_10 => ?_)
      · refine lv_iconst (v := nI 1) hx hb dX9_dumb_57 (by decide) ?_
        refine lv_goto (tgt := 62) hx hb dX9_dumb_58 (by decide) ?_
        refine lv_istore (lv' := [(4, .int (nI 1)), (3, .int (nI x)), (2, .int ((nI fd) + (-1))), (0, .ref (b 0)), (1, .int (nI men))]) hx hb dX9_dumb_62 hl (by decide) rfl (fun ls hl => ?_)
        refine lv_iload hx hb dX9_dumb_64 (lv_at hl 0 rfl) ?_
        refine nv_if_eq (tgt := 82) (by omega) hx hb dX9_dumb_66 (by decide) (fun h => absurd h (by omega)) (fun _ => ?_)
        refine lv_aload_n hx hb dX9_dumb_69 rfl (lv_at hl 3 rfl) ?_
        refine lv_iload_n hx hb dX9_dumb_70 rfl (lv_at hl 4 rfl) ?_
        refine lv_iload_n hx hb dX9_dumb_71 rfl (lv_at hl 1 rfl) ?_
        refine rwI hP hD hS hA [0, 1, 2] rfl (runV (As := [.int (nI men), .int (nI x)]) (rest := []) (isC := [0, 1, 2]) ⟨hx, hb, hml, hown, hts⟩ hKK hP hD rfl (by decide) (c_X9_isDumb l G tA b qu ab bl tyd at0 sta tok val man B fwx men x (hWB) (hbx) (by first | assumption | omega) (by first | assumption | omega) _) (cwV 2 hts gX9_dumb_X9_isDumb rfl rfl rfl (by decide +kernel) ⟨Nat.le_of_ble_eq_true rfl, Nat.le_of_ble_eq_true rfl⟩) rfl rfl rfl rfl hl.1 rfl (lv_room (Nat.le_of_ble_eq_true rfl)) dX9_dumb_72 ⟨Nat.le_of_ble_eq_true rfl, Nat.le_of_ble_eq_true rfl⟩) (fun (_ : Unit) => [(b 0, .inr (7, [.ref (b 1), .ref (b 2), .ref (b 3), .ref (b 4), .ref (b 5), .int (nI qu), .long ab, .long bl, .ref (b 6), .int (nI tyd), .int (nI at0), .int (nI sta), .int (nI tok), .int (nI val), .ref (b 7), .int (nI man), .ref (b 8), .ref (b 9), .ref (b 10), .ref (b 11), .ref (b 12), .ref (b 13), .ref (b 14)])), (b 1, .inl (tA 0, 212, .inl (nF B))), (b 8, .inl (tA 0, 8, .inl (nF (fewS B fwx (andn (2 ^ B 0 - 1) x))))), (b 5, .inl (tA 0, 3, .inl rf))]) (fun _ => rfl) (fun _ => rfl) (fun _ => rfl) (fun r_12 u_13 H locs q_14 hP hD hS => ?_)
        rcases q_14 with ⟨rfl, p_15⟩ | ⟨rfl, p_15⟩
        · have p_15 : dumbP B (fewS B fwx (andn (2 ^ B 0 - 1) x)) men (B 5) := p_15
          refine nv_if_eq (tgt := 82) (by omega) hx hb dX9_dumb_75 (by decide) (fun h => absurd h (by omega)) (fun _ => ?_)
          refine lv_iload_n hx hb dX9_dumb_78 rfl (lv_at hl 1 rfl) ?_
          refine lv_goto (tgt := 83) hx hb dX9_dumb_79 (by decide) ?_
          refine nv_topx (y := (nI (x + 1)) + (-1)) (pk_m1 x).symm ?_
          refine lv_istore_n (lv' := [(2, .int ((nI (x + 1)) + (-1))), (4, .int (nI 1)), (3, .int (nI x)), (0, .ref (b 0)), (1, .int (nI men))]) hx hb dX9_dumb_83 rfl hl (by decide) rfl (fun ls hl => ?_)
          refine lv_iinc (v := (nI (x + 1))) (lv' := [(3, .int (nI (x + 1))), (2, .int ((nI (x + 1)) + (-1))), (4, .int (nI 1)), (0, .ref (b 0)), (1, .int (nI men))]) hx hb dX9_dumb_84 hl (k := 2) rfl (nI_add x 1) (by decide) rfl (fun ls hl => ?_)
          refine lv_goto (tgt := 29) hx hb dX9_dumb_87 (by decide) ?_
          exact ih_7 (x + 1, (x + 1), fewS B fwx (andn (2 ^ B 0 - 1) x)) (show 2 ^ B 0 - (x + 1) < 2 ^ B 0 - x from by omega) ⟨(show (x + 1) ≤ 2 ^ B 0 from by omega), (show (x + 1) = leastM (dumbS B z0 men) (x + 1) from by rw [leastM_s, ← hfd]; first | rw [if_pos (pB_t.mpr ⟨by first | exact Or.inl (by omega) | exact Or.inr (by simp only [Nat.add_sub_cancel]; omega), (dumbS_ext hWB men x fwx z0).mp (by assumption)⟩)] | rw [if_neg (fun z => by (rcases (pB_t.mp z) with ⟨z1, z2⟩); have z3 := (dumbS_ext hWB men x fwx z0).mpr z2; first | contradiction | (rcases z1 with z1 | z1 <;> first | omega | (simp only [Nat.add_sub_cancel] at z1; omega)))]), (show (x + 1) ≤ (x + 1) from by omega), (show ∀ j, (fewS B fwx (andn (2 ^ B 0 - 1) x)) j < 1048576 from by first | exact hbx | exact fewS_lt hbx _)⟩ _ _ _ (lv_sub hl [0, 1, 3, 4] rfl) hP hD hS
        · have p_15 : ¬ (dumbP B (fewS B fwx (andn (2 ^ B 0 - 1) x)) men (B 5)) := p_15
          refine nv_if_eq (tgt := 82) (by omega) hx hb dX9_dumb_75 (by decide) (fun _ => ?_) (fun h => absurd h (by omega))
          refine lv_iload_n hx hb dX9_dumb_82 rfl (lv_at hl 2 rfl) ?_
          refine lv_istore_n (lv' := [(2, .int ((nI fd) + (-1))), (4, .int (nI 1)), (3, .int (nI x)), (0, .ref (b 0)), (1, .int (nI men))]) hx hb dX9_dumb_83 rfl hl (by decide) rfl (fun ls hl => ?_)
          refine lv_iinc (v := (nI (x + 1))) (lv' := [(3, .int (nI (x + 1))), (2, .int ((nI fd) + (-1))), (4, .int (nI 1)), (0, .ref (b 0)), (1, .int (nI men))]) hx hb dX9_dumb_84 hl (k := 2) rfl (nI_add x 1) (by decide) rfl (fun ls hl => ?_)
          refine lv_goto (tgt := 29) hx hb dX9_dumb_87 (by decide) ?_
          exact ih_7 (x + 1, fd, fewS B fwx (andn (2 ^ B 0 - 1) x)) (show 2 ^ B 0 - (x + 1) < 2 ^ B 0 - x from by omega) ⟨(show (x + 1) ≤ 2 ^ B 0 from by omega), (show fd = leastM (dumbS B z0 men) (x + 1) from by rw [leastM_s, ← hfd]; first | rw [if_pos (pB_t.mpr ⟨by first | exact Or.inl (by omega) | exact Or.inr (by simp only [Nat.add_sub_cancel]; omega), (dumbS_ext hWB men x fwx z0).mp (by assumption)⟩)] | rw [if_neg (fun z => by (rcases (pB_t.mp z) with ⟨z1, z2⟩); have z3 := (dumbS_ext hWB men x fwx z0).mpr z2; first | contradiction | (rcases z1 with z1 | z1 <;> first | omega | (simp only [Nat.add_sub_cancel] at z1; omega)))]), (show fd ≤ (x + 1) from by omega), (show ∀ j, (fewS B fwx (andn (2 ^ B 0 - 1) x)) j < 1048576 from by first | exact hbx | exact fewS_lt hbx _)⟩ _ _ _ (lv_sub hl [0, 1, 3, 4] rfl) hP hD hS
      · obtain ⟨f9, rfl⟩ : ∃ z, fd = z + 1 := ⟨fd - 1, by omega⟩
        have hl : lv_has ls 5 [(3, .int (nI x)), (2, .int (nI f9)), (0, .ref (b 0)), (1, .int (nI men))] := by rw [pk_m1] at hl; exact hl
        refine lv_iload_n hx hb dX9_dumb_46 rfl (lv_at hl 0 rfl) ?_
        refine roI hP hD hS hA [] rfl (runS (As := [.int (nI x)]) (rest := []) (isC := []) ⟨hx, hb, hml, hown, hts⟩ hKK hP hD rfl (by decide) (c_X9_bits l G tA x (by first | assumption | omega) _) (va_cwS 1 hts gX9_dumb_X9_bits rfl rfl rfl (by decide +kernel) ⟨Nat.le_of_ble_eq_true rfl, Nat.le_of_ble_eq_true rfl⟩) rfl rfl hl.1 rfl (lv_room (Nat.le_of_ble_eq_true rfl)) dX9_dumb_47 ⟨Nat.le_of_ble_eq_true rfl, Nat.le_of_ble_eq_true rfl⟩) (fun _ => rfl) (fun r_18 u_19 H locs q_20 hP hS => ?_)
        obtain ⟨rfl, e_21⟩ := q_20
        have e_21 : popM x 10 ≤ 10 := e_21
        refine lv_iload_n hx hb dX9_dumb_50 rfl (lv_at hl 1 rfl) ?_
        refine roI hP hD hS hA [] rfl (runS (As := [.int (nI f9)]) (rest := [.int (nI (popM x 10))]) (isC := []) ⟨hx, hb, hml, hown, hts⟩ hKK hP hD rfl (by decide) (c_X9_bits l G tA f9 (by first | assumption | omega) _) (va_cwS 1 hts gX9_dumb_X9_bits rfl rfl rfl (by decide +kernel) ⟨Nat.le_of_ble_eq_true rfl, Nat.le_of_ble_eq_true rfl⟩) rfl rfl hl.1 rfl (lv_room (Nat.le_of_ble_eq_true rfl)) dX9_dumb_51 ⟨Nat.le_of_ble_eq_true rfl, Nat.le_of_ble_eq_true rfl⟩) (fun _ => rfl) (fun r_22 u_23 H locs q_24 hP hS => ?_)
        obtain ⟨rfl, e_25⟩ := q_24
        have e_25 : popM f9 10 ≤ 10 := e_25
        refine nv_icmp_ge (tgt := 61) (by omega) (by omega) hx hb dX9_dumb_54 (by decide) (fun c_26 => ?_) (fun c_26 => ?_)
        · refine lv_iconst (v := nI 0) hx hb dX9_dumb_61 (by decide) ?_
          refine lv_istore (lv' := [(4, .int (nI 0)), (3, .int (nI x)), (2, .int (nI f9)), (0, .ref (b 0)), (1, .int (nI men))]) hx hb dX9_dumb_62 hl (by decide) rfl (fun ls hl => ?_)
          refine lv_iload hx hb dX9_dumb_64 (lv_at hl 0 rfl) ?_
          refine nv_if_eq (tgt := 82) (by omega) hx hb dX9_dumb_66 (by decide) (fun _ => ?_) (fun h => absurd h (by omega))
          refine lv_iload_n hx hb dX9_dumb_82 rfl (lv_at hl 2 rfl) ?_
          refine nv_topx (y := (nI (f9 + 1)) + (-1)) (pk_m1 f9).symm ?_
          refine lv_istore_n (lv' := [(2, .int ((nI (f9 + 1)) + (-1))), (4, .int (nI 0)), (3, .int (nI x)), (0, .ref (b 0)), (1, .int (nI men))]) hx hb dX9_dumb_83 rfl hl (by decide) rfl (fun ls hl => ?_)
          refine lv_iinc (v := (nI (x + 1))) (lv' := [(3, .int (nI (x + 1))), (2, .int ((nI (f9 + 1)) + (-1))), (4, .int (nI 0)), (0, .ref (b 0)), (1, .int (nI men))]) hx hb dX9_dumb_84 hl (k := 2) rfl (nI_add x 1) (by decide) rfl (fun ls hl => ?_)
          refine lv_goto (tgt := 29) hx hb dX9_dumb_87 (by decide) ?_
          exact ih_7 (x + 1, (f9 + 1), fwx) (show 2 ^ B 0 - (x + 1) < 2 ^ B 0 - x from by omega) ⟨(show (x + 1) ≤ 2 ^ B 0 from by omega), (show (f9 + 1) = leastM (dumbS B z0 men) (x + 1) from by rw [leastM_s, ← hfd]; first | rw [if_pos (pB_t.mpr ⟨by first | exact Or.inl (by omega) | exact Or.inr (by simp only [Nat.add_sub_cancel]; omega), (dumbS_ext hWB men x fwx z0).mp (by assumption)⟩)] | rw [if_neg (fun z => by (rcases (pB_t.mp z) with ⟨z1, z2⟩); have z3 := (dumbS_ext hWB men x fwx z0).mpr z2; first | contradiction | (rcases z1 with z1 | z1 <;> first | omega | (simp only [Nat.add_sub_cancel] at z1; omega)))]), (show (f9 + 1) ≤ (x + 1) from by omega), (show ∀ j, fwx j < 1048576 from by first | exact hbx | exact fewS_lt hbx _)⟩ _ _ _ (lv_sub hl [0, 1, 3, 4] rfl) hP hD hS
        · refine lv_iconst (v := nI 1) hx hb dX9_dumb_57 (by decide) ?_
          refine lv_goto (tgt := 62) hx hb dX9_dumb_58 (by decide) ?_
          refine lv_istore (lv' := [(4, .int (nI 1)), (3, .int (nI x)), (2, .int (nI f9)), (0, .ref (b 0)), (1, .int (nI men))]) hx hb dX9_dumb_62 hl (by decide) rfl (fun ls hl => ?_)
          refine lv_iload hx hb dX9_dumb_64 (lv_at hl 0 rfl) ?_
          refine nv_if_eq (tgt := 82) (by omega) hx hb dX9_dumb_66 (by decide) (fun h => absurd h (by omega)) (fun _ => ?_)
          refine lv_aload_n hx hb dX9_dumb_69 rfl (lv_at hl 3 rfl) ?_
          refine lv_iload_n hx hb dX9_dumb_70 rfl (lv_at hl 4 rfl) ?_
          refine lv_iload_n hx hb dX9_dumb_71 rfl (lv_at hl 1 rfl) ?_
          refine rwI hP hD hS hA [0, 1, 2] rfl (runV (As := [.int (nI men), .int (nI x)]) (rest := []) (isC := [0, 1, 2]) ⟨hx, hb, hml, hown, hts⟩ hKK hP hD rfl (by decide) (c_X9_isDumb l G tA b qu ab bl tyd at0 sta tok val man B fwx men x (hWB) (hbx) (by first | assumption | omega) (by first | assumption | omega) _) (cwV 2 hts gX9_dumb_X9_isDumb rfl rfl rfl (by decide +kernel) ⟨Nat.le_of_ble_eq_true rfl, Nat.le_of_ble_eq_true rfl⟩) rfl rfl rfl rfl hl.1 rfl (lv_room (Nat.le_of_ble_eq_true rfl)) dX9_dumb_72 ⟨Nat.le_of_ble_eq_true rfl, Nat.le_of_ble_eq_true rfl⟩) (fun (_ : Unit) => [(b 0, .inr (7, [.ref (b 1), .ref (b 2), .ref (b 3), .ref (b 4), .ref (b 5), .int (nI qu), .long ab, .long bl, .ref (b 6), .int (nI tyd), .int (nI at0), .int (nI sta), .int (nI tok), .int (nI val), .ref (b 7), .int (nI man), .ref (b 8), .ref (b 9), .ref (b 10), .ref (b 11), .ref (b 12), .ref (b 13), .ref (b 14)])), (b 1, .inl (tA 0, 212, .inl (nF B))), (b 8, .inl (tA 0, 8, .inl (nF (fewS B fwx (andn (2 ^ B 0 - 1) x))))), (b 5, .inl (tA 0, 3, .inl rf))]) (fun _ => rfl) (fun _ => rfl) (fun _ => rfl) (fun r_29 u_30 H locs q_31 hP hD hS => ?_)
          rcases q_31 with ⟨rfl, p_32⟩ | ⟨rfl, p_32⟩
          · have p_32 : dumbP B (fewS B fwx (andn (2 ^ B 0 - 1) x)) men (B 5) := p_32
            refine nv_if_eq (tgt := 82) (by omega) hx hb dX9_dumb_75 (by decide) (fun h => absurd h (by omega)) (fun _ => ?_)
            refine lv_iload_n hx hb dX9_dumb_78 rfl (lv_at hl 1 rfl) ?_
            refine lv_goto (tgt := 83) hx hb dX9_dumb_79 (by decide) ?_
            refine nv_topx (y := (nI (x + 1)) + (-1)) (pk_m1 x).symm ?_
            refine lv_istore_n (lv' := [(2, .int ((nI (x + 1)) + (-1))), (4, .int (nI 1)), (3, .int (nI x)), (0, .ref (b 0)), (1, .int (nI men))]) hx hb dX9_dumb_83 rfl hl (by decide) rfl (fun ls hl => ?_)
            refine lv_iinc (v := (nI (x + 1))) (lv' := [(3, .int (nI (x + 1))), (2, .int ((nI (x + 1)) + (-1))), (4, .int (nI 1)), (0, .ref (b 0)), (1, .int (nI men))]) hx hb dX9_dumb_84 hl (k := 2) rfl (nI_add x 1) (by decide) rfl (fun ls hl => ?_)
            refine lv_goto (tgt := 29) hx hb dX9_dumb_87 (by decide) ?_
            exact ih_7 (x + 1, (x + 1), fewS B fwx (andn (2 ^ B 0 - 1) x)) (show 2 ^ B 0 - (x + 1) < 2 ^ B 0 - x from by omega) ⟨(show (x + 1) ≤ 2 ^ B 0 from by omega), (show (x + 1) = leastM (dumbS B z0 men) (x + 1) from by rw [leastM_s, ← hfd]; first | rw [if_pos (pB_t.mpr ⟨by first | exact Or.inl (by omega) | exact Or.inr (by simp only [Nat.add_sub_cancel]; omega), (dumbS_ext hWB men x fwx z0).mp (by assumption)⟩)] | rw [if_neg (fun z => by (rcases (pB_t.mp z) with ⟨z1, z2⟩); have z3 := (dumbS_ext hWB men x fwx z0).mpr z2; first | contradiction | (rcases z1 with z1 | z1 <;> first | omega | (simp only [Nat.add_sub_cancel] at z1; omega)))]), (show (x + 1) ≤ (x + 1) from by omega), (show ∀ j, (fewS B fwx (andn (2 ^ B 0 - 1) x)) j < 1048576 from by first | exact hbx | exact fewS_lt hbx _)⟩ _ _ _ (lv_sub hl [0, 1, 3, 4] rfl) hP hD hS
          · have p_32 : ¬ (dumbP B (fewS B fwx (andn (2 ^ B 0 - 1) x)) men (B 5)) := p_32
            refine nv_if_eq (tgt := 82) (by omega) hx hb dX9_dumb_75 (by decide) (fun _ => ?_) (fun h => absurd h (by omega))
            refine lv_iload_n hx hb dX9_dumb_82 rfl (lv_at hl 2 rfl) ?_
            refine nv_topx (y := (nI (f9 + 1)) + (-1)) (pk_m1 f9).symm ?_
            refine lv_istore_n (lv' := [(2, .int ((nI (f9 + 1)) + (-1))), (4, .int (nI 1)), (3, .int (nI x)), (0, .ref (b 0)), (1, .int (nI men))]) hx hb dX9_dumb_83 rfl hl (by decide) rfl (fun ls hl => ?_)
            refine lv_iinc (v := (nI (x + 1))) (lv' := [(3, .int (nI (x + 1))), (2, .int ((nI (f9 + 1)) + (-1))), (4, .int (nI 1)), (0, .ref (b 0)), (1, .int (nI men))]) hx hb dX9_dumb_84 hl (k := 2) rfl (nI_add x 1) (by decide) rfl (fun ls hl => ?_)
            refine lv_goto (tgt := 29) hx hb dX9_dumb_87 (by decide) ?_
            exact ih_7 (x + 1, (f9 + 1), fewS B fwx (andn (2 ^ B 0 - 1) x)) (show 2 ^ B 0 - (x + 1) < 2 ^ B 0 - x from by omega) ⟨(show (x + 1) ≤ 2 ^ B 0 from by omega), (show (f9 + 1) = leastM (dumbS B z0 men) (x + 1) from by rw [leastM_s, ← hfd]; first | rw [if_pos (pB_t.mpr ⟨by first | exact Or.inl (by omega) | exact Or.inr (by simp only [Nat.add_sub_cancel]; omega), (dumbS_ext hWB men x fwx z0).mp (by assumption)⟩)] | rw [if_neg (fun z => by (rcases (pB_t.mp z) with ⟨z1, z2⟩); have z3 := (dumbS_ext hWB men x fwx z0).mpr z2; first | contradiction | (rcases z1 with z1 | z1 <;> first | omega | (simp only [Nat.add_sub_cancel] at z1; omega)))]), (show (f9 + 1) ≤ (x + 1) from by omega), (show ∀ j, (fewS B fwx (andn (2 ^ B 0 - 1) x)) j < 1048576 from by first | exact hbx | exact fewS_lt hbx _)⟩ _ _ _ (lv_sub hl [0, 1, 3, 4] rfl) hP hD hS
  · have p_5 : ¬ ((0 : Int) ≤ ME ∧ ME ≤ (((2 ^ (B 5) : Nat) : Int) - ((1 : Nat) : Int))) := p_5
    refine nv_if_ne (tgt := 25) (by omega) hx hb dX9_dumb_17 (by decide) (fun h => absurd h (by omega)) (fun _ => ?_)
    refine lv_aload_n hx hb dX9_dumb_20 rfl (lv_at hl 0 rfl) ?_
    refine rwI hP hD hS hA [0, 3] rfl (runV (As := []) (rest := []) (isC := [0, 3]) ⟨hx, hb, hml, hown, hts⟩ hKK hP hD rfl (by decide) (c_X9_bad l G tA b qu ab bl tyd at0 sta tok val man rf (hqu) _) (cwV 0 hts gX9_dumb_X9_bad rfl rfl rfl (by decide +kernel) ⟨Nat.le_of_ble_eq_true rfl, Nat.le_of_ble_eq_true rfl⟩) rfl rfl rfl rfl hl.1 rfl (lv_room (Nat.le_of_ble_eq_true rfl)) dX9_dumb_21 ⟨Nat.le_of_ble_eq_true rfl, Nat.le_of_ble_eq_true rfl⟩) (fun (_ : Unit) => [(b 0, .inr (7, [.ref (b 1), .ref (b 2), .ref (b 3), .ref (b 4), .ref (b 5), .int (nI qu), .long ab, .long bl, .ref (b 6), .int (nI tyd), .int (nI at0), .int (nI sta), .int (nI tok), .int (nI val), .ref (b 7), .int (nI man), .ref (b 8), .ref (b 9), .ref (b 10), .ref (b 11), .ref (b 12), .ref (b 13), .ref (b 14)])), (b 1, .inl (tA 0, 212, .inl (nF B))), (b 8, .inl (tA 0, 8, .inl (nF fw))), (b 5, .inl (tA 0, 3, .inl (bump qu rf 0)))]) (fun _ => rfl) (fun _ => rfl) (fun _ => rfl) (fun r_36 u_37 H locs q_38 hP hD hS => ?_)
    subst q_38
    exact retI hx hb hr hlocks hS hP hD (fw) (by rw [if_neg (by omega)]) (⟨by rw [if_neg (by omega)], hbf⟩) dX9_dumb_24
