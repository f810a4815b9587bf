/-! the model: buy, deal, odds -/
def upB (B : Nat → Nat) (t : Nat) : Nat → Nat := updN B (8 + 3 * t + 1) (B (8 + 3 * t + 1) + 1)
def growB (B : Nat → Nat) (t : Nat) : Prop := oneB (B (8 + 3 * t)) = false ∧ B (8 + 3 * t + 1) < 3
theorem updN_back (g : Nat → Nat) (k : Nat) : updN (updN g k (g k + 1)) k (g k + 1 - 1) = g := by
  funext j
  simp only [updN]
  split
  · rename_i h; rw [h, Nat.add_sub_cancel]
  · rfl
theorem WB_up {B : Nat → Nat} (hw : WB B) {t : Nat} (ht : t < B 0) (hc : B (8 + 3 * t + 1) < 3) : WB (upB B t) := by
  obtain ⟨h0, hb, hv0, hv1, hv2, hv3, hv4, hv5, hv6, hv7⟩ := hw
  have t8 : t < 8 := by omega
  have e : ∀ j, j < 8 ∨ 32 ≤ j → upB B t j = B j := fun j hj => updN_n _ _ (by omega)
  have e0 := e 0 (by omega)
  have e1 := e 1 (by omega)
  have e2 := e 2 (by omega)
  have e3 := e 3 (by omega)
  have e4 := e 4 (by omega)
  have e5 := e 5 (by omega)
  have hb9 := hb (8 + 3 * t + 1)
  refine ⟨by rw [e0, e1, e2, e3, e4, e5]; exact h0, updN_lt hb _ (by omega), ?_, ?_, ?_, ?_, ?_, ?_, ?_, ?_⟩
  · intro q hq
    rw [e0] at hq
    have := hv0 q hq
    by_cases h : q = t
    · subst h
      have x0 : upB B q (8 + 3 * q) = B (8 + 3 * q) := updN_n _ _ (by omega)
      have x1 : upB B q (8 + 3 * q + 1) = B (8 + 3 * q + 1) + 1 := updN_s _ _ _
      have x2 : upB B q (8 + 3 * q + 2) = B (8 + 3 * q + 2) := updN_n _ _ (by omega)
      rw [x0, x1, x2]; omega
    · have x0 : upB B t (8 + 3 * q) = B (8 + 3 * q) := updN_n _ _ (by omega)
      have x1 : upB B t (8 + 3 * q + 1) = B (8 + 3 * q + 1) := updN_n _ _ (by omega)
      have x2 : upB B t (8 + 3 * q + 2) = B (8 + 3 * q + 2) := updN_n _ _ (by omega)
      rw [x0, x1, x2]; exact this
  · intro q hq
    rw [e1] at hq
    rw [e (32 + 4 * q) (by omega), e (32 + 4 * q + 1) (by omega), e (32 + 4 * q + 2) (by omega), e (32 + 4 * q + 3) (by omega), e0]; exact hv1 q hq
  · intro q hq
    rw [e2] at hq
    rw [e (72 + 3 * q) (by omega), e (72 + 3 * q + 1) (by omega), e (72 + 3 * q + 2) (by omega), e0]; exact hv2 q hq
  · intro q hq
    rw [e3] at hq
    rw [e (102 + 3 * q) (by omega), e (102 + 3 * q + 1) (by omega), e (102 + 3 * q + 2) (by omega), e0]; exact hv3 q hq
  · intro q hq
    rw [e4] at hq
    rw [e (126 + 4 * q) (by omega), e (126 + 4 * q + 1) (by omega), e (126 + 4 * q + 2) (by omega), e (126 + 4 * q + 3) (by omega), e0]; exact hv4 q hq
  · intro q hq
    rw [e5] at hq
    rw [e (196 + 2 * q) (by omega), e (196 + 2 * q + 1) (by omega), e0]; exact hv5 q hq
  · intro q hq
    rw [e (146 + q) (by omega), e (151 + q) (by omega), e0]; exact hv6 q hq
  · intro q u hq hu
    rw [e (156 + 8 * q + u) (by omega)]; exact hv7 q u hq hu
/-- most (shifted), found (shifted), best, hours -/
noncomputable def buyT (B be h : Nat → Nat) (n : Nat) : Nat × Nat × (Nat → Nat) × (Nat → Nat) := it (fun t (x : Nat × Nat × (Nat → Nat) × (Nat → Nat)) => if pB (growB B t) = true then (if x.1 < (plS (upB B t) x.2.2.1 x.2.2.2).1 then ((plS (upB B t) x.2.2.1 x.2.2.2).1, t + 1, (plS (upB B t) x.2.2.1 x.2.2.2).2.1, (plS (upB B t) x.2.2.1 x.2.2.2).2.2) else (x.1, x.2.1, (plS (upB B t) x.2.2.1 x.2.2.2).2.1, (plS (upB B t) x.2.2.1 x.2.2.2).2.2)) else x) n ((plS B be h).1, 0, (plS B be h).2.1, (plS B be h).2.2)
noncomputable def buyS (B be h : Nat → Nat) : Nat × Nat × (Nat → Nat) × (Nat → Nat) := buyT B be h (B 0)
theorem buyT_s (B be h : Nat → Nat) (n : Nat) : buyT B be h (n + 1) = (fun (x : Nat × Nat × (Nat → Nat) × (Nat → Nat)) => if pB (growB B n) = true then (if x.1 < (plS (upB B n) x.2.2.1 x.2.2.2).1 then ((plS (upB B n) x.2.2.1 x.2.2.2).1, n + 1, (plS (upB B n) x.2.2.1 x.2.2.2).2.1, (plS (upB B n) x.2.2.1 x.2.2.2).2.2) else (x.1, x.2.1, (plS (upB B n) x.2.2.1 x.2.2.2).2.1, (plS (upB B n) x.2.2.1 x.2.2.2).2.2)) else x) (buyT B be h n) := rfl
theorem buyT_1 {B be h b2 h2 b3 h3 : Nat → Nat} {n pm fd qa : Nat} (e : (pm, fd, b2, h2) = buyT B be h n) (hg : growB B n) (eq : (qa, b3, h3) = plS (upB B n) b2 h2) (hl : pm < qa) : (qa, n + 1, b3, h3) = buyT B be h (n + 1) := by
  rw [buyT_s, ← e]
  dsimp only
  rw [← eq, if_pos (pB_t.mpr hg), if_pos hl]
theorem buyT_2 {B be h b2 h2 b3 h3 : Nat → Nat} {n pm fd qa : Nat} (e : (pm, fd, b2, h2) = buyT B be h n) (hg : growB B n) (eq : (qa, b3, h3) = plS (upB B n) b2 h2) (hl : ¬ pm < qa) : (pm, fd, b3, h3) = buyT B be h (n + 1) := by
  rw [buyT_s, ← e]
  dsimp only
  rw [← eq, if_pos (pB_t.mpr hg), if_neg hl]
theorem buyT_3 {B be h b2 h2 : Nat → Nat} {n pm fd : Nat} (e : (pm, fd, b2, h2) = buyT B be h n) (hg : ¬ growB B n) : (pm, fd, b2, h2) = buyT B be h (n + 1) := by
  rw [buyT_s, ← e]
  dsimp only
  rw [if_neg (fun z => hg (pB_t.mp z))]

set_option maxHeartbeats 4000000 in
set_option maxRecDepth 100000 in
theorem c_X9_buy (l : Launch) (G : va_G) (tA : Nat → ClassId) (b : Nat → Nat) (qu : Nat) (ab : Int64) (bl : Int64) (tyd : Nat) (at0 : Nat) (sta : Nat) (tok : Nat) (val : Nat) (man : Nat) (B : Nat → Nat) (hrs : Nat → Nat) (be : Nat → Nat) (hWB : WB B) (hbh : ∀ j, hrs j < 1048576) (hbb : ∀ j, be j < 1048576) : CtI l yX9_buy wsX9_buy ({ frames := 3, cells := 0, slots := 0, locals := 77 }) G tA [.ref (b 0)] ([(b 0, .inr (7, [.ref (b 1), .ref (b 2), .ref (b 3), .ref (b 4), .ref (b 5), .int (nI qu), .long ab, .long bl, .ref (b 6), .int (nI tyd), .int (nI at0), .int (nI sta), .int (nI tok), .int (nI val), .ref (b 7), .int (nI man), .ref (b 8), .ref (b 9), .ref (b 10), .ref (b 11), .ref (b 12), .ref (b 13), .ref (b 14)])), (b 1, .inl (tA 0, 212, .inl (nF B))), (b 11, .inl (tA 0, 5, .inl (nF hrs))), (b 12, .inl (tA 0, 5, .inl (nF be)))]) (fun (r : Int32) (_ : Unit) => r = (nI (buyS B be hrs).2.1) + (-1)) (fun (_ : Unit) => [(b 0, .inr (7, [.ref (b 1), .ref (b 2), .ref (b 3), .ref (b 4), .ref (b 5), .int (nI qu), .long ab, .long bl, .ref (b 6), .int (nI tyd), .int (nI at0), .int (nI sta), .int (nI tok), .int (nI val), .ref (b 7), .int (nI man), .ref (b 8), .ref (b 9), .ref (b 10), .ref (b 11), .ref (b 12), .ref (b 13), .ref (b 14)])), (b 1, .inl (tA 0, 212, .inl (nF B))), (b 11, .inl (tA 0, 5, .inl (nF ((buyS B be hrs).2.2.2)))), (b 12, .inl (tA 0, 5, .inl (nF ((buyS B be hrs).2.2.1))))]) 0 0 := by
  refine enterI (cc := cX9_buy) (maxL := 7) (ret := (some .int)) (by decide) rfl (Nat.le_of_ble_eq_true rfl) ?_
  intro p0 e0 s m args below meth c0_ A ls hx hb hml hr hts hown hlocks hin hKK hA hP hD hl hS
  have hown : s.vm.findClass RX9 = some m.cls := hown
  have hl : lv_has ls 7 [(0, .ref (b 0))] := hl
  have f7 := hts (Cond.fieldLink RX9 7 "LentTermsModel" "book" "[I") (List.mem_of_getElem? (i := 1) rfl)
  have iX9 : ∀ w ∈ wsX90, w ∈ wsX9_buy := by decide +kernel
  obtain ⟨⟨hn0, hn1, hn2, hn3, hn4, hn5⟩, hbB, hv0, hv1, hv2, hv3, hv4, hv5, hv6, hv7⟩ := id hWB
  have h256 := p256 hn0
  refine lv_aload_n hx hb dX9_buy_0 rfl (lv_at hl 0 rfl) ?_
  refine rwI hP hD hS hA [0, 1, 2, 3] rfl (runV (As := []) (rest := []) (isC := [0, 1, 2, 3]) ⟨hx, hb, hml, hown, hts⟩ hKK hP hD rfl (by decide) (c_X9_plans l G tA b qu ab bl tyd at0 sta tok val man B hrs be (hWB) (hbh) (hbb) _) (cwV 0 hts gX9_buy_X9_plans rfl rfl rfl (by decide +kernel) ⟨Nat.le_of_ble_eq_true rfl, Nat.le_of_ble_eq_true rfl⟩) rfl rfl rfl rfl hl.1 rfl (lv_room (Nat.le_of_ble_eq_true rfl)) dX9_buy_1 ⟨Nat.le_of_ble_eq_true rfl, Nat.le_of_ble_eq_true rfl⟩) (fun (u : (Nat) × (Nat → Nat) × (Nat → Nat)) => [(b 0, .inr (7, [.ref (b 1), .ref (b 2), .ref (b 3), .ref (b 4), .ref (b 5), .int (nI qu), .long ab, .long bl, .ref (b 6), .int (nI tyd), .int (nI at0), .int (nI sta), .int (nI tok), .int (nI val), .ref (b 7), .int (nI man), .ref (b 8), .ref (b 9), .ref (b 10), .ref (b 11), .ref (b 12), .ref (b 13), .ref (b 14)])), (b 1, .inl (tA 0, 212, .inl (nF B))), (b 11, .inl (tA 0, 5, .inl (nF (u.2.2)))), (b 12, .inl (tA 0, 5, .inl (nF (u.2.1))))]) (fun _ => rfl) (fun _ => rfl) (fun _ => rfl) (fun r_1 u_2 H locs q_3 hP hD hS => ?_)
  obtain ⟨qb, b9_4, h9_5⟩ := u_2
  have hP : va_P G vwCl [(b 0, .inr (7, [.ref (b 1), .ref (b 2), .ref (b 3), .ref (b 4), .ref (b 5), .int (nI qu), .long ab, .long bl, .ref (b 6), .int (nI tyd), .int (nI at0), .int (nI sta), .int (nI tok), .int (nI val), .ref (b 7), .int (nI man), .ref (b 8), .ref (b 9), .ref (b 10), .ref (b 11), .ref (b 12), .ref (b 13), .ref (b 14)])), (b 1, .inl (tA 0, 212, .inl (nF B))), (b 11, .inl (tA 0, 5, .inl (nF h9_5))), (b 12, .inl (tA 0, 5, .inl (nF b9_4)))] H := hP
  have hD : va_D A [(b 0, .inr (7, [.ref (b 1), .ref (b 2), .ref (b 3), .ref (b 4), .ref (b 5), .int (nI qu), .long ab, .long bl, .ref (b 6), .int (nI tyd), .int (nI at0), .int (nI sta), .int (nI tok), .int (nI val), .ref (b 7), .int (nI man), .ref (b 8), .ref (b 9), .ref (b 10), .ref (b 11), .ref (b 12), .ref (b 13), .ref (b 14)])), (b 1, .inl (tA 0, 212, .inl (nF B))), (b 11, .inl (tA 0, 5, .inl (nF h9_5))), (b 12, .inl (tA 0, 5, .inl (nF b9_4)))] := hD
  obtain ⟨rfl, hpl0, e_6, e_7, e_8⟩ := q_3
  have hpl0 : (qb, b9_4, h9_5) = plS B be hrs := hpl0
  have e_6 : qb ≤ 6 := e_6
  have e_7 : ∀ j, b9_4 j < 1048576 := e_7
  have e_8 : ∀ j, h9_5 j < 1048576 := e_8
  refine lv_istore_n (lv' := [(1, .int ((nI qb) + (-1))), (0, .ref (b 0))]) hx hb dX9_buy_4 rfl hl (by decide) rfl (fun ls hl => ?_)
  refine lv_iconst (v := (-1)) hx hb dX9_buy_5 (by decide) ?_
  refine nv_topx (y := (nI 0) + (-1)) (by decide) ?_
  refine lv_istore_n (lv' := [(2, .int ((nI 0) + (-1))), (1, .int ((nI qb) + (-1))), (0, .ref (b 0))]) hx hb dX9_buy_6 rfl hl (by decide) rfl (fun ls hl => ?_)
  refine lv_iconst (v := nI 0) hx hb dX9_buy_7 (by decide) ?_
  refine lv_istore_n (lv' := [(3, .int (nI 0)), (2, .int ((nI 0) + (-1))), (1, .int ((nI qb) + (-1))), (0, .ref (b 0))]) hx hb dX9_buy_8 rfl hl (by decide) rfl (fun ls hl => ?_)
  refine wloop (σ := (Nat) × (Nat) × (Nat) × (Nat → Nat) × (Nat → Nat)) (fun | (t, pm, fd, b2, h2) => B 0 - t) (fun | (t, pm, fd, b2, h2) => (t ≤ B 0) ∧ ((pm, fd, b2, h2) = buyT B be hrs t) ∧ (pm ≤ 6 ∧ fd ≤ t) ∧ (∀ j, b2 j < 1048576) ∧ (∀ j, h2 j < 1048576)) (fun | (t, pm, fd, b2, h2) => [(3, .int (nI t)), (2, .int ((nI fd) + (-1))), (1, .int ((nI pm) + (-1))), (0, .ref (b 0))]) (fun | (t, pm, fd, b2, h2) => [(b 0, .inr (7, [.ref (b 1), .ref (b 2), .ref (b 3), .ref (b 4), .ref (b 5), .int (nI qu), .long ab, .long bl, .ref (b 6), .int (nI tyd), .int (nI at0), .int (nI sta), .int (nI tok), .int (nI val), .ref (b 7), .int (nI man), .ref (b 8), .ref (b 9), .ref (b 10), .ref (b 11), .ref (b 12), .ref (b 13), .ref (b 14)])), (b 1, .inl (tA 0, 212, .inl (nF B))), (b 11, .inl (tA 0, 5, .inl (nF h2))), (b 12, .inl (tA 0, 5, .inl (nF b2)))]) (0, qb, 0, b9_4, h9_5) ⟨(show 0 ≤ B 0 from by omega), (show (qb, 0, b9_4, h9_5) = buyT B be hrs 0 from by show _ = ((plS B be hrs).1, 0, (plS B be hrs).2.1, (plS B be hrs).2.2); rw [← hpl0]), (show qb ≤ 6 ∧ 0 ≤ 0 from ⟨by omega, Nat.le_refl _⟩), (show ∀ j, b9_4 j < 1048576 from by assumption), (show ∀ j, h9_5 j < 1048576 from by assumption)⟩ (lv_sub hl [0, 1, 2, 3] rfl) hP hD hS ?_
  rintro ⟨t, pm, fd, b2, h2⟩ ⟨ht, hby, hpm, hb2, hh2⟩ ih_9 ls H locs hl hP hD hS
  have hl : lv_has ls 7 [(3, .int (nI t)), (2, .int ((nI fd) + (-1))), (1, .int ((nI pm) + (-1))), (0, .ref (b 0))] := hl
  have hP : va_P G vwCl [(b 0, .inr (7, [.ref (b 1), .ref (b 2), .ref (b 3), .ref (b 4), .ref (b 5), .int (nI qu), .long ab, .long bl, .ref (b 6), .int (nI tyd), .int (nI at0), .int (nI sta), .int (nI tok), .int (nI val), .ref (b 7), .int (nI man), .ref (b 8), .ref (b 9), .ref (b 10), .ref (b 11), .ref (b 12), .ref (b 13), .ref (b 14)])), (b 1, .inl (tA 0, 212, .inl (nF B))), (b 11, .inl (tA 0, 5, .inl (nF h2))), (b 12, .inl (tA 0, 5, .inl (nF b2)))] H := hP
  have hD : va_D A [(b 0, .inr (7, [.ref (b 1), .ref (b 2), .ref (b 3), .ref (b 4), .ref (b 5), .int (nI qu), .long ab, .long bl, .ref (b 6), .int (nI tyd), .int (nI at0), .int (nI sta), .int (nI tok), .int (nI val), .ref (b 7), .int (nI man), .ref (b 8), .ref (b 9), .ref (b 10), .ref (b 11), .ref (b 12), .ref (b 13), .ref (b 14)])), (b 1, .inl (tA 0, 212, .inl (nF B))), (b 11, .inl (tA 0, 5, .inl (nF h2))), (b 12, .inl (tA 0, 5, .inl (nF b2)))] := hD
  have ht : t ≤ B 0 := ht
  have hby : (pm, fd, b2, h2) = buyT B be hrs t := hby
  have hpm : pm ≤ 6 ∧ fd ≤ t := hpm
  have hb2 : ∀ j, b2 j < 1048576 := hb2
  have hh2 : ∀ j, h2 j < 1048576 := hh2
  refine lv_iload_n hx hb dX9_buy_9 rfl (lv_at hl 0 rfl) ?_
  refine lv_aload_n hx hb dX9_buy_10 rfl (lv_at hl 3 rfl) ?_
  refine va_get (D := G) (ci := 7) (C := RX9) (T := TX9) (N := 23) hx hb hts iX9 hown hKK.1 hP 0 rfl rfl 0 (by decide) f7 (fun _ h9 => h9) rfl dX9_buy_11 ?_
  refine lv_iconst (v := nI 0) hx hb dX9_buy_14 (by decide) ?_
  refine nv_iald (i := 0) hx hb hKK.1 hP 1 0 rfl rfl (by omega) (by decide) dX9_buy_15 ?_
  have b_10 := hbB 0
  refine nv_icmp_ge (tgt := 150) (by omega) (by omega) hx hb dX9_buy_16 (by decide) (fun c_11 => ?_) (fun c_11 => ?_)
  · have hby1 : buyS B be hrs = (pm, fd, b2, h2) := by unfold buyS; rw [← show t = B 0 from (by omega), ← hby]
    refine lv_iload_n hx hb dX9_buy_150 rfl (lv_at hl 1 rfl) ?_
    exact retI hx hb hr hlocks hS hP hD () (by rw [hby1]) (by rw [hby1]) dX9_buy_151
  · refine lv_aload_n hx hb dX9_buy_19 rfl (lv_at hl 3 rfl) ?_
    refine va_get (D := G) (ci := 7) (C := RX9) (T := TX9) (N := 23) hx hb hts iX9 hown hKK.1 hP 0 rfl rfl 0 (by decide) f7 (fun _ h9 => h9) rfl dX9_buy_20 ?_
    refine lv_bipush (v := nI 8) hx hb dX9_buy_23 (by decide +kernel) ?_
    refine lv_iconst (v := nI 3) hx hb dX9_buy_25 (by decide) ?_
    refine lv_iload_n hx hb dX9_buy_26 rfl (lv_at hl 0 rfl) ?_
    refine nv_imul hx hb dX9_buy_27 ?_
    refine nv_iadd hx hb dX9_buy_28 ?_
    refine nv_iald (i := 8 + (3 * t)) hx hb hKK.1 hP 1 0 rfl rfl (by omega) (by decide) dX9_buy_29 ?_
    have b_12 := hbB (8 + (3 * t))
    refine lv_istore (lv' := [(4, .int (nI (B (8 + (3 * t))))), (3, .int (nI t)), (2, .int ((nI fd) + (-1))), (1, .int ((nI pm) + (-1))), (0, .ref (b 0))]) hx hb dX9_buy_30 hl (by decide) rfl (fun ls hl => ?_)
    refine lv_iload hx hb dX9_buy_32 (lv_at hl 0 rfl) ?_
    refine lv_iconst (v := nI 2) hx hb dX9_buy_34 (by decide) ?_
    refine nv_icmp_eq (tgt := 71) (by omega) (by omega) hx hb dX9_buy_35 (by decide) (fun c_13 => ?_) (fun c_13 => ?_)
    · refine lv_iconst (v := nI 0) hx hb dX9_buy_71 (by decide) ?_
      refine lv_istore (lv' := [(5, .int (nI 0)), (4, .int (nI (B (8 + (3 * t))))), (3, .int (nI t)), (2, .int ((nI fd) + (-1))), (1, .int ((nI pm) + (-1))), (0, .ref (b 0))]) hx hb dX9_buy_72 hl (by decide) rfl (fun ls hl => ?_)
      refine lv_iload hx hb dX9_buy_74 (lv_at hl 0 rfl) ?_
      refine nv_if_eq (tgt := 144) (by omega) hx hb dX9_buy_76 (by decide) (fun _ => ?_) (fun h => absurd h (by omega))
      refine lv_iinc (v := (nI (t + 1))) (lv' := [(3, .int (nI (t + 1))), (5, .int (nI 0)), (4, .int (nI (B (8 + (3 * t))))), (2, .int ((nI fd) + (-1))), (1, .int ((nI pm) + (-1))), (0, .ref (b 0))]) hx hb dX9_buy_144 hl (k := 2) rfl (nI_add t 1) (by decide) rfl (fun ls hl => ?_)
      refine lv_goto (tgt := 9) hx hb dX9_buy_147 (by decide) ?_
      exact ih_9 (t + 1, pm, fd, b2, h2) (show B 0 - (t + 1) < B 0 - t from by omega) ⟨(show (t + 1) ≤ B 0 from by omega), (show (pm, fd, b2, h2) = buyT B be hrs (t + 1) from by first | (exfalso; omega) | exact buyT_1 hby hgr hpl9 (by omega) | exact buyT_2 hby hgr hpl9 (by omega) | exact buyT_3 hby (fun z => by (rcases z with ⟨z1, z2⟩); unfold oneB at z1; have z3 := of_decide_eq_false z1; omega)), (show pm ≤ 6 ∧ fd ≤ (t + 1) from ⟨by omega, by omega⟩), (show ∀ j, b2 j < 1048576 from by assumption), (show ∀ j, h2 j < 1048576 from by assumption)⟩ _ _ _ (lv_sub hl [0, 3, 4, 5] rfl) hP hD hS
    · refine lv_iload hx hb dX9_buy_38 (lv_at hl 0 rfl) ?_
      refine lv_iconst (v := nI 4) hx hb dX9_buy_40 (by decide) ?_
      refine nv_icmp_eq (tgt := 71) (by omega) (by omega) hx hb dX9_buy_41 (by decide) (fun c_15 => ?_) (fun c_15 => ?_)
      · refine lv_iconst (v := nI 0) hx hb dX9_buy_71 (by decide) ?_
        refine lv_istore (lv' := [(5, .int (nI 0)), (4, .int (nI (B (8 + (3 * t))))), (3, .int (nI t)), (2, .int ((nI fd) + (-1))), (1, .int ((nI pm) + (-1))), (0, .ref (b 0))]) hx hb dX9_buy_72 hl (by decide) rfl (fun ls hl => ?_)
        refine lv_iload hx hb dX9_buy_74 (lv_at hl 0 rfl) ?_
        refine nv_if_eq (tgt := 144) (by omega) hx hb dX9_buy_76 (by decide) (fun _ => ?_) (fun h => absurd h (by omega))
        refine lv_iinc (v := (nI (t + 1))) (lv' := [(3, .int (nI (t + 1))), (5, .int (nI 0)), (4, .int (nI (B (8 + (3 * t))))), (2, .int ((nI fd) + (-1))), (1, .int ((nI pm) + (-1))), (0, .ref (b 0))]) hx hb dX9_buy_144 hl (k := 2) rfl (nI_add t 1) (by decide) rfl (fun ls hl => ?_)
        refine lv_goto (tgt := 9) hx hb dX9_buy_147 (by decide) ?_
        exact ih_9 (t + 1, pm, fd, b2, h2) (show B 0 - (t + 1) < B 0 - t from by omega) ⟨(show (t + 1) ≤ B 0 from by omega), (show (pm, fd, b2, h2) = buyT B be hrs (t + 1) from by first | (exfalso; omega) | exact buyT_1 hby hgr hpl9 (by omega) | exact buyT_2 hby hgr hpl9 (by omega) | exact buyT_3 hby (fun z => by (rcases z with ⟨z1, z2⟩); unfold oneB at z1; have z3 := of_decide_eq_false z1; omega)), (show pm ≤ 6 ∧ fd ≤ (t + 1) from ⟨by omega, by omega⟩), (show ∀ j, b2 j < 1048576 from by assumption), (show ∀ j, h2 j < 1048576 from by assumption)⟩ _ _ _ (lv_sub hl [0, 3, 4, 5] rfl) hP hD hS
      · refine lv_iload hx hb dX9_buy_44 (lv_at hl 0 rfl) ?_
        refine lv_iconst (v := nI 5) hx hb dX9_buy_46 (by decide) ?_
        refine nv_icmp_eq (tgt := 71) (by omega) (by omega) hx hb dX9_buy_47 (by decide) (fun c_17 => ?_) (fun c_17 => ?_)
        · refine lv_iconst (v := nI 0) hx hb dX9_buy_71 (by decide) ?_
          refine lv_istore (lv' := [(5, .int (nI 0)), (4, .int (nI (B (8 + (3 * t))))), (3, .int (nI t)), (2, .int ((nI fd) + (-1))), (1, .int ((nI pm) + (-1))), (0, .ref (b 0))]) hx hb dX9_buy_72 hl (by decide) rfl (fun ls hl => ?_)
          refine lv_iload hx hb dX9_buy_74 (lv_at hl 0 rfl) ?_
          refine nv_if_eq (tgt := 144) (by omega) hx hb dX9_buy_76 (by decide) (fun _ => ?_) (fun h => absurd h (by omega))
          refine lv_iinc (v := (nI (t + 1))) (lv' := [(3, .int (nI (t + 1))), (5, .int (nI 0)), (4, .int (nI (B (8 + (3 * t))))), (2, .int ((nI fd) + (-1))), (1, .int ((nI pm) + (-1))), (0, .ref (b 0))]) hx hb dX9_buy_144 hl (k := 2) rfl (nI_add t 1) (by decide) rfl (fun ls hl => ?_)
          refine lv_goto (tgt := 9) hx hb dX9_buy_147 (by decide) ?_
          exact ih_9 (t + 1, pm, fd, b2, h2) (show B 0 - (t + 1) < B 0 - t from by omega) ⟨(show (t + 1) ≤ B 0 from by omega), (show (pm, fd, b2, h2) = buyT B be hrs (t + 1) from by first | (exfalso; omega) | exact buyT_1 hby hgr hpl9 (by omega) | exact buyT_2 hby hgr hpl9 (by omega) | exact buyT_3 hby (fun z => by (rcases z with ⟨z1, z2⟩); unfold oneB at z1; have z3 := of_decide_eq_false z1; omega)), (show pm ≤ 6 ∧ fd ≤ (t + 1) from ⟨by omega, by omega⟩), (show ∀ j, b2 j < 1048576 from by assumption), (show ∀ j, h2 j < 1048576 from by assumption)⟩ _ _ _ (lv_sub hl [0, 3, 4, 5] rfl) hP hD hS
        · refine lv_aload_n hx hb dX9_buy_50 rfl (lv_at hl 4 rfl) ?_
          refine va_get (D := G) (ci := 7) (C := RX9) (T := TX9) (N := 23) hx hb hts iX9 hown hKK.1 hP 0 rfl rfl 0 (by decide) f7 (fun _ h9 => h9) rfl dX9_buy_51 ?_
          refine lv_bipush (v := nI 8) hx hb dX9_buy_54 (by decide +kernel) ?_
          refine lv_iconst (v := nI 3) hx hb dX9_buy_56 (by decide) ?_
          refine lv_iload_n hx hb dX9_buy_57 rfl (lv_at hl 1 rfl) ?_
          refine nv_imul hx hb dX9_buy_58 ?_
          refine nv_iadd hx hb dX9_buy_59 ?_
          refine lv_iconst (v := nI 1) hx hb dX9_buy_60 (by decide) ?_
          refine nv_iadd hx hb dX9_buy_61 ?_
          refine nv_iald (i := (8 + (3 * t)) + 1) hx hb hKK.1 hP 1 0 rfl rfl (by omega) (by decide) dX9_buy_62 ?_
          have b_19 := hbB ((8 + (3 * t)) + 1)
          refine lv_iconst (v := nI 3) hx hb dX9_buy_63 (by decide) ?_
          refine nv_icmp_ge (tgt := 71) (by omega) (by omega) hx hb dX9_buy_64 (by decide) (fun c_20 => ?_) (fun c_20 => ?_)
          · refine lv_iconst (v := nI 0) hx hb dX9_buy_71 (by decide) ?_
            refine lv_istore (lv' := [(5, .int (nI 0)), (4, .int (nI (B (8 + (3 * t))))), (3, .int (nI t)), (2, .int ((nI fd) + (-1))), (1, .int ((nI pm) + (-1))), (0, .ref (b 0))]) hx hb dX9_buy_72 hl (by decide) rfl (fun ls hl => ?_)
            refine lv_iload hx hb dX9_buy_74 (lv_at hl 0 rfl) ?_
            refine nv_if_eq (tgt := 144) (by omega) hx hb dX9_buy_76 (by decide) (fun _ => ?_) (fun h => absurd h (by omega))
            refine lv_iinc (v := (nI (t + 1))) (lv' := [(3, .int (nI (t + 1))), (5, .int (nI 0)), (4, .int (nI (B (8 + (3 * t))))), (2, .int ((nI fd) + (-1))), (1, .int ((nI pm) + (-1))), (0, .ref (b 0))]) hx hb dX9_buy_144 hl (k := 2) rfl (nI_add t 1) (by decide) rfl (fun ls hl => ?_)
            refine lv_goto (tgt := 9) hx hb dX9_buy_147 (by decide) ?_
            exact ih_9 (t + 1, pm, fd, b2, h2) (show B 0 - (t + 1) < B 0 - t from by omega) ⟨(show (t + 1) ≤ B 0 from by omega), (show (pm, fd, b2, h2) = buyT B be hrs (t + 1) from by first | (exfalso; omega) | exact buyT_1 hby hgr hpl9 (by omega) | exact buyT_2 hby hgr hpl9 (by omega) | exact buyT_3 hby (fun z => by (rcases z with ⟨z1, z2⟩); unfold oneB at z1; have z3 := of_decide_eq_false z1; omega)), (show pm ≤ 6 ∧ fd ≤ (t + 1) from ⟨by omega, by omega⟩), (show ∀ j, b2 j < 1048576 from by assumption), (show ∀ j, h2 j < 1048576 from by assumption)⟩ _ _ _ (lv_sub hl [0, 3, 4, 5] rfl) hP hD hS
          · refine lv_iconst (v := nI 1) hx hb dX9_buy_67 (by decide) ?_
            refine lv_goto (tgt := 72) hx hb dX9_buy_68 (by decide) ?_
            refine lv_istore (lv' := [(5, .int (nI 1)), (4, .int (nI (B (8 + (3 * t))))), (3, .int (nI t)), (2, .int ((nI fd) + (-1))), (1, .int ((nI pm) + (-1))), (0, .ref (b 0))]) hx hb dX9_buy_72 hl (by decide) rfl (fun ls hl => ?_)
            refine lv_iload hx hb dX9_buy_74 (lv_at hl 0 rfl) ?_
            refine nv_if_eq (tgt := 144) (by omega) hx hb dX9_buy_76 (by decide) (fun h => absurd h (by omega)) (fun _ => ?_)
            have hgr : growB B t := ⟨by unfold oneB; exact decide_eq_false (by omega), by omega⟩
            have hWB2 := WB_up hWB (show t < B 0 by omega) hgr.2
            refine lv_aload_n hx hb dX9_buy_79 rfl (lv_at hl 5 rfl) ?_
            refine va_get (D := G) (ci := 7) (C := RX9) (T := TX9) (N := 23) hx hb hts iX9 hown hKK.1 hP 0 rfl rfl 0 (by decide) f7 (fun _ h9 => h9) rfl dX9_buy_80 ?_
            refine lv_bipush (v := nI 8) hx hb dX9_buy_83 (by decide +kernel) ?_
            refine lv_iconst (v := nI 3) hx hb dX9_buy_85 (by decide) ?_
            refine lv_iload_n hx hb dX9_buy_86 rfl (lv_at hl 2 rfl) ?_
            refine nv_imul hx hb dX9_buy_87 ?_
            refine nv_iadd hx hb dX9_buy_88 ?_
            refine lv_iconst (v := nI 1) hx hb dX9_buy_89 (by decide) ?_
            refine nv_iadd hx hb dX9_buy_90 ?_
            refine lv_dup2_11 hx hb dX9_buy_91 rfl rfl ?_
            refine nv_iald (i := (8 + (3 * t)) + 1) hx hb hKK.1 hP 1 0 rfl rfl (by omega) (by decide) dX9_buy_92 ?_
            have b_23 := hbB ((8 + (3 * t)) + 1)
            refine lv_iconst (v := nI 1) hx hb dX9_buy_93 (by decide) ?_
            refine nv_iadd hx hb dX9_buy_94 ?_
            refine nv_iast (i := (8 + (3 * t)) + 1) hx hb hKK.1 hP hD hS 1 0 rfl rfl (by omega) (by decide) dX9_buy_95 [(b 0, .inr (7, [.ref (b 1), .ref (b 2), .ref (b 3), .ref (b 4), .ref (b 5), .int (nI qu), .long ab, .long bl, .ref (b 6), .int (nI tyd), .int (nI at0), .int (nI sta), .int (nI tok), .int (nI val), .ref (b 7), .int (nI man), .ref (b 8), .ref (b 9), .ref (b 10), .ref (b 11), .ref (b 12), .ref (b 13), .ref (b 14)])), (b 1, .inl (tA 0, 212, .inl (nF (updN B ((8 + (3 * t)) + 1) ((B ((8 + (3 * t)) + 1)) + 1))))), (b 11, .inl (tA 0, 5, .inl (nF h2))), (b 12, .inl (tA 0, 5, .inl (nF b2)))] rfl (fun H locs hP hD hS => ?_)
            have B_24 := updN_lt hbB ((8 + (3 * t)) + 1) (show (B ((8 + (3 * t)) + 1)) + 1 < 1048576 from by omega)
            refine lv_aload_n hx hb dX9_buy_96 rfl (lv_at hl 5 rfl) ?_
            refine rwI hP hD hS hA [0, 1, 2, 3] rfl (runV (As := []) (rest := []) (isC := [0, 1, 2, 3]) ⟨hx, hb, hml, hown, hts⟩ hKK hP hD rfl (by decide) (c_X9_plans l G tA b qu ab bl tyd at0 sta tok val man (updN B ((8 + (3 * t)) + 1) ((B ((8 + (3 * t)) + 1)) + 1)) h2 b2 (hWB2) (hh2) (hb2) _) (cwV 0 hts gX9_buy_X9_plans rfl rfl rfl (by decide +kernel) ⟨Nat.le_of_ble_eq_true rfl, Nat.le_of_ble_eq_true rfl⟩) rfl rfl rfl rfl hl.1 rfl (lv_room (Nat.le_of_ble_eq_true rfl)) dX9_buy_97 ⟨Nat.le_of_ble_eq_true rfl, Nat.le_of_ble_eq_true rfl⟩) (fun (u : (Nat) × (Nat → Nat) × (Nat → Nat)) => [(b 0, .inr (7, [.ref (b 1), .ref (b 2), .ref (b 3), .ref (b 4), .ref (b 5), .int (nI qu), .long ab, .long bl, .ref (b 6), .int (nI tyd), .int (nI at0), .int (nI sta), .int (nI tok), .int (nI val), .ref (b 7), .int (nI man), .ref (b 8), .ref (b 9), .ref (b 10), .ref (b 11), .ref (b 12), .ref (b 13), .ref (b 14)])), (b 1, .inl (tA 0, 212, .inl (nF (updN B ((8 + (3 * t)) + 1) ((B ((8 + (3 * t)) + 1)) + 1))))), (b 11, .inl (tA 0, 5, .inl (nF (u.2.2)))), (b 12, .inl (tA 0, 5, .inl (nF (u.2.1))))]) (fun _ => rfl) (fun _ => rfl) (fun _ => rfl) (fun r_25 u_26 H locs q_27 hP hD hS => ?_)
            obtain ⟨qa, b9_28, h9_29⟩ := u_26
            have hP : va_P G vwCl [(b 0, .inr (7, [.ref (b 1), .ref (b 2), .ref (b 3), .ref (b 4), .ref (b 5), .int (nI qu), .long ab, .long bl, .ref (b 6), .int (nI tyd), .int (nI at0), .int (nI sta), .int (nI tok), .int (nI val), .ref (b 7), .int (nI man), .ref (b 8), .ref (b 9), .ref (b 10), .ref (b 11), .ref (b 12), .ref (b 13), .ref (b 14)])), (b 1, .inl (tA 0, 212, .inl (nF (updN B ((8 + (3 * t)) + 1) ((B ((8 + (3 * t)) + 1)) + 1))))), (b 11, .inl (tA 0, 5, .inl (nF h9_29))), (b 12, .inl (tA 0, 5, .inl (nF b9_28)))] H := hP
            have hD : va_D A [(b 0, .inr (7, [.ref (b 1), .ref (b 2), .ref (b 3), .ref (b 4), .ref (b 5), .int (nI qu), .long ab, .long bl, .ref (b 6), .int (nI tyd), .int (nI at0), .int (nI sta), .int (nI tok), .int (nI val), .ref (b 7), .int (nI man), .ref (b 8), .ref (b 9), .ref (b 10), .ref (b 11), .ref (b 12), .ref (b 13), .ref (b 14)])), (b 1, .inl (tA 0, 212, .inl (nF (updN B ((8 + (3 * t)) + 1) ((B ((8 + (3 * t)) + 1)) + 1))))), (b 11, .inl (tA 0, 5, .inl (nF h9_29))), (b 12, .inl (tA 0, 5, .inl (nF b9_28)))] := hD
            obtain ⟨rfl, hpl9, e_30, e_31, e_32⟩ := q_27
            have hpl9 : (qa, b9_28, h9_29) = plS (updN B ((8 + (3 * t)) + 1) ((B ((8 + (3 * t)) + 1)) + 1)) b2 h2 := hpl9
            have e_30 : qa ≤ 6 := e_30
            have e_31 : ∀ j, b9_28 j < 1048576 := e_31
            have e_32 : ∀ j, h9_29 j < 1048576 := e_32
            refine lv_istore (lv' := [(6, .int ((nI qa) + (-1))), (5, .int (nI 1)), (4, .int (nI (B (8 + (3 * t))))), (3, .int (nI t)), (2, .int ((nI fd) + (-1))), (1, .int ((nI pm) + (-1))), (0, .ref (b 0))]) hx hb dX9_buy_100 hl (by decide) rfl (fun ls hl => ?_)
            refine lv_aload_n hx hb dX9_buy_102 rfl (lv_at hl 6 rfl) ?_
            refine va_get (D := G) (ci := 7) (C := RX9) (T := TX9) (N := 23) hx hb hts iX9 hown hKK.1 hP 0 rfl rfl 0 (by decide) f7 (fun _ h9 => h9) rfl dX9_buy_103 ?_
            refine lv_bipush (v := nI 8) hx hb dX9_buy_106 (by decide +kernel) ?_
            refine lv_iconst (v := nI 3) hx hb dX9_buy_108 (by decide) ?_
            refine lv_iload_n hx hb dX9_buy_109 rfl (lv_at hl 3 rfl) ?_
            refine nv_imul hx hb dX9_buy_110 ?_
            refine nv_iadd hx hb dX9_buy_111 ?_
            refine lv_iconst (v := nI 1) hx hb dX9_buy_112 (by decide) ?_
            refine nv_iadd hx hb dX9_buy_113 ?_
            refine lv_dup2_11 hx hb dX9_buy_114 rfl rfl ?_
            refine nv_iald (i := (8 + (3 * t)) + 1) hx hb hKK.1 hP 1 0 rfl rfl (by omega) (by decide) dX9_buy_115 ?_
            refine nv_top (y := B (8 + 3 * t + 1) + 1) (congrArg nI (updN_s _ _ _)) ?_
            refine lv_iconst (v := nI 1) hx hb dX9_buy_116 (by decide) ?_
            refine nv_isub (show 1 ≤ B (8 + 3 * t + 1) + 1 from by omega) hx hb dX9_buy_117 ?_
            refine nv_iast (i := (8 + (3 * t)) + 1) hx hb hKK.1 hP hD hS 1 0 rfl rfl (by omega) (by decide) dX9_buy_118 [(b 0, .inr (7, [.ref (b 1), .ref (b 2), .ref (b 3), .ref (b 4), .ref (b 5), .int (nI qu), .long ab, .long bl, .ref (b 6), .int (nI tyd), .int (nI at0), .int (nI sta), .int (nI tok), .int (nI val), .ref (b 7), .int (nI man), .ref (b 8), .ref (b 9), .ref (b 10), .ref (b 11), .ref (b 12), .ref (b 13), .ref (b 14)])), (b 1, .inl (tA 0, 212, .inl (nF (updN (updN B ((8 + (3 * t)) + 1) ((B ((8 + (3 * t)) + 1)) + 1)) ((8 + (3 * t)) + 1) ((B (8 + 3 * t + 1) + 1) - 1))))), (b 11, .inl (tA 0, 5, .inl (nF h9_29))), (b 12, .inl (tA 0, 5, .inl (nF b9_28)))] rfl (fun H locs hP hD hS => ?_)
            have eB : updN (updN B ((8 + (3 * t)) + 1) ((B ((8 + (3 * t)) + 1)) + 1)) ((8 + (3 * t)) + 1) ((B (8 + 3 * t + 1) + 1) - 1) = B := updN_back _ _
            rw [eB] at hP hD
            refine lv_iload hx hb dX9_buy_119 (lv_at hl 0 rfl) ?_
            refine lv_iload_n hx hb dX9_buy_121 rfl (lv_at hl 5 rfl) ?_
            refine zv_icmp_le (tgt := 129) (X := ((qa : Nat) : Int) - 1) (Y := ((pm : Nat) : Int) - 1) (predZ (by omega)) (predZ (by omega)) hx hb dX9_buy_122 (by decide) (fun c_33 => ?_) (fun c_33 => ?_)
            · refine lv_iload_n hx hb dX9_buy_129 rfl (lv_at hl 4 rfl) ?_
              refine lv_istore_n (lv' := [(2, .int ((nI fd) + (-1))), (6, .int ((nI qa) + (-1))), (5, .int (nI 1)), (4, .int (nI (B (8 + (3 * t))))), (3, .int (nI t)), (1, .int ((nI pm) + (-1))), (0, .ref (b 0))]) hx hb dX9_buy_130 rfl hl (by decide) rfl (fun ls hl => ?_)
              refine lv_iload hx hb dX9_buy_131 (lv_at hl 1 rfl) ?_
              refine lv_iload_n hx hb dX9_buy_133 rfl (lv_at hl 5 rfl) ?_
              refine zv_icmp_le (tgt := 142) (X := ((qa : Nat) : Int) - 1) (Y := ((pm : Nat) : Int) - 1) (predZ (by omega)) (predZ (by omega)) hx hb dX9_buy_134 (by decide) (fun c_34 => ?_) (fun c_34 => ?_)
              · refine lv_iload_n hx hb dX9_buy_142 rfl (lv_at hl 5 rfl) ?_
                refine lv_istore_n (lv' := [(1, .int ((nI pm) + (-1))), (2, .int ((nI fd) + (-1))), (6, .int ((nI qa) + (-1))), (5, .int (nI 1)), (4, .int (nI (B (8 + (3 * t))))), (3, .int (nI t)), (0, .ref (b 0))]) hx hb dX9_buy_143 rfl hl (by decide) rfl (fun ls hl => ?_)
                refine lv_iinc (v := (nI (t + 1))) (lv' := [(3, .int (nI (t + 1))), (1, .int ((nI pm) + (-1))), (2, .int ((nI fd) + (-1))), (6, .int ((nI qa) + (-1))), (5, .int (nI 1)), (4, .int (nI (B (8 + (3 * t))))), (0, .ref (b 0))]) hx hb dX9_buy_144 hl (k := 5) rfl (nI_add t 1) (by decide) rfl (fun ls hl => ?_)
                refine lv_goto (tgt := 9) hx hb dX9_buy_147 (by decide) ?_
                exact ih_9 (t + 1, pm, fd, b9_28, h9_29) (show B 0 - (t + 1) < B 0 - t from by omega) ⟨(show (t + 1) ≤ B 0 from by omega), (show (pm, fd, b9_28, h9_29) = buyT B be hrs (t + 1) from by first | (exfalso; omega) | exact buyT_1 hby hgr hpl9 (by omega) | exact buyT_2 hby hgr hpl9 (by omega) | exact buyT_3 hby (fun z => by (rcases z with ⟨z1, z2⟩); unfold oneB at z1; have z3 := of_decide_eq_false z1; omega)), (show pm ≤ 6 ∧ fd ≤ (t + 1) from ⟨by omega, by omega⟩), (show ∀ j, b9_28 j < 1048576 from by assumption), (show ∀ j, h9_29 j < 1048576 from by assumption)⟩ _ _ _ (lv_sub hl [0, 2, 1, 6] rfl) hP hD hS
              · refine lv_iload hx hb dX9_buy_137 (lv_at hl 1 rfl) ?_
                refine lv_goto (tgt := 143) hx hb dX9_buy_139 (by decide) ?_
                refine lv_istore_n (lv' := [(1, .int ((nI qa) + (-1))), (2, .int ((nI fd) + (-1))), (6, .int ((nI qa) + (-1))), (5, .int (nI 1)), (4, .int (nI (B (8 + (3 * t))))), (3, .int (nI t)), (0, .ref (b 0))]) hx hb dX9_buy_143 rfl hl (by decide) rfl (fun ls hl => ?_)
                refine lv_iinc (v := (nI (t + 1))) (lv' := [(3, .int (nI (t + 1))), (1, .int ((nI qa) + (-1))), (2, .int ((nI fd) + (-1))), (6, .int ((nI qa) + (-1))), (5, .int (nI 1)), (4, .int (nI (B (8 + (3 * t))))), (0, .ref (b 0))]) hx hb dX9_buy_144 hl (k := 5) rfl (nI_add t 1) (by decide) rfl (fun ls hl => ?_)
                refine lv_goto (tgt := 9) hx hb dX9_buy_147 (by decide) ?_
                exact ih_9 (t + 1, qa, fd, b9_28, h9_29) (show B 0 - (t + 1) < B 0 - t from by omega) ⟨(show (t + 1) ≤ B 0 from by omega), (show (qa, fd, b9_28, h9_29) = buyT B be hrs (t + 1) from by first | (exfalso; omega) | exact buyT_1 hby hgr hpl9 (by omega) | exact buyT_2 hby hgr hpl9 (by omega) | exact buyT_3 hby (fun z => by (rcases z with ⟨z1, z2⟩); unfold oneB at z1; have z3 := of_decide_eq_false z1; omega)), (show qa ≤ 6 ∧ fd ≤ (t + 1) from ⟨by omega, by omega⟩), (show ∀ j, b9_28 j < 1048576 from by assumption), (show ∀ j, h9_29 j < 1048576 from by assumption)⟩ _ _ _ (lv_sub hl [0, 2, 1, 6] rfl) hP hD hS
            · refine lv_iload_n hx hb dX9_buy_125 rfl (lv_at hl 3 rfl) ?_
              refine lv_goto (tgt := 130) hx hb dX9_buy_126 (by decide) ?_
              refine nv_topx (y := (nI (t + 1)) + (-1)) (pk_m1 t).symm ?_
              refine lv_istore_n (lv' := [(2, .int ((nI (t + 1)) + (-1))), (6, .int ((nI qa) + (-1))), (5, .int (nI 1)), (4, .int (nI (B (8 + (3 * t))))), (3, .int (nI t)), (1, .int ((nI pm) + (-1))), (0, .ref (b 0))]) hx hb dX9_buy_130 rfl hl (by decide) rfl (fun ls hl => ?_)
              refine lv_iload hx hb dX9_buy_131 (lv_at hl 1 rfl) ?_
              refine lv_iload_n hx hb dX9_buy_133 rfl (lv_at hl 5 rfl) ?_
              refine zv_icmp_le (tgt := 142) (X := ((qa : Nat) : Int) - 1) (Y := ((pm : Nat) : Int) - 1) (predZ (by omega)) (predZ (by omega)) hx hb dX9_buy_134 (by decide) (fun c_35 => ?_) (fun c_35 => ?_)
              · refine lv_iload_n hx hb dX9_buy_142 rfl (lv_at hl 5 rfl) ?_
                refine lv_istore_n (lv' := [(1, .int ((nI pm) + (-1))), (2, .int ((nI (t + 1)) + (-1))), (6, .int ((nI qa) + (-1))), (5, .int (nI 1)), (4, .int (nI (B (8 + (3 * t))))), (3, .int (nI t)), (0, .ref (b 0))]) hx hb dX9_buy_143 rfl hl (by decide) rfl (fun ls hl => ?_)
                refine lv_iinc (v := (nI (t + 1))) (lv' := [(3, .int (nI (t + 1))), (1, .int ((nI pm) + (-1))), (2, .int ((nI (t + 1)) + (-1))), (6, .int ((nI qa) + (-1))), (5, .int (nI 1)), (4, .int (nI (B (8 + (3 * t))))), (0, .ref (b 0))]) hx hb dX9_buy_144 hl (k := 5) rfl (nI_add t 1) (by decide) rfl (fun ls hl => ?_)
                refine lv_goto (tgt := 9) hx hb dX9_buy_147 (by decide) ?_
                exact ih_9 (t + 1, pm, (t + 1), b9_28, h9_29) (show B 0 - (t + 1) < B 0 - t from by omega) ⟨(show (t + 1) ≤ B 0 from by omega), (show (pm, (t + 1), b9_28, h9_29) = buyT B be hrs (t + 1) from by first | (exfalso; omega) | exact buyT_1 hby hgr hpl9 (by omega) | exact buyT_2 hby hgr hpl9 (by omega) | exact buyT_3 hby (fun z => by (rcases z with ⟨z1, z2⟩); unfold oneB at z1; have z3 := of_decide_eq_false z1; omega)), (show pm ≤ 6 ∧ (t + 1) ≤ (t + 1) from ⟨by omega, by omega⟩), (show ∀ j, b9_28 j < 1048576 from by assumption), (show ∀ j, h9_29 j < 1048576 from by assumption)⟩ _ _ _ (lv_sub hl [0, 2, 1, 6] rfl) hP hD hS
              · refine lv_iload hx hb dX9_buy_137 (lv_at hl 1 rfl) ?_
                refine lv_goto (tgt := 143) hx hb dX9_buy_139 (by decide) ?_
                refine lv_istore_n (lv' := [(1, .int ((nI qa) + (-1))), (2, .int ((nI (t + 1)) + (-1))), (6, .int ((nI qa) + (-1))), (5, .int (nI 1)), (4, .int (nI (B (8 + (3 * t))))), (3, .int (nI t)), (0, .ref (b 0))]) hx hb dX9_buy_143 rfl hl (by decide) rfl (fun ls hl => ?_)
                refine lv_iinc (v := (nI (t + 1))) (lv' := [(3, .int (nI (t + 1))), (1, .int ((nI qa) + (-1))), (2, .int ((nI (t + 1)) + (-1))), (6, .int ((nI qa) + (-1))), (5, .int (nI 1)), (4, .int (nI (B (8 + (3 * t))))), (0, .ref (b 0))]) hx hb dX9_buy_144 hl (k := 5) rfl (nI_add t 1) (by decide) rfl (fun ls hl => ?_)
                refine lv_goto (tgt := 9) hx hb dX9_buy_147 (by decide) ?_
                exact ih_9 (t + 1, qa, (t + 1), b9_28, h9_29) (show B 0 - (t + 1) < B 0 - t from by omega) ⟨(show (t + 1) ≤ B 0 from by omega), (show (qa, (t + 1), b9_28, h9_29) = buyT B be hrs (t + 1) from by first | (exfalso; omega) | exact buyT_1 hby hgr hpl9 (by omega) | exact buyT_2 hby hgr hpl9 (by omega) | exact buyT_3 hby (fun z => by (rcases z with ⟨z1, z2⟩); unfold oneB at z1; have z3 := of_decide_eq_false z1; omega)), (show qa ≤ 6 ∧ (t + 1) ≤ (t + 1) from ⟨by omega, by omega⟩), (show ∀ j, b9_28 j < 1048576 from by assumption), (show ∀ j, h9_29 j < 1048576 from by assumption)⟩ _ _ _ (lv_sub hl [0, 2, 1, 6] rfl) hP hD hS

def pw5 (e n : Nat) : Nat := it (fun _ x => x * e) n 1
theorem pw5_le {e : Nat} (he : e ≤ 9) : ∀ {n : Nat}, n ≤ 5 → pw5 e n ≤ 59049 := by
  have key : ∀ n, pw5 e n ≤ 9 ^ n := by
    intro n
    induction n with
    | zero => exact Nat.le_refl 1
    | succ n ih => rw [Nat.pow_succ]; exact Nat.mul_le_mul ih he
  intro n hn
  have h := key n
  have h2 : 9 ^ n ≤ 9 ^ 5 := Nat.pow_le_pow_right (by omega) hn
  omega
theorem pw5_5 (e : Nat) : pw5 e 5 = e * e * e * e * e := by show 1 * e * e * e * e * e = e * e * e * e * e; rw [Nat.one_mul]
def gL (e code i : Nat) : Nat := it (fun _ l => l / e) i code
theorem gL_s (e code i : Nat) : gL e code (i + 1) = gL e code i / e := rfl
theorem gL_le (e code i : Nat) : gL e code i ≤ code := by
  induction i with
  | zero => exact Nat.le_refl _
  | succ i ih => rw [gL_s]; exact Nat.le_trans (Nat.div_le_self _ _) ih
def gH (e code : Nat) (g : Nat → Nat) (i : Nat) : Nat → Nat := it (fun i h => updN h (4 - i) (gL e code i % e)) i g
theorem gH_s (e code : Nat) (g : Nat → Nat) (i : Nat) : gH e code g (i + 1) = updN (gH e code g i) (4 - i) (gL e code i % e) := rfl
def gS (B : Nat → Nat) (e code i : Nat) : Nat := it (fun i a => a + if 0 < gL e code i % e then B (156 + 8 * (4 - i) + gL e code i % e - 1) else 0) i 0
theorem gS_s (B : Nat → Nat) (e code i : Nat) : gS B e code (i + 1) = gS B e code i + if 0 < gL e code i % e then B (156 + 8 * (4 - i) + gL e code i % e - 1) else 0 := rfl
def cntE (h : Nat → Nat) (x n : Nat) : Nat := it (fun p a => a + if h p = x then 1 else 0) n 0
def fitsM (B h : Nat → Nat) (t : Nat) : Prop := cntE h (t + 1) 5 ≤ mayM B t
/-- most (shifted by one), what each got, what was tried last -/
noncomputable def dlT (B go ge : Nat → Nat) (n : Nat) : Nat × (Nat → Nat) × (Nat → Nat) := it (fun code (x : Nat × (Nat → Nat) × (Nat → Nat)) => if pB (x.1 < gS B (B 0 + 1) code 5 + 1 ∧ allB (fitsM B (gH (B 0 + 1) code x.2.2 5)) (B 0)) = true then (gS B (B 0 + 1) code 5 + 1, cpTo x.2.1 0 (gH (B 0 + 1) code x.2.2 5) 5, gH (B 0 + 1) code x.2.2 5) else (x.1, x.2.1, gH (B 0 + 1) code x.2.2 5)) n (0, go, ge)
theorem dlT_s (B go ge : Nat → Nat) (n : Nat) : dlT B go ge (n + 1) = (fun (x : Nat × (Nat → Nat) × (Nat → Nat)) => if pB (x.1 < gS B (B 0 + 1) n 5 + 1 ∧ allB (fitsM B (gH (B 0 + 1) n x.2.2 5)) (B 0)) = true then (gS B (B 0 + 1) n 5 + 1, cpTo x.2.1 0 (gH (B 0 + 1) n x.2.2 5) 5, gH (B 0 + 1) n x.2.2 5) else (x.1, x.2.1, gH (B 0 + 1) n x.2.2 5)) (dlT B go ge n) := rfl
theorem dlT_1 {B go ge o2 g2 g3 : Nat → Nat} {n mo sm : Nat} (e : (mo, o2, g2) = dlT B go ge n) (e3 : g3 = gH (B 0 + 1) n g2 5) (em : sm = gS B (B 0 + 1) n 5) (h1 : mo < sm + 1 ∧ allB (fitsM B g3) (B 0)) : (sm + 1, cpTo o2 0 g3 5, g3) = dlT B go ge (n + 1) := by
  subst e3; subst em
  rw [dlT_s, ← e]
  dsimp only
  rw [if_pos (pB_t.mpr h1)]
theorem dlT_2 {B go ge o2 g2 g3 : Nat → Nat} {n mo sm : Nat} (e : (mo, o2, g2) = dlT B go ge n) (e3 : g3 = gH (B 0 + 1) n g2 5) (em : sm = gS B (B 0 + 1) n 5) (h1 : ¬ (mo < sm + 1 ∧ allB (fitsM B g3) (B 0))) : (mo, o2, g3) = dlT B go ge (n + 1) := by
  subst e3; subst em
  rw [dlT_s, ← e]
  dsimp only
  rw [if_neg (fun z => h1 (pB_t.mp z))]

set_option maxHeartbeats 4000000 in
set_option maxRecDepth 100000 in
theorem c_X9_deals (l : Launch) (G : va_G) (tA : Nat → ClassId) (b : Nat → Nat) (qu : Nat) (ab : Int64) (bl : Int64) (tyd : Nat) (at0 : Nat) (sta : Nat) (tok : Nat) (val : Nat) (man : Nat) (B : Nat → Nat) (ge : Nat → Nat) (go : Nat → Nat) (hWB : WB B) (hbg : ∀ j, ge j < 1048576) (hbo : ∀ j, go j < 1048576) : CtI l yX9_deals wsX9_deals ({ frames := 1, cells := 0, slots := 0, locals := 22 }) G tA [.ref (b 0)] ([(b 0, .inr (7, [.ref (b 1), .ref (b 2), .ref (b 3), .ref (b 4), .ref (b 5), .int (nI qu), .long ab, .long bl, .ref (b 6), .int (nI tyd), .int (nI at0), .int (nI sta), .int (nI tok), .int (nI val), .ref (b 7), .int (nI man), .ref (b 8), .ref (b 9), .ref (b 10), .ref (b 11), .ref (b 12), .ref (b 13), .ref (b 14)])), (b 1, .inl (tA 0, 212, .inl (nF B))), (b 13, .inl (tA 0, 5, .inl (nF ge))), (b 14, .inl (tA 0, 5, .inl (nF go)))]) (fun (r : Int32) (u : (Nat) × (Nat → Nat) × (Nat → Nat)) => r = (nI u.1) + (-1) ∧ (u.1, u.2.1, u.2.2) = dlT B go ge ((B 0 + 1) * (B 0 + 1) * (B 0 + 1) * (B 0 + 1) * (B 0 + 1)) ∧ u.1 ≤ 5242881 ∧ (∀ j, u.2.1 j < 1048576) ∧ (∀ j, u.2.2 j < 1048576)) (fun (u : (Nat) × (Nat → Nat) × (Nat → Nat)) => [(b 0, .inr (7, [.ref (b 1), .ref (b 2), .ref (b 3), .ref (b 4), .ref (b 5), .int (nI qu), .long ab, .long bl, .ref (b 6), .int (nI tyd), .int (nI at0), .int (nI sta), .int (nI tok), .int (nI val), .ref (b 7), .int (nI man), .ref (b 8), .ref (b 9), .ref (b 10), .ref (b 11), .ref (b 12), .ref (b 13), .ref (b 14)])), (b 1, .inl (tA 0, 212, .inl (nF B))), (b 13, .inl (tA 0, 5, .inl (nF u.2.2))), (b 14, .inl (tA 0, 5, .inl (nF u.2.1)))]) 0 0 := by
  refine enterI (cc := cX9_deals) (maxL := 11) (ret := (some .int)) (by decide) rfl (Nat.le_of_ble_eq_true rfl) ?_
  intro p0 e0 s m args below meth c0_ A ls hx hb hml hr hts hown hlocks hin hKK hA hP hD hl hS
  have hown : s.vm.findClass RX9 = some m.cls := hown
  have hl : lv_has ls 11 [(0, .ref (b 0))] := hl
  have f7 := hts (Cond.fieldLink RX9 7 "LentTermsModel" "book" "[I") (List.mem_of_getElem? (i := 1) rfl)
  have iX9 : ∀ w ∈ wsX90, w ∈ wsX9_deals := by decide +kernel
  have f50 := hts (Cond.fieldLink RX9 50 "LentTermsModel" "got" "[I") (List.mem_of_getElem? (i := 3) rfl)
  have f47 := hts (Cond.fieldLink RX9 47 "LentTermsModel" "gets" "[I") (List.mem_of_getElem? (i := 2) rfl)
  obtain ⟨⟨hn0, hn1, hn2, hn3, hn4, hn5⟩, hbB, hv0, hv1, hv2, hv3, hv4, hv5, hv6, hv7⟩ := id hWB
  have h256 := p256 hn0
  refine lv_aload_n hx hb dX9_deals_0 rfl (lv_at hl 0 rfl) ?_
  refine va_get (D := G) (ci := 7) (C := RX9) (T := TX9) (N := 23) hx hb hts iX9 hown hKK.1 hP 0 rfl rfl 0 (by decide) f7 (fun _ h9 => h9) rfl dX9_deals_1 ?_
  refine lv_iconst (v := nI 0) hx hb dX9_deals_4 (by decide) ?_
  refine nv_iald (i := 0) hx hb hKK.1 hP 1 0 rfl rfl (by omega) (by decide) dX9_deals_5 ?_
  have b_1 := hbB 0
  refine lv_iconst (v := nI 1) hx hb dX9_deals_6 (by decide) ?_
  refine nv_iadd hx hb dX9_deals_7 ?_
  refine lv_istore_n (lv' := [(1, .int (nI ((B 0) + 1))), (0, .ref (b 0))]) hx hb dX9_deals_8 rfl hl (by decide) rfl (fun ls hl => ?_)
  refine lv_iconst (v := nI 1) hx hb dX9_deals_9 (by decide) ?_
  refine lv_istore_n (lv' := [(2, .int (nI 1)), (1, .int (nI ((B 0) + 1))), (0, .ref (b 0))]) hx hb dX9_deals_10 rfl hl (by decide) rfl (fun ls hl => ?_)
  refine lv_iconst (v := nI 0) hx hb dX9_deals_11 (by decide) ?_
  refine lv_istore_n (lv' := [(3, .int (nI 0)), (2, .int (nI 1)), (1, .int (nI ((B 0) + 1))), (0, .ref (b 0))]) hx hb dX9_deals_12 rfl hl (by decide) rfl (fun ls hl => ?_)
  refine wloop (σ := (Nat) × (Nat)) (fun | (p, x) => 5 - p) (fun | (p, x) => (p ≤ 5) ∧ (x = pw5 (B 0 + 1) p) ∧ (x ≤ 59049)) (fun | (p, x) => [(3, .int (nI p)), (2, .int (nI x)), (1, .int (nI ((B 0) + 1))), (0, .ref (b 0))]) (fun | (p, x) => [(b 0, .inr (7, [.ref (b 1), .ref (b 2), .ref (b 3), .ref (b 4), .ref (b 5), .int (nI qu), .long ab, .long bl, .ref (b 6), .int (nI tyd), .int (nI at0), .int (nI sta), .int (nI tok), .int (nI val), .ref (b 7), .int (nI man), .ref (b 8), .ref (b 9), .ref (b 10), .ref (b 11), .ref (b 12), .ref (b 13), .ref (b 14)])), (b 1, .inl (tA 0, 212, .inl (nF B))), (b 13, .inl (tA 0, 5, .inl (nF ge))), (b 14, .inl (tA 0, 5, .inl (nF go)))]) (0, 1) ⟨(show 0 ≤ 5 from by omega), (show 1 = pw5 (B 0 + 1) 0 from rfl), (show 1 ≤ 59049 from by omega)⟩ (lv_sub hl [0, 1, 2, 3] rfl) hP hD hS ?_
  rintro ⟨p, x⟩ ⟨hp, hx9, hx8⟩ ih_2 ls H locs hl hP hD hS
  have hl : lv_has ls 11 [(3, .int (nI p)), (2, .int (nI x)), (1, .int (nI ((B 0) + 1))), (0, .ref (b 0))] := hl
  have hP : va_P G vwCl [(b 0, .inr (7, [.ref (b 1), .ref (b 2), .ref (b 3), .ref (b 4), .ref (b 5), .int (nI qu), .long ab, .long bl, .ref (b 6), .int (nI tyd), .int (nI at0), .int (nI sta), .int (nI tok), .int (nI val), .ref (b 7), .int (nI man), .ref (b 8), .ref (b 9), .ref (b 10), .ref (b 11), .ref (b 12), .ref (b 13), .ref (b 14)])), (b 1, .inl (tA 0, 212, .inl (nF B))), (b 13, .inl (tA 0, 5, .inl (nF ge))), (b 14, .inl (tA 0, 5, .inl (nF go)))] H := hP
  have hD : va_D A [(b 0, .inr (7, [.ref (b 1), .ref (b 2), .ref (b 3), .ref (b 4), .ref (b 5), .int (nI qu), .long ab, .long bl, .ref (b 6), .int (nI tyd), .int (nI at0), .int (nI sta), .int (nI tok), .int (nI val), .ref (b 7), .int (nI man), .ref (b 8), .ref (b 9), .ref (b 10), .ref (b 11), .ref (b 12), .ref (b 13), .ref (b 14)])), (b 1, .inl (tA 0, 212, .inl (nF B))), (b 13, .inl (tA 0, 5, .inl (nF ge))), (b 14, .inl (tA 0, 5, .inl (nF go)))] := hD
  have hp : p ≤ 5 := hp
  have hx9 : x = pw5 (B 0 + 1) p := hx9
  have hx8 : x ≤ 59049 := hx8
  refine lv_iload_n hx hb dX9_deals_13 rfl (lv_at hl 0 rfl) ?_
  refine lv_iconst (v := nI 5) hx hb dX9_deals_14 (by decide) ?_
  refine nv_icmp_ge (tgt := 28) (by omega) (by omega) hx hb dX9_deals_15 (by decide) (fun c_3 => ?_) (fun c_3 => ?_)
  · refine lv_iconst (v := (-1)) hx hb dX9_deals_28 (by decide) ?_
    refine nv_topx (y := (nI 0) + (-1)) (by decide) ?_
    refine lv_istore_n (lv' := [(3, .int ((nI 0) + (-1))), (2, .int (nI x)), (1, .int (nI ((B 0) + 1))), (0, .ref (b 0))]) hx hb dX9_deals_29 rfl hl (by decide) rfl (fun ls hl => ?_)
    refine lv_iconst (v := nI 0) hx hb dX9_deals_30 (by decide) ?_
    refine lv_istore (lv' := [(4, .int (nI 0)), (3, .int ((nI 0) + (-1))), (2, .int (nI x)), (1, .int (nI ((B 0) + 1))), (0, .ref (b 0))]) hx hb dX9_deals_31 hl (by decide) rfl (fun ls hl => ?_)
    refine wloop (σ := (Nat) × (Nat) × (Nat → Nat) × (Nat → Nat)) (fun | (code, mo, o2, g2) => x - code) (fun | (code, mo, o2, g2) => (code ≤ x) ∧ ((mo, o2, g2) = dlT B go ge code) ∧ (mo ≤ 5242881) ∧ (∀ j, g2 j < 1048576) ∧ (∀ j, o2 j < 1048576)) (fun | (code, mo, o2, g2) => [(4, .int (nI code)), (3, .int ((nI mo) + (-1))), (2, .int (nI x)), (1, .int (nI ((B 0) + 1))), (0, .ref (b 0))]) (fun | (code, mo, o2, g2) => [(b 0, .inr (7, [.ref (b 1), .ref (b 2), .ref (b 3), .ref (b 4), .ref (b 5), .int (nI qu), .long ab, .long bl, .ref (b 6), .int (nI tyd), .int (nI at0), .int (nI sta), .int (nI tok), .int (nI val), .ref (b 7), .int (nI man), .ref (b 8), .ref (b 9), .ref (b 10), .ref (b 11), .ref (b 12), .ref (b 13), .ref (b 14)])), (b 1, .inl (tA 0, 212, .inl (nF B))), (b 13, .inl (tA 0, 5, .inl (nF g2))), (b 14, .inl (tA 0, 5, .inl (nF o2)))]) (0, 0, go, ge) ⟨(show 0 ≤ x from by omega), (show (0, go, ge) = dlT B go ge 0 from rfl), (show 0 ≤ 5242881 from by omega), (show ∀ j, ge j < 1048576 from hbg), (show ∀ j, go j < 1048576 from hbo)⟩ (lv_sub hl [0, 1, 2, 3, 4] rfl) hP hD hS ?_
    rintro ⟨code, mo, o2, g2⟩ ⟨hcode, hpl, hmo, hbg2, hbo2⟩ ih_4 ls H locs hl hP hD hS
    have hl : lv_has ls 11 [(4, .int (nI code)), (3, .int ((nI mo) + (-1))), (2, .int (nI x)), (1, .int (nI ((B 0) + 1))), (0, .ref (b 0))] := hl
    have hP : va_P G vwCl [(b 0, .inr (7, [.ref (b 1), .ref (b 2), .ref (b 3), .ref (b 4), .ref (b 5), .int (nI qu), .long ab, .long bl, .ref (b 6), .int (nI tyd), .int (nI at0), .int (nI sta), .int (nI tok), .int (nI val), .ref (b 7), .int (nI man), .ref (b 8), .ref (b 9), .ref (b 10), .ref (b 11), .ref (b 12), .ref (b 13), .ref (b 14)])), (b 1, .inl (tA 0, 212, .inl (nF B))), (b 13, .inl (tA 0, 5, .inl (nF g2))), (b 14, .inl (tA 0, 5, .inl (nF o2)))] H := hP
    have hD : va_D A [(b 0, .inr (7, [.ref (b 1), .ref (b 2), .ref (b 3), .ref (b 4), .ref (b 5), .int (nI qu), .long ab, .long bl, .ref (b 6), .int (nI tyd), .int (nI at0), .int (nI sta), .int (nI tok), .int (nI val), .ref (b 7), .int (nI man), .ref (b 8), .ref (b 9), .ref (b 10), .ref (b 11), .ref (b 12), .ref (b 13), .ref (b 14)])), (b 1, .inl (tA 0, 212, .inl (nF B))), (b 13, .inl (tA 0, 5, .inl (nF g2))), (b 14, .inl (tA 0, 5, .inl (nF o2)))] := hD
    have hcode : code ≤ x := hcode
    have hpl : (mo, o2, g2) = dlT B go ge code := hpl
    have hmo : mo ≤ 5242881 := hmo
    have hbg2 : ∀ j, g2 j < 1048576 := hbg2
    have hbo2 : ∀ j, o2 j < 1048576 := hbo2
    refine lv_iload hx hb dX9_deals_33 (lv_at hl 0 rfl) ?_
    refine lv_iload_n hx hb dX9_deals_35 rfl (lv_at hl 2 rfl) ?_
    refine nv_icmp_ge (tgt := 261) (by omega) (by omega) hx hb dX9_deals_36 (by decide) (fun c_5 => ?_) (fun c_5 => ?_)
    · refine lv_iload_n hx hb dX9_deals_261 rfl (lv_at hl 1 rfl) ?_
      exact retI hx hb hr hlocks hS hP hD (mo, o2, g2) (rfl) (⟨rfl, by rw [hpl]; rw [show code = x from (by omega), hx9, show p = 5 from (by omega)]; exact congrArg (dlT B go ge) (pw5_5 _), hmo, hbo2, hbg2⟩) dX9_deals_262
    · refine lv_iload hx hb dX9_deals_39 (lv_at hl 0 rfl) ?_
      refine lv_istore (lv' := [(5, .int (nI code)), (4, .int (nI code)), (3, .int ((nI mo) + (-1))), (2, .int (nI x)), (1, .int (nI ((B 0) + 1))), (0, .ref (b 0))]) hx hb dX9_deals_41 hl (by decide) rfl (fun ls hl => ?_)
      refine lv_iconst (v := nI 0) hx hb dX9_deals_43 (by decide) ?_
      refine lv_istore (lv' := [(6, .int (nI 0)), (5, .int (nI code)), (4, .int (nI code)), (3, .int ((nI mo) + (-1))), (2, .int (nI x)), (1, .int (nI ((B 0) + 1))), (0, .ref (b 0))]) hx hb dX9_deals_44 hl (by decide) rfl (fun ls hl => ?_)
      refine lv_iconst (v := nI 4) hx hb dX9_deals_46 (by decide) ?_
      refine nv_topx (y := (nI 5) + (-1)) (by decide) ?_
      refine lv_istore (lv' := [(7, .int ((nI 5) + (-1))), (6, .int (nI 0)), (5, .int (nI code)), (4, .int (nI code)), (3, .int ((nI mo) + (-1))), (2, .int (nI x)), (1, .int (nI ((B 0) + 1))), (0, .ref (b 0))]) hx hb dX9_deals_47 hl (by decide) rfl (fun ls hl => ?_)
      refine wloop (σ := (Nat) × (Nat) × (Nat) × (Nat → Nat)) (fun | (jj, lf, sm, g3) => jj) (fun | (jj, lf, sm, g3) => (jj ≤ 5) ∧ (lf = gL (B 0 + 1) code (5 - jj)) ∧ (sm = gS B (B 0 + 1) code (5 - jj)) ∧ (sm ≤ 1048576 * (5 - jj)) ∧ (g3 = gH (B 0 + 1) code g2 (5 - jj)) ∧ (∀ j, g3 j < 1048576)) (fun | (jj, lf, sm, g3) => [(7, .int ((nI jj) + (-1))), (6, .int (nI sm)), (5, .int (nI lf)), (4, .int (nI code)), (3, .int ((nI mo) + (-1))), (2, .int (nI x)), (1, .int (nI ((B 0) + 1))), (0, .ref (b 0))]) (fun | (jj, lf, sm, g3) => [(b 0, .inr (7, [.ref (b 1), .ref (b 2), .ref (b 3), .ref (b 4), .ref (b 5), .int (nI qu), .long ab, .long bl, .ref (b 6), .int (nI tyd), .int (nI at0), .int (nI sta), .int (nI tok), .int (nI val), .ref (b 7), .int (nI man), .ref (b 8), .ref (b 9), .ref (b 10), .ref (b 11), .ref (b 12), .ref (b 13), .ref (b 14)])), (b 1, .inl (tA 0, 212, .inl (nF B))), (b 13, .inl (tA 0, 5, .inl (nF g3))), (b 14, .inl (tA 0, 5, .inl (nF o2)))]) (5, code, 0, g2) ⟨(show 5 ≤ 5 from by omega), (show code = gL (B 0 + 1) code (5 - 5) from rfl), (show 0 = gS B (B 0 + 1) code (5 - 5) from rfl), (show 0 ≤ 1048576 * (5 - 5) from by omega), (show g2 = gH (B 0 + 1) code g2 (5 - 5) from rfl), (show ∀ j, g2 j < 1048576 from hbg2)⟩ (lv_sub hl [0, 1, 2, 3, 4, 5, 6, 7] rfl) hP hD hS ?_
      rintro ⟨jj, lf, sm, g3⟩ ⟨hj, hlf, hsm, hsm2, hg3, hbg3⟩ ih_6 ls H locs hl hP hD hS
      have hl : lv_has ls 11 [(7, .int ((nI jj) + (-1))), (6, .int (nI sm)), (5, .int (nI lf)), (4, .int (nI code)), (3, .int ((nI mo) + (-1))), (2, .int (nI x)), (1, .int (nI ((B 0) + 1))), (0, .ref (b 0))] := hl
      have hP : va_P G vwCl [(b 0, .inr (7, [.ref (b 1), .ref (b 2), .ref (b 3), .ref (b 4), .ref (b 5), .int (nI qu), .long ab, .long bl, .ref (b 6), .int (nI tyd), .int (nI at0), .int (nI sta), .int (nI tok), .int (nI val), .ref (b 7), .int (nI man), .ref (b 8), .ref (b 9), .ref (b 10), .ref (b 11), .ref (b 12), .ref (b 13), .ref (b 14)])), (b 1, .inl (tA 0, 212, .inl (nF B))), (b 13, .inl (tA 0, 5, .inl (nF g3))), (b 14, .inl (tA 0, 5, .inl (nF o2)))] H := hP
      have hD : va_D A [(b 0, .inr (7, [.ref (b 1), .ref (b 2), .ref (b 3), .ref (b 4), .ref (b 5), .int (nI qu), .long ab, .long bl, .ref (b 6), .int (nI tyd), .int (nI at0), .int (nI sta), .int (nI tok), .int (nI val), .ref (b 7), .int (nI man), .ref (b 8), .ref (b 9), .ref (b 10), .ref (b 11), .ref (b 12), .ref (b 13), .ref (b 14)])), (b 1, .inl (tA 0, 212, .inl (nF B))), (b 13, .inl (tA 0, 5, .inl (nF g3))), (b 14, .inl (tA 0, 5, .inl (nF o2)))] := hD
      have hj : jj ≤ 5 := hj
      have hlf : lf = gL (B 0 + 1) code (5 - jj) := hlf
      have hsm : sm = gS B (B 0 + 1) code (5 - jj) := hsm
      have hsm2 : sm ≤ 1048576 * (5 - jj) := hsm2
      have hg3 : g3 = gH (B 0 + 1) code g2 (5 - jj) := hg3
      have hbg3 : ∀ j, g3 j < 1048576 := hbg3
      refine lv_iload hx hb dX9_deals_49 (lv_at hl 0 rfl) ?_
      refine zv_if_lt (tgt := 120) (X := ((jj : Nat) : Int) - 1) (predZ (by omega)) hx hb dX9_deals_51 (by decide) (fun c_7 => ?_) (fun c_7 => ?_)
      · have hj0 : jj = 0 := by omega
        rw [hj0] at hsm hg3 hsm2
        refine lv_iload hx hb dX9_deals_120 (lv_at hl 1 rfl) ?_
        refine lv_iload_n hx hb dX9_deals_122 rfl (lv_at hl 4 rfl) ?_
        refine zv_icmp_le (tgt := 130) (X := ((sm : Nat) : Int)) (Y := ((mo : Nat) : Int) - 1) (nI_toIntC (by omega)) (predZ (by omega)) hx hb dX9_deals_123 (by decide) (fun c_8 => ?_) (fun c_8 => ?_)
        · refine lv_iconst (v := nI 0) hx hb dX9_deals_130 (by decide) ?_
          refine lv_istore (lv' := [(7, .int (nI 0)), (6, .int (nI sm)), (5, .int (nI lf)), (4, .int (nI code)), (3, .int ((nI mo) + (-1))), (2, .int (nI x)), (1, .int (nI ((B 0) + 1))), (0, .ref (b 0))]) hx hb dX9_deals_131 hl (by decide) rfl (fun ls hl => ?_)
          refine lv_iconst (v := nI 0) hx hb dX9_deals_133 (by decide) ?_
          refine lv_istore (lv' := [(8, .int (nI 0)), (7, .int (nI 0)), (6, .int (nI sm)), (5, .int (nI lf)), (4, .int (nI code)), (3, .int ((nI mo) + (-1))), (2, .int (nI x)), (1, .int (nI ((B 0) + 1))), (0, .ref (b 0))]) hx hb dX9_deals_134 hl (by decide) rfl (fun ls hl => ?_)
          refine wloop (σ := (Nat) × (Nat)) (fun | (t, cv) => B 0 - t) (fun | (t, cv) => (t ≤ B 0 ∧ cv < 2) ∧ (cv = 1 → (mo < sm + 1 ∧ allB (fitsM B g3) t)) ∧ (¬ cv = 1 → ¬ (mo < sm + 1 ∧ allB (fitsM B g3) (B 0)))) (fun | (t, cv) => [(8, .int (nI t)), (7, .int (nI cv)), (6, .int (nI sm)), (5, .int (nI lf)), (4, .int (nI code)), (3, .int ((nI mo) + (-1))), (2, .int (nI x)), (1, .int (nI ((B 0) + 1))), (0, .ref (b 0))]) (fun | (t, cv) => [(b 0, .inr (7, [.ref (b 1), .ref (b 2), .ref (b 3), .ref (b 4), .ref (b 5), .int (nI qu), .long ab, .long bl, .ref (b 6), .int (nI tyd), .int (nI at0), .int (nI sta), .int (nI tok), .int (nI val), .ref (b 7), .int (nI man), .ref (b 8), .ref (b 9), .ref (b 10), .ref (b 11), .ref (b 12), .ref (b 13), .ref (b 14)])), (b 1, .inl (tA 0, 212, .inl (nF B))), (b 13, .inl (tA 0, 5, .inl (nF g3))), (b 14, .inl (tA 0, 5, .inl (nF o2)))]) (0, 0) ⟨(show 0 ≤ B 0 ∧ 0 < 2 from ⟨by omega, by omega⟩), (show 0 = 1 → (mo < sm + 1 ∧ allB (fitsM B g3) 0) from by intro z; first | omega | exact ⟨by omega, allB_0 _⟩), (show ¬ 0 = 1 → ¬ (mo < sm + 1 ∧ allB (fitsM B g3) (B 0)) from by intro z; first | omega | exact fun y => by omega)⟩ (lv_sub hl [0, 1, 2, 3, 4, 5, 6, 7, 8] rfl) hP hD hS ?_
          rintro ⟨t, cv⟩ ⟨ht, hcv, hcv9⟩ ih_9 ls H locs hl hP hD hS
          have hl : lv_has ls 11 [(8, .int (nI t)), (7, .int (nI cv)), (6, .int (nI sm)), (5, .int (nI lf)), (4, .int (nI code)), (3, .int ((nI mo) + (-1))), (2, .int (nI x)), (1, .int (nI ((B 0) + 1))), (0, .ref (b 0))] := hl
          have hP : va_P G vwCl [(b 0, .inr (7, [.ref (b 1), .ref (b 2), .ref (b 3), .ref (b 4), .ref (b 5), .int (nI qu), .long ab, .long bl, .ref (b 6), .int (nI tyd), .int (nI at0), .int (nI sta), .int (nI tok), .int (nI val), .ref (b 7), .int (nI man), .ref (b 8), .ref (b 9), .ref (b 10), .ref (b 11), .ref (b 12), .ref (b 13), .ref (b 14)])), (b 1, .inl (tA 0, 212, .inl (nF B))), (b 13, .inl (tA 0, 5, .inl (nF g3))), (b 14, .inl (tA 0, 5, .inl (nF o2)))] H := hP
          have hD : va_D A [(b 0, .inr (7, [.ref (b 1), .ref (b 2), .ref (b 3), .ref (b 4), .ref (b 5), .int (nI qu), .long ab, .long bl, .ref (b 6), .int (nI tyd), .int (nI at0), .int (nI sta), .int (nI tok), .int (nI val), .ref (b 7), .int (nI man), .ref (b 8), .ref (b 9), .ref (b 10), .ref (b 11), .ref (b 12), .ref (b 13), .ref (b 14)])), (b 1, .inl (tA 0, 212, .inl (nF B))), (b 13, .inl (tA 0, 5, .inl (nF g3))), (b 14, .inl (tA 0, 5, .inl (nF o2)))] := hD
          have ht : t ≤ B 0 ∧ cv < 2 := ht
          have hcv : cv = 1 → (mo < sm + 1 ∧ allB (fitsM B g3) t) := hcv
          have hcv9 : ¬ cv = 1 → ¬ (mo < sm + 1 ∧ allB (fitsM B g3) (B 0)) := hcv9
          refine lv_iload hx hb dX9_deals_136 (lv_at hl 0 rfl) ?_
          refine lv_aload_n hx hb dX9_deals_138 rfl (lv_at hl 8 rfl) ?_
          refine va_get (D := G) (ci := 7) (C := RX9) (T := TX9) (N := 23) hx hb hts iX9 hown hKK.1 hP 0 rfl rfl 0 (by decide) f7 (fun _ h9 => h9) rfl dX9_deals_139 ?_
          refine lv_iconst (v := nI 0) hx hb dX9_deals_142 (by decide) ?_
          refine nv_iald (i := 0) hx hb hKK.1 hP 1 0 rfl rfl (by omega) (by decide) dX9_deals_143 ?_
          have b_10 := hbB 0
          refine nv_icmp_ge (tgt := 218) (by omega) (by omega) hx hb dX9_deals_144 (by decide) (fun c_11 => ?_) (fun c_11 => ?_)
          · have hcvx := hcv9
            have hcv : cv = 1 → (mo < sm + 1 ∧ allB (fitsM B g3) (B 0)) := by intro z; have e9 : t = B 0 := (by omega); rw [e9] at hcv; exact hcv z
            refine lv_iload hx hb dX9_deals_218 (lv_at hl 1 rfl) ?_
            refine nv_if_eq (tgt := 255) (by omega) hx hb dX9_deals_220 (by decide) (fun c_12 => ?_) (fun c_12 => ?_)
            · refine lv_iinc (v := (nI (code + 1))) (lv' := [(4, .int (nI (code + 1))), (8, .int (nI t)), (7, .int (nI cv)), (6, .int (nI sm)), (5, .int (nI lf)), (3, .int ((nI mo) + (-1))), (2, .int (nI x)), (1, .int (nI ((B 0) + 1))), (0, .ref (b 0))]) hx hb dX9_deals_255 hl (k := 4) rfl (nI_add code 1) (by decide) rfl (fun ls hl => ?_)
              refine lv_goto (tgt := 33) hx hb dX9_deals_258 (by decide) ?_
              exact ih_4 (code + 1, mo, o2, g3) (show x - (code + 1) < x - code from by omega) ⟨(show (code + 1) ≤ x from by omega), (show (mo, o2, g3) = dlT B go ge (code + 1) from by first | exact (show cpTo o2 0 g3 5 = o3 from by rw [ho3, show p = 5 from by omega]) ▸ dlT_1 hpl hg3 hsm (hcv (by omega)) | exact dlT_2 hpl hg3 hsm (hcv9 (by omega))), (show mo ≤ 5242881 from by omega), (show ∀ j, g3 j < 1048576 from hbg3), (show ∀ j, o2 j < 1048576 from by first | exact hbo2 | (rw [ho3]; exact cpTo_lt hbo2 hbg3 _ _))⟩ _ _ _ (lv_sub hl [0, 5, 6, 7, 8] rfl) hP hD hS
            · refine lv_iload hx hb dX9_deals_223 (lv_at hl 2 rfl) ?_
              refine nv_topx (y := (nI (sm + 1)) + (-1)) (pk_m1 sm).symm ?_
              refine lv_istore_n (lv' := [(3, .int ((nI (sm + 1)) + (-1))), (8, .int (nI t)), (7, .int (nI cv)), (6, .int (nI sm)), (5, .int (nI lf)), (4, .int (nI code)), (2, .int (nI x)), (1, .int (nI ((B 0) + 1))), (0, .ref (b 0))]) hx hb dX9_deals_225 rfl hl (by decide) rfl (fun ls hl => ?_)
              refine lv_iconst (v := nI 0) hx hb dX9_deals_226 (by decide) ?_
              refine lv_istore (lv' := [(8, .int (nI 0)), (3, .int ((nI (sm + 1)) + (-1))), (7, .int (nI cv)), (6, .int (nI sm)), (5, .int (nI lf)), (4, .int (nI code)), (2, .int (nI x)), (1, .int (nI ((B 0) + 1))), (0, .ref (b 0))]) hx hb dX9_deals_227 hl (by decide) rfl (fun ls hl => ?_)
              refine wloop (σ := (Nat) × (Nat → Nat)) (fun | (p, o3) => 5 - p) (fun | (p, o3) => (p ≤ 5) ∧ (o3 = cpTo o2 0 g3 p)) (fun | (p, o3) => [(8, .int (nI p)), (3, .int ((nI (sm + 1)) + (-1))), (7, .int (nI cv)), (6, .int (nI sm)), (5, .int (nI lf)), (4, .int (nI code)), (2, .int (nI x)), (1, .int (nI ((B 0) + 1))), (0, .ref (b 0))]) (fun | (p, o3) => [(b 0, .inr (7, [.ref (b 1), .ref (b 2), .ref (b 3), .ref (b 4), .ref (b 5), .int (nI qu), .long ab, .long bl, .ref (b 6), .int (nI tyd), .int (nI at0), .int (nI sta), .int (nI tok), .int (nI val), .ref (b 7), .int (nI man), .ref (b 8), .ref (b 9), .ref (b 10), .ref (b 11), .ref (b 12), .ref (b 13), .ref (b 14)])), (b 1, .inl (tA 0, 212, .inl (nF B))), (b 13, .inl (tA 0, 5, .inl (nF g3))), (b 14, .inl (tA 0, 5, .inl (nF o3)))]) (0, o2) ⟨(show 0 ≤ 5 from by omega), (show o2 = cpTo o2 0 g3 0 from (cpTo_0 _ _ _).symm)⟩ (lv_sub hl [0, 1, 2, 3, 4, 5, 6, 7, 8] rfl) hP hD hS ?_
              rintro ⟨p, o3⟩ ⟨hp6, ho3⟩ ih_13 ls H locs hl hP hD hS
              have hl : lv_has ls 11 [(8, .int (nI p)), (3, .int ((nI (sm + 1)) + (-1))), (7, .int (nI cv)), (6, .int (nI sm)), (5, .int (nI lf)), (4, .int (nI code)), (2, .int (nI x)), (1, .int (nI ((B 0) + 1))), (0, .ref (b 0))] := hl
              have hP : va_P G vwCl [(b 0, .inr (7, [.ref (b 1), .ref (b 2), .ref (b 3), .ref (b 4), .ref (b 5), .int (nI qu), .long ab, .long bl, .ref (b 6), .int (nI tyd), .int (nI at0), .int (nI sta), .int (nI tok), .int (nI val), .ref (b 7), .int (nI man), .ref (b 8), .ref (b 9), .ref (b 10), .ref (b 11), .ref (b 12), .ref (b 13), .ref (b 14)])), (b 1, .inl (tA 0, 212, .inl (nF B))), (b 13, .inl (tA 0, 5, .inl (nF g3))), (b 14, .inl (tA 0, 5, .inl (nF o3)))] H := hP
              have hD : va_D A [(b 0, .inr (7, [.ref (b 1), .ref (b 2), .ref (b 3), .ref (b 4), .ref (b 5), .int (nI qu), .long ab, .long bl, .ref (b 6), .int (nI tyd), .int (nI at0), .int (nI sta), .int (nI tok), .int (nI val), .ref (b 7), .int (nI man), .ref (b 8), .ref (b 9), .ref (b 10), .ref (b 11), .ref (b 12), .ref (b 13), .ref (b 14)])), (b 1, .inl (tA 0, 212, .inl (nF B))), (b 13, .inl (tA 0, 5, .inl (nF g3))), (b 14, .inl (tA 0, 5, .inl (nF o3)))] := hD
              have hp6 : p ≤ 5 := hp6
              have ho3 : o3 = cpTo o2 0 g3 p := ho3
              refine lv_iload hx hb dX9_deals_229 (lv_at hl 0 rfl) ?_
              refine lv_iconst (v := nI 5) hx hb dX9_deals_231 (by decide) ?_
              refine nv_icmp_ge (tgt := 255) (by omega) (by omega) hx hb dX9_deals_232 (by decide) (fun c_14 => ?_) (fun c_14 => ?_)
              · refine lv_iinc (v := (nI (code + 1))) (lv' := [(4, .int (nI (code + 1))), (8, .int (nI p)), (3, .int ((nI (sm + 1)) + (-1))), (7, .int (nI cv)), (6, .int (nI sm)), (5, .int (nI lf)), (2, .int (nI x)), (1, .int (nI ((B 0) + 1))), (0, .ref (b 0))]) hx hb dX9_deals_255 hl (k := 5) rfl (nI_add code 1) (by decide) rfl (fun ls hl => ?_)
                refine lv_goto (tgt := 33) hx hb dX9_deals_258 (by decide) ?_
                exact ih_4 (code + 1, (sm + 1), o3, g3) (show x - (code + 1) < x - code from by omega) ⟨(show (code + 1) ≤ x from by omega), (show ((sm + 1), o3, g3) = dlT B go ge (code + 1) from by first | exact (show cpTo o2 0 g3 5 = o3 from by rw [ho3, show p = 5 from by omega]) ▸ dlT_1 hpl hg3 hsm (hcv (by omega)) | exact dlT_2 hpl hg3 hsm (hcv9 (by omega))), (show (sm + 1) ≤ 5242881 from by omega), (show ∀ j, g3 j < 1048576 from hbg3), (show ∀ j, o3 j < 1048576 from by first | exact hbo2 | (rw [ho3]; exact cpTo_lt hbo2 hbg3 _ _))⟩ _ _ _ (lv_sub hl [0, 2, 6, 7, 8] rfl) hP hD hS
              · refine lv_aload_n hx hb dX9_deals_235 rfl (lv_at hl 8 rfl) ?_
                refine va_get (D := G) (ci := 7) (C := RX9) (T := TX9) (N := 23) hx hb hts iX9 hown hKK.1 hP 0 rfl rfl 22 (by decide) f50 (fun _ h9 => h9) rfl dX9_deals_236 ?_
                refine lv_iload hx hb dX9_deals_239 (lv_at hl 0 rfl) ?_
                refine lv_aload_n hx hb dX9_deals_241 rfl (lv_at hl 8 rfl) ?_
                refine va_get (D := G) (ci := 7) (C := RX9) (T := TX9) (N := 23) hx hb hts iX9 hown hKK.1 hP 0 rfl rfl 21 (by decide) f47 (fun _ h9 => h9) rfl dX9_deals_242 ?_
                refine lv_iload hx hb dX9_deals_245 (lv_at hl 0 rfl) ?_
                refine nv_iald (i := p) hx hb hKK.1 hP 2 0 rfl rfl (by omega) (by decide) dX9_deals_247 ?_
                have b_15 := hbg3 p
                refine nv_iast (i := p) hx hb hKK.1 hP hD hS 3 0 rfl rfl (by omega) (by decide) dX9_deals_248 [(b 0, .inr (7, [.ref (b 1), .ref (b 2), .ref (b 3), .ref (b 4), .ref (b 5), .int (nI qu), .long ab, .long bl, .ref (b 6), .int (nI tyd), .int (nI at0), .int (nI sta), .int (nI tok), .int (nI val), .ref (b 7), .int (nI man), .ref (b 8), .ref (b 9), .ref (b 10), .ref (b 11), .ref (b 12), .ref (b 13), .ref (b 14)])), (b 1, .inl (tA 0, 212, .inl (nF B))), (b 13, .inl (tA 0, 5, .inl (nF g3))), (b 14, .inl (tA 0, 5, .inl (nF (updN o3 p (g3 p)))))] rfl (fun H locs hP hD hS => ?_)
                refine lv_iinc (v := (nI (p + 1))) (lv' := [(8, .int (nI (p + 1))), (3, .int ((nI (sm + 1)) + (-1))), (7, .int (nI cv)), (6, .int (nI sm)), (5, .int (nI lf)), (4, .int (nI code)), (2, .int (nI x)), (1, .int (nI ((B 0) + 1))), (0, .ref (b 0))]) hx hb dX9_deals_249 hl (k := 0) rfl (nI_add p 1) (by decide) rfl (fun ls hl => ?_)
                refine lv_goto (tgt := 229) hx hb dX9_deals_252 (by decide) ?_
                exact ih_13 (p + 1, updN o3 p (g3 p)) (show 5 - (p + 1) < 5 - p from by omega) ⟨(show (p + 1) ≤ 5 from by omega), (show (updN o3 p (g3 p)) = cpTo o2 0 g3 (p + 1) from by rw [cpTo_s, ho3, Nat.zero_add])⟩ _ _ _ (lv_sub hl [0, 1, 2, 3, 4, 5, 6, 7, 8] rfl) hP hD hS
          · refine lv_iload hx hb dX9_deals_147 (lv_at hl 1 rfl) ?_
            refine nv_if_eq (tgt := 218) (by omega) hx hb dX9_deals_149 (by decide) (fun c_16 => ?_) (fun c_16 => ?_)
            · have hcvx := hcv9
              have hcv : cv = 1 → (mo < sm + 1 ∧ allB (fitsM B g3) (B 0)) := by intro z; have e9 : t = B 0 := (by omega); rw [e9] at hcv; exact hcv z
              refine lv_iload hx hb dX9_deals_218 (lv_at hl 1 rfl) ?_
              refine nv_if_eq (tgt := 255) (by omega) hx hb dX9_deals_220 (by decide) (fun c_17 => ?_) (fun c_17 => ?_)
              · refine lv_iinc (v := (nI (code + 1))) (lv' := [(4, .int (nI (code + 1))), (8, .int (nI t)), (7, .int (nI cv)), (6, .int (nI sm)), (5, .int (nI lf)), (3, .int ((nI mo) + (-1))), (2, .int (nI x)), (1, .int (nI ((B 0) + 1))), (0, .ref (b 0))]) hx hb dX9_deals_255 hl (k := 4) rfl (nI_add code 1) (by decide) rfl (fun ls hl => ?_)
                refine lv_goto (tgt := 33) hx hb dX9_deals_258 (by decide) ?_
                exact ih_4 (code + 1, mo, o2, g3) (show x - (code + 1) < x - code from by omega) ⟨(show (code + 1) ≤ x from by omega), (show (mo, o2, g3) = dlT B go ge (code + 1) from by first | exact (show cpTo o2 0 g3 5 = o3 from by rw [ho3, show p = 5 from by omega]) ▸ dlT_1 hpl hg3 hsm (hcv (by omega)) | exact dlT_2 hpl hg3 hsm (hcv9 (by omega))), (show mo ≤ 5242881 from by omega), (show ∀ j, g3 j < 1048576 from hbg3), (show ∀ j, o2 j < 1048576 from by first | exact hbo2 | (rw [ho3]; exact cpTo_lt hbo2 hbg3 _ _))⟩ _ _ _ (lv_sub hl [0, 5, 6, 7, 8] rfl) hP hD hS
              · refine lv_iload hx hb dX9_deals_223 (lv_at hl 2 rfl) ?_
                refine nv_topx (y := (nI (sm + 1)) + (-1)) (pk_m1 sm).symm ?_
                refine lv_istore_n (lv' := [(3, .int ((nI (sm + 1)) + (-1))), (8, .int (nI t)), (7, .int (nI cv)), (6, .int (nI sm)), (5, .int (nI lf)), (4, .int (nI code)), (2, .int (nI x)), (1, .int (nI ((B 0) + 1))), (0, .ref (b 0))]) hx hb dX9_deals_225 rfl hl (by decide) rfl (fun ls hl => ?_)
                refine lv_iconst (v := nI 0) hx hb dX9_deals_226 (by decide) ?_
                refine lv_istore (lv' := [(8, .int (nI 0)), (3, .int ((nI (sm + 1)) + (-1))), (7, .int (nI cv)), (6, .int (nI sm)), (5, .int (nI lf)), (4, .int (nI code)), (2, .int (nI x)), (1, .int (nI ((B 0) + 1))), (0, .ref (b 0))]) hx hb dX9_deals_227 hl (by decide) rfl (fun ls hl => ?_)
                refine wloop (σ := (Nat) × (Nat → Nat)) (fun | (p, o3) => 5 - p) (fun | (p, o3) => (p ≤ 5) ∧ (o3 = cpTo o2 0 g3 p)) (fun | (p, o3) => [(8, .int (nI p)), (3, .int ((nI (sm + 1)) + (-1))), (7, .int (nI cv)), (6, .int (nI sm)), (5, .int (nI lf)), (4, .int (nI code)), (2, .int (nI x)), (1, .int (nI ((B 0) + 1))), (0, .ref (b 0))]) (fun | (p, o3) => [(b 0, .inr (7, [.ref (b 1), .ref (b 2), .ref (b 3), .ref (b 4), .ref (b 5), .int (nI qu), .long ab, .long bl, .ref (b 6), .int (nI tyd), .int (nI at0), .int (nI sta), .int (nI tok), .int (nI val), .ref (b 7), .int (nI man), .ref (b 8), .ref (b 9), .ref (b 10), .ref (b 11), .ref (b 12), .ref (b 13), .ref (b 14)])), (b 1, .inl (tA 0, 212, .inl (nF B))), (b 13, .inl (tA 0, 5, .inl (nF g3))), (b 14, .inl (tA 0, 5, .inl (nF o3)))]) (0, o2) ⟨(show 0 ≤ 5 from by omega), (show o2 = cpTo o2 0 g3 0 from (cpTo_0 _ _ _).symm)⟩ (lv_sub hl [0, 1, 2, 3, 4, 5, 6, 7, 8] rfl) hP hD hS ?_
                rintro ⟨p, o3⟩ ⟨hp6, ho3⟩ ih_18 ls H locs hl hP hD hS
                have hl : lv_has ls 11 [(8, .int (nI p)), (3, .int ((nI (sm + 1)) + (-1))), (7, .int (nI cv)), (6, .int (nI sm)), (5, .int (nI lf)), (4, .int (nI code)), (2, .int (nI x)), (1, .int (nI ((B 0) + 1))), (0, .ref (b 0))] := hl
                have hP : va_P G vwCl [(b 0, .inr (7, [.ref (b 1), .ref (b 2), .ref (b 3), .ref (b 4), .ref (b 5), .int (nI qu), .long ab, .long bl, .ref (b 6), .int (nI tyd), .int (nI at0), .int (nI sta), .int (nI tok), .int (nI val), .ref (b 7), .int (nI man), .ref (b 8), .ref (b 9), .ref (b 10), .ref (b 11), .ref (b 12), .ref (b 13), .ref (b 14)])), (b 1, .inl (tA 0, 212, .inl (nF B))), (b 13, .inl (tA 0, 5, .inl (nF g3))), (b 14, .inl (tA 0, 5, .inl (nF o3)))] H := hP
                have hD : va_D A [(b 0, .inr (7, [.ref (b 1), .ref (b 2), .ref (b 3), .ref (b 4), .ref (b 5), .int (nI qu), .long ab, .long bl, .ref (b 6), .int (nI tyd), .int (nI at0), .int (nI sta), .int (nI tok), .int (nI val), .ref (b 7), .int (nI man), .ref (b 8), .ref (b 9), .ref (b 10), .ref (b 11), .ref (b 12), .ref (b 13), .ref (b 14)])), (b 1, .inl (tA 0, 212, .inl (nF B))), (b 13, .inl (tA 0, 5, .inl (nF g3))), (b 14, .inl (tA 0, 5, .inl (nF o3)))] := hD
                have hp6 : p ≤ 5 := hp6
                have ho3 : o3 = cpTo o2 0 g3 p := ho3
                refine lv_iload hx hb dX9_deals_229 (lv_at hl 0 rfl) ?_
                refine lv_iconst (v := nI 5) hx hb dX9_deals_231 (by decide) ?_
                refine nv_icmp_ge (tgt := 255) (by omega) (by omega) hx hb dX9_deals_232 (by decide) (fun c_19 => ?_) (fun c_19 => ?_)
                · refine lv_iinc (v := (nI (code + 1))) (lv' := [(4, .int (nI (code + 1))), (8, .int (nI p)), (3, .int ((nI (sm + 1)) + (-1))), (7, .int (nI cv)), (6, .int (nI sm)), (5, .int (nI lf)), (2, .int (nI x)), (1, .int (nI ((B 0) + 1))), (0, .ref (b 0))]) hx hb dX9_deals_255 hl (k := 5) rfl (nI_add code 1) (by decide) rfl (fun ls hl => ?_)
                  refine lv_goto (tgt := 33) hx hb dX9_deals_258 (by decide) ?_
                  exact ih_4 (code + 1, (sm + 1), o3, g3) (show x - (code + 1) < x - code from by omega) ⟨(show (code + 1) ≤ x from by omega), (show ((sm + 1), o3, g3) = dlT B go ge (code + 1) from by first | exact (show cpTo o2 0 g3 5 = o3 from by rw [ho3, show p = 5 from by omega]) ▸ dlT_1 hpl hg3 hsm (hcv (by omega)) | exact dlT_2 hpl hg3 hsm (hcv9 (by omega))), (show (sm + 1) ≤ 5242881 from by omega), (show ∀ j, g3 j < 1048576 from hbg3), (show ∀ j, o3 j < 1048576 from by first | exact hbo2 | (rw [ho3]; exact cpTo_lt hbo2 hbg3 _ _))⟩ _ _ _ (lv_sub hl [0, 2, 6, 7, 8] rfl) hP hD hS
                · refine lv_aload_n hx hb dX9_deals_235 rfl (lv_at hl 8 rfl) ?_
                  refine va_get (D := G) (ci := 7) (C := RX9) (T := TX9) (N := 23) hx hb hts iX9 hown hKK.1 hP 0 rfl rfl 22 (by decide) f50 (fun _ h9 => h9) rfl dX9_deals_236 ?_
                  refine lv_iload hx hb dX9_deals_239 (lv_at hl 0 rfl) ?_
                  refine lv_aload_n hx hb dX9_deals_241 rfl (lv_at hl 8 rfl) ?_
                  refine va_get (D := G) (ci := 7) (C := RX9) (T := TX9) (N := 23) hx hb hts iX9 hown hKK.1 hP 0 rfl rfl 21 (by decide) f47 (fun _ h9 => h9) rfl dX9_deals_242 ?_
                  refine lv_iload hx hb dX9_deals_245 (lv_at hl 0 rfl) ?_
                  refine nv_iald (i := p) hx hb hKK.1 hP 2 0 rfl rfl (by omega) (by decide) dX9_deals_247 ?_
                  have b_20 := hbg3 p
                  refine nv_iast (i := p) hx hb hKK.1 hP hD hS 3 0 rfl rfl (by omega) (by decide) dX9_deals_248 [(b 0, .inr (7, [.ref (b 1), .ref (b 2), .ref (b 3), .ref (b 4), .ref (b 5), .int (nI qu), .long ab, .long bl, .ref (b 6), .int (nI tyd), .int (nI at0), .int (nI sta), .int (nI tok), .int (nI val), .ref (b 7), .int (nI man), .ref (b 8), .ref (b 9), .ref (b 10), .ref (b 11), .ref (b 12), .ref (b 13), .ref (b 14)])), (b 1, .inl (tA 0, 212, .inl (nF B))), (b 13, .inl (tA 0, 5, .inl (nF g3))), (b 14, .inl (tA 0, 5, .inl (nF (updN o3 p (g3 p)))))] rfl (fun H locs hP hD hS => ?_)
                  refine lv_iinc (v := (nI (p + 1))) (lv' := [(8, .int (nI (p + 1))), (3, .int ((nI (sm + 1)) + (-1))), (7, .int (nI cv)), (6, .int (nI sm)), (5, .int (nI lf)), (4, .int (nI code)), (2, .int (nI x)), (1, .int (nI ((B 0) + 1))), (0, .ref (b 0))]) hx hb dX9_deals_249 hl (k := 0) rfl (nI_add p 1) (by decide) rfl (fun ls hl => ?_)
                  refine lv_goto (tgt := 229) hx hb dX9_deals_252 (by decide) ?_
                  exact ih_18 (p + 1, updN o3 p (g3 p)) (show 5 - (p + 1) < 5 - p from by omega) ⟨(show (p + 1) ≤ 5 from by omega), (show (updN o3 p (g3 p)) = cpTo o2 0 g3 (p + 1) from by rw [cpTo_s, ho3, Nat.zero_add])⟩ _ _ _ (lv_sub hl [0, 1, 2, 3, 4, 5, 6, 7, 8] rfl) hP hD hS
            · refine lv_iconst (v := nI 0) hx hb dX9_deals_152 (by decide) ?_
              refine lv_istore (lv' := [(9, .int (nI 0)), (8, .int (nI t)), (7, .int (nI cv)), (6, .int (nI sm)), (5, .int (nI lf)), (4, .int (nI code)), (3, .int ((nI mo) + (-1))), (2, .int (nI x)), (1, .int (nI ((B 0) + 1))), (0, .ref (b 0))]) hx hb dX9_deals_153 hl (by decide) rfl (fun ls hl => ?_)
              refine lv_iconst (v := nI 0) hx hb dX9_deals_155 (by decide) ?_
              refine lv_istore (lv' := [(10, .int (nI 0)), (9, .int (nI 0)), (8, .int (nI t)), (7, .int (nI cv)), (6, .int (nI sm)), (5, .int (nI lf)), (4, .int (nI code)), (3, .int ((nI mo) + (-1))), (2, .int (nI x)), (1, .int (nI ((B 0) + 1))), (0, .ref (b 0))]) hx hb dX9_deals_156 hl (by decide) rfl (fun ls hl => ?_)
              refine wloop (σ := (Nat) × (Nat)) (fun | (p, n9) => 5 - p) (fun | (p, n9) => (p ≤ 5 ∧ n9 ≤ p) ∧ (n9 = cntE g3 (t + 1) p)) (fun | (p, n9) => [(10, .int (nI p)), (9, .int (nI n9)), (8, .int (nI t)), (7, .int (nI cv)), (6, .int (nI sm)), (5, .int (nI lf)), (4, .int (nI code)), (3, .int ((nI mo) + (-1))), (2, .int (nI x)), (1, .int (nI ((B 0) + 1))), (0, .ref (b 0))]) (fun | (p, n9) => [(b 0, .inr (7, [.ref (b 1), .ref (b 2), .ref (b 3), .ref (b 4), .ref (b 5), .int (nI qu), .long ab, .long bl, .ref (b 6), .int (nI tyd), .int (nI at0), .int (nI sta), .int (nI tok), .int (nI val), .ref (b 7), .int (nI man), .ref (b 8), .ref (b 9), .ref (b 10), .ref (b 11), .ref (b 12), .ref (b 13), .ref (b 14)])), (b 1, .inl (tA 0, 212, .inl (nF B))), (b 13, .inl (tA 0, 5, .inl (nF g3))), (b 14, .inl (tA 0, 5, .inl (nF o2)))]) (0, 0) ⟨(show 0 ≤ 5 ∧ 0 ≤ 0 from ⟨by omega, by omega⟩), (show 0 = cntE g3 (t + 1) 0 from rfl)⟩ (lv_sub hl [0, 1, 2, 3, 4, 5, 6, 7, 8, 9, 10] rfl) hP hD hS ?_
              rintro ⟨p, n9⟩ ⟨hp5, hn9⟩ ih_21 ls H locs hl hP hD hS
              have hl : lv_has ls 11 [(10, .int (nI p)), (9, .int (nI n9)), (8, .int (nI t)), (7, .int (nI cv)), (6, .int (nI sm)), (5, .int (nI lf)), (4, .int (nI code)), (3, .int ((nI mo) + (-1))), (2, .int (nI x)), (1, .int (nI ((B 0) + 1))), (0, .ref (b 0))] := hl
              have hP : va_P G vwCl [(b 0, .inr (7, [.ref (b 1), .ref (b 2), .ref (b 3), .ref (b 4), .ref (b 5), .int (nI qu), .long ab, .long bl, .ref (b 6), .int (nI tyd), .int (nI at0), .int (nI sta), .int (nI tok), .int (nI val), .ref (b 7), .int (nI man), .ref (b 8), .ref (b 9), .ref (b 10), .ref (b 11), .ref (b 12), .ref (b 13), .ref (b 14)])), (b 1, .inl (tA 0, 212, .inl (nF B))), (b 13, .inl (tA 0, 5, .inl (nF g3))), (b 14, .inl (tA 0, 5, .inl (nF o2)))] H := hP
              have hD : va_D A [(b 0, .inr (7, [.ref (b 1), .ref (b 2), .ref (b 3), .ref (b 4), .ref (b 5), .int (nI qu), .long ab, .long bl, .ref (b 6), .int (nI tyd), .int (nI at0), .int (nI sta), .int (nI tok), .int (nI val), .ref (b 7), .int (nI man), .ref (b 8), .ref (b 9), .ref (b 10), .ref (b 11), .ref (b 12), .ref (b 13), .ref (b 14)])), (b 1, .inl (tA 0, 212, .inl (nF B))), (b 13, .inl (tA 0, 5, .inl (nF g3))), (b 14, .inl (tA 0, 5, .inl (nF o2)))] := hD
              have hp5 : p ≤ 5 ∧ n9 ≤ p := hp5
              have hn9 : n9 = cntE g3 (t + 1) p := hn9
              refine lv_iload hx hb dX9_deals_158 (lv_at hl 0 rfl) ?_
              refine lv_iconst (v := nI 5) hx hb dX9_deals_160 (by decide) ?_
              refine nv_icmp_ge (tgt := 194) (by omega) (by omega) hx hb dX9_deals_161 (by decide) (fun c_22 => ?_) (fun c_22 => ?_)
              · have hp55 : p = 5 := by omega
                rw [hp55] at hn9
                have hn99 : cntE g3 (t + 1) 5 = n9 := hn9.symm
                refine lv_iload hx hb dX9_deals_194 (lv_at hl 1 rfl) ?_
                refine lv_aload_n hx hb dX9_deals_196 rfl (lv_at hl 10 rfl) ?_
                refine lv_iload hx hb dX9_deals_197 (lv_at hl 2 rfl) ?_
                refine roI hP hD hS hA [0, 1] rfl (runV (As := [.int (nI t)]) (rest := [.int (nI n9)]) (isC := [0, 1]) ⟨hx, hb, hml, hown, hts⟩ hKK hP hD rfl (by decide) (c_X9_mayOf l G tA b qu ab bl tyd at0 sta tok val man B t (hWB) (by first | assumption | omega) _) (cwV 1 hts gX9_deals_X9_mayOf rfl rfl rfl (by decide +kernel) ⟨Nat.le_of_ble_eq_true rfl, Nat.le_of_ble_eq_true rfl⟩) rfl rfl rfl rfl hl.1 rfl (lv_room (Nat.le_of_ble_eq_true rfl)) dX9_deals_199 ⟨Nat.le_of_ble_eq_true rfl, Nat.le_of_ble_eq_true rfl⟩) (fun _ => rfl) (fun r_23 u_24 H locs q_25 hP hS => ?_)
                obtain ⟨rfl, e_26⟩ := q_25
                have e_26 : mayM B t < 4 := e_26
                refine nv_icmp_gt (tgt := 209) (by omega) (by omega) hx hb dX9_deals_202 (by decide) (fun c_27 => ?_) (fun c_27 => ?_)
                · refine lv_iconst (v := nI 0) hx hb dX9_deals_209 (by decide) ?_
                  refine lv_istore (lv' := [(7, .int (nI 0)), (10, .int (nI p)), (9, .int (nI n9)), (8, .int (nI t)), (6, .int (nI sm)), (5, .int (nI lf)), (4, .int (nI code)), (3, .int ((nI mo) + (-1))), (2, .int (nI x)), (1, .int (nI ((B 0) + 1))), (0, .ref (b 0))]) hx hb dX9_deals_210 hl (by decide) rfl (fun ls hl => ?_)
                  refine lv_iinc (v := (nI (t + 1))) (lv' := [(8, .int (nI (t + 1))), (7, .int (nI 0)), (10, .int (nI p)), (9, .int (nI n9)), (6, .int (nI sm)), (5, .int (nI lf)), (4, .int (nI code)), (3, .int ((nI mo) + (-1))), (2, .int (nI x)), (1, .int (nI ((B 0) + 1))), (0, .ref (b 0))]) hx hb dX9_deals_212 hl (k := 3) rfl (nI_add t 1) (by decide) rfl (fun ls hl => ?_)
                  refine lv_goto (tgt := 136) hx hb dX9_deals_215 (by decide) ?_
                  exact ih_9 (t + 1, 0) (show B 0 - (t + 1) < B 0 - t from by omega) ⟨(show (t + 1) ≤ B 0 ∧ 0 < 2 from ⟨by omega, by omega⟩), (show 0 = 1 → (mo < sm + 1 ∧ allB (fitsM B g3) (t + 1)) from by intro z; first | omega | exact ⟨(hcv (by omega)).1, allB_s.mpr ⟨(hcv (by omega)).2, by unfold fitsM; omega⟩⟩), (show ¬ 0 = 1 → ¬ (mo < sm + 1 ∧ allB (fitsM B g3) (B 0)) from by intro z; first | omega | exact fun y => by have y2 := y.2 t (by omega); unfold fitsM at y2; omega)⟩ _ _ _ (lv_sub hl [0, 1, 4, 5, 6, 7, 8, 9, 10] rfl) hP hD hS
                · refine lv_iconst (v := nI 1) hx hb dX9_deals_205 (by decide) ?_
                  refine lv_goto (tgt := 210) hx hb dX9_deals_206 (by decide) ?_
                  refine lv_istore (lv' := [(7, .int (nI 1)), (10, .int (nI p)), (9, .int (nI n9)), (8, .int (nI t)), (6, .int (nI sm)), (5, .int (nI lf)), (4, .int (nI code)), (3, .int ((nI mo) + (-1))), (2, .int (nI x)), (1, .int (nI ((B 0) + 1))), (0, .ref (b 0))]) hx hb dX9_deals_210 hl (by decide) rfl (fun ls hl => ?_)
                  refine lv_iinc (v := (nI (t + 1))) (lv' := [(8, .int (nI (t + 1))), (7, .int (nI 1)), (10, .int (nI p)), (9, .int (nI n9)), (6, .int (nI sm)), (5, .int (nI lf)), (4, .int (nI code)), (3, .int ((nI mo) + (-1))), (2, .int (nI x)), (1, .int (nI ((B 0) + 1))), (0, .ref (b 0))]) hx hb dX9_deals_212 hl (k := 3) rfl (nI_add t 1) (by decide) rfl (fun ls hl => ?_)
                  refine lv_goto (tgt := 136) hx hb dX9_deals_215 (by decide) ?_
                  exact ih_9 (t + 1, 1) (show B 0 - (t + 1) < B 0 - t from by omega) ⟨(show (t + 1) ≤ B 0 ∧ 1 < 2 from ⟨by omega, by omega⟩), (show 1 = 1 → (mo < sm + 1 ∧ allB (fitsM B g3) (t + 1)) from by intro z; first | omega | exact ⟨(hcv (by omega)).1, allB_s.mpr ⟨(hcv (by omega)).2, by unfold fitsM; omega⟩⟩), (show ¬ 1 = 1 → ¬ (mo < sm + 1 ∧ allB (fitsM B g3) (B 0)) from by intro z; first | omega | exact fun y => by have y2 := y.2 t (by omega); unfold fitsM at y2; omega)⟩ _ _ _ (lv_sub hl [0, 1, 4, 5, 6, 7, 8, 9, 10] rfl) hP hD hS
              · refine lv_iload hx hb dX9_deals_164 (lv_at hl 1 rfl) ?_
                refine lv_aload_n hx hb dX9_deals_166 rfl (lv_at hl 10 rfl) ?_
                refine va_get (D := G) (ci := 7) (C := RX9) (T := TX9) (N := 23) hx hb hts iX9 hown hKK.1 hP 0 rfl rfl 21 (by decide) f47 (fun _ h9 => h9) rfl dX9_deals_167 ?_
                refine lv_iload hx hb dX9_deals_170 (lv_at hl 0 rfl) ?_
                refine nv_iald (i := p) hx hb hKK.1 hP 2 0 rfl rfl (by omega) (by decide) dX9_deals_172 ?_
                have b_28 := hbg3 p
                refine lv_iload hx hb dX9_deals_173 (lv_at hl 2 rfl) ?_
                refine lv_iconst (v := nI 1) hx hb dX9_deals_175 (by decide) ?_
                refine nv_iadd hx hb dX9_deals_176 ?_
                refine nv_icmp_ne (tgt := 184) (by omega) (by omega) hx hb dX9_deals_177 (by decide) (fun c_29 => ?_) (fun c_29 => ?_)
                · refine lv_iconst (v := nI 0) hx hb dX9_deals_184 (by decide) ?_
                  refine nv_iadd hx hb dX9_deals_185 ?_
                  refine lv_istore (lv' := [(9, .int (nI (n9 + 0))), (10, .int (nI p)), (8, .int (nI t)), (7, .int (nI cv)), (6, .int (nI sm)), (5, .int (nI lf)), (4, .int (nI code)), (3, .int ((nI mo) + (-1))), (2, .int (nI x)), (1, .int (nI ((B 0) + 1))), (0, .ref (b 0))]) hx hb dX9_deals_186 hl (by decide) rfl (fun ls hl => ?_)
                  refine lv_iinc (v := (nI (p + 1))) (lv' := [(10, .int (nI (p + 1))), (9, .int (nI (n9 + 0))), (8, .int (nI t)), (7, .int (nI cv)), (6, .int (nI sm)), (5, .int (nI lf)), (4, .int (nI code)), (3, .int ((nI mo) + (-1))), (2, .int (nI x)), (1, .int (nI ((B 0) + 1))), (0, .ref (b 0))]) hx hb dX9_deals_188 hl (k := 1) rfl (nI_add p 1) (by decide) rfl (fun ls hl => ?_)
                  refine lv_goto (tgt := 158) hx hb dX9_deals_191 (by decide) ?_
                  exact ih_21 (p + 1, n9 + 0) (show 5 - (p + 1) < 5 - p from by omega) ⟨(show (p + 1) ≤ 5 ∧ (n9 + 0) ≤ (p + 1) from ⟨by omega, by omega⟩), (show (n9 + 0) = cntE g3 (t + 1) (p + 1) from by rw [hn9]; first | exact congrArg (fun z => cntE g3 (t + 1) p + z) (if_pos (by omega)).symm | exact congrArg (fun z => cntE g3 (t + 1) p + z) (if_neg (by omega)).symm)⟩ _ _ _ (lv_sub hl [0, 1, 2, 3, 4, 5, 6, 7, 8, 9, 10] rfl) hP hD hS
                · refine lv_iconst (v := nI 1) hx hb dX9_deals_180 (by decide) ?_
                  refine lv_goto (tgt := 185) hx hb dX9_deals_181 (by decide) ?_
                  refine nv_iadd hx hb dX9_deals_185 ?_
                  refine lv_istore (lv' := [(9, .int (nI (n9 + 1))), (10, .int (nI p)), (8, .int (nI t)), (7, .int (nI cv)), (6, .int (nI sm)), (5, .int (nI lf)), (4, .int (nI code)), (3, .int ((nI mo) + (-1))), (2, .int (nI x)), (1, .int (nI ((B 0) + 1))), (0, .ref (b 0))]) hx hb dX9_deals_186 hl (by decide) rfl (fun ls hl => ?_)
                  refine lv_iinc (v := (nI (p + 1))) (lv' := [(10, .int (nI (p + 1))), (9, .int (nI (n9 + 1))), (8, .int (nI t)), (7, .int (nI cv)), (6, .int (nI sm)), (5, .int (nI lf)), (4, .int (nI code)), (3, .int ((nI mo) + (-1))), (2, .int (nI x)), (1, .int (nI ((B 0) + 1))), (0, .ref (b 0))]) hx hb dX9_deals_188 hl (k := 1) rfl (nI_add p 1) (by decide) rfl (fun ls hl => ?_)
                  refine lv_goto (tgt := 158) hx hb dX9_deals_191 (by decide) ?_
                  exact ih_21 (p + 1, n9 + 1) (show 5 - (p + 1) < 5 - p from by omega) ⟨(show (p + 1) ≤ 5 ∧ (n9 + 1) ≤ (p + 1) from ⟨by omega, by omega⟩), (show (n9 + 1) = cntE g3 (t + 1) (p + 1) from by rw [hn9]; first | exact congrArg (fun z => cntE g3 (t + 1) p + z) (if_pos (by omega)).symm | exact congrArg (fun z => cntE g3 (t + 1) p + z) (if_neg (by omega)).symm)⟩ _ _ _ (lv_sub hl [0, 1, 2, 3, 4, 5, 6, 7, 8, 9, 10] rfl) hP hD hS
        · refine lv_iconst (v := nI 1) hx hb dX9_deals_126 (by decide) ?_
          refine lv_goto (tgt := 131) hx hb dX9_deals_127 (by decide) ?_
          refine lv_istore (lv' := [(7, .int (nI 1)), (6, .int (nI sm)), (5, .int (nI lf)), (4, .int (nI code)), (3, .int ((nI mo) + (-1))), (2, .int (nI x)), (1, .int (nI ((B 0) + 1))), (0, .ref (b 0))]) hx hb dX9_deals_131 hl (by decide) rfl (fun ls hl => ?_)
          refine lv_iconst (v := nI 0) hx hb dX9_deals_133 (by decide) ?_
          refine lv_istore (lv' := [(8, .int (nI 0)), (7, .int (nI 1)), (6, .int (nI sm)), (5, .int (nI lf)), (4, .int (nI code)), (3, .int ((nI mo) + (-1))), (2, .int (nI x)), (1, .int (nI ((B 0) + 1))), (0, .ref (b 0))]) hx hb dX9_deals_134 hl (by decide) rfl (fun ls hl => ?_)
          refine wloop (σ := (Nat) × (Nat)) (fun | (t, cv) => B 0 - t) (fun | (t, cv) => (t ≤ B 0 ∧ cv < 2) ∧ (cv = 1 → (mo < sm + 1 ∧ allB (fitsM B g3) t)) ∧ (¬ cv = 1 → ¬ (mo < sm + 1 ∧ allB (fitsM B g3) (B 0)))) (fun | (t, cv) => [(8, .int (nI t)), (7, .int (nI cv)), (6, .int (nI sm)), (5, .int (nI lf)), (4, .int (nI code)), (3, .int ((nI mo) + (-1))), (2, .int (nI x)), (1, .int (nI ((B 0) + 1))), (0, .ref (b 0))]) (fun | (t, cv) => [(b 0, .inr (7, [.ref (b 1), .ref (b 2), .ref (b 3), .ref (b 4), .ref (b 5), .int (nI qu), .long ab, .long bl, .ref (b 6), .int (nI tyd), .int (nI at0), .int (nI sta), .int (nI tok), .int (nI val), .ref (b 7), .int (nI man), .ref (b 8), .ref (b 9), .ref (b 10), .ref (b 11), .ref (b 12), .ref (b 13), .ref (b 14)])), (b 1, .inl (tA 0, 212, .inl (nF B))), (b 13, .inl (tA 0, 5, .inl (nF g3))), (b 14, .inl (tA 0, 5, .inl (nF o2)))]) (0, 1) ⟨(show 0 ≤ B 0 ∧ 1 < 2 from ⟨by omega, by omega⟩), (show 1 = 1 → (mo < sm + 1 ∧ allB (fitsM B g3) 0) from by intro z; first | omega | exact ⟨by omega, allB_0 _⟩), (show ¬ 1 = 1 → ¬ (mo < sm + 1 ∧ allB (fitsM B g3) (B 0)) from by intro z; first | omega | exact fun y => by omega)⟩ (lv_sub hl [0, 1, 2, 3, 4, 5, 6, 7, 8] rfl) hP hD hS ?_
          rintro ⟨t, cv⟩ ⟨ht, hcv, hcv9⟩ ih_30 ls H locs hl hP hD hS
          have hl : lv_has ls 11 [(8, .int (nI t)), (7, .int (nI cv)), (6, .int (nI sm)), (5, .int (nI lf)), (4, .int (nI code)), (3, .int ((nI mo) + (-1))), (2, .int (nI x)), (1, .int (nI ((B 0) + 1))), (0, .ref (b 0))] := hl
          have hP : va_P G vwCl [(b 0, .inr (7, [.ref (b 1), .ref (b 2), .ref (b 3), .ref (b 4), .ref (b 5), .int (nI qu), .long ab, .long bl, .ref (b 6), .int (nI tyd), .int (nI at0), .int (nI sta), .int (nI tok), .int (nI val), .ref (b 7), .int (nI man), .ref (b 8), .ref (b 9), .ref (b 10), .ref (b 11), .ref (b 12), .ref (b 13), .ref (b 14)])), (b 1, .inl (tA 0, 212, .inl (nF B))), (b 13, .inl (tA 0, 5, .inl (nF g3))), (b 14, .inl (tA 0, 5, .inl (nF o2)))] H := hP
          have hD : va_D A [(b 0, .inr (7, [.ref (b 1), .ref (b 2), .ref (b 3), .ref (b 4), .ref (b 5), .int (nI qu), .long ab, .long bl, .ref (b 6), .int (nI tyd), .int (nI at0), .int (nI sta), .int (nI tok), .int (nI val), .ref (b 7), .int (nI man), .ref (b 8), .ref (b 9), .ref (b 10), .ref (b 11), .ref (b 12), .ref (b 13), .ref (b 14)])), (b 1, .inl (tA 0, 212, .inl (nF B))), (b 13, .inl (tA 0, 5, .inl (nF g3))), (b 14, .inl (tA 0, 5, .inl (nF o2)))] := hD
          have ht : t ≤ B 0 ∧ cv < 2 := ht
          have hcv : cv = 1 → (mo < sm + 1 ∧ allB (fitsM B g3) t) := hcv
          have hcv9 : ¬ cv = 1 → ¬ (mo < sm + 1 ∧ allB (fitsM B g3) (B 0)) := hcv9
          refine lv_iload hx hb dX9_deals_136 (lv_at hl 0 rfl) ?_
          refine lv_aload_n hx hb dX9_deals_138 rfl (lv_at hl 8 rfl) ?_
          refine va_get (D := G) (ci := 7) (C := RX9) (T := TX9) (N := 23) hx hb hts iX9 hown hKK.1 hP 0 rfl rfl 0 (by decide) f7 (fun _ h9 => h9) rfl dX9_deals_139 ?_
          refine lv_iconst (v := nI 0) hx hb dX9_deals_142 (by decide) ?_
          refine nv_iald (i := 0) hx hb hKK.1 hP 1 0 rfl rfl (by omega) (by decide) dX9_deals_143 ?_
          have b_31 := hbB 0
          refine nv_icmp_ge (tgt := 218) (by omega) (by omega) hx hb dX9_deals_144 (by decide) (fun c_32 => ?_) (fun c_32 => ?_)
          · have hcvx := hcv9
            have hcv : cv = 1 → (mo < sm + 1 ∧ allB (fitsM B g3) (B 0)) := by intro z; have e9 : t = B 0 := (by omega); rw [e9] at hcv; exact hcv z
            refine lv_iload hx hb dX9_deals_218 (lv_at hl 1 rfl) ?_
            refine nv_if_eq (tgt := 255) (by omega) hx hb dX9_deals_220 (by decide) (fun c_33 => ?_) (fun c_33 => ?_)
            · refine lv_iinc (v := (nI (code + 1))) (lv' := [(4, .int (nI (code + 1))), (8, .int (nI t)), (7, .int (nI cv)), (6, .int (nI sm)), (5, .int (nI lf)), (3, .int ((nI mo) + (-1))), (2, .int (nI x)), (1, .int (nI ((B 0) + 1))), (0, .ref (b 0))]) hx hb dX9_deals_255 hl (k := 4) rfl (nI_add code 1) (by decide) rfl (fun ls hl => ?_)
              refine lv_goto (tgt := 33) hx hb dX9_deals_258 (by decide) ?_
              exact ih_4 (code + 1, mo, o2, g3) (show x - (code + 1) < x - code from by omega) ⟨(show (code + 1) ≤ x from by omega), (show (mo, o2, g3) = dlT B go ge (code + 1) from by first | exact (show cpTo o2 0 g3 5 = o3 from by rw [ho3, show p = 5 from by omega]) ▸ dlT_1 hpl hg3 hsm (hcv (by omega)) | exact dlT_2 hpl hg3 hsm (hcv9 (by omega))), (show mo ≤ 5242881 from by omega), (show ∀ j, g3 j < 1048576 from hbg3), (show ∀ j, o2 j < 1048576 from by first | exact hbo2 | (rw [ho3]; exact cpTo_lt hbo2 hbg3 _ _))⟩ _ _ _ (lv_sub hl [0, 5, 6, 7, 8] rfl) hP hD hS
            · refine lv_iload hx hb dX9_deals_223 (lv_at hl 2 rfl) ?_
              refine nv_topx (y := (nI (sm + 1)) + (-1)) (pk_m1 sm).symm ?_
              refine lv_istore_n (lv' := [(3, .int ((nI (sm + 1)) + (-1))), (8, .int (nI t)), (7, .int (nI cv)), (6, .int (nI sm)), (5, .int (nI lf)), (4, .int (nI code)), (2, .int (nI x)), (1, .int (nI ((B 0) + 1))), (0, .ref (b 0))]) hx hb dX9_deals_225 rfl hl (by decide) rfl (fun ls hl => ?_)
              refine lv_iconst (v := nI 0) hx hb dX9_deals_226 (by decide) ?_
              refine lv_istore (lv' := [(8, .int (nI 0)), (3, .int ((nI (sm + 1)) + (-1))), (7, .int (nI cv)), (6, .int (nI sm)), (5, .int (nI lf)), (4, .int (nI code)), (2, .int (nI x)), (1, .int (nI ((B 0) + 1))), (0, .ref (b 0))]) hx hb dX9_deals_227 hl (by decide) rfl (fun ls hl => ?_)
              refine wloop (σ := (Nat) × (Nat → Nat)) (fun | (p, o3) => 5 - p) (fun | (p, o3) => (p ≤ 5) ∧ (o3 = cpTo o2 0 g3 p)) (fun | (p, o3) => [(8, .int (nI p)), (3, .int ((nI (sm + 1)) + (-1))), (7, .int (nI cv)), (6, .int (nI sm)), (5, .int (nI lf)), (4, .int (nI code)), (2, .int (nI x)), (1, .int (nI ((B 0) + 1))), (0, .ref (b 0))]) (fun | (p, o3) => [(b 0, .inr (7, [.ref (b 1), .ref (b 2), .ref (b 3), .ref (b 4), .ref (b 5), .int (nI qu), .long ab, .long bl, .ref (b 6), .int (nI tyd), .int (nI at0), .int (nI sta), .int (nI tok), .int (nI val), .ref (b 7), .int (nI man), .ref (b 8), .ref (b 9), .ref (b 10), .ref (b 11), .ref (b 12), .ref (b 13), .ref (b 14)])), (b 1, .inl (tA 0, 212, .inl (nF B))), (b 13, .inl (tA 0, 5, .inl (nF g3))), (b 14, .inl (tA 0, 5, .inl (nF o3)))]) (0, o2) ⟨(show 0 ≤ 5 from by omega), (show o2 = cpTo o2 0 g3 0 from (cpTo_0 _ _ _).symm)⟩ (lv_sub hl [0, 1, 2, 3, 4, 5, 6, 7, 8] rfl) hP hD hS ?_
              rintro ⟨p, o3⟩ ⟨hp6, ho3⟩ ih_34 ls H locs hl hP hD hS
              have hl : lv_has ls 11 [(8, .int (nI p)), (3, .int ((nI (sm + 1)) + (-1))), (7, .int (nI cv)), (6, .int (nI sm)), (5, .int (nI lf)), (4, .int (nI code)), (2, .int (nI x)), (1, .int (nI ((B 0) + 1))), (0, .ref (b 0))] := hl
              have hP : va_P G vwCl [(b 0, .inr (7, [.ref (b 1), .ref (b 2), .ref (b 3), .ref (b 4), .ref (b 5), .int (nI qu), .long ab, .long bl, .ref (b 6), .int (nI tyd), .int (nI at0), .int (nI sta), .int (nI tok), .int (nI val), .ref (b 7), .int (nI man), .ref (b 8), .ref (b 9), .ref (b 10), .ref (b 11), .ref (b 12), .ref (b 13), .ref (b 14)])), (b 1, .inl (tA 0, 212, .inl (nF B))), (b 13, .inl (tA 0, 5, .inl (nF g3))), (b 14, .inl (tA 0, 5, .inl (nF o3)))] H := hP
              have hD : va_D A [(b 0, .inr (7, [.ref (b 1), .ref (b 2), .ref (b 3), .ref (b 4), .ref (b 5), .int (nI qu), .long ab, .long bl, .ref (b 6), .int (nI tyd), .int (nI at0), .int (nI sta), .int (nI tok), .int (nI val), .ref (b 7), .int (nI man), .ref (b 8), .ref (b 9), .ref (b 10), .ref (b 11), .ref (b 12), .ref (b 13), .ref (b 14)])), (b 1, .inl (tA 0, 212, .inl (nF B))), (b 13, .inl (tA 0, 5, .inl (nF g3))), (b 14, .inl (tA 0, 5, .inl (nF o3)))] := hD
              have hp6 : p ≤ 5 := hp6
              have ho3 : o3 = cpTo o2 0 g3 p := ho3
              refine lv_iload hx hb dX9_deals_229 (lv_at hl 0 rfl) ?_
              refine lv_iconst (v := nI 5) hx hb dX9_deals_231 (by decide) ?_
              refine nv_icmp_ge (tgt := 255) (by omega) (by omega) hx hb dX9_deals_232 (by decide) (fun c_35 => ?_) (fun c_35 => ?_)
              · refine lv_iinc (v := (nI (code + 1))) (lv' := [(4, .int (nI (code + 1))), (8, .int (nI p)), (3, .int ((nI (sm + 1)) + (-1))), (7, .int (nI cv)), (6, .int (nI sm)), (5, .int (nI lf)), (2, .int (nI x)), (1, .int (nI ((B 0) + 1))), (0, .ref (b 0))]) hx hb dX9_deals_255 hl (k := 5) rfl (nI_add code 1) (by decide) rfl (fun ls hl => ?_)
                refine lv_goto (tgt := 33) hx hb dX9_deals_258 (by decide) ?_
                exact ih_4 (code + 1, (sm + 1), o3, g3) (show x - (code + 1) < x - code from by omega) ⟨(show (code + 1) ≤ x from by omega), (show ((sm + 1), o3, g3) = dlT B go ge (code + 1) from by first | exact (show cpTo o2 0 g3 5 = o3 from by rw [ho3, show p = 5 from by omega]) ▸ dlT_1 hpl hg3 hsm (hcv (by omega)) | exact dlT_2 hpl hg3 hsm (hcv9 (by omega))), (show (sm + 1) ≤ 5242881 from by omega), (show ∀ j, g3 j < 1048576 from hbg3), (show ∀ j, o3 j < 1048576 from by first | exact hbo2 | (rw [ho3]; exact cpTo_lt hbo2 hbg3 _ _))⟩ _ _ _ (lv_sub hl [0, 2, 6, 7, 8] rfl) hP hD hS
              · refine lv_aload_n hx hb dX9_deals_235 rfl (lv_at hl 8 rfl) ?_
                refine va_get (D := G) (ci := 7) (C := RX9) (T := TX9) (N := 23) hx hb hts iX9 hown hKK.1 hP 0 rfl rfl 22 (by decide) f50 (fun _ h9 => h9) rfl dX9_deals_236 ?_
                refine lv_iload hx hb dX9_deals_239 (lv_at hl 0 rfl) ?_
                refine lv_aload_n hx hb dX9_deals_241 rfl (lv_at hl 8 rfl) ?_
                refine va_get (D := G) (ci := 7) (C := RX9) (T := TX9) (N := 23) hx hb hts iX9 hown hKK.1 hP 0 rfl rfl 21 (by decide) f47 (fun _ h9 => h9) rfl dX9_deals_242 ?_
                refine lv_iload hx hb dX9_deals_245 (lv_at hl 0 rfl) ?_
                refine nv_iald (i := p) hx hb hKK.1 hP 2 0 rfl rfl (by omega) (by decide) dX9_deals_247 ?_
                have b_36 := hbg3 p
                refine nv_iast (i := p) hx hb hKK.1 hP hD hS 3 0 rfl rfl (by omega) (by decide) dX9_deals_248 [(b 0, .inr (7, [.ref (b 1), .ref (b 2), .ref (b 3), .ref (b 4), .ref (b 5), .int (nI qu), .long ab, .long bl, .ref (b 6), .int (nI tyd), .int (nI at0), .int (nI sta), .int (nI tok), .int (nI val), .ref (b 7), .int (nI man), .ref (b 8), .ref (b 9), .ref (b 10), .ref (b 11), .ref (b 12), .ref (b 13), .ref (b 14)])), (b 1, .inl (tA 0, 212, .inl (nF B))), (b 13, .inl (tA 0, 5, .inl (nF g3))), (b 14, .inl (tA 0, 5, .inl (nF (updN o3 p (g3 p)))))] rfl (fun H locs hP hD hS => ?_)
                refine lv_iinc (v := (nI (p + 1))) (lv' := [(8, .int (nI (p + 1))), (3, .int ((nI (sm + 1)) + (-1))), (7, .int (nI cv)), (6, .int (nI sm)), (5, .int (nI lf)), (4, .int (nI code)), (2, .int (nI x)), (1, .int (nI ((B 0) + 1))), (0, .ref (b 0))]) hx hb dX9_deals_249 hl (k := 0) rfl (nI_add p 1) (by decide) rfl (fun ls hl => ?_)
                refine lv_goto (tgt := 229) hx hb dX9_deals_252 (by decide) ?_
                exact ih_34 (p + 1, updN o3 p (g3 p)) (show 5 - (p + 1) < 5 - p from by omega) ⟨(show (p + 1) ≤ 5 from by omega), (show (updN o3 p (g3 p)) = cpTo o2 0 g3 (p + 1) from by rw [cpTo_s, ho3, Nat.zero_add])⟩ _ _ _ (lv_sub hl [0, 1, 2, 3, 4, 5, 6, 7, 8] rfl) hP hD hS
          · refine lv_iload hx hb dX9_deals_147 (lv_at hl 1 rfl) ?_
            refine nv_if_eq (tgt := 218) (by omega) hx hb dX9_deals_149 (by decide) (fun c_37 => ?_) (fun c_37 => ?_)
            · have hcvx := hcv9
              have hcv : cv = 1 → (mo < sm + 1 ∧ allB (fitsM B g3) (B 0)) := by intro z; have e9 : t = B 0 := (by omega); rw [e9] at hcv; exact hcv z
              refine lv_iload hx hb dX9_deals_218 (lv_at hl 1 rfl) ?_
              refine nv_if_eq (tgt := 255) (by omega) hx hb dX9_deals_220 (by decide) (fun c_38 => ?_) (fun c_38 => ?_)
              · refine lv_iinc (v := (nI (code + 1))) (lv' := [(4, .int (nI (code + 1))), (8, .int (nI t)), (7, .int (nI cv)), (6, .int (nI sm)), (5, .int (nI lf)), (3, .int ((nI mo) + (-1))), (2, .int (nI x)), (1, .int (nI ((B 0) + 1))), (0, .ref (b 0))]) hx hb dX9_deals_255 hl (k := 4) rfl (nI_add code 1) (by decide) rfl (fun ls hl => ?_)
                refine lv_goto (tgt := 33) hx hb dX9_deals_258 (by decide) ?_
                exact ih_4 (code + 1, mo, o2, g3) (show x - (code + 1) < x - code from by omega) ⟨(show (code + 1) ≤ x from by omega), (show (mo, o2, g3) = dlT B go ge (code + 1) from by first | exact (show cpTo o2 0 g3 5 = o3 from by rw [ho3, show p = 5 from by omega]) ▸ dlT_1 hpl hg3 hsm (hcv (by omega)) | exact dlT_2 hpl hg3 hsm (hcv9 (by omega))), (show mo ≤ 5242881 from by omega), (show ∀ j, g3 j < 1048576 from hbg3), (show ∀ j, o2 j < 1048576 from by first | exact hbo2 | (rw [ho3]; exact cpTo_lt hbo2 hbg3 _ _))⟩ _ _ _ (lv_sub hl [0, 5, 6, 7, 8] rfl) hP hD hS
              · refine lv_iload hx hb dX9_deals_223 (lv_at hl 2 rfl) ?_
                refine nv_topx (y := (nI (sm + 1)) + (-1)) (pk_m1 sm).symm ?_
                refine lv_istore_n (lv' := [(3, .int ((nI (sm + 1)) + (-1))), (8, .int (nI t)), (7, .int (nI cv)), (6, .int (nI sm)), (5, .int (nI lf)), (4, .int (nI code)), (2, .int (nI x)), (1, .int (nI ((B 0) + 1))), (0, .ref (b 0))]) hx hb dX9_deals_225 rfl hl (by decide) rfl (fun ls hl => ?_)
                refine lv_iconst (v := nI 0) hx hb dX9_deals_226 (by decide) ?_
                refine lv_istore (lv' := [(8, .int (nI 0)), (3, .int ((nI (sm + 1)) + (-1))), (7, .int (nI cv)), (6, .int (nI sm)), (5, .int (nI lf)), (4, .int (nI code)), (2, .int (nI x)), (1, .int (nI ((B 0) + 1))), (0, .ref (b 0))]) hx hb dX9_deals_227 hl (by decide) rfl (fun ls hl => ?_)
                refine wloop (σ := (Nat) × (Nat → Nat)) (fun | (p, o3) => 5 - p) (fun | (p, o3) => (p ≤ 5) ∧ (o3 = cpTo o2 0 g3 p)) (fun | (p, o3) => [(8, .int (nI p)), (3, .int ((nI (sm + 1)) + (-1))), (7, .int (nI cv)), (6, .int (nI sm)), (5, .int (nI lf)), (4, .int (nI code)), (2, .int (nI x)), (1, .int (nI ((B 0) + 1))), (0, .ref (b 0))]) (fun | (p, o3) => [(b 0, .inr (7, [.ref (b 1), .ref (b 2), .ref (b 3), .ref (b 4), .ref (b 5), .int (nI qu), .long ab, .long bl, .ref (b 6), .int (nI tyd), .int (nI at0), .int (nI sta), .int (nI tok), .int (nI val), .ref (b 7), .int (nI man), .ref (b 8), .ref (b 9), .ref (b 10), .ref (b 11), .ref (b 12), .ref (b 13), .ref (b 14)])), (b 1, .inl (tA 0, 212, .inl (nF B))), (b 13, .inl (tA 0, 5, .inl (nF g3))), (b 14, .inl (tA 0, 5, .inl (nF o3)))]) (0, o2) ⟨(show 0 ≤ 5 from by omega), (show o2 = cpTo o2 0 g3 0 from (cpTo_0 _ _ _).symm)⟩ (lv_sub hl [0, 1, 2, 3, 4, 5, 6, 7, 8] rfl) hP hD hS ?_
                rintro ⟨p, o3⟩ ⟨hp6, ho3⟩ ih_39 ls H locs hl hP hD hS
                have hl : lv_has ls 11 [(8, .int (nI p)), (3, .int ((nI (sm + 1)) + (-1))), (7, .int (nI cv)), (6, .int (nI sm)), (5, .int (nI lf)), (4, .int (nI code)), (2, .int (nI x)), (1, .int (nI ((B 0) + 1))), (0, .ref (b 0))] := hl
                have hP : va_P G vwCl [(b 0, .inr (7, [.ref (b 1), .ref (b 2), .ref (b 3), .ref (b 4), .ref (b 5), .int (nI qu), .long ab, .long bl, .ref (b 6), .int (nI tyd), .int (nI at0), .int (nI sta), .int (nI tok), .int (nI val), .ref (b 7), .int (nI man), .ref (b 8), .ref (b 9), .ref (b 10), .ref (b 11), .ref (b 12), .ref (b 13), .ref (b 14)])), (b 1, .inl (tA 0, 212, .inl (nF B))), (b 13, .inl (tA 0, 5, .inl (nF g3))), (b 14, .inl (tA 0, 5, .inl (nF o3)))] H := hP
                have hD : va_D A [(b 0, .inr (7, [.ref (b 1), .ref (b 2), .ref (b 3), .ref (b 4), .ref (b 5), .int (nI qu), .long ab, .long bl, .ref (b 6), .int (nI tyd), .int (nI at0), .int (nI sta), .int (nI tok), .int (nI val), .ref (b 7), .int (nI man), .ref (b 8), .ref (b 9), .ref (b 10), .ref (b 11), .ref (b 12), .ref (b 13), .ref (b 14)])), (b 1, .inl (tA 0, 212, .inl (nF B))), (b 13, .inl (tA 0, 5, .inl (nF g3))), (b 14, .inl (tA 0, 5, .inl (nF o3)))] := hD
                have hp6 : p ≤ 5 := hp6
                have ho3 : o3 = cpTo o2 0 g3 p := ho3
                refine lv_iload hx hb dX9_deals_229 (lv_at hl 0 rfl) ?_
                refine lv_iconst (v := nI 5) hx hb dX9_deals_231 (by decide) ?_
                refine nv_icmp_ge (tgt := 255) (by omega) (by omega) hx hb dX9_deals_232 (by decide) (fun c_40 => ?_) (fun c_40 => ?_)
                · refine lv_iinc (v := (nI (code + 1))) (lv' := [(4, .int (nI (code + 1))), (8, .int (nI p)), (3, .int ((nI (sm + 1)) + (-1))), (7, .int (nI cv)), (6, .int (nI sm)), (5, .int (nI lf)), (2, .int (nI x)), (1, .int (nI ((B 0) + 1))), (0, .ref (b 0))]) hx hb dX9_deals_255 hl (k := 5) rfl (nI_add code 1) (by decide) rfl (fun ls hl => ?_)
                  refine lv_goto (tgt := 33) hx hb dX9_deals_258 (by decide) ?_
                  exact ih_4 (code + 1, (sm + 1), o3, g3) (show x - (code + 1) < x - code from by omega) ⟨(show (code + 1) ≤ x from by omega), (show ((sm + 1), o3, g3) = dlT B go ge (code + 1) from by first | exact (show cpTo o2 0 g3 5 = o3 from by rw [ho3, show p = 5 from by omega]) ▸ dlT_1 hpl hg3 hsm (hcv (by omega)) | exact dlT_2 hpl hg3 hsm (hcv9 (by omega))), (show (sm + 1) ≤ 5242881 from by omega), (show ∀ j, g3 j < 1048576 from hbg3), (show ∀ j, o3 j < 1048576 from by first | exact hbo2 | (rw [ho3]; exact cpTo_lt hbo2 hbg3 _ _))⟩ _ _ _ (lv_sub hl [0, 2, 6, 7, 8] rfl) hP hD hS
                · refine lv_aload_n hx hb dX9_deals_235 rfl (lv_at hl 8 rfl) ?_
                  refine va_get (D := G) (ci := 7) (C := RX9) (T := TX9) (N := 23) hx hb hts iX9 hown hKK.1 hP 0 rfl rfl 22 (by decide) f50 (fun _ h9 => h9) rfl dX9_deals_236 ?_
                  refine lv_iload hx hb dX9_deals_239 (lv_at hl 0 rfl) ?_
                  refine lv_aload_n hx hb dX9_deals_241 rfl (lv_at hl 8 rfl) ?_
                  refine va_get (D := G) (ci := 7) (C := RX9) (T := TX9) (N := 23) hx hb hts iX9 hown hKK.1 hP 0 rfl rfl 21 (by decide) f47 (fun _ h9 => h9) rfl dX9_deals_242 ?_
                  refine lv_iload hx hb dX9_deals_245 (lv_at hl 0 rfl) ?_
                  refine nv_iald (i := p) hx hb hKK.1 hP 2 0 rfl rfl (by omega) (by decide) dX9_deals_247 ?_
                  have b_41 := hbg3 p
                  refine nv_iast (i := p) hx hb hKK.1 hP hD hS 3 0 rfl rfl (by omega) (by decide) dX9_deals_248 [(b 0, .inr (7, [.ref (b 1), .ref (b 2), .ref (b 3), .ref (b 4), .ref (b 5), .int (nI qu), .long ab, .long bl, .ref (b 6), .int (nI tyd), .int (nI at0), .int (nI sta), .int (nI tok), .int (nI val), .ref (b 7), .int (nI man), .ref (b 8), .ref (b 9), .ref (b 10), .ref (b 11), .ref (b 12), .ref (b 13), .ref (b 14)])), (b 1, .inl (tA 0, 212, .inl (nF B))), (b 13, .inl (tA 0, 5, .inl (nF g3))), (b 14, .inl (tA 0, 5, .inl (nF (updN o3 p (g3 p)))))] rfl (fun H locs hP hD hS => ?_)
                  refine lv_iinc (v := (nI (p + 1))) (lv' := [(8, .int (nI (p + 1))), (3, .int ((nI (sm + 1)) + (-1))), (7, .int (nI cv)), (6, .int (nI sm)), (5, .int (nI lf)), (4, .int (nI code)), (2, .int (nI x)), (1, .int (nI ((B 0) + 1))), (0, .ref (b 0))]) hx hb dX9_deals_249 hl (k := 0) rfl (nI_add p 1) (by decide) rfl (fun ls hl => ?_)
                  refine lv_goto (tgt := 229) hx hb dX9_deals_252 (by decide) ?_
                  exact ih_39 (p + 1, updN o3 p (g3 p)) (show 5 - (p + 1) < 5 - p from by omega) ⟨(show (p + 1) ≤ 5 from by omega), (show (updN o3 p (g3 p)) = cpTo o2 0 g3 (p + 1) from by rw [cpTo_s, ho3, Nat.zero_add])⟩ _ _ _ (lv_sub hl [0, 1, 2, 3, 4, 5, 6, 7, 8] rfl) hP hD hS
            · refine lv_iconst (v := nI 0) hx hb dX9_deals_152 (by decide) ?_
              refine lv_istore (lv' := [(9, .int (nI 0)), (8, .int (nI t)), (7, .int (nI cv)), (6, .int (nI sm)), (5, .int (nI lf)), (4, .int (nI code)), (3, .int ((nI mo) + (-1))), (2, .int (nI x)), (1, .int (nI ((B 0) + 1))), (0, .ref (b 0))]) hx hb dX9_deals_153 hl (by decide) rfl (fun ls hl => ?_)
              refine lv_iconst (v := nI 0) hx hb dX9_deals_155 (by decide) ?_
              refine lv_istore (lv' := [(10, .int (nI 0)), (9, .int (nI 0)), (8, .int (nI t)), (7, .int (nI cv)), (6, .int (nI sm)), (5, .int (nI lf)), (4, .int (nI code)), (3, .int ((nI mo) + (-1))), (2, .int (nI x)), (1, .int (nI ((B 0) + 1))), (0, .ref (b 0))]) hx hb dX9_deals_156 hl (by decide) rfl (fun ls hl => ?_)
              refine wloop (σ := (Nat) × (Nat)) (fun | (p, n9) => 5 - p) (fun | (p, n9) => (p ≤ 5 ∧ n9 ≤ p) ∧ (n9 = cntE g3 (t + 1) p)) (fun | (p, n9) => [(10, .int (nI p)), (9, .int (nI n9)), (8, .int (nI t)), (7, .int (nI cv)), (6, .int (nI sm)), (5, .int (nI lf)), (4, .int (nI code)), (3, .int ((nI mo) + (-1))), (2, .int (nI x)), (1, .int (nI ((B 0) + 1))), (0, .ref (b 0))]) (fun | (p, n9) => [(b 0, .inr (7, [.ref (b 1), .ref (b 2), .ref (b 3), .ref (b 4), .ref (b 5), .int (nI qu), .long ab, .long bl, .ref (b 6), .int (nI tyd), .int (nI at0), .int (nI sta), .int (nI tok), .int (nI val), .ref (b 7), .int (nI man), .ref (b 8), .ref (b 9), .ref (b 10), .ref (b 11), .ref (b 12), .ref (b 13), .ref (b 14)])), (b 1, .inl (tA 0, 212, .inl (nF B))), (b 13, .inl (tA 0, 5, .inl (nF g3))), (b 14, .inl (tA 0, 5, .inl (nF o2)))]) (0, 0) ⟨(show 0 ≤ 5 ∧ 0 ≤ 0 from ⟨by omega, by omega⟩), (show 0 = cntE g3 (t + 1) 0 from rfl)⟩ (lv_sub hl [0, 1, 2, 3, 4, 5, 6, 7, 8, 9, 10] rfl) hP hD hS ?_
              rintro ⟨p, n9⟩ ⟨hp5, hn9⟩ ih_42 ls H locs hl hP hD hS
              have hl : lv_has ls 11 [(10, .int (nI p)), (9, .int (nI n9)), (8, .int (nI t)), (7, .int (nI cv)), (6, .int (nI sm)), (5, .int (nI lf)), (4, .int (nI code)), (3, .int ((nI mo) + (-1))), (2, .int (nI x)), (1, .int (nI ((B 0) + 1))), (0, .ref (b 0))] := hl
              have hP : va_P G vwCl [(b 0, .inr (7, [.ref (b 1), .ref (b 2), .ref (b 3), .ref (b 4), .ref (b 5), .int (nI qu), .long ab, .long bl, .ref (b 6), .int (nI tyd), .int (nI at0), .int (nI sta), .int (nI tok), .int (nI val), .ref (b 7), .int (nI man), .ref (b 8), .ref (b 9), .ref (b 10), .ref (b 11), .ref (b 12), .ref (b 13), .ref (b 14)])), (b 1, .inl (tA 0, 212, .inl (nF B))), (b 13, .inl (tA 0, 5, .inl (nF g3))), (b 14, .inl (tA 0, 5, .inl (nF o2)))] H := hP
              have hD : va_D A [(b 0, .inr (7, [.ref (b 1), .ref (b 2), .ref (b 3), .ref (b 4), .ref (b 5), .int (nI qu), .long ab, .long bl, .ref (b 6), .int (nI tyd), .int (nI at0), .int (nI sta), .int (nI tok), .int (nI val), .ref (b 7), .int (nI man), .ref (b 8), .ref (b 9), .ref (b 10), .ref (b 11), .ref (b 12), .ref (b 13), .ref (b 14)])), (b 1, .inl (tA 0, 212, .inl (nF B))), (b 13, .inl (tA 0, 5, .inl (nF g3))), (b 14, .inl (tA 0, 5, .inl (nF o2)))] := hD
              have hp5 : p ≤ 5 ∧ n9 ≤ p := hp5
              have hn9 : n9 = cntE g3 (t + 1) p := hn9
              refine lv_iload hx hb dX9_deals_158 (lv_at hl 0 rfl) ?_
              refine lv_iconst (v := nI 5) hx hb dX9_deals_160 (by decide) ?_
              refine nv_icmp_ge (tgt := 194) (by omega) (by omega) hx hb dX9_deals_161 (by decide) (fun c_43 => ?_) (fun c_43 => ?_)
              · have hp55 : p = 5 := by omega
                rw [hp55] at hn9
                have hn99 : cntE g3 (t + 1) 5 = n9 := hn9.symm
                refine lv_iload hx hb dX9_deals_194 (lv_at hl 1 rfl) ?_
                refine lv_aload_n hx hb dX9_deals_196 rfl (lv_at hl 10 rfl) ?_
                refine lv_iload hx hb dX9_deals_197 (lv_at hl 2 rfl) ?_
                refine roI hP hD hS hA [0, 1] rfl (runV (As := [.int (nI t)]) (rest := [.int (nI n9)]) (isC := [0, 1]) ⟨hx, hb, hml, hown, hts⟩ hKK hP hD rfl (by decide) (c_X9_mayOf l G tA b qu ab bl tyd at0 sta tok val man B t (hWB) (by first | assumption | omega) _) (cwV 1 hts gX9_deals_X9_mayOf rfl rfl rfl (by decide +kernel) ⟨Nat.le_of_ble_eq_true rfl, Nat.le_of_ble_eq_true rfl⟩) rfl rfl rfl rfl hl.1 rfl (lv_room (Nat.le_of_ble_eq_true rfl)) dX9_deals_199 ⟨Nat.le_of_ble_eq_true rfl, Nat.le_of_ble_eq_true rfl⟩) (fun _ => rfl) (fun r_44 u_45 H locs q_46 hP hS => ?_)
                obtain ⟨rfl, e_47⟩ := q_46
                have e_47 : mayM B t < 4 := e_47
                refine nv_icmp_gt (tgt := 209) (by omega) (by omega) hx hb dX9_deals_202 (by decide) (fun c_48 => ?_) (fun c_48 => ?_)
                · refine lv_iconst (v := nI 0) hx hb dX9_deals_209 (by decide) ?_
                  refine lv_istore (lv' := [(7, .int (nI 0)), (10, .int (nI p)), (9, .int (nI n9)), (8, .int (nI t)), (6, .int (nI sm)), (5, .int (nI lf)), (4, .int (nI code)), (3, .int ((nI mo) + (-1))), (2, .int (nI x)), (1, .int (nI ((B 0) + 1))), (0, .ref (b 0))]) hx hb dX9_deals_210 hl (by decide) rfl (fun ls hl => ?_)
                  refine lv_iinc (v := (nI (t + 1))) (lv' := [(8, .int (nI (t + 1))), (7, .int (nI 0)), (10, .int (nI p)), (9, .int (nI n9)), (6, .int (nI sm)), (5, .int (nI lf)), (4, .int (nI code)), (3, .int ((nI mo) + (-1))), (2, .int (nI x)), (1, .int (nI ((B 0) + 1))), (0, .ref (b 0))]) hx hb dX9_deals_212 hl (k := 3) rfl (nI_add t 1) (by decide) rfl (fun ls hl => ?_)
                  refine lv_goto (tgt := 136) hx hb dX9_deals_215 (by decide) ?_
                  exact ih_30 (t + 1, 0) (show B 0 - (t + 1) < B 0 - t from by omega) ⟨(show (t + 1) ≤ B 0 ∧ 0 < 2 from ⟨by omega, by omega⟩), (show 0 = 1 → (mo < sm + 1 ∧ allB (fitsM B g3) (t + 1)) from by intro z; first | omega | exact ⟨(hcv (by omega)).1, allB_s.mpr ⟨(hcv (by omega)).2, by unfold fitsM; omega⟩⟩), (show ¬ 0 = 1 → ¬ (mo < sm + 1 ∧ allB (fitsM B g3) (B 0)) from by intro z; first | omega | exact fun y => by have y2 := y.2 t (by omega); unfold fitsM at y2; omega)⟩ _ _ _ (lv_sub hl [0, 1, 4, 5, 6, 7, 8, 9, 10] rfl) hP hD hS
                · refine lv_iconst (v := nI 1) hx hb dX9_deals_205 (by decide) ?_
                  refine lv_goto (tgt := 210) hx hb dX9_deals_206 (by decide) ?_
                  refine lv_istore (lv' := [(7, .int (nI 1)), (10, .int (nI p)), (9, .int (nI n9)), (8, .int (nI t)), (6, .int (nI sm)), (5, .int (nI lf)), (4, .int (nI code)), (3, .int ((nI mo) + (-1))), (2, .int (nI x)), (1, .int (nI ((B 0) + 1))), (0, .ref (b 0))]) hx hb dX9_deals_210 hl (by decide) rfl (fun ls hl => ?_)
                  refine lv_iinc (v := (nI (t + 1))) (lv' := [(8, .int (nI (t + 1))), (7, .int (nI 1)), (10, .int (nI p)), (9, .int (nI n9)), (6, .int (nI sm)), (5, .int (nI lf)), (4, .int (nI code)), (3, .int ((nI mo) + (-1))), (2, .int (nI x)), (1, .int (nI ((B 0) + 1))), (0, .ref (b 0))]) hx hb dX9_deals_212 hl (k := 3) rfl (nI_add t 1) (by decide) rfl (fun ls hl => ?_)
                  refine lv_goto (tgt := 136) hx hb dX9_deals_215 (by decide) ?_
                  exact ih_30 (t + 1, 1) (show B 0 - (t + 1) < B 0 - t from by omega) ⟨(show (t + 1) ≤ B 0 ∧ 1 < 2 from ⟨by omega, by omega⟩), (show 1 = 1 → (mo < sm + 1 ∧ allB (fitsM B g3) (t + 1)) from by intro z; first | omega | exact ⟨(hcv (by omega)).1, allB_s.mpr ⟨(hcv (by omega)).2, by unfold fitsM; omega⟩⟩), (show ¬ 1 = 1 → ¬ (mo < sm + 1 ∧ allB (fitsM B g3) (B 0)) from by intro z; first | omega | exact fun y => by have y2 := y.2 t (by omega); unfold fitsM at y2; omega)⟩ _ _ _ (lv_sub hl [0, 1, 4, 5, 6, 7, 8, 9, 10] rfl) hP hD hS
              · refine lv_iload hx hb dX9_deals_164 (lv_at hl 1 rfl) ?_
                refine lv_aload_n hx hb dX9_deals_166 rfl (lv_at hl 10 rfl) ?_
                refine va_get (D := G) (ci := 7) (C := RX9) (T := TX9) (N := 23) hx hb hts iX9 hown hKK.1 hP 0 rfl rfl 21 (by decide) f47 (fun _ h9 => h9) rfl dX9_deals_167 ?_
                refine lv_iload hx hb dX9_deals_170 (lv_at hl 0 rfl) ?_
                refine nv_iald (i := p) hx hb hKK.1 hP 2 0 rfl rfl (by omega) (by decide) dX9_deals_172 ?_
                have b_49 := hbg3 p
                refine lv_iload hx hb dX9_deals_173 (lv_at hl 2 rfl) ?_
                refine lv_iconst (v := nI 1) hx hb dX9_deals_175 (by decide) ?_
                refine nv_iadd hx hb dX9_deals_176 ?_
                refine nv_icmp_ne (tgt := 184) (by omega) (by omega) hx hb dX9_deals_177 (by decide) (fun c_50 => ?_) (fun c_50 => ?_)
                · refine lv_iconst (v := nI 0) hx hb dX9_deals_184 (by decide) ?_
                  refine nv_iadd hx hb dX9_deals_185 ?_
                  refine lv_istore (lv' := [(9, .int (nI (n9 + 0))), (10, .int (nI p)), (8, .int (nI t)), (7, .int (nI cv)), (6, .int (nI sm)), (5, .int (nI lf)), (4, .int (nI code)), (3, .int ((nI mo) + (-1))), (2, .int (nI x)), (1, .int (nI ((B 0) + 1))), (0, .ref (b 0))]) hx hb dX9_deals_186 hl (by decide) rfl (fun ls hl => ?_)
                  refine lv_iinc (v := (nI (p + 1))) (lv' := [(10, .int (nI (p + 1))), (9, .int (nI (n9 + 0))), (8, .int (nI t)), (7, .int (nI cv)), (6, .int (nI sm)), (5, .int (nI lf)), (4, .int (nI code)), (3, .int ((nI mo) + (-1))), (2, .int (nI x)), (1, .int (nI ((B 0) + 1))), (0, .ref (b 0))]) hx hb dX9_deals_188 hl (k := 1) rfl (nI_add p 1) (by decide) rfl (fun ls hl => ?_)
                  refine lv_goto (tgt := 158) hx hb dX9_deals_191 (by decide) ?_
                  exact ih_42 (p + 1, n9 + 0) (show 5 - (p + 1) < 5 - p from by omega) ⟨(show (p + 1) ≤ 5 ∧ (n9 + 0) ≤ (p + 1) from ⟨by omega, by omega⟩), (show (n9 + 0) = cntE g3 (t + 1) (p + 1) from by rw [hn9]; first | exact congrArg (fun z => cntE g3 (t + 1) p + z) (if_pos (by omega)).symm | exact congrArg (fun z => cntE g3 (t + 1) p + z) (if_neg (by omega)).symm)⟩ _ _ _ (lv_sub hl [0, 1, 2, 3, 4, 5, 6, 7, 8, 9, 10] rfl) hP hD hS
                · refine lv_iconst (v := nI 1) hx hb dX9_deals_180 (by decide) ?_
                  refine lv_goto (tgt := 185) hx hb dX9_deals_181 (by decide) ?_
                  refine nv_iadd hx hb dX9_deals_185 ?_
                  refine lv_istore (lv' := [(9, .int (nI (n9 + 1))), (10, .int (nI p)), (8, .int (nI t)), (7, .int (nI cv)), (6, .int (nI sm)), (5, .int (nI lf)), (4, .int (nI code)), (3, .int ((nI mo) + (-1))), (2, .int (nI x)), (1, .int (nI ((B 0) + 1))), (0, .ref (b 0))]) hx hb dX9_deals_186 hl (by decide) rfl (fun ls hl => ?_)
                  refine lv_iinc (v := (nI (p + 1))) (lv' := [(10, .int (nI (p + 1))), (9, .int (nI (n9 + 1))), (8, .int (nI t)), (7, .int (nI cv)), (6, .int (nI sm)), (5, .int (nI lf)), (4, .int (nI code)), (3, .int ((nI mo) + (-1))), (2, .int (nI x)), (1, .int (nI ((B 0) + 1))), (0, .ref (b 0))]) hx hb dX9_deals_188 hl (k := 1) rfl (nI_add p 1) (by decide) rfl (fun ls hl => ?_)
                  refine lv_goto (tgt := 158) hx hb dX9_deals_191 (by decide) ?_
                  exact ih_42 (p + 1, n9 + 1) (show 5 - (p + 1) < 5 - p from by omega) ⟨(show (p + 1) ≤ 5 ∧ (n9 + 1) ≤ (p + 1) from ⟨by omega, by omega⟩), (show (n9 + 1) = cntE g3 (t + 1) (p + 1) from by rw [hn9]; first | exact congrArg (fun z => cntE g3 (t + 1) p + z) (if_pos (by omega)).symm | exact congrArg (fun z => cntE g3 (t + 1) p + z) (if_neg (by omega)).symm)⟩ _ _ _ (lv_sub hl [0, 1, 2, 3, 4, 5, 6, 7, 8, 9, 10] rfl) hP hD hS
      · obtain ⟨j9, rfl⟩ : ∃ z, jj = z + 1 := ⟨jj - 1, by omega⟩
        have hl : lv_has ls 11 [(7, .int (nI j9)), (6, .int (nI sm)), (5, .int (nI lf)), (4, .int (nI code)), (3, .int ((nI mo) + (-1))), (2, .int (nI x)), (1, .int (nI ((B 0) + 1))), (0, .ref (b 0))] := by rw [pk_m1] at hl; exact hl
        have hj8 : 4 - (5 - (j9 + 1)) = j9 := by omega
        have hmod := Nat.mod_lt lf (show B 0 + 1 > 0 by omega)
        have hlfc : lf ≤ code := by rw [hlf]; exact gL_le _ _ _
        refine lv_aload_n hx hb dX9_deals_54 rfl (lv_at hl 7 rfl) ?_
        refine va_get (D := G) (ci := 7) (C := RX9) (T := TX9) (N := 23) hx hb hts iX9 hown hKK.1 hP 0 rfl rfl 21 (by decide) f47 (fun _ h9 => h9) rfl dX9_deals_55 ?_
        refine lv_iload hx hb dX9_deals_58 (lv_at hl 0 rfl) ?_
        refine lv_iload hx hb dX9_deals_60 (lv_at hl 2 rfl) ?_
        refine lv_iload_n hx hb dX9_deals_62 rfl (lv_at hl 6 rfl) ?_
        refine nv_irem (by omega) (by omega) (by omega) hx hb dX9_deals_63 ?_
        refine nv_iast (i := j9) hx hb hKK.1 hP hD hS 2 0 rfl rfl (by omega) (by decide) dX9_deals_64 [(b 0, .inr (7, [.ref (b 1), .ref (b 2), .ref (b 3), .ref (b 4), .ref (b 5), .int (nI qu), .long ab, .long bl, .ref (b 6), .int (nI tyd), .int (nI at0), .int (nI sta), .int (nI tok), .int (nI val), .ref (b 7), .int (nI man), .ref (b 8), .ref (b 9), .ref (b 10), .ref (b 11), .ref (b 12), .ref (b 13), .ref (b 14)])), (b 1, .inl (tA 0, 212, .inl (nF B))), (b 13, .inl (tA 0, 5, .inl (nF (updN g3 j9 (lf % ((B 0) + 1)))))), (b 14, .inl (tA 0, 5, .inl (nF o2)))] rfl (fun H locs hP hD hS => ?_)
        have B_51 := updN_lt hbg3 j9 (show lf % ((B 0) + 1) < 1048576 from by omega)
        refine lv_iload hx hb dX9_deals_65 (lv_at hl 2 rfl) ?_
        refine lv_iload_n hx hb dX9_deals_67 rfl (lv_at hl 6 rfl) ?_
        refine nv_idiv (by omega) (by omega) (by omega) hx hb dX9_deals_68 ?_
        refine lv_istore (lv' := [(5, .int (nI (lf / ((B 0) + 1)))), (7, .int (nI j9)), (6, .int (nI sm)), (4, .int (nI code)), (3, .int ((nI mo) + (-1))), (2, .int (nI x)), (1, .int (nI ((B 0) + 1))), (0, .ref (b 0))]) hx hb dX9_deals_69 hl (by decide) rfl (fun ls hl => ?_)
        refine lv_iload hx hb dX9_deals_71 (lv_at hl 2 rfl) ?_
        refine lv_aload_n hx hb dX9_deals_73 rfl (lv_at hl 7 rfl) ?_
        refine va_get (D := G) (ci := 7) (C := RX9) (T := TX9) (N := 23) hx hb hts iX9 hown hKK.1 hP 0 rfl rfl 21 (by decide) f47 (fun _ h9 => h9) rfl dX9_deals_74 ?_
        refine lv_iload hx hb dX9_deals_77 (lv_at hl 1 rfl) ?_
        refine nv_iald (i := j9) hx hb hKK.1 hP 2 0 rfl rfl (by omega) (by decide) dX9_deals_79 ?_
        have b_52 := B_51 j9
        refine nv_top (y := lf % (B 0 + 1)) (congrArg nI (updN_s _ _ _)) ?_
        refine nv_if_le (tgt := 110) (by omega) hx hb dX9_deals_80 (by decide) (fun c_53 => ?_) (fun c_53 => ?_)
        · refine lv_iconst (v := nI 0) hx hb dX9_deals_110 (by decide) ?_
          refine nv_iadd hx hb dX9_deals_111 ?_
          refine lv_istore (lv' := [(6, .int (nI (sm + 0))), (5, .int (nI (lf / ((B 0) + 1)))), (7, .int (nI j9)), (4, .int (nI code)), (3, .int ((nI mo) + (-1))), (2, .int (nI x)), (1, .int (nI ((B 0) + 1))), (0, .ref (b 0))]) hx hb dX9_deals_112 hl (by decide) rfl (fun ls hl => ?_)
          refine lv_iinc (v := ((nI j9) + (-1))) (lv' := [(7, .int ((nI j9) + (-1))), (6, .int (nI (sm + 0))), (5, .int (nI (lf / ((B 0) + 1)))), (4, .int (nI code)), (3, .int ((nI mo) + (-1))), (2, .int (nI x)), (1, .int (nI ((B 0) + 1))), (0, .ref (b 0))]) hx hb dX9_deals_114 hl (k := 2) rfl rfl (by decide) rfl (fun ls hl => ?_)
          refine lv_goto (tgt := 49) hx hb dX9_deals_117 (by decide) ?_
          exact ih_6 (j9, lf / ((B 0) + 1), sm + 0, updN g3 j9 (lf % ((B 0) + 1))) (show j9 < (j9 + 1) from by omega) ⟨(show j9 ≤ 5 from by omega), (show (lf / ((B 0) + 1)) = gL (B 0 + 1) code (5 - j9) from by rw [show 5 - j9 = (5 - (j9 + 1)) + 1 from (by omega), gL_s, ← hlf]), (show (sm + 0) = gS B (B 0 + 1) code (5 - j9) from by rw [show 5 - j9 = (5 - (j9 + 1)) + 1 from (by omega), gS_s, ← hsm, ← hlf, hj8]; first | rw [if_pos (by omega)] | rw [if_neg (by omega)]), (show (sm + 0) ≤ 1048576 * (5 - j9) from by omega), (show (updN g3 j9 (lf % ((B 0) + 1))) = gH (B 0 + 1) code g2 (5 - j9) from by rw [show 5 - j9 = (5 - (j9 + 1)) + 1 from (by omega), gH_s, ← hg3, ← hlf, hj8]), (show ∀ j, (updN g3 j9 (lf % ((B 0) + 1))) j < 1048576 from by assumption)⟩ _ _ _ (lv_sub hl [0, 1, 2, 3, 4, 5, 6, 7] rfl) hP hD hS
        · refine lv_aload_n hx hb dX9_deals_83 rfl (lv_at hl 7 rfl) ?_
          refine va_get (D := G) (ci := 7) (C := RX9) (T := TX9) (N := 23) hx hb hts iX9 hown hKK.1 hP 0 rfl rfl 0 (by decide) f7 (fun _ h9 => h9) rfl dX9_deals_84 ?_
          refine lv_sipush (v := nI 156) hx hb dX9_deals_87 (by decide +kernel) ?_
          refine lv_bipush (v := nI 8) hx hb dX9_deals_90 (by decide +kernel) ?_
          refine lv_iload hx hb dX9_deals_92 (lv_at hl 1 rfl) ?_
          refine nv_imul hx hb dX9_deals_94 ?_
          refine nv_iadd hx hb dX9_deals_95 ?_
          refine lv_aload_n hx hb dX9_deals_96 rfl (lv_at hl 7 rfl) ?_
          refine va_get (D := G) (ci := 7) (C := RX9) (T := TX9) (N := 23) hx hb hts iX9 hown hKK.1 hP 0 rfl rfl 21 (by decide) f47 (fun _ h9 => h9) rfl dX9_deals_97 ?_
          refine lv_iload hx hb dX9_deals_100 (lv_at hl 1 rfl) ?_
          refine nv_iald (i := j9) hx hb hKK.1 hP 2 0 rfl rfl (by omega) (by decide) dX9_deals_102 ?_
          have b_54 := B_51 j9
          refine nv_top (y := lf % (B 0 + 1)) (congrArg nI (updN_s _ _ _)) ?_
          refine nv_iadd hx hb dX9_deals_103 ?_
          refine lv_iconst (v := nI 1) hx hb dX9_deals_104 (by decide) ?_
          refine nv_isub (show 1 ≤ (156 + (8 * j9)) + (lf % (B 0 + 1)) from by omega) hx hb dX9_deals_105 ?_
          refine nv_iald (i := ((156 + (8 * j9)) + (lf % (B 0 + 1))) - 1) hx hb hKK.1 hP 1 0 rfl rfl (by omega) (by decide) dX9_deals_106 ?_
          have b_55 := hbB (((156 + (8 * j9)) + (lf % (B 0 + 1))) - 1)
          refine lv_goto (tgt := 111) hx hb dX9_deals_107 (by decide) ?_
          refine nv_iadd hx hb dX9_deals_111 ?_
          refine lv_istore (lv' := [(6, .int (nI (sm + (B (((156 + (8 * j9)) + (lf % (B 0 + 1))) - 1))))), (5, .int (nI (lf / ((B 0) + 1)))), (7, .int (nI j9)), (4, .int (nI code)), (3, .int ((nI mo) + (-1))), (2, .int (nI x)), (1, .int (nI ((B 0) + 1))), (0, .ref (b 0))]) hx hb dX9_deals_112 hl (by decide) rfl (fun ls hl => ?_)
          refine lv_iinc (v := ((nI j9) + (-1))) (lv' := [(7, .int ((nI j9) + (-1))), (6, .int (nI (sm + (B (((156 + (8 * j9)) + (lf % (B 0 + 1))) - 1))))), (5, .int (nI (lf / ((B 0) + 1)))), (4, .int (nI code)), (3, .int ((nI mo) + (-1))), (2, .int (nI x)), (1, .int (nI ((B 0) + 1))), (0, .ref (b 0))]) hx hb dX9_deals_114 hl (k := 2) rfl rfl (by decide) rfl (fun ls hl => ?_)
          refine lv_goto (tgt := 49) hx hb dX9_deals_117 (by decide) ?_
          exact ih_6 (j9, lf / ((B 0) + 1), sm + (B (((156 + (8 * j9)) + (lf % (B 0 + 1))) - 1)), updN g3 j9 (lf % ((B 0) + 1))) (show j9 < (j9 + 1) from by omega) ⟨(show j9 ≤ 5 from by omega), (show (lf / ((B 0) + 1)) = gL (B 0 + 1) code (5 - j9) from by rw [show 5 - j9 = (5 - (j9 + 1)) + 1 from (by omega), gL_s, ← hlf]), (show (sm + (B (((156 + (8 * j9)) + (lf % (B 0 + 1))) - 1))) = gS B (B 0 + 1) code (5 - j9) from by rw [show 5 - j9 = (5 - (j9 + 1)) + 1 from (by omega), gS_s, ← hsm, ← hlf, hj8]; first | rw [if_pos (by omega)] | rw [if_neg (by omega)]), (show (sm + (B (((156 + (8 * j9)) + (lf % (B 0 + 1))) - 1))) ≤ 1048576 * (5 - j9) from by omega), (show (updN g3 j9 (lf % ((B 0) + 1))) = gH (B 0 + 1) code g2 (5 - j9) from by rw [show 5 - j9 = (5 - (j9 + 1)) + 1 from (by omega), gH_s, ← hg3, ← hlf, hj8]), (show ∀ j, (updN g3 j9 (lf % ((B 0) + 1))) j < 1048576 from by assumption)⟩ _ _ _ (lv_sub hl [0, 1, 2, 3, 4, 5, 6, 7] rfl) hP hD hS
  · refine lv_iload_n hx hb dX9_deals_18 rfl (lv_at hl 1 rfl) ?_
    refine lv_iload_n hx hb dX9_deals_19 rfl (lv_at hl 2 rfl) ?_
    refine nv_imul hx hb dX9_deals_20 ?_
    refine lv_istore_n (lv' := [(2, .int (nI (x * ((B 0) + 1)))), (3, .int (nI p)), (1, .int (nI ((B 0) + 1))), (0, .ref (b 0))]) hx hb dX9_deals_21 rfl hl (by decide) rfl (fun ls hl => ?_)
    refine lv_iinc (v := (nI (p + 1))) (lv' := [(3, .int (nI (p + 1))), (2, .int (nI (x * ((B 0) + 1)))), (1, .int (nI ((B 0) + 1))), (0, .ref (b 0))]) hx hb dX9_deals_22 hl (k := 1) rfl (nI_add p 1) (by decide) rfl (fun ls hl => ?_)
    refine lv_goto (tgt := 13) hx hb dX9_deals_25 (by decide) ?_
    exact ih_2 (p + 1, x * ((B 0) + 1)) (show 5 - (p + 1) < 5 - p from by omega) ⟨(show (p + 1) ≤ 5 from by omega), (show (x * ((B 0) + 1)) = pw5 (B 0 + 1) (p + 1) from by rw [hx9]; rfl), (show (x * ((B 0) + 1)) ≤ 59049 from by rw [hx9]; exact pw5_le (show B 0 + 1 ≤ 9 by omega) (show p + 1 ≤ 5 by omega))⟩ _ _ _ (lv_sub hl [0, 1, 2, 3] rfl) hP hD hS

noncomputable def dlS (B go ge : Nat → Nat) : Nat × (Nat → Nat) × (Nat → Nat) := dlT B go ge ((B 0 + 1) * (B 0 + 1) * (B 0 + 1) * (B 0 + 1) * (B 0 + 1))
def gotS (x : Nat) : Nat := if x = 0 then 8 else x - 1
set_option maxHeartbeats 4000000 in
set_option maxRecDepth 100000 in
theorem c_X9_deal (l : Launch) (G : va_G) (tA : Nat → ClassId) (b : Nat → Nat) (qu : Nat) (ab : Int64) (bl : Int64) (tyd : Nat) (at0 : Nat) (sta : Nat) (tok : Nat) (val : Nat) (man : Nat) (B : Nat → Nat) (ge : Nat → Nat) (go : Nat → Nat) (rf : Nat → Int32) (pe : Int32) (PE : Int) (hWB : WB B) (hqu : qu < 2) (hbg : ∀ j, ge j < 1048576) (hbo : ∀ j, go j < 1048576) (hpe : pe.toInt = PE) : CtI l yX9_deal wsX9_deal ({ frames := 2, cells := 0, slots := 0, locals := 52 }) G tA [.ref (b 0), .int pe] ([(b 0, .inr (7, [.ref (b 1), .ref (b 2), .ref (b 3), .ref (b 4), .ref (b 5), .int (nI qu), .long ab, .long bl, .ref (b 6), .int (nI tyd), .int (nI at0), .int (nI sta), .int (nI tok), .int (nI val), .ref (b 7), .int (nI man), .ref (b 8), .ref (b 9), .ref (b 10), .ref (b 11), .ref (b 12), .ref (b 13), .ref (b 14)])), (b 1, .inl (tA 0, 212, .inl (nF B))), (b 13, .inl (tA 0, 5, .inl (nF ge))), (b 14, .inl (tA 0, 5, .inl (nF go))), (b 5, .inl (tA 0, 3, .inl rf))]) (fun (r : Int32) (_ : Unit) => r = (if -1 ≤ PE ∧ PE ≤ 4 then (if PE = -1 then (nI (dlS B go ge).1) + (-1) else nI (gotS ((dlS B go ge).2.1 PE.toNat))) else -10)) (fun (_ : Unit) => [(b 0, .inr (7, [.ref (b 1), .ref (b 2), .ref (b 3), .ref (b 4), .ref (b 5), .int (nI qu), .long ab, .long bl, .ref (b 6), .int (nI tyd), .int (nI at0), .int (nI sta), .int (nI tok), .int (nI val), .ref (b 7), .int (nI man), .ref (b 8), .ref (b 9), .ref (b 10), .ref (b 11), .ref (b 12), .ref (b 13), .ref (b 14)])), (b 1, .inl (tA 0, 212, .inl (nF B))), (b 13, .inl (tA 0, 5, .inl (nF (if -1 ≤ PE ∧ PE ≤ 4 then (dlS B go ge).2.2 else ge)))), (b 14, .inl (tA 0, 5, .inl (nF (if -1 ≤ PE ∧ PE ≤ 4 then (dlS B go ge).2.1 else go)))), (b 5, .inl (tA 0, 3, .inl (if -1 ≤ PE ∧ PE ≤ 4 then rf else bump qu rf 0)))]) 0 0 := by
  refine enterI (cc := cX9_deal) (maxL := 3) (ret := (some .int)) (by decide) rfl (Nat.le_of_ble_eq_true rfl) ?_
  intro p0 e0 s m args below meth c0_ A ls hx hb hml hr hts hown hlocks hin hKK hA hP hD hl hS
  have hown : s.vm.findClass RX9 = some m.cls := hown
  have hl : lv_has ls 3 [(0, .ref (b 0)), (1, .int pe)] := hl
  have f200 := hts (Cond.constantLong RX9 200 (-1)) (List.mem_of_getElem? (i := 1) rfl)
  have f69 := hts (Cond.constantLong RX9 69 (4)) (List.mem_of_getElem? (i := 2) rfl)
  have f50 := hts (Cond.fieldLink RX9 50 "LentTermsModel" "got" "[I") (List.mem_of_getElem? (i := 3) rfl)
  have iX9 : ∀ w ∈ wsX90, w ∈ wsX9_deal := by decide +kernel
  obtain ⟨⟨hn0, hn1, hn2, hn3, hn4, hn5⟩, hbB, hv0, hv1, hv2, hv3, hv4, hv5, hv6, hv7⟩ := id hWB
  have h256 := p256 hn0
  refine lv_iload_n hx hb dX9_deal_0 rfl (lv_at hl 1 rfl) ?_
  refine lv_i2l hx hb dX9_deal_1 rfl ?_
  refine lv_ldc2 (v := -1) hx hb hown f200 dX9_deal_2 ?_
  refine nv_topl (y := ((-1) : Int32).toInt64) (by decide +kernel) ?_
  refine lv_ldc2 (v := 4) hx hb hown f69 dX9_deal_5 ?_
  refine nv_topl (y := (nI 4).toInt64) (by decide +kernel) ?_
  refine roI hP hD hS hA [] rfl (runS (As := [.long pe.toInt64, .long (((-1) : Int32).toInt64), .long ((nI 4).toInt64)]) (rest := []) (isC := []) ⟨hx, hb, hml, hown, hts⟩ hKK hP hD rfl (by decide) (c_X9_is l G tA pe PE (-1) (-1 : Int) (nI 4) (4 : Int) hpe rfl rfl _) (va_cwS 3 hts gX9_deal_X9_is rfl rfl rfl (by decide +kernel) ⟨Nat.le_of_ble_eq_true rfl, Nat.le_of_ble_eq_true rfl⟩) rfl rfl hl.1 rfl (lv_room (Nat.le_of_ble_eq_true rfl)) dX9_deal_8 ⟨Nat.le_of_ble_eq_true rfl, Nat.le_of_ble_eq_true rfl⟩) (fun _ => rfl) (fun r_1 u_2 H locs q_3 hP hS => ?_)
  rcases q_3 with ⟨rfl, p_4⟩ | ⟨rfl, p_4⟩
  · have p_4 : (-1 : Int) ≤ PE ∧ PE ≤ (4 : Int) := p_4
    refine nv_if_ne (tgt := 22) (by omega) hx hb dX9_deal_11 (by decide) (fun _ => ?_) (fun h => absurd h (by omega))
    have hok : -1 ≤ PE ∧ PE ≤ 4 := by omega
    refine lv_aload_n hx hb dX9_deal_22 rfl (lv_at hl 0 rfl) ?_
    refine rwI hP hD hS hA [0, 1, 2, 3] rfl (runV (As := []) (rest := []) (isC := [0, 1, 2, 3]) ⟨hx, hb, hml, hown, hts⟩ hKK hP hD rfl (by decide) (c_X9_deals l G tA b qu ab bl tyd at0 sta tok val man B ge go (hWB) (hbg) (hbo) _) (cwV 0 hts gX9_deal_X9_deals rfl rfl rfl (by decide +kernel) ⟨Nat.le_of_ble_eq_true rfl, Nat.le_of_ble_eq_true rfl⟩) rfl rfl rfl rfl hl.1 rfl (lv_room (Nat.le_of_ble_eq_true rfl)) dX9_deal_23 ⟨Nat.le_of_ble_eq_true rfl, Nat.le_of_ble_eq_true rfl⟩) (fun (u : (Nat) × (Nat → Nat) × (Nat → Nat)) => [(b 0, .inr (7, [.ref (b 1), .ref (b 2), .ref (b 3), .ref (b 4), .ref (b 5), .int (nI qu), .long ab, .long bl, .ref (b 6), .int (nI tyd), .int (nI at0), .int (nI sta), .int (nI tok), .int (nI val), .ref (b 7), .int (nI man), .ref (b 8), .ref (b 9), .ref (b 10), .ref (b 11), .ref (b 12), .ref (b 13), .ref (b 14)])), (b 1, .inl (tA 0, 212, .inl (nF B))), (b 13, .inl (tA 0, 5, .inl (nF (u.2.2)))), (b 14, .inl (tA 0, 5, .inl (nF (u.2.1)))), (b 5, .inl (tA 0, 3, .inl rf))]) (fun _ => rfl) (fun _ => rfl) (fun _ => rfl) (fun r_6 u_7 H locs q_8 hP hD hS => ?_)
    obtain ⟨q9x, go9x, ge9x⟩ := u_7
    have hP : va_P G vwCl [(b 0, .inr (7, [.ref (b 1), .ref (b 2), .ref (b 3), .ref (b 4), .ref (b 5), .int (nI qu), .long ab, .long bl, .ref (b 6), .int (nI tyd), .int (nI at0), .int (nI sta), .int (nI tok), .int (nI val), .ref (b 7), .int (nI man), .ref (b 8), .ref (b 9), .ref (b 10), .ref (b 11), .ref (b 12), .ref (b 13), .ref (b 14)])), (b 1, .inl (tA 0, 212, .inl (nF B))), (b 13, .inl (tA 0, 5, .inl (nF ge9x))), (b 14, .inl (tA 0, 5, .inl (nF go9x))), (b 5, .inl (tA 0, 3, .inl rf))] H := hP
    have hD : va_D A [(b 0, .inr (7, [.ref (b 1), .ref (b 2), .ref (b 3), .ref (b 4), .ref (b 5), .int (nI qu), .long ab, .long bl, .ref (b 6), .int (nI tyd), .int (nI at0), .int (nI sta), .int (nI tok), .int (nI val), .ref (b 7), .int (nI man), .ref (b 8), .ref (b 9), .ref (b 10), .ref (b 11), .ref (b 12), .ref (b 13), .ref (b 14)])), (b 1, .inl (tA 0, 212, .inl (nF B))), (b 13, .inl (tA 0, 5, .inl (nF ge9x))), (b 14, .inl (tA 0, 5, .inl (nF go9x))), (b 5, .inl (tA 0, 3, .inl rf))] := hD
    obtain ⟨rfl, hdl9, e_9, hgo9z, e_10⟩ := q_8
    have hdl9 : (q9x, go9x, ge9x) = dlT B go ge ((B 0 + 1) * (B 0 + 1) * (B 0 + 1) * (B 0 + 1) * (B 0 + 1)) := hdl9
    have e_9 : q9x ≤ 5242881 := e_9
    have hgo9z : ∀ j, go9x j < 1048576 := hgo9z
    have e_10 : ∀ j, ge9x j < 1048576 := e_10
    have hgo9 := hgo9z
    have hdl : dlS B go ge = (q9x, go9x, ge9x) := hdl9.symm
    refine lv_istore_n (lv' := [(2, .int ((nI q9x) + (-1))), (0, .ref (b 0)), (1, .int pe)]) hx hb dX9_deal_26 rfl hl (by decide) rfl (fun ls hl => ?_)
    refine lv_iload_n hx hb dX9_deal_27 rfl (lv_at hl 2 rfl) ?_
    refine lv_iconst (v := (-1)) hx hb dX9_deal_28 (by decide) ?_
    refine zv_icmp_ne (tgt := 36) (X := PE) (Y := (-1 : Int)) hpe rfl hx hb dX9_deal_29 (by decide) (fun c_11 => ?_) (fun c_11 => ?_)
    · have hok : 0 ≤ PE := by omega
      obtain ⟨pen, h_pen, rfl⟩ := toN (x := pe) (by omega)
      have t_pen : (nI pen).toInt = (pen : Int) := nI_toInt h_pen
      have z_pen : PE.toNat = pen := by omega
      refine lv_aload_n hx hb dX9_deal_36 rfl (lv_at hl 1 rfl) ?_
      refine va_get (D := G) (ci := 7) (C := RX9) (T := TX9) (N := 23) hx hb hts iX9 hown hKK.1 hP 0 rfl rfl 22 (by decide) f50 (fun _ h9 => h9) rfl dX9_deal_37 ?_
      refine lv_iload_n hx hb dX9_deal_40 rfl (lv_at hl 2 rfl) ?_
      refine nv_iald (i := pen) hx hb hKK.1 hP 3 0 rfl rfl (by omega) (by decide) dX9_deal_41 ?_
      have b_12 := hgo9 pen
      refine nv_if_ne (tgt := 50) (by omega) hx hb dX9_deal_42 (by decide) (fun c_13 => ?_) (fun c_13 => ?_)
      · refine lv_aload_n hx hb dX9_deal_50 rfl (lv_at hl 1 rfl) ?_
        refine va_get (D := G) (ci := 7) (C := RX9) (T := TX9) (N := 23) hx hb hts iX9 hown hKK.1 hP 0 rfl rfl 22 (by decide) f50 (fun _ h9 => h9) rfl dX9_deal_51 ?_
        refine lv_iload_n hx hb dX9_deal_54 rfl (lv_at hl 2 rfl) ?_
        refine nv_iald (i := pen) hx hb hKK.1 hP 3 0 rfl rfl (by omega) (by decide) dX9_deal_55 ?_
        have b_14 := hgo9 pen
        refine lv_iconst (v := nI 1) hx hb dX9_deal_56 (by decide) ?_
        refine nv_isub (show 1 ≤ go9x pen from by omega) hx hb dX9_deal_57 ?_
        exact retI hx hb hr hlocks hS hP hD () (by simp only [if_pos (show -1 ≤ PE ∧ PE ≤ 4 from by omega), hdl]) (by rw [if_pos (by omega), hdl]; first | rw [if_pos (by omega)] | (rw [if_neg (by omega), z_pen]; unfold gotS; first | rw [if_pos (by omega)] | rw [if_neg (by omega)])) dX9_deal_58
      · refine lv_bipush (v := nI 8) hx hb dX9_deal_45 (by decide +kernel) ?_
        refine lv_goto (tgt := 58) hx hb dX9_deal_47 (by decide) ?_
        exact retI hx hb hr hlocks hS hP hD () (by simp only [if_pos (show -1 ≤ PE ∧ PE ≤ 4 from by omega), hdl]) (by rw [if_pos (by omega), hdl]; first | rw [if_pos (by omega)] | (rw [if_neg (by omega), z_pen]; unfold gotS; first | rw [if_pos (by omega)] | rw [if_neg (by omega)])) dX9_deal_58
    · refine lv_iload_n hx hb dX9_deal_32 rfl (lv_at hl 0 rfl) ?_
      refine lv_goto (tgt := 58) hx hb dX9_deal_33 (by decide) ?_
      exact retI hx hb hr hlocks hS hP hD () (by simp only [if_pos (show -1 ≤ PE ∧ PE ≤ 4 from by omega), hdl]) (by rw [if_pos (by omega), hdl]; first | rw [if_pos (by omega)] | (rw [if_neg (by omega), z_pen]; unfold gotS; first | rw [if_pos (by omega)] | rw [if_neg (by omega)])) dX9_deal_58
  · have p_4 : ¬ ((-1 : Int) ≤ PE ∧ PE ≤ (4 : Int)) := p_4
    refine nv_if_ne (tgt := 22) (by omega) hx hb dX9_deal_11 (by decide) (fun h => absurd h (by omega)) (fun _ => ?_)
    refine lv_aload_n hx hb dX9_deal_14 rfl (lv_at hl 0 rfl) ?_
    refine lv_iconst (v := nI 0) hx hb dX9_deal_15 (by decide) ?_
    refine lv_bipush (v := (-10)) hx hb dX9_deal_16 (by decide +kernel) ?_
    refine rwI hP hD hS hA [0, 4] rfl (runV (As := [.int (nI 0), .int (-10)]) (rest := []) (isC := [0, 4]) ⟨hx, hb, hml, hown, hts⟩ hKK hP hD rfl (by decide) (c_X9_refuses l G tA b qu ab bl tyd at0 sta tok val man rf 0 (-10) (by first | assumption | omega) (hqu) _) (cwV 2 hts gX9_deal_X9_refuses rfl rfl rfl (by decide +kernel) ⟨Nat.le_of_ble_eq_true rfl, Nat.le_of_ble_eq_true rfl⟩) rfl rfl rfl rfl hl.1 rfl (lv_room (Nat.le_of_ble_eq_true rfl)) dX9_deal_18 ⟨Nat.le_of_ble_eq_true rfl, Nat.le_of_ble_eq_true rfl⟩) (fun (_ : Unit) => [(b 0, .inr (7, [.ref (b 1), .ref (b 2), .ref (b 3), .ref (b 4), .ref (b 5), .int (nI qu), .long ab, .long bl, .ref (b 6), .int (nI tyd), .int (nI at0), .int (nI sta), .int (nI tok), .int (nI val), .ref (b 7), .int (nI man), .ref (b 8), .ref (b 9), .ref (b 10), .ref (b 11), .ref (b 12), .ref (b 13), .ref (b 14)])), (b 1, .inl (tA 0, 212, .inl (nF B))), (b 13, .inl (tA 0, 5, .inl (nF ge))), (b 14, .inl (tA 0, 5, .inl (nF go))), (b 5, .inl (tA 0, 3, .inl (bump qu rf 0)))]) (fun _ => rfl) (fun _ => rfl) (fun _ => rfl) (fun r_16 u_17 H locs q_18 hP hD hS => ?_)
    subst q_18
    exact retI hx hb hr hlocks hS hP hD () (by simp only [if_neg (show ¬ (-1 ≤ PE ∧ PE ≤ 4) from by omega)]) (by rw [if_neg (by omega)]) dX9_deal_21
