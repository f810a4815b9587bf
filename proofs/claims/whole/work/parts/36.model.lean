/-! the model: odds -/
theorem neL {y : Nat} (h0 : 0 < y) (h : y < 1048576) : ¬ (nI y).toInt64 = 0 := by
  rw [nI_l (by omega)]
  intro q
  have q2 : lN y = lN 0 := q
  rw [lN_eq (by omega) (by omega)] at q2
  omega
theorem remL {a b : Nat} (ha : a < 1048576) (h0 : 0 < b) (hb : b < 1048576) : (nI a).toInt64 - (nI a).toInt64 / (nI b).toInt64 * (nI b).toInt64 = (nI (a % b)).toInt64 := by
  have h2 := Nat.mod_lt a h0
  rw [nI_l (by omega), nI_l (by omega), nI_l (by omega), pk_lRem (by omega) h0 (by omega)]
theorem divL {a b : Nat} (ha : a < 1048576) (h0 : 0 < b) (hb : b < 1048576) : (nI a).toInt64 / (nI b).toInt64 = (nI (a / b)).toInt64 := by
  have h2 := Nat.div_le_self a b
  rw [nI_l (by omega), nI_l (by omega), nI_l (by omega), pk_lDiv (by omega) h0 (by omega)]
theorem addL {a b : Nat} (ha : a < 1048576) (hb : b < 1048576) : (nI a).toInt64 + (nI b).toInt64 = (nI (a + b)).toInt64 := by
  rw [nI_l (by omega), nI_l (by omega), nI_l (by omega), lN_add]
theorem gcd_step (x y : Nat) : Nat.gcd y (x % y) = Nat.gcd x y := by
  rw [Nat.gcd_comm x y, Nat.gcd_rec y x, Nat.gcd_comm]
def allU (B : Nat → Nat) (x n : Nat) : Nat := it (fun j a => a + if x / 2 ^ j % 2 = 1 then B (196 + 2 * j + 1) else 0) n 0
theorem allU_s (B : Nat → Nat) (x n : Nat) : allU B x (n + 1) = allU B x n + if x / 2 ^ n % 2 = 1 then B (196 + 2 * n + 1) else 0 := rfl
theorem allU_ge {B : Nat → Nat} {x k : Nat} : ∀ {n : Nat}, k < n → x / 2 ^ k % 2 = 1 → B (196 + 2 * k + 1) ≤ allU B x n := by
  intro n
  induction n with
  | zero => intro h; omega
  | succ n ih =>
    intro h hx
    rw [allU_s]
    rcases Nat.lt_succ_iff_lt_or_eq.mp h with q | q
    · have := ih q hx; omega
    · subst q; rw [if_pos hx]; omega

set_option maxHeartbeats 4000000 in
set_option maxRecDepth 100000 in
theorem c_X9_divisor (l : Launch) (G : va_G) (tA : Nat → ClassId) (ua : Nat) (ub : Nat) (hua : ua < 1048576) (hub : ub < 1048576) : CtL l yX9_divisor wsX9_divisor ({ frames := 0, cells := 0, slots := 0, locals := 0 }) G tA [.long ((nI ua).toInt64), .long ((nI ub).toInt64)] ([]) (fun (r : Int64) (_ : Unit) => r = (nI (Nat.gcd ua ub)).toInt64) (fun (_ : Unit) => []) 0 0 := by
  refine enterL (cc := cX9_divisor) (maxL := 10) (ret := (some .long)) (by decide) rfl (Nat.le_of_ble_eq_true rfl) ?_
  intro p0 e0 s m args below meth c0_ A ls hx hb hml hr hts hown hlocks hin hKK hA hP hD hl hS
  have hown : s.vm.findClass RX9 = some m.cls := hown
  have hl : lv_has ls 10 [(0, .long ((nI ua).toInt64)), (2, .long ((nI ub).toInt64))] := hl
  refine lv_lload_n hx hb dX9_divisor_0 rfl (lv_at hl 0 rfl) ?_
  refine lv_lstore (lv' := [(4, .long ((nI ua).toInt64)), (0, .long ((nI ua).toInt64)), (2, .long ((nI ub).toInt64))]) hx hb dX9_divisor_1 hl (by decide) rfl (fun ls hl => ?_)
  refine lv_lload_n hx hb dX9_divisor_3 rfl (lv_at hl 2 rfl) ?_
  refine lv_lstore (lv' := [(6, .long ((nI ub).toInt64)), (4, .long ((nI ua).toInt64)), (0, .long ((nI ua).toInt64)), (2, .long ((nI ub).toInt64))]) hx hb dX9_divisor_4 hl (by decide) rfl (fun ls hl => ?_)
  refine wloop (σ := (Nat) × (Nat)) (fun | (x, y) => y) (fun | (x, y) => (x < 1048576) ∧ (y < 1048576) ∧ (Nat.gcd x y = Nat.gcd ua ub)) (fun | (x, y) => [(6, .long ((nI y).toInt64)), (4, .long ((nI x).toInt64)), (0, .long ((nI ua).toInt64)), (2, .long ((nI ub).toInt64))]) (fun | (x, y) => []) (ua, ub) ⟨(show ua < 1048576 from by omega), (show ub < 1048576 from by omega), (show Nat.gcd ua ub = Nat.gcd ua ub from rfl)⟩ (lv_sub hl [0, 1, 2, 3] rfl) hP hD hS ?_
  rintro ⟨x, y⟩ ⟨hx9, hy9, hg⟩ ih_1 ls H locs hl hP hD hS
  have hl : lv_has ls 10 [(6, .long ((nI y).toInt64)), (4, .long ((nI x).toInt64)), (0, .long ((nI ua).toInt64)), (2, .long ((nI ub).toInt64))] := hl
  have hP : va_P G vwCl [] H := hP
  have hD : va_D A [] := hD
  have hx9 : x < 1048576 := hx9
  have hy9 : y < 1048576 := hy9
  have hg : Nat.gcd x y = Nat.gcd ua ub := hg
  refine lv_lload hx hb dX9_divisor_6 (lv_at hl 0 rfl) ?_
  refine lv_lconst (v := (nI 0).toInt64) hx hb dX9_divisor_8 (by decide +kernel) ?_
  refine W.lcmp hx hb dX9_divisor_9 ?_
  rcases lgc (a := (nI y)) (b := (nI 0)) (X := ((y : Nat) : Int)) (Y := (0 : Int)) (nI_toIntC (by omega)) rfl with ⟨g_2, e_g_2⟩ | ⟨g_2, e_g_2⟩ | ⟨g_2, e_g_2⟩
  · refine nv_topx (y := (-1)) e_g_2 ?_
    refine zv_if_eq (tgt := 31) (X := (-1 : Int)) rfl hx hb dX9_divisor_10 (by decide) (fun h => absurd h (by omega)) (fun _ => ?_)
    refine lv_lload hx hb dX9_divisor_13 (lv_at hl 1 rfl) ?_
    refine lv_lload hx hb dX9_divisor_15 (lv_at hl 0 rfl) ?_
    refine lv_lrem hx hb dX9_divisor_17 (neL (by omega) (by omega)) ?_
    refine nv_topl (y := (nI (x % y)).toInt64) (remL (by omega) (by omega) (by omega)) ?_
    refine lv_lstore (lv' := [(8, .long ((nI (x % y)).toInt64)), (6, .long ((nI y).toInt64)), (4, .long ((nI x).toInt64)), (0, .long ((nI ua).toInt64)), (2, .long ((nI ub).toInt64))]) hx hb dX9_divisor_18 hl (by decide) rfl (fun ls hl => ?_)
    refine lv_lload hx hb dX9_divisor_20 (lv_at hl 1 rfl) ?_
    refine lv_lstore (lv' := [(4, .long ((nI y).toInt64)), (8, .long ((nI (x % y)).toInt64)), (6, .long ((nI y).toInt64)), (0, .long ((nI ua).toInt64)), (2, .long ((nI ub).toInt64))]) hx hb dX9_divisor_22 hl (by decide) rfl (fun ls hl => ?_)
    refine lv_lload hx hb dX9_divisor_24 (lv_at hl 1 rfl) ?_
    refine lv_lstore (lv' := [(6, .long ((nI (x % y)).toInt64)), (4, .long ((nI y).toInt64)), (8, .long ((nI (x % y)).toInt64)), (0, .long ((nI ua).toInt64)), (2, .long ((nI ub).toInt64))]) hx hb dX9_divisor_26 hl (by decide) rfl (fun ls hl => ?_)
    refine lv_goto (tgt := 6) hx hb dX9_divisor_28 (by decide) ?_
    exact ih_1 (y, (x % y)) (show (x % y) < y from Nat.mod_lt x (by omega)) ⟨(show y < 1048576 from by omega), (show (x % y) < 1048576 from by have := Nat.mod_lt x (show y > 0 by omega); omega), (show Nat.gcd y (x % y) = Nat.gcd ua ub from by rw [gcd_step, hg])⟩ _ _ _ (lv_sub hl [0, 1, 3, 4] rfl) hP hD hS
  · refine nv_topx (y := (nI 0)) e_g_2 ?_
    refine nv_if_eq (tgt := 31) (by omega) hx hb dX9_divisor_10 (by decide) (fun _ => ?_) (fun h => absurd h (by omega))
    refine lv_lload hx hb dX9_divisor_31 (lv_at hl 1 rfl) ?_
    exact retL hx hb hr hlocks hS hP hD () (rfl) (by have e : y = 0 := (by omega); rw [e, Nat.gcd_zero_right] at hg; rw [hg]) dX9_divisor_33
  · refine nv_topx (y := (nI 1)) e_g_2 ?_
    refine nv_if_eq (tgt := 31) (by omega) hx hb dX9_divisor_10 (by decide) (fun h => absurd h (by omega)) (fun _ => ?_)
    refine lv_lload hx hb dX9_divisor_13 (lv_at hl 1 rfl) ?_
    refine lv_lload hx hb dX9_divisor_15 (lv_at hl 0 rfl) ?_
    refine lv_lrem hx hb dX9_divisor_17 (neL (by omega) (by omega)) ?_
    refine nv_topl (y := (nI (x % y)).toInt64) (remL (by omega) (by omega) (by omega)) ?_
    refine lv_lstore (lv' := [(8, .long ((nI (x % y)).toInt64)), (6, .long ((nI y).toInt64)), (4, .long ((nI x).toInt64)), (0, .long ((nI ua).toInt64)), (2, .long ((nI ub).toInt64))]) hx hb dX9_divisor_18 hl (by decide) rfl (fun ls hl => ?_)
    refine lv_lload hx hb dX9_divisor_20 (lv_at hl 1 rfl) ?_
    refine lv_lstore (lv' := [(4, .long ((nI y).toInt64)), (8, .long ((nI (x % y)).toInt64)), (6, .long ((nI y).toInt64)), (0, .long ((nI ua).toInt64)), (2, .long ((nI ub).toInt64))]) hx hb dX9_divisor_22 hl (by decide) rfl (fun ls hl => ?_)
    refine lv_lload hx hb dX9_divisor_24 (lv_at hl 1 rfl) ?_
    refine lv_lstore (lv' := [(6, .long ((nI (x % y)).toInt64)), (4, .long ((nI y).toInt64)), (8, .long ((nI (x % y)).toInt64)), (0, .long ((nI ua).toInt64)), (2, .long ((nI ub).toInt64))]) hx hb dX9_divisor_26 hl (by decide) rfl (fun ls hl => ?_)
    refine lv_goto (tgt := 6) hx hb dX9_divisor_28 (by decide) ?_
    exact ih_1 (y, (x % y)) (show (x % y) < y from Nat.mod_lt x (by omega)) ⟨(show y < 1048576 from by omega), (show (x % y) < 1048576 from by have := Nat.mod_lt x (show y > 0 by omega); omega), (show Nat.gcd y (x % y) = Nat.gcd ua ub from by rw [gcd_step, hg])⟩ _ _ _ (lv_sub hl [0, 1, 3, 4] rfl) hP hD hS

def abS (B : Nat → Nat) (tk : Nat) : Nat := bitsN (fun z9 => decide (andn tk (B (196 + 2 * z9)) = 0)) (B 5)
def upS (B : Nat → Nat) (k : Nat) : Nat := B (196 + 2 * k + 1)
def byS (B : Nat → Nat) (tk k : Nat) : Nat := Nat.gcd (upS B k) (allU B (abS B tk) (B 5))

set_option maxHeartbeats 4000000 in
set_option maxRecDepth 100000 in
theorem c_X9_odds (l : Launch) (G : va_G) (tA : Nat → ClassId) (b : Nat → Nat) (qu : Nat) (ab : Int64) (bl : Int64) (tyd : Nat) (at0 : Nat) (sta : Nat) (tok : Nat) (val : Nat) (man : Nat) (B : Nat → Nat) (rf : Nat → Int32) (tk : Int32) (TK : Int) (ke : Int32) (KE : Int) (hWB : WB B) (hqu : qu < 2) (htk : tk.toInt = TK) (hke : ke.toInt = KE) : CtI l yX9_odds wsX9_odds ({ frames := 2, cells := 0, slots := 0, locals := 46 }) G tA [.ref (b 0), .int tk, .int ke] ([(b 0, .inr (7, [.ref (b 1), .ref (b 2), .ref (b 3), .ref (b 4), .ref (b 5), .int (nI qu), .long ab, .long bl, .ref (b 6), .int (nI tyd), .int (nI at0), .int (nI sta), .int (nI tok), .int (nI val), .ref (b 7), .int (nI man), .ref (b 8), .ref (b 9), .ref (b 10), .ref (b 11), .ref (b 12), .ref (b 13), .ref (b 14)])), (b 1, .inl (tA 0, 212, .inl (nF B))), (b 5, .inl (tA 0, 3, .inl rf))]) (fun (r : Int32) (_ : Unit) => r = (if (0 ≤ TK ∧ TK < ((2 ^ B 0 : Nat) : Int)) ∧ 0 ≤ KE ∧ KE < ((B 5 : Nat) : Int) then (if abS B TK.toNat / 2 ^ KE.toNat % 2 = 0 then -3 else nI 1) else -2)) (fun (_ : Unit) => [(b 0, .inr (7, [.ref (b 1), .ref (b 2), .ref (b 3), .ref (b 4), .ref (b 5), .int (nI qu), .long (if (0 ≤ TK ∧ TK < ((2 ^ B 0 : Nat) : Int)) ∧ 0 ≤ KE ∧ KE < ((B 5 : Nat) : Int) then (if abS B TK.toNat / 2 ^ KE.toNat % 2 = 0 then ab else (nI (upS B KE.toNat / byS B TK.toNat KE.toNat)).toInt64) else ab), .long (if (0 ≤ TK ∧ TK < ((2 ^ B 0 : Nat) : Int)) ∧ 0 ≤ KE ∧ KE < ((B 5 : Nat) : Int) then (if abS B TK.toNat / 2 ^ KE.toNat % 2 = 0 then bl else (nI (allU B (abS B TK.toNat) (B 5) / byS B TK.toNat KE.toNat)).toInt64) else bl), .ref (b 6), .int (nI tyd), .int (nI at0), .int (nI sta), .int (nI tok), .int (nI val), .ref (b 7), .int (nI man), .ref (b 8), .ref (b 9), .ref (b 10), .ref (b 11), .ref (b 12), .ref (b 13), .ref (b 14)])), (b 1, .inl (tA 0, 212, .inl (nF B))), (b 5, .inl (tA 0, 3, .inl (if (0 ≤ TK ∧ TK < ((2 ^ B 0 : Nat) : Int)) ∧ 0 ≤ KE ∧ KE < ((B 5 : Nat) : Int) then (if abS B TK.toNat / 2 ^ KE.toNat % 2 = 0 then bump qu rf 1 else rf) else bump qu rf 0)))]) 0 0 := by
  refine enterI (cc := cX9_odds) (maxL := 10) (ret := (some .int)) (by decide) rfl (Nat.le_of_ble_eq_true rfl) ?_
  intro p0 e0 s m args below meth c0_ A ls hx hb hml hr hts hown hlocks hin hKK hA hP hD hl hS
  have hown : s.vm.findClass RX9 = some m.cls := hown
  have hl : lv_has ls 10 [(0, .ref (b 0)), (1, .int tk), (2, .int ke)] := hl
  have f7 := hts (Cond.fieldLink RX9 7 "LentTermsModel" "book" "[I") (List.mem_of_getElem? (i := 1) rfl)
  have iX9 : ∀ w ∈ wsX90, w ∈ wsX9_odds := by decide +kernel
  have f223 := hts (Cond.fieldLink RX9 223 "LentTermsModel" "above" "J") (List.mem_of_getElem? (i := 2) rfl)
  have f53 := hts (Cond.fieldLink RX9 53 "LentTermsModel" "below" "J") (List.mem_of_getElem? (i := 3) rfl)
  obtain ⟨⟨hn0, hn1, hn2, hn3, hn4, hn5⟩, hbB, hv0, hv1, hv2, hv3, hv4, hv5, hv6, hv7⟩ := id hWB
  have h256 := p256 hn0
  refine lv_aload_n hx hb dX9_odds_0 rfl (lv_at hl 0 rfl) ?_
  refine lv_iload_n hx hb dX9_odds_1 rfl (lv_at hl 1 rfl) ?_
  refine roI hP hD hS hA [0, 1] rfl (runV (As := [.int tk]) (rest := []) (isC := [0, 1]) ⟨hx, hb, hml, hown, hts⟩ hKK hP hD rfl (by decide) (c_X9_isSet l G tA b qu ab bl tyd at0 sta tok val man B tk TK (hWB) htk _) (cwV 1 hts gX9_odds_X9_isSet rfl rfl rfl (by decide +kernel) ⟨Nat.le_of_ble_eq_true rfl, Nat.le_of_ble_eq_true rfl⟩) rfl rfl rfl rfl hl.1 rfl (lv_room (Nat.le_of_ble_eq_true rfl)) dX9_odds_2 ⟨Nat.le_of_ble_eq_true rfl, Nat.le_of_ble_eq_true rfl⟩) (fun _ => rfl) (fun r_1 u_2 H locs q_3 hP hS => ?_)
  rcases q_3 with ⟨rfl, p_4⟩ | ⟨rfl, p_4⟩
  · have p_4 : 0 ≤ TK ∧ TK < ((2 ^ B 0 : Nat) : Int) := p_4
    refine nv_if_eq (tgt := 26) (by omega) hx hb dX9_odds_5 (by decide) (fun h => absurd h (by omega)) (fun _ => ?_)
    refine lv_iload_n hx hb dX9_odds_8 rfl (lv_at hl 2 rfl) ?_
    refine lv_i2l hx hb dX9_odds_9 rfl ?_
    refine lv_lconst (v := (nI 0).toInt64) hx hb dX9_odds_10 (by decide +kernel) ?_
    refine lv_aload_n hx hb dX9_odds_11 rfl (lv_at hl 0 rfl) ?_
    refine va_get (D := G) (ci := 7) (C := RX9) (T := TX9) (N := 23) hx hb hts iX9 hown hKK.1 hP 0 rfl rfl 0 (by decide) f7 (fun _ h9 => h9) rfl dX9_odds_12 ?_
    refine lv_iconst (v := nI 5) hx hb dX9_odds_15 (by decide) ?_
    refine nv_iald (i := 5) hx hb hKK.1 hP 1 0 rfl rfl (by omega) (by decide) dX9_odds_16 ?_
    have b_6 := hbB 5
    refine lv_iconst (v := nI 1) hx hb dX9_odds_17 (by decide) ?_
    refine lv_isub hx hb dX9_odds_18 ?_
    refine lv_i2l hx hb dX9_odds_19 rfl ?_
    refine roI hP hD hS hA [] rfl (runS (As := [.long ke.toInt64, .long ((nI 0).toInt64), .long (((nI (B 5)) - (nI 1)).toInt64)]) (rest := []) (isC := []) ⟨hx, hb, hml, hown, hts⟩ hKK hP hD rfl (by decide) (c_X9_is l G tA ke KE (nI 0) (0 : Int) ((nI (B 5)) - (nI 1)) (((B 5 : Nat) : Int) - ((1 : Nat) : Int)) hke rfl (pk_sub_toInt (by omega) (by omega)) _) (va_cwS 3 hts gX9_odds_X9_is rfl rfl rfl (by decide +kernel) ⟨Nat.le_of_ble_eq_true rfl, Nat.le_of_ble_eq_true rfl⟩) rfl rfl hl.1 rfl (lv_room (Nat.le_of_ble_eq_true rfl)) dX9_odds_20 ⟨Nat.le_of_ble_eq_true rfl, Nat.le_of_ble_eq_true rfl⟩) (fun _ => rfl) (fun r_7 u_8 H locs q_9 hP hS => ?_)
    rcases q_9 with ⟨rfl, p_10⟩ | ⟨rfl, p_10⟩
    · have p_10 : (0 : Int) ≤ KE ∧ KE ≤ (((B 5 : Nat) : Int) - ((1 : Nat) : Int)) := p_10
      refine nv_if_ne (tgt := 31) (by omega) hx hb dX9_odds_23 (by decide) (fun _ => ?_) (fun h => absurd h (by omega))
      have hok : (0 ≤ TK ∧ TK < ((2 ^ B 0 : Nat) : Int)) ∧ 0 ≤ KE ∧ KE < ((B 5 : Nat) : Int) := by omega
      obtain ⟨tkn, h_tkn, rfl⟩ := toN (x := tk) (by omega)
      have t_tkn : (nI tkn).toInt = (tkn : Int) := nI_toInt h_tkn
      have z_tkn : TK.toNat = tkn := by omega
      obtain ⟨ken, h_ken, rfl⟩ := toN (x := ke) (by omega)
      have t_ken : (nI ken).toInt = (ken : Int) := nI_toInt h_ken
      have z_ken : KE.toNat = ken := by omega
      refine lv_aload_n hx hb dX9_odds_31 rfl (lv_at hl 0 rfl) ?_
      refine lv_iload_n hx hb dX9_odds_32 rfl (lv_at hl 1 rfl) ?_
      refine roI hP hD hS hA [0, 1] rfl (runV (As := [.int (nI tkn)]) (rest := []) (isC := [0, 1]) ⟨hx, hb, hml, hown, hts⟩ hKK hP hD rfl (by decide) (c_X9_aboutOf l G tA b qu ab bl tyd at0 sta tok val man B tkn (hWB) (by first | assumption | omega) _) (cwV 1 hts gX9_odds_X9_aboutOf rfl rfl rfl (by decide +kernel) ⟨Nat.le_of_ble_eq_true rfl, Nat.le_of_ble_eq_true rfl⟩) rfl rfl rfl rfl hl.1 rfl (lv_room (Nat.le_of_ble_eq_true rfl)) dX9_odds_33 ⟨Nat.le_of_ble_eq_true rfl, Nat.le_of_ble_eq_true rfl⟩) (fun _ => rfl) (fun r_12 u_13 H locs q_14 hP hS => ?_)
      obtain ⟨rfl, e_15⟩ := q_14
      have e_15 : bitsN (fun z9 => decide (andn tkn (B (196 + 2 * z9)) = 0)) (B 5) < 256 := e_15
      refine nv_top (y := abS B tkn) rfl ?_
      have ha256 : abS B tkn < 256 := Nat.lt_of_lt_of_le (bitsN_lt _ _) (p256 hn5).2
      refine lv_istore_n (lv' := [(3, .int (nI (abS B tkn))), (0, .ref (b 0)), (1, .int (nI tkn)), (2, .int (nI ken))]) hx hb dX9_odds_36 rfl hl (by decide) rfl (fun ls hl => ?_)
      refine lv_iload_n hx hb dX9_odds_37 rfl (lv_at hl 0 rfl) ?_
      refine lv_iload_n hx hb dX9_odds_38 rfl (lv_at hl 3 rfl) ?_
      refine nv_ishr (by omega) (by omega) hx hb dX9_odds_39 ?_
      refine lv_iconst (v := nI 1) hx hb dX9_odds_40 (by decide) ?_
      refine nv_iand1 hx hb dX9_odds_41 ?_
      refine nv_if_ne (tgt := 50) (by omega) hx hb dX9_odds_42 (by decide) (fun c_16 => ?_) (fun c_16 => ?_)
      · refine lv_lconst (v := (nI 0).toInt64) hx hb dX9_odds_50 (by decide +kernel) ?_
        refine lv_lstore (lv' := [(4, .long ((nI 0).toInt64)), (3, .int (nI (abS B tkn))), (0, .ref (b 0)), (1, .int (nI tkn)), (2, .int (nI ken))]) hx hb dX9_odds_51 hl (by decide) rfl (fun ls hl => ?_)
        refine lv_iconst (v := nI 0) hx hb dX9_odds_53 (by decide) ?_
        refine lv_istore (lv' := [(6, .int (nI 0)), (4, .long ((nI 0).toInt64)), (3, .int (nI (abS B tkn))), (0, .ref (b 0)), (1, .int (nI tkn)), (2, .int (nI ken))]) hx hb dX9_odds_54 hl (by decide) rfl (fun ls hl => ?_)
        refine wloop (σ := (Nat) × (Nat)) (fun | (j, al) => B 5 - j) (fun | (j, al) => (j ≤ B 5) ∧ (al = allU B (abS B tkn) j) ∧ (al ≤ 9 * j)) (fun | (j, al) => [(6, .int (nI j)), (4, .long ((nI al).toInt64)), (3, .int (nI (abS B tkn))), (0, .ref (b 0)), (1, .int (nI tkn)), (2, .int (nI ken))]) (fun | (j, al) => [(b 0, .inr (7, [.ref (b 1), .ref (b 2), .ref (b 3), .ref (b 4), .ref (b 5), .int (nI qu), .long ab, .long bl, .ref (b 6), .int (nI tyd), .int (nI at0), .int (nI sta), .int (nI tok), .int (nI val), .ref (b 7), .int (nI man), .ref (b 8), .ref (b 9), .ref (b 10), .ref (b 11), .ref (b 12), .ref (b 13), .ref (b 14)])), (b 1, .inl (tA 0, 212, .inl (nF B))), (b 5, .inl (tA 0, 3, .inl rf))]) (0, 0) ⟨(show 0 ≤ B 5 from by omega), (show 0 = allU B (abS B tkn) 0 from rfl), (show 0 ≤ 9 * 0 from by omega)⟩ (lv_sub hl [0, 1, 2, 3, 4, 5] rfl) hP hD hS ?_
        rintro ⟨j, al⟩ ⟨hj, hal, hal2⟩ ih_17 ls H locs hl hP hD hS
        have hl : lv_has ls 10 [(6, .int (nI j)), (4, .long ((nI al).toInt64)), (3, .int (nI (abS B tkn))), (0, .ref (b 0)), (1, .int (nI tkn)), (2, .int (nI ken))] := hl
        have hP : va_P G vwCl [(b 0, .inr (7, [.ref (b 1), .ref (b 2), .ref (b 3), .ref (b 4), .ref (b 5), .int (nI qu), .long ab, .long bl, .ref (b 6), .int (nI tyd), .int (nI at0), .int (nI sta), .int (nI tok), .int (nI val), .ref (b 7), .int (nI man), .ref (b 8), .ref (b 9), .ref (b 10), .ref (b 11), .ref (b 12), .ref (b 13), .ref (b 14)])), (b 1, .inl (tA 0, 212, .inl (nF B))), (b 5, .inl (tA 0, 3, .inl rf))] H := hP
        have hD : va_D A [(b 0, .inr (7, [.ref (b 1), .ref (b 2), .ref (b 3), .ref (b 4), .ref (b 5), .int (nI qu), .long ab, .long bl, .ref (b 6), .int (nI tyd), .int (nI at0), .int (nI sta), .int (nI tok), .int (nI val), .ref (b 7), .int (nI man), .ref (b 8), .ref (b 9), .ref (b 10), .ref (b 11), .ref (b 12), .ref (b 13), .ref (b 14)])), (b 1, .inl (tA 0, 212, .inl (nF B))), (b 5, .inl (tA 0, 3, .inl rf))] := hD
        have hj : j ≤ B 5 := hj
        have hal : al = allU B (abS B tkn) j := hal
        have hal2 : al ≤ 9 * j := hal2
        refine lv_iload hx hb dX9_odds_56 (lv_at hl 0 rfl) ?_
        refine lv_aload_n hx hb dX9_odds_58 rfl (lv_at hl 3 rfl) ?_
        refine va_get (D := G) (ci := 7) (C := RX9) (T := TX9) (N := 23) hx hb hts iX9 hown hKK.1 hP 0 rfl rfl 0 (by decide) f7 (fun _ h9 => h9) rfl dX9_odds_59 ?_
        refine lv_iconst (v := nI 5) hx hb dX9_odds_62 (by decide) ?_
        refine nv_iald (i := 5) hx hb hKK.1 hP 1 0 rfl rfl (by omega) (by decide) dX9_odds_63 ?_
        have b_18 := hbB 5
        refine nv_icmp_ge (tgt := 108) (by omega) (by omega) hx hb dX9_odds_64 (by decide) (fun c_19 => ?_) (fun c_19 => ?_)
        · have hup := hv5 ken (by omega)
          have hge : B (196 + 2 * ken + 1) ≤ allU B (abS B tkn) (B 5) := allU_ge (by omega) (by omega)
          have hj5 : j = B 5 := by omega
          rw [hj5] at hal hal2
          have hby : 0 < Nat.gcd (B (196 + 2 * ken + 1)) al := Nat.gcd_pos_of_pos_left _ (by omega)
          have hby2 : Nat.gcd (B (196 + 2 * ken + 1)) al ≤ B (196 + 2 * ken + 1) := Nat.le_of_dvd (by omega) (Nat.gcd_dvd_left _ _)
          refine lv_aload_n hx hb dX9_odds_108 rfl (lv_at hl 3 rfl) ?_
          refine va_get (D := G) (ci := 7) (C := RX9) (T := TX9) (N := 23) hx hb hts iX9 hown hKK.1 hP 0 rfl rfl 0 (by decide) f7 (fun _ h9 => h9) rfl dX9_odds_109 ?_
          refine lv_sipush (v := nI 196) hx hb dX9_odds_112 (by decide +kernel) ?_
          refine lv_iconst (v := nI 2) hx hb dX9_odds_115 (by decide) ?_
          refine lv_iload_n hx hb dX9_odds_116 rfl (lv_at hl 5 rfl) ?_
          refine nv_imul hx hb dX9_odds_117 ?_
          refine nv_iadd hx hb dX9_odds_118 ?_
          refine lv_iconst (v := nI 1) hx hb dX9_odds_119 (by decide) ?_
          refine nv_iadd hx hb dX9_odds_120 ?_
          refine nv_iald (i := (196 + (2 * ken)) + 1) hx hb hKK.1 hP 1 0 rfl rfl (by omega) (by decide) dX9_odds_121 ?_
          have b_20 := hbB ((196 + (2 * ken)) + 1)
          refine lv_i2l hx hb dX9_odds_122 rfl ?_
          refine lv_lstore (lv' := [(6, .long ((nI (B ((196 + (2 * ken)) + 1))).toInt64)), (4, .long ((nI al).toInt64)), (3, .int (nI (abS B tkn))), (0, .ref (b 0)), (1, .int (nI tkn)), (2, .int (nI ken))]) hx hb dX9_odds_123 hl (by decide) rfl (fun ls hl => ?_)
          refine lv_lload hx hb dX9_odds_125 (lv_at hl 0 rfl) ?_
          refine lv_lload hx hb dX9_odds_127 (lv_at hl 1 rfl) ?_
          refine roL hP hD hS hA [] rfl (runS (As := [.long ((nI (B ((196 + (2 * ken)) + 1))).toInt64), .long ((nI al).toInt64)]) (rest := []) (isC := []) ⟨hx, hb, hml, hown, hts⟩ hKK hP hD rfl (by decide) (c_X9_divisor l G tA (B ((196 + (2 * ken)) + 1)) al (by first | assumption | omega) (by first | assumption | omega) _) (va_cwS 2 hts gX9_odds_X9_divisor rfl rfl rfl (by decide +kernel) ⟨Nat.le_of_ble_eq_true rfl, Nat.le_of_ble_eq_true rfl⟩) rfl rfl hl.1 rfl (lv_room (Nat.le_of_ble_eq_true rfl)) dX9_odds_129 ⟨Nat.le_of_ble_eq_true rfl, Nat.le_of_ble_eq_true rfl⟩) (fun _ => rfl) (fun r_21 u_22 H locs q_23 hP hS => ?_)
          subst q_23
          refine nv_topl (y := (nI (Nat.gcd (B (196 + 2 * ken + 1)) al)).toInt64) rfl ?_
          refine lv_lstore (lv' := [(8, .long ((nI (Nat.gcd (B (196 + 2 * ken + 1)) al)).toInt64)), (6, .long ((nI (B ((196 + (2 * ken)) + 1))).toInt64)), (4, .long ((nI al).toInt64)), (3, .int (nI (abS B tkn))), (0, .ref (b 0)), (1, .int (nI tkn)), (2, .int (nI ken))]) hx hb dX9_odds_132 hl (by decide) rfl (fun ls hl => ?_)
          refine lv_aload_n hx hb dX9_odds_134 rfl (lv_at hl 4 rfl) ?_
          refine lv_lload hx hb dX9_odds_135 (lv_at hl 1 rfl) ?_
          refine lv_lload hx hb dX9_odds_137 (lv_at hl 0 rfl) ?_
          refine lv_ldiv hx hb dX9_odds_139 (neL hby (by omega)) ?_
          refine nv_topl (y := (nI (B (196 + 2 * ken + 1) / Nat.gcd (B (196 + 2 * ken + 1)) al)).toInt64) (divL (by omega) hby (by omega)) ?_
          refine nv_put (D := G) (ci := 7) (v := .long ((nI (B (196 + 2 * ken + 1) / Nat.gcd (B (196 + 2 * ken + 1)) al)).toInt64)) (ty := (tyX9 6)) (C := RX9) (T := TX9) (N := 23) hx hb hts iX9 tyX9 tyX9_ok nmX9 hown hKK.1 hP hD hS 0 rfl rfl 6 (by decide) f223 (fun _ h9 => h9) rfl (by decide +kernel) rfl rfl (Nat.le_of_ble_eq_true rfl) dX9_odds_140 [(b 0, .inr (7, [.ref (b 1), .ref (b 2), .ref (b 3), .ref (b 4), .ref (b 5), .int (nI qu), .long ((nI (B (196 + 2 * ken + 1) / Nat.gcd (B (196 + 2 * ken + 1)) al)).toInt64), .long bl, .ref (b 6), .int (nI tyd), .int (nI at0), .int (nI sta), .int (nI tok), .int (nI val), .ref (b 7), .int (nI man), .ref (b 8), .ref (b 9), .ref (b 10), .ref (b 11), .ref (b 12), .ref (b 13), .ref (b 14)])), (b 1, .inl (tA 0, 212, .inl (nF B))), (b 5, .inl (tA 0, 3, .inl rf))] rfl (fun H locs hP hD hS => ?_)
          refine lv_aload_n hx hb dX9_odds_143 rfl (lv_at hl 4 rfl) ?_
          refine lv_lload hx hb dX9_odds_144 (lv_at hl 2 rfl) ?_
          refine lv_lload hx hb dX9_odds_146 (lv_at hl 0 rfl) ?_
          refine lv_ldiv hx hb dX9_odds_148 (neL hby (by omega)) ?_
          refine nv_topl (y := (nI (al / Nat.gcd (B (196 + 2 * ken + 1)) al)).toInt64) (divL (by omega) hby (by omega)) ?_
          refine nv_put (D := G) (ci := 7) (v := .long ((nI (al / Nat.gcd (B (196 + 2 * ken + 1)) al)).toInt64)) (ty := (tyX9 7)) (C := RX9) (T := TX9) (N := 23) hx hb hts iX9 tyX9 tyX9_ok nmX9 hown hKK.1 hP hD hS 0 rfl rfl 7 (by decide) f53 (fun _ h9 => h9) rfl (by decide +kernel) rfl rfl (Nat.le_of_ble_eq_true rfl) dX9_odds_149 [(b 0, .inr (7, [.ref (b 1), .ref (b 2), .ref (b 3), .ref (b 4), .ref (b 5), .int (nI qu), .long ((nI (B (196 + 2 * ken + 1) / Nat.gcd (B (196 + 2 * ken + 1)) al)).toInt64), .long ((nI (al / Nat.gcd (B (196 + 2 * ken + 1)) al)).toInt64), .ref (b 6), .int (nI tyd), .int (nI at0), .int (nI sta), .int (nI tok), .int (nI val), .ref (b 7), .int (nI man), .ref (b 8), .ref (b 9), .ref (b 10), .ref (b 11), .ref (b 12), .ref (b 13), .ref (b 14)])), (b 1, .inl (tA 0, 212, .inl (nF B))), (b 5, .inl (tA 0, 3, .inl rf))] rfl (fun H locs hP hD hS => ?_)
          refine lv_iconst (v := nI 1) hx hb dX9_odds_152 (by decide) ?_
          exact retI hx hb hr hlocks hS hP hD () (by simp only [if_pos hok, z_tkn, z_ken, if_neg (show ¬ abS B tkn / 2 ^ ken % 2 = 0 from by omega), upS, byS, ← hal]) (by rw [if_pos hok, z_tkn, z_ken, if_neg (by omega)]) dX9_odds_153
        · refine lv_lload hx hb dX9_odds_67 (lv_at hl 1 rfl) ?_
          refine lv_iload_n hx hb dX9_odds_69 rfl (lv_at hl 2 rfl) ?_
          refine lv_iload hx hb dX9_odds_70 (lv_at hl 0 rfl) ?_
          refine nv_ishr (by omega) (by omega) hx hb dX9_odds_72 ?_
          refine lv_iconst (v := nI 1) hx hb dX9_odds_73 (by decide) ?_
          refine nv_iand1 hx hb dX9_odds_74 ?_
          refine lv_iconst (v := nI 1) hx hb dX9_odds_75 (by decide) ?_
          refine nv_icmp_ne (tgt := 98) (by omega) (by omega) hx hb dX9_odds_76 (by decide) (fun c_24 => ?_) (fun c_24 => ?_)
          · refine lv_lconst (v := (nI 0).toInt64) hx hb dX9_odds_98 (by decide +kernel) ?_
            refine lv_ladd hx hb dX9_odds_99 ?_
            refine nv_topl (y := (nI (al + 0)).toInt64) (addL (by omega) (by omega)) ?_
            refine lv_lstore (lv' := [(4, .long ((nI (al + 0)).toInt64)), (6, .int (nI j)), (3, .int (nI (abS B tkn))), (0, .ref (b 0)), (1, .int (nI tkn)), (2, .int (nI ken))]) hx hb dX9_odds_100 hl (by decide) rfl (fun ls hl => ?_)
            refine lv_iinc (v := (nI (j + 1))) (lv' := [(6, .int (nI (j + 1))), (4, .long ((nI (al + 0)).toInt64)), (3, .int (nI (abS B tkn))), (0, .ref (b 0)), (1, .int (nI tkn)), (2, .int (nI ken))]) hx hb dX9_odds_102 hl (k := 1) rfl (nI_add j 1) (by decide) rfl (fun ls hl => ?_)
            refine lv_goto (tgt := 56) hx hb dX9_odds_105 (by decide) ?_
            exact ih_17 (j + 1, (al + 0)) (show B 5 - (j + 1) < B 5 - j from by omega) ⟨(show (j + 1) ≤ B 5 from by omega), (show (al + 0) = allU B (abS B tkn) (j + 1) from by rw [allU_s, ← hal]; first | rw [if_pos (by assumption)] | rw [if_neg (by assumption)]), (show (al + 0) ≤ 9 * (j + 1) from by omega)⟩ _ _ _ (lv_sub hl [0, 1, 2, 3, 4, 5] rfl) hP hD hS
          · have hvj := hv5 j (by omega)
            refine lv_aload_n hx hb dX9_odds_79 rfl (lv_at hl 3 rfl) ?_
            refine va_get (D := G) (ci := 7) (C := RX9) (T := TX9) (N := 23) hx hb hts iX9 hown hKK.1 hP 0 rfl rfl 0 (by decide) f7 (fun _ h9 => h9) rfl dX9_odds_80 ?_
            refine lv_sipush (v := nI 196) hx hb dX9_odds_83 (by decide +kernel) ?_
            refine lv_iconst (v := nI 2) hx hb dX9_odds_86 (by decide) ?_
            refine lv_iload hx hb dX9_odds_87 (lv_at hl 0 rfl) ?_
            refine nv_imul hx hb dX9_odds_89 ?_
            refine nv_iadd hx hb dX9_odds_90 ?_
            refine lv_iconst (v := nI 1) hx hb dX9_odds_91 (by decide) ?_
            refine nv_iadd hx hb dX9_odds_92 ?_
            refine nv_iald (i := (196 + (2 * j)) + 1) hx hb hKK.1 hP 1 0 rfl rfl (by omega) (by decide) dX9_odds_93 ?_
            have b_25 := hbB ((196 + (2 * j)) + 1)
            refine lv_i2l hx hb dX9_odds_94 rfl ?_
            refine lv_goto (tgt := 99) hx hb dX9_odds_95 (by decide) ?_
            refine lv_ladd hx hb dX9_odds_99 ?_
            refine nv_topl (y := (nI (al + (B ((196 + (2 * j)) + 1)))).toInt64) (addL (by omega) (by omega)) ?_
            refine lv_lstore (lv' := [(4, .long ((nI (al + (B ((196 + (2 * j)) + 1)))).toInt64)), (6, .int (nI j)), (3, .int (nI (abS B tkn))), (0, .ref (b 0)), (1, .int (nI tkn)), (2, .int (nI ken))]) hx hb dX9_odds_100 hl (by decide) rfl (fun ls hl => ?_)
            refine lv_iinc (v := (nI (j + 1))) (lv' := [(6, .int (nI (j + 1))), (4, .long ((nI (al + (B ((196 + (2 * j)) + 1)))).toInt64)), (3, .int (nI (abS B tkn))), (0, .ref (b 0)), (1, .int (nI tkn)), (2, .int (nI ken))]) hx hb dX9_odds_102 hl (k := 1) rfl (nI_add j 1) (by decide) rfl (fun ls hl => ?_)
            refine lv_goto (tgt := 56) hx hb dX9_odds_105 (by decide) ?_
            exact ih_17 (j + 1, (al + (B ((196 + (2 * j)) + 1)))) (show B 5 - (j + 1) < B 5 - j from by omega) ⟨(show (j + 1) ≤ B 5 from by omega), (show (al + (B ((196 + (2 * j)) + 1))) = allU B (abS B tkn) (j + 1) from by rw [allU_s, ← hal]; first | rw [if_pos (by assumption)] | rw [if_neg (by assumption)]), (show (al + (B ((196 + (2 * j)) + 1))) ≤ 9 * (j + 1) from by omega)⟩ _ _ _ (lv_sub hl [0, 1, 2, 3, 4, 5] rfl) hP hD hS
      · refine lv_aload_n hx hb dX9_odds_45 rfl (lv_at hl 1 rfl) ?_
        refine rwI hP hD hS hA [0, 2] rfl (runV (As := []) (rest := []) (isC := [0, 2]) ⟨hx, hb, hml, hown, hts⟩ hKK hP hD rfl (by decide) (c_X9_no l G tA b qu ab bl tyd at0 sta tok val man rf (hqu) _) (cwV 0 hts gX9_odds_X9_no rfl rfl rfl (by decide +kernel) ⟨Nat.le_of_ble_eq_true rfl, Nat.le_of_ble_eq_true rfl⟩) rfl rfl rfl rfl hl.1 rfl (lv_room (Nat.le_of_ble_eq_true rfl)) dX9_odds_46 ⟨Nat.le_of_ble_eq_true rfl, Nat.le_of_ble_eq_true rfl⟩) (fun (_ : Unit) => [(b 0, .inr (7, [.ref (b 1), .ref (b 2), .ref (b 3), .ref (b 4), .ref (b 5), .int (nI qu), .long ab, .long bl, .ref (b 6), .int (nI tyd), .int (nI at0), .int (nI sta), .int (nI tok), .int (nI val), .ref (b 7), .int (nI man), .ref (b 8), .ref (b 9), .ref (b 10), .ref (b 11), .ref (b 12), .ref (b 13), .ref (b 14)])), (b 1, .inl (tA 0, 212, .inl (nF B))), (b 5, .inl (tA 0, 3, .inl (bump qu rf 1)))]) (fun _ => rfl) (fun _ => rfl) (fun _ => rfl) (fun r_26 u_27 H locs q_28 hP hD hS => ?_)
        subst q_28
        exact retI hx hb hr hlocks hS hP hD () (by simp only [if_pos hok, z_tkn, z_ken, if_pos (show abS B tkn / 2 ^ ken % 2 = 0 from by omega)]) (by rw [if_pos hok, z_tkn, z_ken, if_pos (by omega)]) dX9_odds_49
    · have p_10 : ¬ ((0 : Int) ≤ KE ∧ KE ≤ (((B 5 : Nat) : Int) - ((1 : Nat) : Int))) := p_10
      refine nv_if_ne (tgt := 31) (by omega) hx hb dX9_odds_23 (by decide) (fun h => absurd h (by omega)) (fun _ => ?_)
      refine lv_aload_n hx hb dX9_odds_26 rfl (lv_at hl 0 rfl) ?_
      refine rwI hP hD hS hA [0, 2] rfl (runV (As := []) (rest := []) (isC := [0, 2]) ⟨hx, hb, hml, hown, hts⟩ hKK hP hD rfl (by decide) (c_X9_bad l G tA b qu ab bl tyd at0 sta tok val man rf (hqu) _) (cwV 0 hts gX9_odds_X9_bad rfl rfl rfl (by decide +kernel) ⟨Nat.le_of_ble_eq_true rfl, Nat.le_of_ble_eq_true rfl⟩) rfl rfl rfl rfl hl.1 rfl (lv_room (Nat.le_of_ble_eq_true rfl)) dX9_odds_27 ⟨Nat.le_of_ble_eq_true rfl, Nat.le_of_ble_eq_true rfl⟩) (fun (_ : Unit) => [(b 0, .inr (7, [.ref (b 1), .ref (b 2), .ref (b 3), .ref (b 4), .ref (b 5), .int (nI qu), .long ab, .long bl, .ref (b 6), .int (nI tyd), .int (nI at0), .int (nI sta), .int (nI tok), .int (nI val), .ref (b 7), .int (nI man), .ref (b 8), .ref (b 9), .ref (b 10), .ref (b 11), .ref (b 12), .ref (b 13), .ref (b 14)])), (b 1, .inl (tA 0, 212, .inl (nF B))), (b 5, .inl (tA 0, 3, .inl (bump qu rf 0)))]) (fun _ => rfl) (fun _ => rfl) (fun _ => rfl) (fun r_30 u_31 H locs q_32 hP hD hS => ?_)
      subst q_32
      exact retI hx hb hr hlocks hS hP hD () (by simp only [if_neg (show ¬ ((0 ≤ TK ∧ TK < ((2 ^ B 0 : Nat) : Int)) ∧ 0 ≤ KE ∧ KE < ((B 5 : Nat) : Int)) from by omega)]) (by rw [if_neg (by omega)]) dX9_odds_30
  · have p_4 : ¬ (0 ≤ TK ∧ TK < ((2 ^ B 0 : Nat) : Int)) := p_4
    refine nv_if_eq (tgt := 26) (by omega) hx hb dX9_odds_5 (by decide) (fun _ => ?_) (fun h => absurd h (by omega))
    refine lv_aload_n hx hb dX9_odds_26 rfl (lv_at hl 0 rfl) ?_
    refine rwI hP hD hS hA [0, 2] rfl (runV (As := []) (rest := []) (isC := [0, 2]) ⟨hx, hb, hml, hown, hts⟩ hKK hP hD rfl (by decide) (c_X9_bad l G tA b qu ab bl tyd at0 sta tok val man rf (hqu) _) (cwV 0 hts gX9_odds_X9_bad rfl rfl rfl (by decide +kernel) ⟨Nat.le_of_ble_eq_true rfl, Nat.le_of_ble_eq_true rfl⟩) rfl rfl rfl rfl hl.1 rfl (lv_room (Nat.le_of_ble_eq_true rfl)) dX9_odds_27 ⟨Nat.le_of_ble_eq_true rfl, Nat.le_of_ble_eq_true rfl⟩) (fun (_ : Unit) => [(b 0, .inr (7, [.ref (b 1), .ref (b 2), .ref (b 3), .ref (b 4), .ref (b 5), .int (nI qu), .long ab, .long bl, .ref (b 6), .int (nI tyd), .int (nI at0), .int (nI sta), .int (nI tok), .int (nI val), .ref (b 7), .int (nI man), .ref (b 8), .ref (b 9), .ref (b 10), .ref (b 11), .ref (b 12), .ref (b 13), .ref (b 14)])), (b 1, .inl (tA 0, 212, .inl (nF B))), (b 5, .inl (tA 0, 3, .inl (bump qu rf 0)))]) (fun _ => rfl) (fun _ => rfl) (fun _ => rfl) (fun r_34 u_35 H locs q_36 hP hD hS => ?_)
    subst q_36
    exact retI hx hb hr hlocks hS hP hD () (by simp only [if_neg (show ¬ ((0 ≤ TK ∧ TK < ((2 ^ B 0 : Nat) : Int)) ∧ 0 ≤ KE ∧ KE < ((B 5 : Nat) : Int)) from by omega)]) (by rw [if_neg (by omega)]) dX9_odds_30
