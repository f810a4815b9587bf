/-! the class: round about and dumb -/
def sumW (F c3 : Nat → Nat) (q : Nat) : Nat := if 0 < F (c3 (q * 4 + 1)) ∧ 0 < F (c3 (q * 4 + 2)) then F (c3 (q * 4 + 1)) + F (c3 (q * 4 + 2)) else 0
def stW (c3 : Nat → Nat) (q : Nat) (x : (Nat → Nat) × Nat) : (Nat → Nat) × Nat := if 0 < sumW x.1 c3 q ∧ (x.1 (c3 (q * 4 + 0)) = 0 ∨ sumW x.1 c3 q < x.1 (c3 (q * 4 + 0))) then (updN x.1 (c3 (q * 4 + 0)) (sumW x.1 c3 q), 1) else x
def rdW (c3 : Nat → Nat) (n : Nat) (x : (Nat → Nat) × Nat) : (Nat → Nat) × Nat := it (fun q x => stW c3 q x) n x
theorem rdW_s (c3 : Nat → Nat) (n : Nat) (x : (Nat → Nat) × Nat) : rdW c3 (n + 1) x = stW c3 n (rdW c3 n x) := rfl
theorem rdW_1 {c3 F2 : Nat → Nat} {n ch : Nat} {x : (Nat → Nat) × Nat} (e : (F2, ch) = rdW c3 n x) (h : 0 < sumW F2 c3 n ∧ (F2 (c3 (n * 4 + 0)) = 0 ∨ sumW F2 c3 n < F2 (c3 (n * 4 + 0)))) : (updN F2 (c3 (n * 4 + 0)) (sumW F2 c3 n), 1) = rdW c3 (n + 1) x := by
  rw [rdW_s, ← e]; exact (if_pos h).symm
theorem rdW_2 {c3 F2 : Nat → Nat} {n ch : Nat} {x : (Nat → Nat) × Nat} (e : (F2, ch) = rdW c3 n x) (h : ¬ (0 < sumW F2 c3 n ∧ (F2 (c3 (n * 4 + 0)) = 0 ∨ sumW F2 c3 n < F2 (c3 (n * 4 + 0))))) : (F2, ch) = rdW c3 (n + 1) x := by
  rw [rdW_s, ← e]; exact (if_neg h).symm
def runW (n3 : Nat) (c3 : Nat → Nat) : Nat → (Nat → Nat) → Nat → (Nat → Nat)
  | 0, F, _ => F
  | k + 1, F, ch => if ch = 0 then F else runW n3 c3 k (rdW c3 n3 (F, 0)).1 (rdW c3 n3 (F, 0)).2
theorem runW_s {n3 : Nat} {c3 F F2 : Nat → Nat} {k ch c2 : Nat} (h : ¬ ch = 0) (e : (F2, c2) = rdW c3 n3 (F, 0)) : runW n3 c3 (k + 1) F ch = runW n3 c3 k F2 c2 := by
  show (if ch = 0 then F else _) = _
  rw [if_neg h, ← e]
theorem runW_e {n3 : Nat} {c3 F : Nat → Nat} {k ch : Nat} (h : ch = 0) : runW n3 c3 k F ch = F := by cases k with
  | zero => rfl
  | succ k => exact if_pos h
def initW (F : Nat → Nat) (x n : Nat) : Nat → Nat := it (fun t F => updN F t (if t < 32 ∧ x / 2 ^ t % 2 = 1 then 1 else 0)) n F
theorem initW_s (F : Nat → Nat) (x n : Nat) : initW F x (n + 1) = updN (initW F x n) n (if n < 32 ∧ x / 2 ^ n % 2 = 1 then 1 else 0) := rfl
def weighS (n3 : Nat) (c3 F : Nat → Nat) (x : Nat) : Nat → Nat := runW n3 c3 8 (initW F x 8) 1
/-- how many of the eight are not 0 -/
def nzc (F : Nat → Nat) : Nat := cntN (fun t => decide (¬ F t = 0)) 8
theorem cntN_one {p q : Nat → Bool} {t : Nat} (h : ∀ j, j ≠ t → p j = q j) (hp : p t = false) (hq : q t = true) : ∀ n, t < n → cntN q n = cntN p n + 1 := by
  intro n
  induction n with
  | zero => intro h; omega
  | succ n ih =>
    intro hn
    rw [cntN_s, cntN_s]
    rcases Nat.lt_succ_iff_lt_or_eq.mp hn with e | e
    · rw [ih e, h n (by omega)]; omega
    · subst e
      rw [hp, hq, cntN_congr (p := q) (q := p) t (fun j hj => (h j (by omega)).symm)]
      simp
def okF (F : Nat → Nat) : Prop := (∀ t, t < 8 → F t ≤ 2 ^ nzc F) ∧ ∀ j, F j < 1048576
theorem nzc_le (F : Nat → Nat) : nzc F ≤ 8 := cntN_le _ _
theorem okF_256 {F : Nat → Nat} (h : okF F) {t : Nat} (ht : t < 8) : F t ≤ 256 := Nat.le_trans (h.1 t ht) (Nat.pow_le_pow_right (n := 2) (by omega) (nzc_le F))
theorem nzc_new {F : Nat → Nat} {t v : Nat} (ht : t < 8) (h0 : F t = 0) (hv : 0 < v) : nzc (updN F t v) = nzc F + 1 := by
  refine cntN_one (t := t) (fun j hj => ?_) ?_ ?_ 8 ht
  · rw [updN_n _ _ hj]
  · simp [h0]
  · rw [updN_s]; exact decide_eq_true (by omega)
theorem nzc_old {F : Nat → Nat} {t v : Nat} (h0 : ¬ F t = 0) (hv : 0 < v) : nzc (updN F t v) = nzc F := by
  refine cntN_congr 8 (fun j _ => ?_)
  by_cases e : j = t
  · subst e; rw [updN_s]; rw [decide_eq_true (show ¬ v = 0 by omega), decide_eq_true h0]
  · rw [updN_n _ _ e]
theorem sumW_le {F c3 : Nat → Nat} {q : Nat} (h : okF F) (hu : c3 (q * 4 + 1) < 8) (hv : c3 (q * 4 + 2) < 8) : sumW F c3 q ≤ 2 * 2 ^ nzc F ∧ sumW F c3 q ≤ 512 := by
  have h1 := h.1 _ hu
  have h2 := h.1 _ hv
  have h3 := okF_256 h hu
  have h4 := okF_256 h hv
  unfold sumW
  split <;> omega
theorem okF_step {F c3 : Nat → Nat} {q : Nat} (h : okF F) (ht : c3 (q * 4 + 0) < 8) (hu : c3 (q * 4 + 1) < 8) (hv : c3 (q * 4 + 2) < 8) (hs : 0 < sumW F c3 q ∧ (F (c3 (q * 4 + 0)) = 0 ∨ sumW F c3 q < F (c3 (q * 4 + 0)))) : okF (updN F (c3 (q * 4 + 0)) (sumW F c3 q)) := by
  have hl := sumW_le h hu hv
  refine ⟨?_, updN_lt h.2 _ (by omega)⟩
  rcases hs.2 with h0 | h0
  · rw [nzc_new ht h0 hs.1, Nat.pow_succ]
    intro t h8
    by_cases e : t = c3 (q * 4 + 0)
    · rw [e, updN_s]; omega
    · rw [updN_n _ _ e]; have := h.1 t h8; omega
  · rw [nzc_old (by omega) hs.1]
    intro t h8
    by_cases e : t = c3 (q * 4 + 0)
    · rw [e, updN_s]; have := h.1 _ ht; omega
    · rw [updN_n _ _ e]; exact h.1 t h8
theorem okF_init {F : Nat → Nat} (hF : ∀ j, F j < 1048576) (x : Nat) : okF (initW F x 8) := by
  have key : ∀ n, (∀ t, t < n → initW F x n t ≤ 1) ∧ ∀ j, initW F x n j < 1048576 := by
    intro n
    induction n with
    | zero => exact ⟨fun t h => by omega, hF⟩
    | succ n ih =>
      rw [initW_s]
      refine ⟨fun t h => ?_, updN_lt ih.2 _ (by split <;> omega)⟩
      by_cases e : t = n
      · rw [e, updN_s]; split <;> omega
      · rw [updN_n _ _ e]; exact ih.1 t (by omega)
  exact ⟨fun t h => Nat.le_trans ((key 8).1 t h) (Nat.two_pow_pos _), (key 8).2⟩
/-- the first below n of a kind; n if there is none -/
def ffN (p : Nat → Bool) : Nat → Nat → Nat
  | 0, k => k
  | n + 1, k => if p k = true then k else ffN p n (k + 1)
theorem ffN_at {p : Nat → Bool} : ∀ (n k j : Nat), k ≤ j → j < k + n → p j = true → k ≤ ffN p n k ∧ ffN p n k ≤ j ∧ p (ffN p n k) = true ∧ ∀ i, k ≤ i → i < ffN p n k → p i = false := by
  intro n
  induction n with
  | zero => intro k j h1 h2; omega
  | succ n ih =>
    intro k j h1 h2 hp
    unfold ffN
    by_cases hk : p k = true
    · rw [if_pos hk]; exact ⟨Nat.le_refl _, h1, hk, fun i a b => by omega⟩
    · rw [if_neg hk]
      have hj : k + 1 ≤ j := by
        rcases Nat.lt_or_ge k j with q | q
        · exact q
        · have : k = j := by omega
          subst this; exact absurd hp hk
      obtain ⟨a1, a2, a3, a4⟩ := ih (k + 1) j hj (by omega) hp
      refine ⟨by omega, a2, a3, fun i b1 b2 => ?_⟩
      rcases Nat.lt_or_ge k i with q | q
      · exact a4 i q b2
      · have : i = k := by omega
        subst this; exact Bool.eq_false_iff.mpr hk
theorem firstI_ff {p : Nat → Bool} {n j : Nat} (h : j < n) (hp : p j = true) : firstI p n 0 = nI (ffN p n 0) := by
  obtain ⟨a1, a2, a3, a4⟩ := ffN_at n 0 j (Nat.zero_le _) (by omega) hp
  exact firstI_at n 0 _ (Nat.zero_le _) (by omega) a3 a4
def rulB (F c3 : Nat → Nat) (t : Nat) : Nat → Bool := fun q => decide (c3 (q * 4 + 0) = t ∧ sumW F c3 q = F t)
def leafW (n3 : Nat) (c3 F : Nat → Nat) : Nat → Nat → Nat → Nat
  | 0, t, _ => t
  | k + 1, t, i => if 1 < F t then (if i < F (c3 (ffN (rulB F c3 t) n3 0 * 4 + 1)) then leafW n3 c3 F k (c3 (ffN (rulB F c3 t) n3 0 * 4 + 1)) i else leafW n3 c3 F k (c3 (ffN (rulB F c3 t) n3 0 * 4 + 2)) (i - F (c3 (ffN (rulB F c3 t) n3 0 * 4 + 1)))) else t
theorem leafW_1 {n3 k t i q : Nat} {c3 F : Nat → Nat} (h : 1 < F t) (e : q = ffN (rulB F c3 t) n3 0) (hi : i < F (c3 (q * 4 + 1))) : leafW n3 c3 F (k + 1) t i = leafW n3 c3 F k (c3 (q * 4 + 1)) i := by
  subst e; show (if _ then _ else _) = _; rw [if_pos h, if_pos hi]
theorem leafW_2 {n3 k t i q : Nat} {c3 F : Nat → Nat} (h : 1 < F t) (e : q = ffN (rulB F c3 t) n3 0) (hi : ¬ i < F (c3 (q * 4 + 1))) : leafW n3 c3 F (k + 1) t i = leafW n3 c3 F k (c3 (q * 4 + 2)) (i - F (c3 (q * 4 + 1))) := by
  subst e; show (if _ then _ else _) = _; rw [if_pos h, if_neg hi]
theorem leafW_e {n3 k t i : Nat} {c3 F : Nat → Nat} (h : ¬ 1 < F t) : leafW n3 c3 F k t i = t := by cases k with
  | zero => rfl
  | succ k => exact if_neg h
def fixW (n0 n3 : Nat) (c3 F : Nat → Nat) : Prop := ∀ t, t < n0 → 1 < F t → ∃ q, q < n3 ∧ c3 (q * 4 + 0) = t ∧ sumW F c3 q = F t
def sgo (sy nd : Nat → Nat) (n x : Nat) : Nat := it (fun q x => if andn (nd q) x = 0 then x ||| sy q else x) n x
theorem sgo_s (sy nd : Nat → Nat) (n x : Nat) : sgo sy nd (n + 1) x = if andn (nd n) (sgo sy nd n x) = 0 then sgo sy nd n x ||| sy n else sgo sy nd n x := rfl
theorem sgo_lt {sy nd : Nat → Nat} (h : ∀ q, q < 8 → sy q < 256) {x : Nat} (hx : x < 256) : ∀ n, n ≤ 8 → sgo sy nd n x < 256 := by
  intro n
  induction n with
  | zero => intro _; exact hx
  | succ n ih =>
    intro hn
    rw [sgo_s]
    split
    · exact Nat.or_lt_two_pow (n := 8) (ih (by omega)) (h n (by omega))
    · exact ih (by omega)
def rnS (sy nd : Nat → Nat) (n : Nat) : Nat → Nat → Nat → Nat
  | 0, g, _ => g
  | k + 1, g, bf => if g + 1 = bf then g else rnS sy nd n k (sgo sy nd n g) (g + 1)
theorem rnS_s (sy nd : Nat → Nat) (n k g bf : Nat) (h : ¬ g + 1 = bf) : rnS sy nd n (k + 1) g bf = rnS sy nd n k (sgo sy nd n g) (g + 1) := if_neg h
theorem rnS_e (sy nd : Nat → Nat) (n k g bf : Nat) (h : g + 1 = bf) : rnS sy nd n k g bf = g := by cases k with
  | zero => rfl
  | succ k => exact if_pos h
theorem rnS_lt {sy nd : Nat → Nat} {n : Nat} (h : ∀ q, q < 8 → sy q < 256) (hn : n ≤ 8) : ∀ k g bf, g < 256 → rnS sy nd n k g bf < 256 := by
  intro k
  induction k with
  | zero => intro g bf hg; exact hg
  | succ k ih =>
    intro g bf hg
    by_cases e : g + 1 = bf
    · rw [rnS_e _ _ _ _ _ _ e]; exact hg
    · rw [rnS_s _ _ _ _ _ _ e]; exact ih _ _ (sgo_lt h hg n hn)
def syC (c3 : Nat → Nat) : Nat → Nat := fun q => 2 ^ c3 (q * 4 + 0)
def ndC (c3 : Nat → Nat) : Nat → Nat := fun q => 2 ^ c3 (q * 4 + 1) ||| 2 ^ c3 (q * 4 + 2)
def dumbC (n5 : Nat) (c5 : Nat → Nat) (m9 sa : Nat) : Prop := ∀ k, k < n5 → ¬ ((k < 32 ∧ m9 / 2 ^ k % 2 = 1) ∧ andn (c5 (k * 4 + 0)) sa = 0)
def cpTo (Y : Nat → Nat) (o : Nat) (X : Nat → Nat) (n : Nat) : Nat → Nat := fun j => if o ≤ j ∧ j < o + n then X (j - o) else Y j
theorem cpTo_0 (Y : Nat → Nat) (o : Nat) (X : Nat → Nat) : cpTo Y o X 0 = Y := by funext j; unfold cpTo; rw [if_neg (by omega)]
theorem cpTo_s (Y : Nat → Nat) (o : Nat) (X : Nat → Nat) (n : Nat) : cpTo Y o X (n + 1) = updN (cpTo Y o X n) (o + n) (X n) := by
  funext j
  simp only [cpTo, updN]
  by_cases h : j = o + n
  · subst h; rw [if_pos (by omega), if_pos rfl, Nat.add_sub_cancel_left]
  · rw [if_neg h]
    by_cases h2 : o ≤ j ∧ j < o + n
    · rw [if_pos h2, if_pos (by omega)]
    · rw [if_neg h2, if_neg (by omega)]

set_option maxHeartbeats 4000000 in
set_option maxRecDepth 100000 in
theorem c_X6_isTerm (l : Launch) (G : va_G) (tA : Nat → ClassId) (t : Nat) (ht : t < 1048576) : CtI l yX6_isTerm wsX6_isTerm ({ frames := 0, cells := 0, slots := 0, locals := 0 }) G tA [.int (nI t)] ([]) (fun (r : Int32) (_ : Unit) => ((r = nI 1 ∧ (t < 8)) ∨ (r = nI 0 ∧ ¬ (t < 8)))) (fun (_ : Unit) => []) 0 0 := by
  refine enterI (cc := cX6_isTerm) (maxL := 1) (ret := (some .boolean)) (by decide) rfl (Nat.le_of_ble_eq_true rfl) ?_
  intro p0 e0 s m args below meth c0_ A ls hx hb hml hr hts hown hlocks hin hKK hA hP hD hl hS
  have hown : s.vm.findClass RX6 = some m.cls := hown
  have hl : lv_has ls 1 [(0, .int (nI t))] := hl
  refine lv_iload_n hx hb dX6_isTerm_0 rfl (lv_at hl 0 rfl) ?_
  refine nv_if_lt (tgt := 14) (by omega) hx hb dX6_isTerm_1 (by decide) ?_
  refine lv_iload_n hx hb dX6_isTerm_4 rfl (lv_at hl 0 rfl) ?_
  refine lv_bipush (v := nI 8) hx hb dX6_isTerm_5 (by decide +kernel) ?_
  refine nv_icmp_ge (tgt := 14) (by omega) (by omega) hx hb dX6_isTerm_7 (by decide) (fun c_2 => ?_) (fun c_2 => ?_)
  · refine lv_iconst (v := nI 0) hx hb dX6_isTerm_14 (by decide) ?_
    exact retZ (ty := .boolean) hx hb hr rfl hlocks hS hP hD () (rfl) (Or.inr ⟨rfl, by omega⟩) dX6_isTerm_15
  · refine lv_iconst (v := nI 1) hx hb dX6_isTerm_10 (by decide) ?_
    refine lv_goto (tgt := 15) hx hb dX6_isTerm_11 (by decide) ?_
    exact retZ (ty := .boolean) hx hb hr rfl hlocks hS hP hD () (rfl) (Or.inl ⟨rfl, by omega⟩) dX6_isTerm_15

set_option maxHeartbeats 4000000 in
set_option maxRecDepth 100000 in
theorem c_X6_fewest (l : Launch) (G : va_G) (tA : Nat → ClassId) (d : Nat → Nat) (F : Nat → Nat) (sy : Nat → Nat) (nd : Nat → Nat) (ru : Nat) (t : Nat) (ht : t < 1048576) : CtI l yX6_fewest wsX6_fewest ({ frames := 1, cells := 0, slots := 0, locals := 20 }) G tA [.ref (d 0), .int (nI t)] ([(d 0, .inr (4, [.ref (d 1), .ref (d 2), .ref (d 3), .int (nI ru)])), (d 1, .inl (tA 0, 8, .inl (nF F))), (d 2, .inl (tA 0, 8, .inl (nF sy))), (d 3, .inl (tA 0, 8, .inl (nF nd)))]) (fun (r : Int32) (_ : Unit) => r = nI (if t < 8 then F t else 0)) (fun (_ : Unit) => [(d 0, .inr (4, [.ref (d 1), .ref (d 2), .ref (d 3), .int (nI ru)])), (d 1, .inl (tA 0, 8, .inl (nF F))), (d 2, .inl (tA 0, 8, .inl (nF sy))), (d 3, .inl (tA 0, 8, .inl (nF nd)))]) 0 0 := by
  refine enterI (cc := cX6_fewest) (maxL := 2) (ret := (some .int)) (by decide) rfl (Nat.le_of_ble_eq_true rfl) ?_
  intro p0 e0 s m args below meth c0_ A ls hx hb hml hr hts hown hlocks hin hKK hA hP hD hl hS
  have hown : s.vm.findClass RX6 = some m.cls := hown
  have hl : lv_has ls 2 [(0, .ref (d 0)), (1, .int (nI t))] := hl
  have f9 := hts (Cond.fieldLink RX6 9 "LentTerms$Talk" "least" "[I") (List.mem_of_getElem? (i := 1) rfl)
  have iX6 : ∀ w ∈ wsX60, w ∈ wsX6_fewest := by decide +kernel
  refine lv_iload_n hx hb dX6_fewest_0 rfl (lv_at hl 1 rfl) ?_
  refine roI hP hD hS hA [] rfl (runS (As := [.int (nI t)]) (rest := []) (isC := []) ⟨hx, hb, hml, hown, hts⟩ hKK hP hD rfl (by decide) (c_X6_isTerm l G tA t (by first | assumption | omega) _) (va_cwS 1 hts gX6_fewest_X6_isTerm rfl rfl rfl (by decide +kernel) ⟨Nat.le_of_ble_eq_true rfl, Nat.le_of_ble_eq_true rfl⟩) rfl rfl hl.1 rfl (lv_room (Nat.le_of_ble_eq_true rfl)) dX6_fewest_1 ⟨Nat.le_of_ble_eq_true rfl, Nat.le_of_ble_eq_true rfl⟩) (fun _ => rfl) (fun r_1 u_2 H locs q_3 hP hS => ?_)
  rcases q_3 with ⟨rfl, p_4⟩ | ⟨rfl, p_4⟩
  · have p_4 : t < 8 := p_4
    refine nv_if_eq (tgt := 16) (by omega) hx hb dX6_fewest_4 (by decide) (fun h => absurd h (by omega)) (fun _ => ?_)
    refine lv_aload_n hx hb dX6_fewest_7 rfl (lv_at hl 0 rfl) ?_
    refine va_get (D := G) (ci := 4) (C := RX6) (T := TX6) (N := 4) hx hb hts iX6 hown hKK.1 hP 0 rfl rfl 0 (by decide) f9 (fun _ h9 => h9) rfl dX6_fewest_8 ?_
    refine lv_iload_n hx hb dX6_fewest_11 rfl (lv_at hl 1 rfl) ?_
    refine nv_iald (i := t) hx hb hKK.1 hP 1 0 rfl rfl (by omega) (by decide) dX6_fewest_12 ?_
    refine lv_goto (tgt := 17) hx hb dX6_fewest_13 (by decide) ?_
    exact retI hx hb hr hlocks hS hP hD () (rfl) (congrArg nI (show (F t : Nat) = (if t < 8 then F t else 0) from by first | rw [if_pos (by omega)] | rw [if_neg (by omega)])) dX6_fewest_17
  · have p_4 : ¬ (t < 8) := p_4
    refine nv_if_eq (tgt := 16) (by omega) hx hb dX6_fewest_4 (by decide) (fun _ => ?_) (fun h => absurd h (by omega))
    refine lv_iconst (v := nI 0) hx hb dX6_fewest_16 (by decide) ?_
    exact retI hx hb hr hlocks hS hP hD () (rfl) (congrArg nI (show (0 : Nat) = (if t < 8 then F t else 0) from by first | rw [if_pos (by omega)] | rw [if_neg (by omega)])) dX6_fewest_17

set_option maxHeartbeats 4000000 in
set_option maxRecDepth 100000 in
theorem c_X6_fewestBy (l : Launch) (G : va_G) (tA : Nat → ClassId) (d : Nat → Nat) (F : Nat → Nat) (sy : Nat → Nat) (nd : Nat → Nat) (ru : Nat) (a : Nat → Nat) (n0 : Nat) (c0 : Nat → Nat) (n1 : Nat) (c1 : Nat → Nat) (n2 : Nat) (c2 : Nat → Nat) (n3 : Nat) (c3 : Nat → Nat) (n4 : Nat) (c4 : Nat → Nat) (n5 : Nat) (c5 : Nat → Nat) (hs : Nat → Nat) (wf : Nat → Nat) (wt : Nat → Nat) (q : Nat) (hCW : CW n0 c0 n1 c1 n2 c2 n3 c3 n4 c4 n5 c5 hs wf wt) (hbF : ∀ j, F j < 1048576) (hq : q < n3) : CtI l yX6_fewestBy wsX6_fewestBy ({ frames := 2, cells := 0, slots := 0, locals := 41 }) G tA [.ref (d 0), .ref (a 0), .int (nI q)] ([(d 0, .inr (4, [.ref (d 1), .ref (d 2), .ref (d 3), .int (nI ru)])), (d 1, .inl (tA 0, 8, .inl (nF F))), (d 2, .inl (tA 0, 8, .inl (nF sy))), (d 3, .inl (tA 0, 8, .inl (nF nd))), (a 0, .inr (0, [.ref (a 1), .ref (a 2), .ref (a 3), .ref (a 4), .ref (a 5), .ref (a 6), .ref (a 7), .ref (a 8), .ref (a 9)])), (a 1, .inr (2, [.ref (a 10), .int (nI 8), .int (nI 3), .int (nI n0)])), (a 10, .inl (tA 0, 40, .inl (nF c0))), (a 2, .inr (2, [.ref (a 11), .int (nI 10), .int (nI 4), .int (nI n1)])), (a 11, .inl (tA 0, 40, .inl (nF c1))), (a 3, .inr (2, [.ref (a 12), .int (nI 10), .int (nI 3), .int (nI n2)])), (a 12, .inl (tA 0, 40, .inl (nF c2))), (a 4, .inr (2, [.ref (a 13), .int (nI 8), .int (nI 3), .int (nI n3)])), (a 13, .inl (tA 0, 40, .inl (nF c3))), (a 5, .inr (2, [.ref (a 14), .int (nI 5), .int (nI 4), .int (nI n4)])), (a 14, .inl (tA 0, 40, .inl (nF c4))), (a 6, .inr (2, [.ref (a 15), .int (nI 8), .int (nI 2), .int (nI n5)])), (a 15, .inl (tA 0, 40, .inl (nF c5))), (a 7, .inl (tA 0, 5, .inl (nF hs))), (a 8, .inl (tA 0, 5, .inl (nF wf))), (a 9, .inl (tA 0, 40, .inl (nF wt)))]) (fun (r : Int32) (_ : Unit) => r = nI (sumW F c3 q)) (fun (_ : Unit) => [(d 0, .inr (4, [.ref (d 1), .ref (d 2), .ref (d 3), .int (nI ru)])), (d 1, .inl (tA 0, 8, .inl (nF F))), (d 2, .inl (tA 0, 8, .inl (nF sy))), (d 3, .inl (tA 0, 8, .inl (nF nd))), (a 0, .inr (0, [.ref (a 1), .ref (a 2), .ref (a 3), .ref (a 4), .ref (a 5), .ref (a 6), .ref (a 7), .ref (a 8), .ref (a 9)])), (a 1, .inr (2, [.ref (a 10), .int (nI 8), .int (nI 3), .int (nI n0)])), (a 10, .inl (tA 0, 40, .inl (nF c0))), (a 2, .inr (2, [.ref (a 11), .int (nI 10), .int (nI 4), .int (nI n1)])), (a 11, .inl (tA 0, 40, .inl (nF c1))), (a 3, .inr (2, [.ref (a 12), .int (nI 10), .int (nI 3), .int (nI n2)])), (a 12, .inl (tA 0, 40, .inl (nF c2))), (a 4, .inr (2, [.ref (a 13), .int (nI 8), .int (nI 3), .int (nI n3)])), (a 13, .inl (tA 0, 40, .inl (nF c3))), (a 5, .inr (2, [.ref (a 14), .int (nI 5), .int (nI 4), .int (nI n4)])), (a 14, .inl (tA 0, 40, .inl (nF c4))), (a 6, .inr (2, [.ref (a 15), .int (nI 8), .int (nI 2), .int (nI n5)])), (a 15, .inl (tA 0, 40, .inl (nF c5))), (a 7, .inl (tA 0, 5, .inl (nF hs))), (a 8, .inl (tA 0, 5, .inl (nF wf))), (a 9, .inl (tA 0, 40, .inl (nF wt)))]) 0 0 := by
  refine enterI (cc := cX6_fewestBy) (maxL := 5) (ret := (some .int)) (by decide) rfl (Nat.le_of_ble_eq_true rfl) ?_
  intro p0 e0 s m args below meth c0_ A ls hx hb hml hr hts hown hlocks hin hKK hA hP hD hl hS
  have hown : s.vm.findClass RX6 = some m.cls := hown
  have hl : lv_has ls 5 [(0, .ref (d 0)), (1, .ref (a 0)), (2, .int (nI q))] := hl
  have n29 : (Cond.fieldLinkNest "LentTerms$Talk" 29 "LentTerms$Counter" "rules" "LLentTerms$Rows;" "LentTerms").before args s = true := hKK.nest 9 rfl
  have iX0 : ∀ w ∈ wsX00, w ∈ wsX6_fewestBy := by decide +kernel
  obtain ⟨⟨hn0, hn1, hn2, hn3, hn4, hn5⟩, ⟨hb0, hb1, hb2, hb3, hb4, hb5, hbh, hbw, hbt⟩, hv0, hv1, hv2, hv3, hv4, hv5, hv6, hv7⟩ := id hCW
  have hv := hv3 q hq
  refine lv_aload_n hx hb dX6_fewestBy_0 rfl (lv_at hl 0 rfl) ?_
  refine lv_aload_n hx hb dX6_fewestBy_1 rfl (lv_at hl 1 rfl) ?_
  refine va_getN (D := G) (ci := 0) (C := RX0) (T := TX0) (N := 9) hx hb hts iX0 hown hKK.1 hP 4 rfl rfl 3 (by decide) n29 (fun _ h9 => h9) rfl dX6_fewestBy_2 ?_
  refine lv_iload_n hx hb dX6_fewestBy_5 rfl (lv_at hl 2 rfl) ?_
  refine lv_iconst (v := nI 1) hx hb dX6_fewestBy_6 (by decide) ?_
  refine roI hP hD hS hA [11, 12] rfl (runV (As := [.int (nI q), .int (nI 1)]) (rest := [.ref (d 0)]) (isC := [11, 12]) ⟨hx, hb, hml, hown, hts⟩ hKK hP hD rfl (by decide) (c_X4_at_in l G tA (a 4) (a 13) 8 3 n3 c3 q 1 (by omega) (by omega) (by omega) (by omega) (hb3) _) (cwV 2 hts gX6_fewestBy_X4_at rfl rfl rfl (by decide +kernel) ⟨Nat.le_of_ble_eq_true rfl, Nat.le_of_ble_eq_true rfl⟩) rfl rfl rfl rfl hl.1 rfl (lv_room (Nat.le_of_ble_eq_true rfl)) dX6_fewestBy_7 ⟨Nat.le_of_ble_eq_true rfl, Nat.le_of_ble_eq_true rfl⟩) (fun _ => rfl) (fun r_1 u_2 H locs q_3 hP hS => ?_)
  obtain ⟨rfl, e_4⟩ := q_3
  have e_4 : c3 (q * 4 + 1) < 1048576 := e_4
  refine roI hP hD hS hA [0, 1, 2, 3] rfl (runV (As := [.int (nI (c3 (q * 4 + 1)))]) (rest := []) (isC := [0, 1, 2, 3]) ⟨hx, hb, hml, hown, hts⟩ hKK hP hD rfl (by decide) (c_X6_fewest l G tA d F sy nd ru (c3 (q * 4 + 1)) (by first | assumption | omega) _) (cwV 1 hts gX6_fewestBy_X6_fewest rfl rfl rfl (by decide +kernel) ⟨Nat.le_of_ble_eq_true rfl, Nat.le_of_ble_eq_true rfl⟩) rfl rfl rfl rfl hl.1 rfl (lv_room (Nat.le_of_ble_eq_true rfl)) dX6_fewestBy_10 ⟨Nat.le_of_ble_eq_true rfl, Nat.le_of_ble_eq_true rfl⟩) (fun _ => rfl) (fun r_5 u_6 H locs q_7 hP hS => ?_)
  subst q_7
  refine nv_top (y := F (c3 (q * 4 + 1))) (congrArg nI (if_pos (by omega))) ?_
  have hf1 := hbF (c3 (q * 4 + 1))
  refine lv_istore_n (lv' := [(3, .int (nI (F (c3 (q * 4 + 1))))), (0, .ref (d 0)), (1, .ref (a 0)), (2, .int (nI q))]) hx hb dX6_fewestBy_13 rfl hl (by decide) rfl (fun ls hl => ?_)
  refine lv_aload_n hx hb dX6_fewestBy_14 rfl (lv_at hl 1 rfl) ?_
  refine lv_aload_n hx hb dX6_fewestBy_15 rfl (lv_at hl 2 rfl) ?_
  refine va_getN (D := G) (ci := 0) (C := RX0) (T := TX0) (N := 9) hx hb hts iX0 hown hKK.1 hP 4 rfl rfl 3 (by decide) n29 (fun _ h9 => h9) rfl dX6_fewestBy_16 ?_
  refine lv_iload_n hx hb dX6_fewestBy_19 rfl (lv_at hl 3 rfl) ?_
  refine lv_iconst (v := nI 2) hx hb dX6_fewestBy_20 (by decide) ?_
  refine roI hP hD hS hA [11, 12] rfl (runV (As := [.int (nI q), .int (nI 2)]) (rest := [.ref (d 0)]) (isC := [11, 12]) ⟨hx, hb, hml, hown, hts⟩ hKK hP hD rfl (by decide) (c_X4_at_in l G tA (a 4) (a 13) 8 3 n3 c3 q 2 (by omega) (by omega) (by omega) (by omega) (hb3) _) (cwV 2 hts gX6_fewestBy_X4_at rfl rfl rfl (by decide +kernel) ⟨Nat.le_of_ble_eq_true rfl, Nat.le_of_ble_eq_true rfl⟩) rfl rfl rfl rfl hl.1 rfl (lv_room (Nat.le_of_ble_eq_true rfl)) dX6_fewestBy_21 ⟨Nat.le_of_ble_eq_true rfl, Nat.le_of_ble_eq_true rfl⟩) (fun _ => rfl) (fun r_8 u_9 H locs q_10 hP hS => ?_)
  obtain ⟨rfl, e_11⟩ := q_10
  have e_11 : c3 (q * 4 + 2) < 1048576 := e_11
  refine roI hP hD hS hA [0, 1, 2, 3] rfl (runV (As := [.int (nI (c3 (q * 4 + 2)))]) (rest := []) (isC := [0, 1, 2, 3]) ⟨hx, hb, hml, hown, hts⟩ hKK hP hD rfl (by decide) (c_X6_fewest l G tA d F sy nd ru (c3 (q * 4 + 2)) (by first | assumption | omega) _) (cwV 1 hts gX6_fewestBy_X6_fewest rfl rfl rfl (by decide +kernel) ⟨Nat.le_of_ble_eq_true rfl, Nat.le_of_ble_eq_true rfl⟩) rfl rfl rfl rfl hl.1 rfl (lv_room (Nat.le_of_ble_eq_true rfl)) dX6_fewestBy_24 ⟨Nat.le_of_ble_eq_true rfl, Nat.le_of_ble_eq_true rfl⟩) (fun _ => rfl) (fun r_12 u_13 H locs q_14 hP hS => ?_)
  subst q_14
  refine nv_top (y := F (c3 (q * 4 + 2))) (congrArg nI (if_pos (by omega))) ?_
  have hf2 := hbF (c3 (q * 4 + 2))
  refine lv_istore (lv' := [(4, .int (nI (F (c3 (q * 4 + 2))))), (3, .int (nI (F (c3 (q * 4 + 1))))), (0, .ref (d 0)), (1, .ref (a 0)), (2, .int (nI q))]) hx hb dX6_fewestBy_27 hl (by decide) rfl (fun ls hl => ?_)
  refine lv_iload_n hx hb dX6_fewestBy_29 rfl (lv_at hl 1 rfl) ?_
  refine nv_if_le (tgt := 45) (by omega) hx hb dX6_fewestBy_30 (by decide) (fun c_15 => ?_) (fun c_15 => ?_)
  · refine lv_iconst (v := nI 0) hx hb dX6_fewestBy_45 (by decide) ?_
    exact retI hx hb hr hlocks hS hP hD () (rfl) (congrArg nI (show (0 : Nat) = sumW F c3 q from by unfold sumW; first | rw [if_pos ⟨by omega, by omega⟩] | rw [if_neg (by omega)])) dX6_fewestBy_46
  · refine lv_iload hx hb dX6_fewestBy_33 (lv_at hl 0 rfl) ?_
    refine nv_if_le (tgt := 45) (by omega) hx hb dX6_fewestBy_35 (by decide) (fun c_16 => ?_) (fun c_16 => ?_)
    · refine lv_iconst (v := nI 0) hx hb dX6_fewestBy_45 (by decide) ?_
      exact retI hx hb hr hlocks hS hP hD () (rfl) (congrArg nI (show (0 : Nat) = sumW F c3 q from by unfold sumW; first | rw [if_pos ⟨by omega, by omega⟩] | rw [if_neg (by omega)])) dX6_fewestBy_46
    · refine lv_iload_n hx hb dX6_fewestBy_38 rfl (lv_at hl 1 rfl) ?_
      refine lv_iload hx hb dX6_fewestBy_39 (lv_at hl 0 rfl) ?_
      refine nv_iadd hx hb dX6_fewestBy_41 ?_
      refine lv_goto (tgt := 46) hx hb dX6_fewestBy_42 (by decide) ?_
      exact retI hx hb hr hlocks hS hP hD () (rfl) (congrArg nI (show ((F (c3 (q * 4 + 1))) + (F (c3 (q * 4 + 2))) : Nat) = sumW F c3 q from by unfold sumW; first | rw [if_pos ⟨by omega, by omega⟩] | rw [if_neg (by omega)])) dX6_fewestBy_46

set_option maxHeartbeats 4000000 in
set_option maxRecDepth 100000 in
theorem c_X6_weigh (l : Launch) (G : va_G) (tA : Nat → ClassId) (d : Nat → Nat) (F : Nat → Nat) (sy : Nat → Nat) (nd : Nat → Nat) (ru : Nat) (a : Nat → Nat) (n0 : Nat) (c0 : Nat → Nat) (n1 : Nat) (c1 : Nat → Nat) (n2 : Nat) (c2 : Nat → Nat) (n3 : Nat) (c3 : Nat → Nat) (n4 : Nat) (c4 : Nat → Nat) (n5 : Nat) (c5 : Nat → Nat) (hs : Nat → Nat) (wf : Nat → Nat) (wt : Nat → Nat) (set9 : Nat) (hCW : CW n0 c0 n1 c1 n2 c2 n3 c3 n4 c4 n5 c5 hs wf wt) (hbF : ∀ j, F j < 1048576) (hset9 : set9 < 1048576) : CtV l yX6_weigh wsX6_weigh ({ frames := 3, cells := 0, slots := 0, locals := 65 }) G tA [.ref (d 0), .ref (a 0), .int (nI set9)] ([(d 0, .inr (4, [.ref (d 1), .ref (d 2), .ref (d 3), .int (nI ru)])), (d 1, .inl (tA 0, 8, .inl (nF F))), (d 2, .inl (tA 0, 8, .inl (nF sy))), (d 3, .inl (tA 0, 8, .inl (nF nd))), (a 0, .inr (0, [.ref (a 1), .ref (a 2), .ref (a 3), .ref (a 4), .ref (a 5), .ref (a 6), .ref (a 7), .ref (a 8), .ref (a 9)])), (a 1, .inr (2, [.ref (a 10), .int (nI 8), .int (nI 3), .int (nI n0)])), (a 10, .inl (tA 0, 40, .inl (nF c0))), (a 2, .inr (2, [.ref (a 11), .int (nI 10), .int (nI 4), .int (nI n1)])), (a 11, .inl (tA 0, 40, .inl (nF c1))), (a 3, .inr (2, [.ref (a 12), .int (nI 10), .int (nI 3), .int (nI n2)])), (a 12, .inl (tA 0, 40, .inl (nF c2))), (a 4, .inr (2, [.ref (a 13), .int (nI 8), .int (nI 3), .int (nI n3)])), (a 13, .inl (tA 0, 40, .inl (nF c3))), (a 5, .inr (2, [.ref (a 14), .int (nI 5), .int (nI 4), .int (nI n4)])), (a 14, .inl (tA 0, 40, .inl (nF c4))), (a 6, .inr (2, [.ref (a 15), .int (nI 8), .int (nI 2), .int (nI n5)])), (a 15, .inl (tA 0, 40, .inl (nF c5))), (a 7, .inl (tA 0, 5, .inl (nF hs))), (a 8, .inl (tA 0, 5, .inl (nF wf))), (a 9, .inl (tA 0, 40, .inl (nF wt)))]) (fun (_ : Unit) => okF (weighS n3 c3 F set9)) (fun (_ : Unit) => [(d 0, .inr (4, [.ref (d 1), .ref (d 2), .ref (d 3), .int (nI ru)])), (d 1, .inl (tA 0, 8, .inl (nF (weighS n3 c3 F set9)))), (d 2, .inl (tA 0, 8, .inl (nF sy))), (d 3, .inl (tA 0, 8, .inl (nF nd))), (a 0, .inr (0, [.ref (a 1), .ref (a 2), .ref (a 3), .ref (a 4), .ref (a 5), .ref (a 6), .ref (a 7), .ref (a 8), .ref (a 9)])), (a 1, .inr (2, [.ref (a 10), .int (nI 8), .int (nI 3), .int (nI n0)])), (a 10, .inl (tA 0, 40, .inl (nF c0))), (a 2, .inr (2, [.ref (a 11), .int (nI 10), .int (nI 4), .int (nI n1)])), (a 11, .inl (tA 0, 40, .inl (nF c1))), (a 3, .inr (2, [.ref (a 12), .int (nI 10), .int (nI 3), .int (nI n2)])), (a 12, .inl (tA 0, 40, .inl (nF c2))), (a 4, .inr (2, [.ref (a 13), .int (nI 8), .int (nI 3), .int (nI n3)])), (a 13, .inl (tA 0, 40, .inl (nF c3))), (a 5, .inr (2, [.ref (a 14), .int (nI 5), .int (nI 4), .int (nI n4)])), (a 14, .inl (tA 0, 40, .inl (nF c4))), (a 6, .inr (2, [.ref (a 15), .int (nI 8), .int (nI 2), .int (nI n5)])), (a 15, .inl (tA 0, 40, .inl (nF c5))), (a 7, .inl (tA 0, 5, .inl (nF hs))), (a 8, .inl (tA 0, 5, .inl (nF wf))), (a 9, .inl (tA 0, 40, .inl (nF wt)))]) 0 0 := by
  refine enterV (cc := cX6_weigh) (maxL := 8) (ret := none) (by decide) rfl (Nat.le_of_ble_eq_true rfl) ?_
  intro p0 e0 s m args below meth c0_ A ls hx hb hml hr hts hown hlocks hin hKK hA hP hD hl hS
  have hown : s.vm.findClass RX6 = some m.cls := hown
  have hl : lv_has ls 8 [(0, .ref (d 0)), (1, .ref (a 0)), (2, .int (nI set9))] := hl
  have n29 : (Cond.fieldLinkNest "LentTerms$Talk" 29 "LentTerms$Counter" "rules" "LLentTerms$Rows;" "LentTerms").before args s = true := hKK.nest 9 rfl
  have iX0 : ∀ w ∈ wsX00, w ∈ wsX6_weigh := by decide +kernel
  have f9 := hts (Cond.fieldLink RX6 9 "LentTerms$Talk" "least" "[I") (List.mem_of_getElem? (i := 1) rfl)
  have iX6 : ∀ w ∈ wsX60, w ∈ wsX6_weigh := by decide +kernel
  have n25 : (Cond.methodLinkNest "LentTerms$Talk" 25 ⟨"LentTerms", "hasBit", "(II)Z"⟩ "LentTerms").before args s = true := hKK.nest 22 rfl
  obtain ⟨⟨hn0, hn1, hn2, hn3, hn4, hn5⟩, ⟨hb0, hb1, hb2, hb3, hb4, hb5, hbh, hbw, hbt⟩, hv0, hv1, hv2, hv3, hv4, hv5, hv6, hv7⟩ := id hCW
  refine lv_iconst (v := nI 0) hx hb dX6_weigh_0 (by decide) ?_
  refine lv_istore_n (lv' := [(3, .int (nI 0)), (0, .ref (d 0)), (1, .ref (a 0)), (2, .int (nI set9))]) hx hb dX6_weigh_1 rfl hl (by decide) rfl (fun ls hl => ?_)
  refine wloop (σ := (Nat) × (Nat → Nat)) (fun | (t, F1) => 8 - t) (fun | (t, F1) => (t ≤ 8) ∧ (F1 = initW F set9 t)) (fun | (t, F1) => [(3, .int (nI t)), (0, .ref (d 0)), (1, .ref (a 0)), (2, .int (nI set9))]) (fun | (t, F1) => [(d 0, .inr (4, [.ref (d 1), .ref (d 2), .ref (d 3), .int (nI ru)])), (d 1, .inl (tA 0, 8, .inl (nF F1))), (d 2, .inl (tA 0, 8, .inl (nF sy))), (d 3, .inl (tA 0, 8, .inl (nF nd))), (a 0, .inr (0, [.ref (a 1), .ref (a 2), .ref (a 3), .ref (a 4), .ref (a 5), .ref (a 6), .ref (a 7), .ref (a 8), .ref (a 9)])), (a 1, .inr (2, [.ref (a 10), .int (nI 8), .int (nI 3), .int (nI n0)])), (a 10, .inl (tA 0, 40, .inl (nF c0))), (a 2, .inr (2, [.ref (a 11), .int (nI 10), .int (nI 4), .int (nI n1)])), (a 11, .inl (tA 0, 40, .inl (nF c1))), (a 3, .inr (2, [.ref (a 12), .int (nI 10), .int (nI 3), .int (nI n2)])), (a 12, .inl (tA 0, 40, .inl (nF c2))), (a 4, .inr (2, [.ref (a 13), .int (nI 8), .int (nI 3), .int (nI n3)])), (a 13, .inl (tA 0, 40, .inl (nF c3))), (a 5, .inr (2, [.ref (a 14), .int (nI 5), .int (nI 4), .int (nI n4)])), (a 14, .inl (tA 0, 40, .inl (nF c4))), (a 6, .inr (2, [.ref (a 15), .int (nI 8), .int (nI 2), .int (nI n5)])), (a 15, .inl (tA 0, 40, .inl (nF c5))), (a 7, .inl (tA 0, 5, .inl (nF hs))), (a 8, .inl (tA 0, 5, .inl (nF wf))), (a 9, .inl (tA 0, 40, .inl (nF wt)))]) (0, F) ⟨(show 0 ≤ 8 from by omega), (show F = initW F set9 0 from rfl)⟩ (lv_sub hl [0, 1, 2, 3] rfl) hP hD hS ?_
  rintro ⟨t, F1⟩ ⟨ht, hF1⟩ ih_1 ls H locs hl hP hD hS
  have hl : lv_has ls 8 [(3, .int (nI t)), (0, .ref (d 0)), (1, .ref (a 0)), (2, .int (nI set9))] := hl
  have hP : va_P G vwCl [(d 0, .inr (4, [.ref (d 1), .ref (d 2), .ref (d 3), .int (nI ru)])), (d 1, .inl (tA 0, 8, .inl (nF F1))), (d 2, .inl (tA 0, 8, .inl (nF sy))), (d 3, .inl (tA 0, 8, .inl (nF nd))), (a 0, .inr (0, [.ref (a 1), .ref (a 2), .ref (a 3), .ref (a 4), .ref (a 5), .ref (a 6), .ref (a 7), .ref (a 8), .ref (a 9)])), (a 1, .inr (2, [.ref (a 10), .int (nI 8), .int (nI 3), .int (nI n0)])), (a 10, .inl (tA 0, 40, .inl (nF c0))), (a 2, .inr (2, [.ref (a 11), .int (nI 10), .int (nI 4), .int (nI n1)])), (a 11, .inl (tA 0, 40, .inl (nF c1))), (a 3, .inr (2, [.ref (a 12), .int (nI 10), .int (nI 3), .int (nI n2)])), (a 12, .inl (tA 0, 40, .inl (nF c2))), (a 4, .inr (2, [.ref (a 13), .int (nI 8), .int (nI 3), .int (nI n3)])), (a 13, .inl (tA 0, 40, .inl (nF c3))), (a 5, .inr (2, [.ref (a 14), .int (nI 5), .int (nI 4), .int (nI n4)])), (a 14, .inl (tA 0, 40, .inl (nF c4))), (a 6, .inr (2, [.ref (a 15), .int (nI 8), .int (nI 2), .int (nI n5)])), (a 15, .inl (tA 0, 40, .inl (nF c5))), (a 7, .inl (tA 0, 5, .inl (nF hs))), (a 8, .inl (tA 0, 5, .inl (nF wf))), (a 9, .inl (tA 0, 40, .inl (nF wt)))] H := hP
  have hD : va_D A [(d 0, .inr (4, [.ref (d 1), .ref (d 2), .ref (d 3), .int (nI ru)])), (d 1, .inl (tA 0, 8, .inl (nF F1))), (d 2, .inl (tA 0, 8, .inl (nF sy))), (d 3, .inl (tA 0, 8, .inl (nF nd))), (a 0, .inr (0, [.ref (a 1), .ref (a 2), .ref (a 3), .ref (a 4), .ref (a 5), .ref (a 6), .ref (a 7), .ref (a 8), .ref (a 9)])), (a 1, .inr (2, [.ref (a 10), .int (nI 8), .int (nI 3), .int (nI n0)])), (a 10, .inl (tA 0, 40, .inl (nF c0))), (a 2, .inr (2, [.ref (a 11), .int (nI 10), .int (nI 4), .int (nI n1)])), (a 11, .inl (tA 0, 40, .inl (nF c1))), (a 3, .inr (2, [.ref (a 12), .int (nI 10), .int (nI 3), .int (nI n2)])), (a 12, .inl (tA 0, 40, .inl (nF c2))), (a 4, .inr (2, [.ref (a 13), .int (nI 8), .int (nI 3), .int (nI n3)])), (a 13, .inl (tA 0, 40, .inl (nF c3))), (a 5, .inr (2, [.ref (a 14), .int (nI 5), .int (nI 4), .int (nI n4)])), (a 14, .inl (tA 0, 40, .inl (nF c4))), (a 6, .inr (2, [.ref (a 15), .int (nI 8), .int (nI 2), .int (nI n5)])), (a 15, .inl (tA 0, 40, .inl (nF c5))), (a 7, .inl (tA 0, 5, .inl (nF hs))), (a 8, .inl (tA 0, 5, .inl (nF wf))), (a 9, .inl (tA 0, 40, .inl (nF wt)))] := hD
  have ht : t ≤ 8 := ht
  have hF1 : F1 = initW F set9 t := hF1
  refine lv_iload_n hx hb dX6_weigh_2 rfl (lv_at hl 0 rfl) ?_
  refine lv_bipush (v := nI 8) hx hb dX6_weigh_3 (by decide +kernel) ?_
  refine nv_icmp_ge (tgt := 33) (by omega) (by omega) hx hb dX6_weigh_5 (by decide) (fun c_2 => ?_) (fun c_2 => ?_)
  · refine lv_iconst (v := nI 1) hx hb dX6_weigh_33 (by decide) ?_
    refine lv_istore_n (lv' := [(3, .int (nI 1)), (0, .ref (d 0)), (1, .ref (a 0)), (2, .int (nI set9))]) hx hb dX6_weigh_34 rfl hl (by decide) rfl (fun ls hl => ?_)
    refine lv_iconst (v := nI 0) hx hb dX6_weigh_35 (by decide) ?_
    refine lv_istore (lv' := [(4, .int (nI 0)), (3, .int (nI 1)), (0, .ref (d 0)), (1, .ref (a 0)), (2, .int (nI set9))]) hx hb dX6_weigh_36 hl (by decide) rfl (fun ls hl => ?_)
    refine wloop (σ := (Nat) × (Nat) × (Nat → Nat)) (fun | (u, ch, F2) => 8 - u) (fun | (u, ch, F2) => (u ≤ 8 ∧ ch < 2) ∧ (runW n3 c3 (8 - u) F2 ch = weighS n3 c3 F set9) ∧ (okF F2)) (fun | (u, ch, F2) => [(4, .int (nI u)), (3, .int (nI ch)), (0, .ref (d 0)), (1, .ref (a 0)), (2, .int (nI set9))]) (fun | (u, ch, F2) => [(d 0, .inr (4, [.ref (d 1), .ref (d 2), .ref (d 3), .int (nI ru)])), (d 1, .inl (tA 0, 8, .inl (nF F2))), (d 2, .inl (tA 0, 8, .inl (nF sy))), (d 3, .inl (tA 0, 8, .inl (nF nd))), (a 0, .inr (0, [.ref (a 1), .ref (a 2), .ref (a 3), .ref (a 4), .ref (a 5), .ref (a 6), .ref (a 7), .ref (a 8), .ref (a 9)])), (a 1, .inr (2, [.ref (a 10), .int (nI 8), .int (nI 3), .int (nI n0)])), (a 10, .inl (tA 0, 40, .inl (nF c0))), (a 2, .inr (2, [.ref (a 11), .int (nI 10), .int (nI 4), .int (nI n1)])), (a 11, .inl (tA 0, 40, .inl (nF c1))), (a 3, .inr (2, [.ref (a 12), .int (nI 10), .int (nI 3), .int (nI n2)])), (a 12, .inl (tA 0, 40, .inl (nF c2))), (a 4, .inr (2, [.ref (a 13), .int (nI 8), .int (nI 3), .int (nI n3)])), (a 13, .inl (tA 0, 40, .inl (nF c3))), (a 5, .inr (2, [.ref (a 14), .int (nI 5), .int (nI 4), .int (nI n4)])), (a 14, .inl (tA 0, 40, .inl (nF c4))), (a 6, .inr (2, [.ref (a 15), .int (nI 8), .int (nI 2), .int (nI n5)])), (a 15, .inl (tA 0, 40, .inl (nF c5))), (a 7, .inl (tA 0, 5, .inl (nF hs))), (a 8, .inl (tA 0, 5, .inl (nF wf))), (a 9, .inl (tA 0, 40, .inl (nF wt)))]) (0, 1, F1) ⟨(show 0 ≤ 8 ∧ 1 < 2 from ⟨by omega, by omega⟩), (show runW n3 c3 (8 - 0) F1 1 = weighS n3 c3 F set9 from by rw [hF1, show t = 8 from (by omega)]; rfl), (show okF F1 from by rw [hF1, show t = 8 from (by omega)]; exact okF_init hbF _)⟩ (lv_sub hl [0, 1, 2, 3, 4] rfl) hP hD hS ?_
    rintro ⟨u, ch, F2⟩ ⟨hu, hrun, hok⟩ ih_3 ls H locs hl hP hD hS
    have hl : lv_has ls 8 [(4, .int (nI u)), (3, .int (nI ch)), (0, .ref (d 0)), (1, .ref (a 0)), (2, .int (nI set9))] := hl
    have hP : va_P G vwCl [(d 0, .inr (4, [.ref (d 1), .ref (d 2), .ref (d 3), .int (nI ru)])), (d 1, .inl (tA 0, 8, .inl (nF F2))), (d 2, .inl (tA 0, 8, .inl (nF sy))), (d 3, .inl (tA 0, 8, .inl (nF nd))), (a 0, .inr (0, [.ref (a 1), .ref (a 2), .ref (a 3), .ref (a 4), .ref (a 5), .ref (a 6), .ref (a 7), .ref (a 8), .ref (a 9)])), (a 1, .inr (2, [.ref (a 10), .int (nI 8), .int (nI 3), .int (nI n0)])), (a 10, .inl (tA 0, 40, .inl (nF c0))), (a 2, .inr (2, [.ref (a 11), .int (nI 10), .int (nI 4), .int (nI n1)])), (a 11, .inl (tA 0, 40, .inl (nF c1))), (a 3, .inr (2, [.ref (a 12), .int (nI 10), .int (nI 3), .int (nI n2)])), (a 12, .inl (tA 0, 40, .inl (nF c2))), (a 4, .inr (2, [.ref (a 13), .int (nI 8), .int (nI 3), .int (nI n3)])), (a 13, .inl (tA 0, 40, .inl (nF c3))), (a 5, .inr (2, [.ref (a 14), .int (nI 5), .int (nI 4), .int (nI n4)])), (a 14, .inl (tA 0, 40, .inl (nF c4))), (a 6, .inr (2, [.ref (a 15), .int (nI 8), .int (nI 2), .int (nI n5)])), (a 15, .inl (tA 0, 40, .inl (nF c5))), (a 7, .inl (tA 0, 5, .inl (nF hs))), (a 8, .inl (tA 0, 5, .inl (nF wf))), (a 9, .inl (tA 0, 40, .inl (nF wt)))] H := hP
    have hD : va_D A [(d 0, .inr (4, [.ref (d 1), .ref (d 2), .ref (d 3), .int (nI ru)])), (d 1, .inl (tA 0, 8, .inl (nF F2))), (d 2, .inl (tA 0, 8, .inl (nF sy))), (d 3, .inl (tA 0, 8, .inl (nF nd))), (a 0, .inr (0, [.ref (a 1), .ref (a 2), .ref (a 3), .ref (a 4), .ref (a 5), .ref (a 6), .ref (a 7), .ref (a 8), .ref (a 9)])), (a 1, .inr (2, [.ref (a 10), .int (nI 8), .int (nI 3), .int (nI n0)])), (a 10, .inl (tA 0, 40, .inl (nF c0))), (a 2, .inr (2, [.ref (a 11), .int (nI 10), .int (nI 4), .int (nI n1)])), (a 11, .inl (tA 0, 40, .inl (nF c1))), (a 3, .inr (2, [.ref (a 12), .int (nI 10), .int (nI 3), .int (nI n2)])), (a 12, .inl (tA 0, 40, .inl (nF c2))), (a 4, .inr (2, [.ref (a 13), .int (nI 8), .int (nI 3), .int (nI n3)])), (a 13, .inl (tA 0, 40, .inl (nF c3))), (a 5, .inr (2, [.ref (a 14), .int (nI 5), .int (nI 4), .int (nI n4)])), (a 14, .inl (tA 0, 40, .inl (nF c4))), (a 6, .inr (2, [.ref (a 15), .int (nI 8), .int (nI 2), .int (nI n5)])), (a 15, .inl (tA 0, 40, .inl (nF c5))), (a 7, .inl (tA 0, 5, .inl (nF hs))), (a 8, .inl (tA 0, 5, .inl (nF wf))), (a 9, .inl (tA 0, 40, .inl (nF wt)))] := hD
    have hu : u ≤ 8 ∧ ch < 2 := hu
    have hrun : runW n3 c3 (8 - u) F2 ch = weighS n3 c3 F set9 := hrun
    have hok : okF F2 := hok
    refine lv_iload hx hb dX6_weigh_38 (lv_at hl 0 rfl) ?_
    refine lv_bipush (v := nI 8) hx hb dX6_weigh_40 (by decide +kernel) ?_
    refine nv_icmp_ge (tgt := 145) (by omega) (by omega) hx hb dX6_weigh_42 (by decide) (fun c_4 => ?_) (fun c_4 => ?_)
    · have hfin : F2 = weighS n3 c3 F set9 := by first | exact (show runW n3 c3 (8 - u) F2 ch = F2 from runW_e (by omega)).symm.trans hrun | exact (show runW n3 c3 (8 - u) F2 ch = F2 from by rw [show 8 - u = 0 from (by omega)]; rfl).symm.trans hrun
      exact retV hx hb hr hlocks hS hP hD () (by rw [← hfin]) (by rw [← hfin]; exact hok) dX6_weigh_145
    · refine lv_iload_n hx hb dX6_weigh_45 rfl (lv_at hl 1 rfl) ?_
      refine nv_if_eq (tgt := 145) (by omega) hx hb dX6_weigh_46 (by decide) (fun c_5 => ?_) (fun c_5 => ?_)
      · have hfin : F2 = weighS n3 c3 F set9 := by first | exact (show runW n3 c3 (8 - u) F2 ch = F2 from runW_e (by omega)).symm.trans hrun | exact (show runW n3 c3 (8 - u) F2 ch = F2 from by rw [show 8 - u = 0 from (by omega)]; rfl).symm.trans hrun
        exact retV hx hb hr hlocks hS hP hD () (by rw [← hfin]) (by rw [← hfin]; exact hok) dX6_weigh_145
      · refine lv_iconst (v := nI 0) hx hb dX6_weigh_49 (by decide) ?_
        refine lv_istore_n (lv' := [(3, .int (nI 0)), (4, .int (nI u)), (0, .ref (d 0)), (1, .ref (a 0)), (2, .int (nI set9))]) hx hb dX6_weigh_50 rfl hl (by decide) rfl (fun ls hl => ?_)
        refine lv_iconst (v := nI 0) hx hb dX6_weigh_51 (by decide) ?_
        refine lv_istore (lv' := [(5, .int (nI 0)), (3, .int (nI 0)), (4, .int (nI u)), (0, .ref (d 0)), (1, .ref (a 0)), (2, .int (nI set9))]) hx hb dX6_weigh_52 hl (by decide) rfl (fun ls hl => ?_)
        refine wloop (σ := (Nat) × (Nat) × (Nat → Nat)) (fun | (q, cc, F3) => n3 - q) (fun | (q, cc, F3) => (q ≤ n3 ∧ cc < 2) ∧ ((F3, cc) = rdW c3 q (F2, 0)) ∧ (okF F3)) (fun | (q, cc, F3) => [(5, .int (nI q)), (3, .int (nI cc)), (4, .int (nI u)), (0, .ref (d 0)), (1, .ref (a 0)), (2, .int (nI set9))]) (fun | (q, cc, F3) => [(d 0, .inr (4, [.ref (d 1), .ref (d 2), .ref (d 3), .int (nI ru)])), (d 1, .inl (tA 0, 8, .inl (nF F3))), (d 2, .inl (tA 0, 8, .inl (nF sy))), (d 3, .inl (tA 0, 8, .inl (nF nd))), (a 0, .inr (0, [.ref (a 1), .ref (a 2), .ref (a 3), .ref (a 4), .ref (a 5), .ref (a 6), .ref (a 7), .ref (a 8), .ref (a 9)])), (a 1, .inr (2, [.ref (a 10), .int (nI 8), .int (nI 3), .int (nI n0)])), (a 10, .inl (tA 0, 40, .inl (nF c0))), (a 2, .inr (2, [.ref (a 11), .int (nI 10), .int (nI 4), .int (nI n1)])), (a 11, .inl (tA 0, 40, .inl (nF c1))), (a 3, .inr (2, [.ref (a 12), .int (nI 10), .int (nI 3), .int (nI n2)])), (a 12, .inl (tA 0, 40, .inl (nF c2))), (a 4, .inr (2, [.ref (a 13), .int (nI 8), .int (nI 3), .int (nI n3)])), (a 13, .inl (tA 0, 40, .inl (nF c3))), (a 5, .inr (2, [.ref (a 14), .int (nI 5), .int (nI 4), .int (nI n4)])), (a 14, .inl (tA 0, 40, .inl (nF c4))), (a 6, .inr (2, [.ref (a 15), .int (nI 8), .int (nI 2), .int (nI n5)])), (a 15, .inl (tA 0, 40, .inl (nF c5))), (a 7, .inl (tA 0, 5, .inl (nF hs))), (a 8, .inl (tA 0, 5, .inl (nF wf))), (a 9, .inl (tA 0, 40, .inl (nF wt)))]) (0, 0, F2) ⟨(show 0 ≤ n3 ∧ 0 < 2 from ⟨by omega, by omega⟩), (show (F2, 0) = rdW c3 0 (F2, 0) from rfl), (show okF F2 from hok)⟩ (lv_sub hl [0, 1, 2, 3, 4, 5] rfl) hP hD hS ?_
        rintro ⟨q, cc, F3⟩ ⟨hq, hrd, hok3⟩ ih_6 ls H locs hl hP hD hS
        have hl : lv_has ls 8 [(5, .int (nI q)), (3, .int (nI cc)), (4, .int (nI u)), (0, .ref (d 0)), (1, .ref (a 0)), (2, .int (nI set9))] := hl
        have hP : va_P G vwCl [(d 0, .inr (4, [.ref (d 1), .ref (d 2), .ref (d 3), .int (nI ru)])), (d 1, .inl (tA 0, 8, .inl (nF F3))), (d 2, .inl (tA 0, 8, .inl (nF sy))), (d 3, .inl (tA 0, 8, .inl (nF nd))), (a 0, .inr (0, [.ref (a 1), .ref (a 2), .ref (a 3), .ref (a 4), .ref (a 5), .ref (a 6), .ref (a 7), .ref (a 8), .ref (a 9)])), (a 1, .inr (2, [.ref (a 10), .int (nI 8), .int (nI 3), .int (nI n0)])), (a 10, .inl (tA 0, 40, .inl (nF c0))), (a 2, .inr (2, [.ref (a 11), .int (nI 10), .int (nI 4), .int (nI n1)])), (a 11, .inl (tA 0, 40, .inl (nF c1))), (a 3, .inr (2, [.ref (a 12), .int (nI 10), .int (nI 3), .int (nI n2)])), (a 12, .inl (tA 0, 40, .inl (nF c2))), (a 4, .inr (2, [.ref (a 13), .int (nI 8), .int (nI 3), .int (nI n3)])), (a 13, .inl (tA 0, 40, .inl (nF c3))), (a 5, .inr (2, [.ref (a 14), .int (nI 5), .int (nI 4), .int (nI n4)])), (a 14, .inl (tA 0, 40, .inl (nF c4))), (a 6, .inr (2, [.ref (a 15), .int (nI 8), .int (nI 2), .int (nI n5)])), (a 15, .inl (tA 0, 40, .inl (nF c5))), (a 7, .inl (tA 0, 5, .inl (nF hs))), (a 8, .inl (tA 0, 5, .inl (nF wf))), (a 9, .inl (tA 0, 40, .inl (nF wt)))] H := hP
        have hD : va_D A [(d 0, .inr (4, [.ref (d 1), .ref (d 2), .ref (d 3), .int (nI ru)])), (d 1, .inl (tA 0, 8, .inl (nF F3))), (d 2, .inl (tA 0, 8, .inl (nF sy))), (d 3, .inl (tA 0, 8, .inl (nF nd))), (a 0, .inr (0, [.ref (a 1), .ref (a 2), .ref (a 3), .ref (a 4), .ref (a 5), .ref (a 6), .ref (a 7), .ref (a 8), .ref (a 9)])), (a 1, .inr (2, [.ref (a 10), .int (nI 8), .int (nI 3), .int (nI n0)])), (a 10, .inl (tA 0, 40, .inl (nF c0))), (a 2, .inr (2, [.ref (a 11), .int (nI 10), .int (nI 4), .int (nI n1)])), (a 11, .inl (tA 0, 40, .inl (nF c1))), (a 3, .inr (2, [.ref (a 12), .int (nI 10), .int (nI 3), .int (nI n2)])), (a 12, .inl (tA 0, 40, .inl (nF c2))), (a 4, .inr (2, [.ref (a 13), .int (nI 8), .int (nI 3), .int (nI n3)])), (a 13, .inl (tA 0, 40, .inl (nF c3))), (a 5, .inr (2, [.ref (a 14), .int (nI 5), .int (nI 4), .int (nI n4)])), (a 14, .inl (tA 0, 40, .inl (nF c4))), (a 6, .inr (2, [.ref (a 15), .int (nI 8), .int (nI 2), .int (nI n5)])), (a 15, .inl (tA 0, 40, .inl (nF c5))), (a 7, .inl (tA 0, 5, .inl (nF hs))), (a 8, .inl (tA 0, 5, .inl (nF wf))), (a 9, .inl (tA 0, 40, .inl (nF wt)))] := hD
        have hq : q ≤ n3 ∧ cc < 2 := hq
        have hrd : (F3, cc) = rdW c3 q (F2, 0) := hrd
        have hok3 : okF F3 := hok3
        refine lv_iload hx hb dX6_weigh_54 (lv_at hl 0 rfl) ?_
        refine lv_aload_n hx hb dX6_weigh_56 rfl (lv_at hl 4 rfl) ?_
        refine va_getN (D := G) (ci := 0) (C := RX0) (T := TX0) (N := 9) hx hb hts iX0 hown hKK.1 hP 4 rfl rfl 3 (by decide) n29 (fun _ h9 => h9) rfl dX6_weigh_57 ?_
        refine roI hP hD hS hA [11, 12] rfl (runV (As := []) (rest := [.int (nI q)]) (isC := [11, 12]) ⟨hx, hb, hml, hown, hts⟩ hKK hP hD rfl (by decide) (c_X4_size l G tA (a 4) (a 13) 8 3 n3 c3 _) (cwV 0 hts gX6_weigh_X4_size rfl rfl rfl (by decide +kernel) ⟨Nat.le_of_ble_eq_true rfl, Nat.le_of_ble_eq_true rfl⟩) rfl rfl rfl rfl hl.1 rfl (lv_room (Nat.le_of_ble_eq_true rfl)) dX6_weigh_60 ⟨Nat.le_of_ble_eq_true rfl, Nat.le_of_ble_eq_true rfl⟩) (fun _ => rfl) (fun r_7 u_8 H locs q_9 hP hS => ?_)
        subst q_9
        refine nv_icmp_ge (tgt := 139) (by omega) (by omega) hx hb dX6_weigh_63 (by decide) (fun c_10 => ?_) (fun c_10 => ?_)
        · refine lv_iinc (v := (nI (u + 1))) (lv' := [(4, .int (nI (u + 1))), (5, .int (nI q)), (3, .int (nI cc)), (0, .ref (d 0)), (1, .ref (a 0)), (2, .int (nI set9))]) hx hb dX6_weigh_139 hl (k := 2) rfl (nI_add u 1) (by decide) rfl (fun ls hl => ?_)
          refine lv_goto (tgt := 38) hx hb dX6_weigh_142 (by decide) ?_
          exact ih_3 (u + 1, cc, F3) (show 8 - (u + 1) < 8 - u from by omega) ⟨(show (u + 1) ≤ 8 ∧ cc < 2 from ⟨by omega, by omega⟩), (show runW n3 c3 (8 - (u + 1)) F3 cc = weighS n3 c3 F set9 from by rw [← hrun, show 8 - u = (8 - (u + 1)) + 1 from (by omega), runW_s (F2 := F3) (c2 := cc) (by omega) (by rw [← show q = n3 from (by omega)]; exact hrd)]), (show okF F3 from hok3)⟩ _ _ _ (lv_sub hl [0, 2, 3, 4, 5] rfl) hP hD hS
        · have hv := hv3 q (by omega)
          have hbF3 := hok3.2
          have hsl := sumW_le (c3 := c3) (q := q) hok3 (by omega) (by omega)
          refine lv_aload_n hx hb dX6_weigh_66 rfl (lv_at hl 4 rfl) ?_
          refine va_getN (D := G) (ci := 0) (C := RX0) (T := TX0) (N := 9) hx hb hts iX0 hown hKK.1 hP 4 rfl rfl 3 (by decide) n29 (fun _ h9 => h9) rfl dX6_weigh_67 ?_
          refine lv_iload hx hb dX6_weigh_70 (lv_at hl 0 rfl) ?_
          refine lv_iconst (v := nI 0) hx hb dX6_weigh_72 (by decide) ?_
          refine roI hP hD hS hA [11, 12] rfl (runV (As := [.int (nI q), .int (nI 0)]) (rest := []) (isC := [11, 12]) ⟨hx, hb, hml, hown, hts⟩ hKK hP hD rfl (by decide) (c_X4_at_in l G tA (a 4) (a 13) 8 3 n3 c3 q 0 (by omega) (by omega) (by omega) (by omega) (hb3) _) (cwV 2 hts gX6_weigh_X4_at rfl rfl rfl (by decide +kernel) ⟨Nat.le_of_ble_eq_true rfl, Nat.le_of_ble_eq_true rfl⟩) rfl rfl rfl rfl hl.1 rfl (lv_room (Nat.le_of_ble_eq_true rfl)) dX6_weigh_73 ⟨Nat.le_of_ble_eq_true rfl, Nat.le_of_ble_eq_true rfl⟩) (fun _ => rfl) (fun r_11 u_12 H locs q_13 hP hS => ?_)
          obtain ⟨rfl, e_14⟩ := q_13
          have e_14 : c3 (q * 4 + 0) < 1048576 := e_14
          refine lv_istore (lv' := [(6, .int (nI (c3 (q * 4 + 0)))), (5, .int (nI q)), (3, .int (nI cc)), (4, .int (nI u)), (0, .ref (d 0)), (1, .ref (a 0)), (2, .int (nI set9))]) hx hb dX6_weigh_76 hl (by decide) rfl (fun ls hl => ?_)
          refine lv_aload_n hx hb dX6_weigh_78 rfl (lv_at hl 4 rfl) ?_
          refine lv_aload_n hx hb dX6_weigh_79 rfl (lv_at hl 5 rfl) ?_
          refine lv_iload hx hb dX6_weigh_80 (lv_at hl 1 rfl) ?_
          refine roI hP hD hS hA [0, 1, 2, 3, 4, 5, 6, 7, 8, 9, 10, 11, 12, 13, 14, 15, 16, 17, 18, 19] rfl (runV (As := [.ref (a 0), .int (nI q)]) (rest := []) (isC := [0, 1, 2, 3, 4, 5, 6, 7, 8, 9, 10, 11, 12, 13, 14, 15, 16, 17, 18, 19]) ⟨hx, hb, hml, hown, hts⟩ hKK hP hD rfl (by decide) (c_X6_fewestBy l G tA d F3 sy nd ru a n0 c0 n1 c1 n2 c2 n3 c3 n4 c4 n5 c5 hs wf wt q (hCW) (hbF3) (by first | assumption | omega) _) (cwV 2 hts gX6_weigh_X6_fewestBy rfl rfl rfl (by decide +kernel) ⟨Nat.le_of_ble_eq_true rfl, Nat.le_of_ble_eq_true rfl⟩) rfl rfl rfl rfl hl.1 rfl (lv_room (Nat.le_of_ble_eq_true rfl)) dX6_weigh_82 ⟨Nat.le_of_ble_eq_true rfl, Nat.le_of_ble_eq_true rfl⟩) (fun _ => rfl) (fun r_15 u_16 H locs q_17 hP hS => ?_)
          subst q_17
          refine lv_istore (lv' := [(7, .int (nI (sumW F3 c3 q))), (6, .int (nI (c3 (q * 4 + 0)))), (5, .int (nI q)), (3, .int (nI cc)), (4, .int (nI u)), (0, .ref (d 0)), (1, .ref (a 0)), (2, .int (nI set9))]) hx hb dX6_weigh_85 hl (by decide) rfl (fun ls hl => ?_)
          refine lv_iload hx hb dX6_weigh_87 (lv_at hl 0 rfl) ?_
          refine nv_if_le (tgt := 133) (by omega) hx hb dX6_weigh_89 (by decide) (fun c_18 => ?_) (fun c_18 => ?_)
          · refine lv_iinc (v := (nI (q + 1))) (lv' := [(5, .int (nI (q + 1))), (7, .int (nI (sumW F3 c3 q))), (6, .int (nI (c3 (q * 4 + 0)))), (3, .int (nI cc)), (4, .int (nI u)), (0, .ref (d 0)), (1, .ref (a 0)), (2, .int (nI set9))]) hx hb dX6_weigh_133 hl (k := 2) rfl (nI_add q 1) (by decide) rfl (fun ls hl => ?_)
            refine lv_goto (tgt := 54) hx hb dX6_weigh_136 (by decide) ?_
            exact ih_6 (q + 1, cc, F3) (show n3 - (q + 1) < n3 - q from by omega) ⟨(show (q + 1) ≤ n3 ∧ cc < 2 from ⟨by omega, by omega⟩), (show (F3, cc) = rdW c3 (q + 1) (F2, 0) from by first | (exfalso; omega) | exact rdW_1 hrd ⟨by omega, by omega⟩ | exact rdW_2 hrd (fun z => by (rcases z with ⟨z1, z2⟩); omega)), (show okF F3 from by first | exact hok3 | (exfalso; omega) | exact okF_step hok3 (by omega) (by omega) (by omega) ⟨by omega, by omega⟩)⟩ _ _ _ (lv_sub hl [0, 3, 4, 5, 6, 7] rfl) hP hD hS
          · refine lv_iload hx hb dX6_weigh_92 (lv_at hl 1 rfl) ?_
            refine roI hP hD hS hA [] rfl (runS (As := [.int (nI (c3 (q * 4 + 0)))]) (rest := []) (isC := []) ⟨hx, hb, hml, hown, hts⟩ hKK hP hD rfl (by decide) (c_X6_isTerm l G tA (c3 (q * 4 + 0)) (by first | assumption | omega) _) (va_cwS 1 hts gX6_weigh_X6_isTerm rfl rfl rfl (by decide +kernel) ⟨Nat.le_of_ble_eq_true rfl, Nat.le_of_ble_eq_true rfl⟩) rfl rfl hl.1 rfl (lv_room (Nat.le_of_ble_eq_true rfl)) dX6_weigh_94 ⟨Nat.le_of_ble_eq_true rfl, Nat.le_of_ble_eq_true rfl⟩) (fun _ => rfl) (fun r_19 u_20 H locs q_21 hP hS => ?_)
            rcases q_21 with ⟨rfl, p_22⟩ | ⟨rfl, p_22⟩
            · have p_22 : (c3 (q * 4 + 0)) < 8 := p_22
              refine nv_if_eq (tgt := 133) (by omega) hx hb dX6_weigh_97 (by decide) (fun h => absurd h (by omega)) (fun _ => ?_)
              refine lv_aload_n hx hb dX6_weigh_100 rfl (lv_at hl 5 rfl) ?_
              refine va_get (D := G) (ci := 4) (C := RX6) (T := TX6) (N := 4) hx hb hts iX6 hown hKK.1 hP 0 rfl rfl 0 (by decide) f9 (fun _ h9 => h9) rfl dX6_weigh_101 ?_
              refine lv_iload hx hb dX6_weigh_104 (lv_at hl 1 rfl) ?_
              refine nv_iald (i := c3 (q * 4 + 0)) hx hb hKK.1 hP 1 0 rfl rfl (by omega) (by decide) dX6_weigh_106 ?_
              have b_24 := hbF3 (c3 (q * 4 + 0))
              refine nv_if_eq (tgt := 122) (by omega) hx hb dX6_weigh_107 (by decide) (fun c_25 => ?_) (fun c_25 => ?_)
              · refine lv_aload_n hx hb dX6_weigh_122 rfl (lv_at hl 5 rfl) ?_
                refine va_get (D := G) (ci := 4) (C := RX6) (T := TX6) (N := 4) hx hb hts iX6 hown hKK.1 hP 0 rfl rfl 0 (by decide) f9 (fun _ h9 => h9) rfl dX6_weigh_123 ?_
                refine lv_iload hx hb dX6_weigh_126 (lv_at hl 1 rfl) ?_
                refine lv_iload hx hb dX6_weigh_128 (lv_at hl 0 rfl) ?_
                refine nv_iast (i := c3 (q * 4 + 0)) hx hb hKK.1 hP hD hS 1 0 rfl rfl (by omega) (by decide) dX6_weigh_130 [(d 0, .inr (4, [.ref (d 1), .ref (d 2), .ref (d 3), .int (nI ru)])), (d 1, .inl (tA 0, 8, .inl (nF (updN F3 (c3 (q * 4 + 0)) (sumW F3 c3 q))))), (d 2, .inl (tA 0, 8, .inl (nF sy))), (d 3, .inl (tA 0, 8, .inl (nF nd))), (a 0, .inr (0, [.ref (a 1), .ref (a 2), .ref (a 3), .ref (a 4), .ref (a 5), .ref (a 6), .ref (a 7), .ref (a 8), .ref (a 9)])), (a 1, .inr (2, [.ref (a 10), .int (nI 8), .int (nI 3), .int (nI n0)])), (a 10, .inl (tA 0, 40, .inl (nF c0))), (a 2, .inr (2, [.ref (a 11), .int (nI 10), .int (nI 4), .int (nI n1)])), (a 11, .inl (tA 0, 40, .inl (nF c1))), (a 3, .inr (2, [.ref (a 12), .int (nI 10), .int (nI 3), .int (nI n2)])), (a 12, .inl (tA 0, 40, .inl (nF c2))), (a 4, .inr (2, [.ref (a 13), .int (nI 8), .int (nI 3), .int (nI n3)])), (a 13, .inl (tA 0, 40, .inl (nF c3))), (a 5, .inr (2, [.ref (a 14), .int (nI 5), .int (nI 4), .int (nI n4)])), (a 14, .inl (tA 0, 40, .inl (nF c4))), (a 6, .inr (2, [.ref (a 15), .int (nI 8), .int (nI 2), .int (nI n5)])), (a 15, .inl (tA 0, 40, .inl (nF c5))), (a 7, .inl (tA 0, 5, .inl (nF hs))), (a 8, .inl (tA 0, 5, .inl (nF wf))), (a 9, .inl (tA 0, 40, .inl (nF wt)))] rfl (fun H locs hP hD hS => ?_)
                have B_26 := updN_lt hbF3 (c3 (q * 4 + 0)) (show sumW F3 c3 q < 1048576 from by omega)
                refine lv_iconst (v := nI 1) hx hb dX6_weigh_131 (by decide) ?_
                refine lv_istore_n (lv' := [(3, .int (nI 1)), (7, .int (nI (sumW F3 c3 q))), (6, .int (nI (c3 (q * 4 + 0)))), (5, .int (nI q)), (4, .int (nI u)), (0, .ref (d 0)), (1, .ref (a 0)), (2, .int (nI set9))]) hx hb dX6_weigh_132 rfl hl (by decide) rfl (fun ls hl => ?_)
                refine lv_iinc (v := (nI (q + 1))) (lv' := [(5, .int (nI (q + 1))), (3, .int (nI 1)), (7, .int (nI (sumW F3 c3 q))), (6, .int (nI (c3 (q * 4 + 0)))), (4, .int (nI u)), (0, .ref (d 0)), (1, .ref (a 0)), (2, .int (nI set9))]) hx hb dX6_weigh_133 hl (k := 3) rfl (nI_add q 1) (by decide) rfl (fun ls hl => ?_)
                refine lv_goto (tgt := 54) hx hb dX6_weigh_136 (by decide) ?_
                exact ih_6 (q + 1, 1, updN F3 (c3 (q * 4 + 0)) (sumW F3 c3 q)) (show n3 - (q + 1) < n3 - q from by omega) ⟨(show (q + 1) ≤ n3 ∧ 1 < 2 from ⟨by omega, by omega⟩), (show ((updN F3 (c3 (q * 4 + 0)) (sumW F3 c3 q)), 1) = rdW c3 (q + 1) (F2, 0) from by first | (exfalso; omega) | exact rdW_1 hrd ⟨by omega, by omega⟩ | exact rdW_2 hrd (fun z => by (rcases z with ⟨z1, z2⟩); omega)), (show okF (updN F3 (c3 (q * 4 + 0)) (sumW F3 c3 q)) from by first | exact hok3 | (exfalso; omega) | exact okF_step hok3 (by omega) (by omega) (by omega) ⟨by omega, by omega⟩)⟩ _ _ _ (lv_sub hl [0, 1, 4, 5, 6, 7] rfl) hP hD hS
              · refine lv_iload hx hb dX6_weigh_110 (lv_at hl 0 rfl) ?_
                refine lv_aload_n hx hb dX6_weigh_112 rfl (lv_at hl 5 rfl) ?_
                refine va_get (D := G) (ci := 4) (C := RX6) (T := TX6) (N := 4) hx hb hts iX6 hown hKK.1 hP 0 rfl rfl 0 (by decide) f9 (fun _ h9 => h9) rfl dX6_weigh_113 ?_
                refine lv_iload hx hb dX6_weigh_116 (lv_at hl 1 rfl) ?_
                refine nv_iald (i := c3 (q * 4 + 0)) hx hb hKK.1 hP 1 0 rfl rfl (by omega) (by decide) dX6_weigh_118 ?_
                have b_27 := hbF3 (c3 (q * 4 + 0))
                refine nv_icmp_ge (tgt := 133) (by omega) (by omega) hx hb dX6_weigh_119 (by decide) (fun c_28 => ?_) (fun c_28 => ?_)
                · refine lv_iinc (v := (nI (q + 1))) (lv' := [(5, .int (nI (q + 1))), (7, .int (nI (sumW F3 c3 q))), (6, .int (nI (c3 (q * 4 + 0)))), (3, .int (nI cc)), (4, .int (nI u)), (0, .ref (d 0)), (1, .ref (a 0)), (2, .int (nI set9))]) hx hb dX6_weigh_133 hl (k := 2) rfl (nI_add q 1) (by decide) rfl (fun ls hl => ?_)
                  refine lv_goto (tgt := 54) hx hb dX6_weigh_136 (by decide) ?_
                  exact ih_6 (q + 1, cc, F3) (show n3 - (q + 1) < n3 - q from by omega) ⟨(show (q + 1) ≤ n3 ∧ cc < 2 from ⟨by omega, by omega⟩), (show (F3, cc) = rdW c3 (q + 1) (F2, 0) from by first | (exfalso; omega) | exact rdW_1 hrd ⟨by omega, by omega⟩ | exact rdW_2 hrd (fun z => by (rcases z with ⟨z1, z2⟩); omega)), (show okF F3 from by first | exact hok3 | (exfalso; omega) | exact okF_step hok3 (by omega) (by omega) (by omega) ⟨by omega, by omega⟩)⟩ _ _ _ (lv_sub hl [0, 3, 4, 5, 6, 7] rfl) hP hD hS
                · refine lv_aload_n hx hb dX6_weigh_122 rfl (lv_at hl 5 rfl) ?_
                  refine va_get (D := G) (ci := 4) (C := RX6) (T := TX6) (N := 4) hx hb hts iX6 hown hKK.1 hP 0 rfl rfl 0 (by decide) f9 (fun _ h9 => h9) rfl dX6_weigh_123 ?_
                  refine lv_iload hx hb dX6_weigh_126 (lv_at hl 1 rfl) ?_
                  refine lv_iload hx hb dX6_weigh_128 (lv_at hl 0 rfl) ?_
                  refine nv_iast (i := c3 (q * 4 + 0)) hx hb hKK.1 hP hD hS 1 0 rfl rfl (by omega) (by decide) dX6_weigh_130 [(d 0, .inr (4, [.ref (d 1), .ref (d 2), .ref (d 3), .int (nI ru)])), (d 1, .inl (tA 0, 8, .inl (nF (updN F3 (c3 (q * 4 + 0)) (sumW F3 c3 q))))), (d 2, .inl (tA 0, 8, .inl (nF sy))), (d 3, .inl (tA 0, 8, .inl (nF nd))), (a 0, .inr (0, [.ref (a 1), .ref (a 2), .ref (a 3), .ref (a 4), .ref (a 5), .ref (a 6), .ref (a 7), .ref (a 8), .ref (a 9)])), (a 1, .inr (2, [.ref (a 10), .int (nI 8), .int (nI 3), .int (nI n0)])), (a 10, .inl (tA 0, 40, .inl (nF c0))), (a 2, .inr (2, [.ref (a 11), .int (nI 10), .int (nI 4), .int (nI n1)])), (a 11, .inl (tA 0, 40, .inl (nF c1))), (a 3, .inr (2, [.ref (a 12), .int (nI 10), .int (nI 3), .int (nI n2)])), (a 12, .inl (tA 0, 40, .inl (nF c2))), (a 4, .inr (2, [.ref (a 13), .int (nI 8), .int (nI 3), .int (nI n3)])), (a 13, .inl (tA 0, 40, .inl (nF c3))), (a 5, .inr (2, [.ref (a 14), .int (nI 5), .int (nI 4), .int (nI n4)])), (a 14, .inl (tA 0, 40, .inl (nF c4))), (a 6, .inr (2, [.ref (a 15), .int (nI 8), .int (nI 2), .int (nI n5)])), (a 15, .inl (tA 0, 40, .inl (nF c5))), (a 7, .inl (tA 0, 5, .inl (nF hs))), (a 8, .inl (tA 0, 5, .inl (nF wf))), (a 9, .inl (tA 0, 40, .inl (nF wt)))] rfl (fun H locs hP hD hS => ?_)
                  have B_29 := updN_lt hbF3 (c3 (q * 4 + 0)) (show sumW F3 c3 q < 1048576 from by omega)
                  refine lv_iconst (v := nI 1) hx hb dX6_weigh_131 (by decide) ?_
                  refine lv_istore_n (lv' := [(3, .int (nI 1)), (7, .int (nI (sumW F3 c3 q))), (6, .int (nI (c3 (q * 4 + 0)))), (5, .int (nI q)), (4, .int (nI u)), (0, .ref (d 0)), (1, .ref (a 0)), (2, .int (nI set9))]) hx hb dX6_weigh_132 rfl hl (by decide) rfl (fun ls hl => ?_)
                  refine lv_iinc (v := (nI (q + 1))) (lv' := [(5, .int (nI (q + 1))), (3, .int (nI 1)), (7, .int (nI (sumW F3 c3 q))), (6, .int (nI (c3 (q * 4 + 0)))), (4, .int (nI u)), (0, .ref (d 0)), (1, .ref (a 0)), (2, .int (nI set9))]) hx hb dX6_weigh_133 hl (k := 3) rfl (nI_add q 1) (by decide) rfl (fun ls hl => ?_)
                  refine lv_goto (tgt := 54) hx hb dX6_weigh_136 (by decide) ?_
                  exact ih_6 (q + 1, 1, updN F3 (c3 (q * 4 + 0)) (sumW F3 c3 q)) (show n3 - (q + 1) < n3 - q from by omega) ⟨(show (q + 1) ≤ n3 ∧ 1 < 2 from ⟨by omega, by omega⟩), (show ((updN F3 (c3 (q * 4 + 0)) (sumW F3 c3 q)), 1) = rdW c3 (q + 1) (F2, 0) from by first | (exfalso; omega) | exact rdW_1 hrd ⟨by omega, by omega⟩ | exact rdW_2 hrd (fun z => by (rcases z with ⟨z1, z2⟩); omega)), (show okF (updN F3 (c3 (q * 4 + 0)) (sumW F3 c3 q)) from by first | exact hok3 | (exfalso; omega) | exact okF_step hok3 (by omega) (by omega) (by omega) ⟨by omega, by omega⟩)⟩ _ _ _ (lv_sub hl [0, 1, 4, 5, 6, 7] rfl) hP hD hS
            · have p_22 : ¬ ((c3 (q * 4 + 0)) < 8) := p_22
              refine nv_if_eq (tgt := 133) (by omega) hx hb dX6_weigh_97 (by decide) (fun _ => ?_) (fun h => absurd h (by omega))
              refine lv_iinc (v := (nI (q + 1))) (lv' := [(5, .int (nI (q + 1))), (7, .int (nI (sumW F3 c3 q))), (6, .int (nI (c3 (q * 4 + 0)))), (3, .int (nI cc)), (4, .int (nI u)), (0, .ref (d 0)), (1, .ref (a 0)), (2, .int (nI set9))]) hx hb dX6_weigh_133 hl (k := 2) rfl (nI_add q 1) (by decide) rfl (fun ls hl => ?_)
              refine lv_goto (tgt := 54) hx hb dX6_weigh_136 (by decide) ?_
              exact ih_6 (q + 1, cc, F3) (show n3 - (q + 1) < n3 - q from by omega) ⟨(show (q + 1) ≤ n3 ∧ cc < 2 from ⟨by omega, by omega⟩), (show (F3, cc) = rdW c3 (q + 1) (F2, 0) from by first | (exfalso; omega) | exact rdW_1 hrd ⟨by omega, by omega⟩ | exact rdW_2 hrd (fun z => by (rcases z with ⟨z1, z2⟩); omega)), (show okF F3 from by first | exact hok3 | (exfalso; omega) | exact okF_step hok3 (by omega) (by omega) (by omega) ⟨by omega, by omega⟩)⟩ _ _ _ (lv_sub hl [0, 3, 4, 5, 6, 7] rfl) hP hD hS
  · refine lv_aload_n hx hb dX6_weigh_8 rfl (lv_at hl 1 rfl) ?_
    refine va_get (D := G) (ci := 4) (C := RX6) (T := TX6) (N := 4) hx hb hts iX6 hown hKK.1 hP 0 rfl rfl 0 (by decide) f9 (fun _ h9 => h9) rfl dX6_weigh_9 ?_
    refine lv_iload_n hx hb dX6_weigh_12 rfl (lv_at hl 0 rfl) ?_
    refine lv_iload_n hx hb dX6_weigh_13 rfl (lv_at hl 3 rfl) ?_
    refine lv_iload_n hx hb dX6_weigh_14 rfl (lv_at hl 0 rfl) ?_
    refine roI hP hD hS hA [] rfl (runSN (As := [.int (nI set9), .int (nI t)]) (rest := [.int (nI t), .ref (d 1)]) (isC := []) ⟨hx, hb, hml, hown, hts⟩ hKK hP hD rfl (by decide) (c_X8_hasBit l G tA set9 t (by first | assumption | omega) (by first | assumption | omega) _) ⟨va_cnB 2 hts gX6_weigh_X8_hasBit_n25 rfl rfl rfl (va_Nw.of rfl n25) (hts (.initialized RX8) (List.mem_of_getElem? (i := 3) rfl)) (by decide +kernel) ⟨Nat.le_of_ble_eq_true rfl, Nat.le_of_ble_eq_true rfl⟩, (hts (Cond.static yX8_hasBit) (List.mem_of_getElem? (i := 2) rfl)), trivial⟩ rfl rfl hl.1 rfl (lv_room (Nat.le_of_ble_eq_true rfl)) dX6_weigh_15 ⟨Nat.le_of_ble_eq_true rfl, Nat.le_of_ble_eq_true rfl⟩) (fun _ => rfl) (fun r_31 u_32 H locs q_33 hP hS => ?_)
    rcases q_33 with ⟨rfl, p_34⟩ | ⟨rfl, p_34⟩
    · have p_34 : t < 32 ∧ set9 / 2 ^ t % 2 = 1 := p_34
      refine nv_if_eq (tgt := 25) (by omega) hx hb dX6_weigh_18 (by decide) (fun h => absurd h (by omega)) (fun _ => ?_)
      refine lv_iconst (v := nI 1) hx hb dX6_weigh_21 (by decide) ?_
      refine lv_goto (tgt := 26) hx hb dX6_weigh_22 (by decide) ?_
      refine nv_iast (i := t) hx hb hKK.1 hP hD hS 1 0 rfl rfl (by omega) (by decide) dX6_weigh_26 [(d 0, .inr (4, [.ref (d 1), .ref (d 2), .ref (d 3), .int (nI ru)])), (d 1, .inl (tA 0, 8, .inl (nF (updN F1 t 1)))), (d 2, .inl (tA 0, 8, .inl (nF sy))), (d 3, .inl (tA 0, 8, .inl (nF nd))), (a 0, .inr (0, [.ref (a 1), .ref (a 2), .ref (a 3), .ref (a 4), .ref (a 5), .ref (a 6), .ref (a 7), .ref (a 8), .ref (a 9)])), (a 1, .inr (2, [.ref (a 10), .int (nI 8), .int (nI 3), .int (nI n0)])), (a 10, .inl (tA 0, 40, .inl (nF c0))), (a 2, .inr (2, [.ref (a 11), .int (nI 10), .int (nI 4), .int (nI n1)])), (a 11, .inl (tA 0, 40, .inl (nF c1))), (a 3, .inr (2, [.ref (a 12), .int (nI 10), .int (nI 3), .int (nI n2)])), (a 12, .inl (tA 0, 40, .inl (nF c2))), (a 4, .inr (2, [.ref (a 13), .int (nI 8), .int (nI 3), .int (nI n3)])), (a 13, .inl (tA 0, 40, .inl (nF c3))), (a 5, .inr (2, [.ref (a 14), .int (nI 5), .int (nI 4), .int (nI n4)])), (a 14, .inl (tA 0, 40, .inl (nF c4))), (a 6, .inr (2, [.ref (a 15), .int (nI 8), .int (nI 2), .int (nI n5)])), (a 15, .inl (tA 0, 40, .inl (nF c5))), (a 7, .inl (tA 0, 5, .inl (nF hs))), (a 8, .inl (tA 0, 5, .inl (nF wf))), (a 9, .inl (tA 0, 40, .inl (nF wt)))] rfl (fun H locs hP hD hS => ?_)
      refine lv_iinc (v := (nI (t + 1))) (lv' := [(3, .int (nI (t + 1))), (0, .ref (d 0)), (1, .ref (a 0)), (2, .int (nI set9))]) hx hb dX6_weigh_27 hl (k := 0) rfl (nI_add t 1) (by decide) rfl (fun ls hl => ?_)
      refine lv_goto (tgt := 2) hx hb dX6_weigh_30 (by decide) ?_
      exact ih_1 (t + 1, updN F1 t 1) (show 8 - (t + 1) < 8 - t from by omega) ⟨(show (t + 1) ≤ 8 from by omega), (show (updN F1 t 1) = initW F set9 (t + 1) from by rw [initW_s, hF1]; first | rw [if_pos (by assumption)] | rw [if_neg (by assumption)])⟩ _ _ _ (lv_sub hl [0, 1, 2, 3] rfl) hP hD hS
    · have p_34 : ¬ (t < 32 ∧ set9 / 2 ^ t % 2 = 1) := p_34
      refine nv_if_eq (tgt := 25) (by omega) hx hb dX6_weigh_18 (by decide) (fun _ => ?_) (fun h => absurd h (by omega))
      refine lv_iconst (v := nI 0) hx hb dX6_weigh_25 (by decide) ?_
      refine nv_iast (i := t) hx hb hKK.1 hP hD hS 1 0 rfl rfl (by omega) (by decide) dX6_weigh_26 [(d 0, .inr (4, [.ref (d 1), .ref (d 2), .ref (d 3), .int (nI ru)])), (d 1, .inl (tA 0, 8, .inl (nF (updN F1 t 0)))), (d 2, .inl (tA 0, 8, .inl (nF sy))), (d 3, .inl (tA 0, 8, .inl (nF nd))), (a 0, .inr (0, [.ref (a 1), .ref (a 2), .ref (a 3), .ref (a 4), .ref (a 5), .ref (a 6), .ref (a 7), .ref (a 8), .ref (a 9)])), (a 1, .inr (2, [.ref (a 10), .int (nI 8), .int (nI 3), .int (nI n0)])), (a 10, .inl (tA 0, 40, .inl (nF c0))), (a 2, .inr (2, [.ref (a 11), .int (nI 10), .int (nI 4), .int (nI n1)])), (a 11, .inl (tA 0, 40, .inl (nF c1))), (a 3, .inr (2, [.ref (a 12), .int (nI 10), .int (nI 3), .int (nI n2)])), (a 12, .inl (tA 0, 40, .inl (nF c2))), (a 4, .inr (2, [.ref (a 13), .int (nI 8), .int (nI 3), .int (nI n3)])), (a 13, .inl (tA 0, 40, .inl (nF c3))), (a 5, .inr (2, [.ref (a 14), .int (nI 5), .int (nI 4), .int (nI n4)])), (a 14, .inl (tA 0, 40, .inl (nF c4))), (a 6, .inr (2, [.ref (a 15), .int (nI 8), .int (nI 2), .int (nI n5)])), (a 15, .inl (tA 0, 40, .inl (nF c5))), (a 7, .inl (tA 0, 5, .inl (nF hs))), (a 8, .inl (tA 0, 5, .inl (nF wf))), (a 9, .inl (tA 0, 40, .inl (nF wt)))] rfl (fun H locs hP hD hS => ?_)
      refine lv_iinc (v := (nI (t + 1))) (lv' := [(3, .int (nI (t + 1))), (0, .ref (d 0)), (1, .ref (a 0)), (2, .int (nI set9))]) hx hb dX6_weigh_27 hl (k := 0) rfl (nI_add t 1) (by decide) rfl (fun ls hl => ?_)
      refine lv_goto (tgt := 2) hx hb dX6_weigh_30 (by decide) ?_
      exact ih_1 (t + 1, updN F1 t 0) (show 8 - (t + 1) < 8 - t from by omega) ⟨(show (t + 1) ≤ 8 from by omega), (show (updN F1 t 0) = initW F set9 (t + 1) from by rw [initW_s, hF1]; first | rw [if_pos (by assumption)] | rw [if_neg (by assumption)])⟩ _ _ _ (lv_sub hl [0, 1, 2, 3] rfl) hP hD hS

set_option maxHeartbeats 4000000 in
set_option maxRecDepth 100000 in
theorem c_X6_firstRule (l : Launch) (G : va_G) (tA : Nat → ClassId) (d : Nat → Nat) (F : Nat → Nat) (sy : Nat → Nat) (nd : Nat → Nat) (ru : Nat) (a : Nat → Nat) (n0 : Nat) (c0 : Nat → Nat) (n1 : Nat) (c1 : Nat → Nat) (n2 : Nat) (c2 : Nat → Nat) (n3 : Nat) (c3 : Nat → Nat) (n4 : Nat) (c4 : Nat → Nat) (n5 : Nat) (c5 : Nat → Nat) (hs : Nat → Nat) (wf : Nat → Nat) (wt : Nat → Nat) (t : Nat) (hCW : CW n0 c0 n1 c1 n2 c2 n3 c3 n4 c4 n5 c5 hs wf wt) (hbF : ∀ j, F j < 1048576) (ht : t < 8) : CtI l yX6_firstRule wsX6_firstRule ({ frames := 3, cells := 0, slots := 0, locals := 65 }) G tA [.ref (d 0), .ref (a 0), .int (nI t)] ([(d 0, .inr (4, [.ref (d 1), .ref (d 2), .ref (d 3), .int (nI ru)])), (d 1, .inl (tA 0, 8, .inl (nF F))), (d 2, .inl (tA 0, 8, .inl (nF sy))), (d 3, .inl (tA 0, 8, .inl (nF nd))), (a 0, .inr (0, [.ref (a 1), .ref (a 2), .ref (a 3), .ref (a 4), .ref (a 5), .ref (a 6), .ref (a 7), .ref (a 8), .ref (a 9)])), (a 1, .inr (2, [.ref (a 10), .int (nI 8), .int (nI 3), .int (nI n0)])), (a 10, .inl (tA 0, 40, .inl (nF c0))), (a 2, .inr (2, [.ref (a 11), .int (nI 10), .int (nI 4), .int (nI n1)])), (a 11, .inl (tA 0, 40, .inl (nF c1))), (a 3, .inr (2, [.ref (a 12), .int (nI 10), .int (nI 3), .int (nI n2)])), (a 12, .inl (tA 0, 40, .inl (nF c2))), (a 4, .inr (2, [.ref (a 13), .int (nI 8), .int (nI 3), .int (nI n3)])), (a 13, .inl (tA 0, 40, .inl (nF c3))), (a 5, .inr (2, [.ref (a 14), .int (nI 5), .int (nI 4), .int (nI n4)])), (a 14, .inl (tA 0, 40, .inl (nF c4))), (a 6, .inr (2, [.ref (a 15), .int (nI 8), .int (nI 2), .int (nI n5)])), (a 15, .inl (tA 0, 40, .inl (nF c5))), (a 7, .inl (tA 0, 5, .inl (nF hs))), (a 8, .inl (tA 0, 5, .inl (nF wf))), (a 9, .inl (tA 0, 40, .inl (nF wt)))]) (fun (r : Int32) (_ : Unit) => r = firstI (rulB F c3 t) n3 0) (fun (_ : Unit) => [(d 0, .inr (4, [.ref (d 1), .ref (d 2), .ref (d 3), .int (nI ru)])), (d 1, .inl (tA 0, 8, .inl (nF F))), (d 2, .inl (tA 0, 8, .inl (nF sy))), (d 3, .inl (tA 0, 8, .inl (nF nd))), (a 0, .inr (0, [.ref (a 1), .ref (a 2), .ref (a 3), .ref (a 4), .ref (a 5), .ref (a 6), .ref (a 7), .ref (a 8), .ref (a 9)])), (a 1, .inr (2, [.ref (a 10), .int (nI 8), .int (nI 3), .int (nI n0)])), (a 10, .inl (tA 0, 40, .inl (nF c0))), (a 2, .inr (2, [.ref (a 11), .int (nI 10), .int (nI 4), .int (nI n1)])), (a 11, .inl (tA 0, 40, .inl (nF c1))), (a 3, .inr (2, [.ref (a 12), .int (nI 10), .int (nI 3), .int (nI n2)])), (a 12, .inl (tA 0, 40, .inl (nF c2))), (a 4, .inr (2, [.ref (a 13), .int (nI 8), .int (nI 3), .int (nI n3)])), (a 13, .inl (tA 0, 40, .inl (nF c3))), (a 5, .inr (2, [.ref (a 14), .int (nI 5), .int (nI 4), .int (nI n4)])), (a 14, .inl (tA 0, 40, .inl (nF c4))), (a 6, .inr (2, [.ref (a 15), .int (nI 8), .int (nI 2), .int (nI n5)])), (a 15, .inl (tA 0, 40, .inl (nF c5))), (a 7, .inl (tA 0, 5, .inl (nF hs))), (a 8, .inl (tA 0, 5, .inl (nF wf))), (a 9, .inl (tA 0, 40, .inl (nF wt)))]) 0 0 := by
  refine enterI (cc := cX6_firstRule) (maxL := 4) (ret := (some .int)) (by decide) rfl (Nat.le_of_ble_eq_true rfl) ?_
  intro p0 e0 s m args below meth c0_ A ls hx hb hml hr hts hown hlocks hin hKK hA hP hD hl hS
  have hown : s.vm.findClass RX6 = some m.cls := hown
  have hl : lv_has ls 4 [(0, .ref (d 0)), (1, .ref (a 0)), (2, .int (nI t))] := hl
  have n29 : (Cond.fieldLinkNest "LentTerms$Talk" 29 "LentTerms$Counter" "rules" "LLentTerms$Rows;" "LentTerms").before args s = true := hKK.nest 9 rfl
  have iX0 : ∀ w ∈ wsX00, w ∈ wsX6_firstRule := by decide +kernel
  obtain ⟨⟨hn0, hn1, hn2, hn3, hn4, hn5⟩, ⟨hb0, hb1, hb2, hb3, hb4, hb5, hbh, hbw, hbt⟩, hv0, hv1, hv2, hv3, hv4, hv5, hv6, hv7⟩ := id hCW
  refine lv_iconst (v := nI 0) hx hb dX6_firstRule_0 (by decide) ?_
  refine lv_istore_n (lv' := [(3, .int (nI 0)), (0, .ref (d 0)), (1, .ref (a 0)), (2, .int (nI t))]) hx hb dX6_firstRule_1 rfl hl (by decide) rfl (fun ls hl => ?_)
  refine wloop (σ := (Nat)) (fun | q => n3 - q) (fun | q => (q ≤ n3) ∧ (∀ j, j < q → rulB F c3 t j = false)) (fun | q => [(3, .int (nI q)), (0, .ref (d 0)), (1, .ref (a 0)), (2, .int (nI t))]) (fun | q => [(d 0, .inr (4, [.ref (d 1), .ref (d 2), .ref (d 3), .int (nI ru)])), (d 1, .inl (tA 0, 8, .inl (nF F))), (d 2, .inl (tA 0, 8, .inl (nF sy))), (d 3, .inl (tA 0, 8, .inl (nF nd))), (a 0, .inr (0, [.ref (a 1), .ref (a 2), .ref (a 3), .ref (a 4), .ref (a 5), .ref (a 6), .ref (a 7), .ref (a 8), .ref (a 9)])), (a 1, .inr (2, [.ref (a 10), .int (nI 8), .int (nI 3), .int (nI n0)])), (a 10, .inl (tA 0, 40, .inl (nF c0))), (a 2, .inr (2, [.ref (a 11), .int (nI 10), .int (nI 4), .int (nI n1)])), (a 11, .inl (tA 0, 40, .inl (nF c1))), (a 3, .inr (2, [.ref (a 12), .int (nI 10), .int (nI 3), .int (nI n2)])), (a 12, .inl (tA 0, 40, .inl (nF c2))), (a 4, .inr (2, [.ref (a 13), .int (nI 8), .int (nI 3), .int (nI n3)])), (a 13, .inl (tA 0, 40, .inl (nF c3))), (a 5, .inr (2, [.ref (a 14), .int (nI 5), .int (nI 4), .int (nI n4)])), (a 14, .inl (tA 0, 40, .inl (nF c4))), (a 6, .inr (2, [.ref (a 15), .int (nI 8), .int (nI 2), .int (nI n5)])), (a 15, .inl (tA 0, 40, .inl (nF c5))), (a 7, .inl (tA 0, 5, .inl (nF hs))), (a 8, .inl (tA 0, 5, .inl (nF wf))), (a 9, .inl (tA 0, 40, .inl (nF wt)))]) 0 ⟨(show 0 ≤ n3 from by omega), (show ∀ j, j < 0 → rulB F c3 t j = false from by intro j z; omega)⟩ (lv_sub hl [0, 1, 2, 3] rfl) hP hD hS ?_
  rintro q ⟨hq, hno⟩ ih_1 ls H locs hl hP hD hS
  have hl : lv_has ls 4 [(3, .int (nI q)), (0, .ref (d 0)), (1, .ref (a 0)), (2, .int (nI t))] := hl
  have hP : va_P G vwCl [(d 0, .inr (4, [.ref (d 1), .ref (d 2), .ref (d 3), .int (nI ru)])), (d 1, .inl (tA 0, 8, .inl (nF F))), (d 2, .inl (tA 0, 8, .inl (nF sy))), (d 3, .inl (tA 0, 8, .inl (nF nd))), (a 0, .inr (0, [.ref (a 1), .ref (a 2), .ref (a 3), .ref (a 4), .ref (a 5), .ref (a 6), .ref (a 7), .ref (a 8), .ref (a 9)])), (a 1, .inr (2, [.ref (a 10), .int (nI 8), .int (nI 3), .int (nI n0)])), (a 10, .inl (tA 0, 40, .inl (nF c0))), (a 2, .inr (2, [.ref (a 11), .int (nI 10), .int (nI 4), .int (nI n1)])), (a 11, .inl (tA 0, 40, .inl (nF c1))), (a 3, .inr (2, [.ref (a 12), .int (nI 10), .int (nI 3), .int (nI n2)])), (a 12, .inl (tA 0, 40, .inl (nF c2))), (a 4, .inr (2, [.ref (a 13), .int (nI 8), .int (nI 3), .int (nI n3)])), (a 13, .inl (tA 0, 40, .inl (nF c3))), (a 5, .inr (2, [.ref (a 14), .int (nI 5), .int (nI 4), .int (nI n4)])), (a 14, .inl (tA 0, 40, .inl (nF c4))), (a 6, .inr (2, [.ref (a 15), .int (nI 8), .int (nI 2), .int (nI n5)])), (a 15, .inl (tA 0, 40, .inl (nF c5))), (a 7, .inl (tA 0, 5, .inl (nF hs))), (a 8, .inl (tA 0, 5, .inl (nF wf))), (a 9, .inl (tA 0, 40, .inl (nF wt)))] H := hP
  have hD : va_D A [(d 0, .inr (4, [.ref (d 1), .ref (d 2), .ref (d 3), .int (nI ru)])), (d 1, .inl (tA 0, 8, .inl (nF F))), (d 2, .inl (tA 0, 8, .inl (nF sy))), (d 3, .inl (tA 0, 8, .inl (nF nd))), (a 0, .inr (0, [.ref (a 1), .ref (a 2), .ref (a 3), .ref (a 4), .ref (a 5), .ref (a 6), .ref (a 7), .ref (a 8), .ref (a 9)])), (a 1, .inr (2, [.ref (a 10), .int (nI 8), .int (nI 3), .int (nI n0)])), (a 10, .inl (tA 0, 40, .inl (nF c0))), (a 2, .inr (2, [.ref (a 11), .int (nI 10), .int (nI 4), .int (nI n1)])), (a 11, .inl (tA 0, 40, .inl (nF c1))), (a 3, .inr (2, [.ref (a 12), .int (nI 10), .int (nI 3), .int (nI n2)])), (a 12, .inl (tA 0, 40, .inl (nF c2))), (a 4, .inr (2, [.ref (a 13), .int (nI 8), .int (nI 3), .int (nI n3)])), (a 13, .inl (tA 0, 40, .inl (nF c3))), (a 5, .inr (2, [.ref (a 14), .int (nI 5), .int (nI 4), .int (nI n4)])), (a 14, .inl (tA 0, 40, .inl (nF c4))), (a 6, .inr (2, [.ref (a 15), .int (nI 8), .int (nI 2), .int (nI n5)])), (a 15, .inl (tA 0, 40, .inl (nF c5))), (a 7, .inl (tA 0, 5, .inl (nF hs))), (a 8, .inl (tA 0, 5, .inl (nF wf))), (a 9, .inl (tA 0, 40, .inl (nF wt)))] := hD
  have hq : q ≤ n3 := hq
  have hno : ∀ j, j < q → rulB F c3 t j = false := hno
  refine lv_iload_n hx hb dX6_firstRule_2 rfl (lv_at hl 0 rfl) ?_
  refine lv_aload_n hx hb dX6_firstRule_3 rfl (lv_at hl 2 rfl) ?_
  refine va_getN (D := G) (ci := 0) (C := RX0) (T := TX0) (N := 9) hx hb hts iX0 hown hKK.1 hP 4 rfl rfl 3 (by decide) n29 (fun _ h9 => h9) rfl dX6_firstRule_4 ?_
  refine roI hP hD hS hA [11, 12] rfl (runV (As := []) (rest := [.int (nI q)]) (isC := [11, 12]) ⟨hx, hb, hml, hown, hts⟩ hKK hP hD rfl (by decide) (c_X4_size l G tA (a 4) (a 13) 8 3 n3 c3 _) (cwV 0 hts gX6_firstRule_X4_size rfl rfl rfl (by decide +kernel) ⟨Nat.le_of_ble_eq_true rfl, Nat.le_of_ble_eq_true rfl⟩) rfl rfl rfl rfl hl.1 rfl (lv_room (Nat.le_of_ble_eq_true rfl)) dX6_firstRule_7 ⟨Nat.le_of_ble_eq_true rfl, Nat.le_of_ble_eq_true rfl⟩) (fun _ => rfl) (fun r_2 u_3 H locs q_4 hP hS => ?_)
  subst q_4
  refine nv_icmp_ge (tgt := 48) (by omega) (by omega) hx hb dX6_firstRule_10 (by decide) (fun c_5 => ?_) (fun c_5 => ?_)
  · refine lv_iconst (v := (-1)) hx hb dX6_firstRule_48 (by decide) ?_
    exact retI hx hb hr hlocks hS hP hD () (rfl) ((firstI_no n3 0 (fun j _ z => hno j (by omega))).symm) dX6_firstRule_49
  · have hv := hv3 q (by omega)
    refine lv_aload_n hx hb dX6_firstRule_13 rfl (lv_at hl 2 rfl) ?_
    refine va_getN (D := G) (ci := 0) (C := RX0) (T := TX0) (N := 9) hx hb hts iX0 hown hKK.1 hP 4 rfl rfl 3 (by decide) n29 (fun _ h9 => h9) rfl dX6_firstRule_14 ?_
    refine lv_iload_n hx hb dX6_firstRule_17 rfl (lv_at hl 0 rfl) ?_
    refine lv_iconst (v := nI 0) hx hb dX6_firstRule_18 (by decide) ?_
    refine roI hP hD hS hA [11, 12] rfl (runV (As := [.int (nI q), .int (nI 0)]) (rest := []) (isC := [11, 12]) ⟨hx, hb, hml, hown, hts⟩ hKK hP hD rfl (by decide) (c_X4_at_in l G tA (a 4) (a 13) 8 3 n3 c3 q 0 (by omega) (by omega) (by omega) (by omega) (hb3) _) (cwV 2 hts gX6_firstRule_X4_at rfl rfl rfl (by decide +kernel) ⟨Nat.le_of_ble_eq_true rfl, Nat.le_of_ble_eq_true rfl⟩) rfl rfl rfl rfl hl.1 rfl (lv_room (Nat.le_of_ble_eq_true rfl)) dX6_firstRule_19 ⟨Nat.le_of_ble_eq_true rfl, Nat.le_of_ble_eq_true rfl⟩) (fun _ => rfl) (fun r_6 u_7 H locs q_8 hP hS => ?_)
    obtain ⟨rfl, e_9⟩ := q_8
    have e_9 : c3 (q * 4 + 0) < 1048576 := e_9
    refine lv_iload_n hx hb dX6_firstRule_22 rfl (lv_at hl 3 rfl) ?_
    refine nv_icmp_ne (tgt := 42) (by omega) (by omega) hx hb dX6_firstRule_23 (by decide) (fun c_10 => ?_) (fun c_10 => ?_)
    · refine lv_iinc (v := (nI (q + 1))) (lv' := [(3, .int (nI (q + 1))), (0, .ref (d 0)), (1, .ref (a 0)), (2, .int (nI t))]) hx hb dX6_firstRule_42 hl (k := 0) rfl (nI_add q 1) (by decide) rfl (fun ls hl => ?_)
      refine lv_goto (tgt := 2) hx hb dX6_firstRule_45 (by decide) ?_
      exact ih_1 (q + 1) (show n3 - (q + 1) < n3 - q from by omega) ⟨(show (q + 1) ≤ n3 from by omega), (show ∀ j, j < (q + 1) → rulB F c3 t j = false from by intro j z; rcases Nat.lt_succ_iff_lt_or_eq.mp z with z3 | z3; exact hno j z3; rw [z3]; exact decide_eq_false (by omega))⟩ _ _ _ (lv_sub hl [0, 1, 2, 3] rfl) hP hD hS
    · refine lv_aload_n hx hb dX6_firstRule_26 rfl (lv_at hl 1 rfl) ?_
      refine lv_aload_n hx hb dX6_firstRule_27 rfl (lv_at hl 2 rfl) ?_
      refine lv_iload_n hx hb dX6_firstRule_28 rfl (lv_at hl 0 rfl) ?_
      refine roI hP hD hS hA [0, 1, 2, 3, 4, 5, 6, 7, 8, 9, 10, 11, 12, 13, 14, 15, 16, 17, 18, 19] rfl (runV (As := [.ref (a 0), .int (nI q)]) (rest := []) (isC := [0, 1, 2, 3, 4, 5, 6, 7, 8, 9, 10, 11, 12, 13, 14, 15, 16, 17, 18, 19]) ⟨hx, hb, hml, hown, hts⟩ hKK hP hD rfl (by decide) (c_X6_fewestBy l G tA d F sy nd ru a n0 c0 n1 c1 n2 c2 n3 c3 n4 c4 n5 c5 hs wf wt q (hCW) (hbF) (by first | assumption | omega) _) (cwV 2 hts gX6_firstRule_X6_fewestBy rfl rfl rfl (by decide +kernel) ⟨Nat.le_of_ble_eq_true rfl, Nat.le_of_ble_eq_true rfl⟩) rfl rfl rfl rfl hl.1 rfl (lv_room (Nat.le_of_ble_eq_true rfl)) dX6_firstRule_29 ⟨Nat.le_of_ble_eq_true rfl, Nat.le_of_ble_eq_true rfl⟩) (fun _ => rfl) (fun r_11 u_12 H locs q_13 hP hS => ?_)
      subst q_13
      have hsw : sumW F c3 q < 2147483648 := by have h1 := hbF (c3 (q * 4 + 1)); have h2 := hbF (c3 (q * 4 + 2)); unfold sumW; split <;> omega
      refine lv_aload_n hx hb dX6_firstRule_32 rfl (lv_at hl 1 rfl) ?_
      refine lv_iload_n hx hb dX6_firstRule_33 rfl (lv_at hl 3 rfl) ?_
      refine roI hP hD hS hA [0, 1, 2, 3] rfl (runV (As := [.int (nI t)]) (rest := [.int (nI (sumW F c3 q))]) (isC := [0, 1, 2, 3]) ⟨hx, hb, hml, hown, hts⟩ hKK hP hD rfl (by decide) (c_X6_fewest l G tA d F sy nd ru t (by first | assumption | omega) _) (cwV 1 hts gX6_firstRule_X6_fewest rfl rfl rfl (by decide +kernel) ⟨Nat.le_of_ble_eq_true rfl, Nat.le_of_ble_eq_true rfl⟩) rfl rfl rfl rfl hl.1 rfl (lv_room (Nat.le_of_ble_eq_true rfl)) dX6_firstRule_34 ⟨Nat.le_of_ble_eq_true rfl, Nat.le_of_ble_eq_true rfl⟩) (fun _ => rfl) (fun r_14 u_15 H locs q_16 hP hS => ?_)
      subst q_16
      refine nv_top (y := F t) (congrArg nI (if_pos (by omega))) ?_
      have hft := hbF (t)
      refine nv_icmp_ne (tgt := 42) (by omega) (by omega) hx hb dX6_firstRule_37 (by decide) (fun c_17 => ?_) (fun c_17 => ?_)
      · refine lv_iinc (v := (nI (q + 1))) (lv' := [(3, .int (nI (q + 1))), (0, .ref (d 0)), (1, .ref (a 0)), (2, .int (nI t))]) hx hb dX6_firstRule_42 hl (k := 0) rfl (nI_add q 1) (by decide) rfl (fun ls hl => ?_)
        refine lv_goto (tgt := 2) hx hb dX6_firstRule_45 (by decide) ?_
        exact ih_1 (q + 1) (show n3 - (q + 1) < n3 - q from by omega) ⟨(show (q + 1) ≤ n3 from by omega), (show ∀ j, j < (q + 1) → rulB F c3 t j = false from by intro j z; rcases Nat.lt_succ_iff_lt_or_eq.mp z with z3 | z3; exact hno j z3; rw [z3]; exact decide_eq_false (by omega))⟩ _ _ _ (lv_sub hl [0, 1, 2, 3] rfl) hP hD hS
      · refine lv_iload_n hx hb dX6_firstRule_40 rfl (lv_at hl 0 rfl) ?_
        exact retI hx hb hr hlocks hS hP hD () (rfl) ((firstI_at n3 0 q (by omega) (by omega) (decide_eq_true (by omega)) (fun j _ z => hno j z)).symm) dX6_firstRule_41

set_option maxHeartbeats 4000000 in
set_option maxRecDepth 100000 in
theorem c_X6_placeOfRow (l : Launch) (G : va_G) (tA : Nat → ClassId) (d : Nat → Nat) (F : Nat → Nat) (sy : Nat → Nat) (nd : Nat → Nat) (ru : Nat) (a : Nat → Nat) (n0 : Nat) (c0 : Nat → Nat) (n1 : Nat) (c1 : Nat → Nat) (n2 : Nat) (c2 : Nat → Nat) (n3 : Nat) (c3 : Nat → Nat) (n4 : Nat) (c4 : Nat → Nat) (n5 : Nat) (c5 : Nat → Nat) (hs : Nat → Nat) (wf : Nat → Nat) (wt : Nat → Nat) (t0 : Nat) (i0 : Nat) (hCW : CW n0 c0 n1 c1 n2 c2 n3 c3 n4 c4 n5 c5 hs wf wt) (hbF : ∀ j, F j < 1048576) (ht0 : t0 < n0) (hi0 : i0 < 1048576) (hfx : fixW n0 n3 c3 F) : CtI l yX6_placeOfRow wsX6_placeOfRow ({ frames := 4, cells := 0, slots := 0, locals := 88 }) G tA [.ref (d 0), .ref (a 0), .int (nI t0), .int (nI i0)] ([(d 0, .inr (4, [.ref (d 1), .ref (d 2), .ref (d 3), .int (nI ru)])), (d 1, .inl (tA 0, 8, .inl (nF F))), (d 2, .inl (tA 0, 8, .inl (nF sy))), (d 3, .inl (tA 0, 8, .inl (nF nd))), (a 0, .inr (0, [.ref (a 1), .ref (a 2), .ref (a 3), .ref (a 4), .ref (a 5), .ref (a 6), .ref (a 7), .ref (a 8), .ref (a 9)])), (a 1, .inr (2, [.ref (a 10), .int (nI 8), .int (nI 3), .int (nI n0)])), (a 10, .inl (tA 0, 40, .inl (nF c0))), (a 2, .inr (2, [.ref (a 11), .int (nI 10), .int (nI 4), .int (nI n1)])), (a 11, .inl (tA 0, 40, .inl (nF c1))), (a 3, .inr (2, [.ref (a 12), .int (nI 10), .int (nI 3), .int (nI n2)])), (a 12, .inl (tA 0, 40, .inl (nF c2))), (a 4, .inr (2, [.ref (a 13), .int (nI 8), .int (nI 3), .int (nI n3)])), (a 13, .inl (tA 0, 40, .inl (nF c3))), (a 5, .inr (2, [.ref (a 14), .int (nI 5), .int (nI 4), .int (nI n4)])), (a 14, .inl (tA 0, 40, .inl (nF c4))), (a 6, .inr (2, [.ref (a 15), .int (nI 8), .int (nI 2), .int (nI n5)])), (a 15, .inl (tA 0, 40, .inl (nF c5))), (a 7, .inl (tA 0, 5, .inl (nF hs))), (a 8, .inl (tA 0, 5, .inl (nF wf))), (a 9, .inl (tA 0, 40, .inl (nF wt)))]) (fun (r : Int32) (_ : Unit) => r = nI (leafW n3 c3 F 8 t0 i0)) (fun (_ : Unit) => [(d 0, .inr (4, [.ref (d 1), .ref (d 2), .ref (d 3), .int (nI ru)])), (d 1, .inl (tA 0, 8, .inl (nF F))), (d 2, .inl (tA 0, 8, .inl (nF sy))), (d 3, .inl (tA 0, 8, .inl (nF nd))), (a 0, .inr (0, [.ref (a 1), .ref (a 2), .ref (a 3), .ref (a 4), .ref (a 5), .ref (a 6), .ref (a 7), .ref (a 8), .ref (a 9)])), (a 1, .inr (2, [.ref (a 10), .int (nI 8), .int (nI 3), .int (nI n0)])), (a 10, .inl (tA 0, 40, .inl (nF c0))), (a 2, .inr (2, [.ref (a 11), .int (nI 10), .int (nI 4), .int (nI n1)])), (a 11, .inl (tA 0, 40, .inl (nF c1))), (a 3, .inr (2, [.ref (a 12), .int (nI 10), .int (nI 3), .int (nI n2)])), (a 12, .inl (tA 0, 40, .inl (nF c2))), (a 4, .inr (2, [.ref (a 13), .int (nI 8), .int (nI 3), .int (nI n3)])), (a 13, .inl (tA 0, 40, .inl (nF c3))), (a 5, .inr (2, [.ref (a 14), .int (nI 5), .int (nI 4), .int (nI n4)])), (a 14, .inl (tA 0, 40, .inl (nF c4))), (a 6, .inr (2, [.ref (a 15), .int (nI 8), .int (nI 2), .int (nI n5)])), (a 15, .inl (tA 0, 40, .inl (nF c5))), (a 7, .inl (tA 0, 5, .inl (nF hs))), (a 8, .inl (tA 0, 5, .inl (nF wf))), (a 9, .inl (tA 0, 40, .inl (nF wt)))]) 0 0 := by
  refine enterI (cc := cX6_placeOfRow) (maxL := 9) (ret := (some .int)) (by decide) rfl (Nat.le_of_ble_eq_true rfl) ?_
  intro p0 e0 s m args below meth c0_ A ls hx hb hml hr hts hown hlocks hin hKK hA hP hD hl hS
  have hown : s.vm.findClass RX6 = some m.cls := hown
  have hl : lv_has ls 9 [(0, .ref (d 0)), (1, .ref (a 0)), (2, .int (nI t0)), (3, .int (nI i0))] := hl
  have n29 : (Cond.fieldLinkNest "LentTerms$Talk" 29 "LentTerms$Counter" "rules" "LLentTerms$Rows;" "LentTerms").before args s = true := hKK.nest 9 rfl
  have iX0 : ∀ w ∈ wsX00, w ∈ wsX6_placeOfRow := by decide +kernel
  obtain ⟨⟨hn0, hn1, hn2, hn3, hn4, hn5⟩, ⟨hb0, hb1, hb2, hb3, hb4, hb5, hbh, hbw, hbt⟩, hv0, hv1, hv2, hv3, hv4, hv5, hv6, hv7⟩ := id hCW
  refine lv_iload_n hx hb dX6_placeOfRow_0 rfl (lv_at hl 2 rfl) ?_
  refine lv_istore (lv' := [(4, .int (nI t0)), (0, .ref (d 0)), (1, .ref (a 0)), (2, .int (nI t0)), (3, .int (nI i0))]) hx hb dX6_placeOfRow_1 hl (by decide) rfl (fun ls hl => ?_)
  refine lv_iload_n hx hb dX6_placeOfRow_3 rfl (lv_at hl 4 rfl) ?_
  refine lv_istore (lv' := [(5, .int (nI i0)), (4, .int (nI t0)), (0, .ref (d 0)), (1, .ref (a 0)), (2, .int (nI t0)), (3, .int (nI i0))]) hx hb dX6_placeOfRow_4 hl (by decide) rfl (fun ls hl => ?_)
  refine lv_iconst (v := nI 0) hx hb dX6_placeOfRow_6 (by decide) ?_
  refine lv_istore (lv' := [(6, .int (nI 0)), (5, .int (nI i0)), (4, .int (nI t0)), (0, .ref (d 0)), (1, .ref (a 0)), (2, .int (nI t0)), (3, .int (nI i0))]) hx hb dX6_placeOfRow_7 hl (by decide) rfl (fun ls hl => ?_)
  refine wloop (σ := (Nat) × (Nat) × (Nat)) (fun | (u, t, ah) => 8 - u) (fun | (u, t, ah) => (u ≤ 8 ∧ t < n0 ∧ ah < 1048576) ∧ (leafW n3 c3 F (8 - u) t ah = leafW n3 c3 F 8 t0 i0)) (fun | (u, t, ah) => [(6, .int (nI u)), (5, .int (nI ah)), (4, .int (nI t)), (0, .ref (d 0)), (1, .ref (a 0)), (2, .int (nI t0)), (3, .int (nI i0))]) (fun | (u, t, ah) => [(d 0, .inr (4, [.ref (d 1), .ref (d 2), .ref (d 3), .int (nI ru)])), (d 1, .inl (tA 0, 8, .inl (nF F))), (d 2, .inl (tA 0, 8, .inl (nF sy))), (d 3, .inl (tA 0, 8, .inl (nF nd))), (a 0, .inr (0, [.ref (a 1), .ref (a 2), .ref (a 3), .ref (a 4), .ref (a 5), .ref (a 6), .ref (a 7), .ref (a 8), .ref (a 9)])), (a 1, .inr (2, [.ref (a 10), .int (nI 8), .int (nI 3), .int (nI n0)])), (a 10, .inl (tA 0, 40, .inl (nF c0))), (a 2, .inr (2, [.ref (a 11), .int (nI 10), .int (nI 4), .int (nI n1)])), (a 11, .inl (tA 0, 40, .inl (nF c1))), (a 3, .inr (2, [.ref (a 12), .int (nI 10), .int (nI 3), .int (nI n2)])), (a 12, .inl (tA 0, 40, .inl (nF c2))), (a 4, .inr (2, [.ref (a 13), .int (nI 8), .int (nI 3), .int (nI n3)])), (a 13, .inl (tA 0, 40, .inl (nF c3))), (a 5, .inr (2, [.ref (a 14), .int (nI 5), .int (nI 4), .int (nI n4)])), (a 14, .inl (tA 0, 40, .inl (nF c4))), (a 6, .inr (2, [.ref (a 15), .int (nI 8), .int (nI 2), .int (nI n5)])), (a 15, .inl (tA 0, 40, .inl (nF c5))), (a 7, .inl (tA 0, 5, .inl (nF hs))), (a 8, .inl (tA 0, 5, .inl (nF wf))), (a 9, .inl (tA 0, 40, .inl (nF wt)))]) (0, t0, i0) ⟨(show 0 ≤ 8 ∧ t0 < n0 ∧ i0 < 1048576 from ⟨by omega, by omega, by omega⟩), (show leafW n3 c3 F (8 - 0) t0 i0 = leafW n3 c3 F 8 t0 i0 from rfl)⟩ (lv_sub hl [0, 1, 2, 3, 4, 5, 6] rfl) hP hD hS ?_
  rintro ⟨u, t, ah⟩ ⟨hu, hlf⟩ ih_1 ls H locs hl hP hD hS
  have hl : lv_has ls 9 [(6, .int (nI u)), (5, .int (nI ah)), (4, .int (nI t)), (0, .ref (d 0)), (1, .ref (a 0)), (2, .int (nI t0)), (3, .int (nI i0))] := hl
  have hP : va_P G vwCl [(d 0, .inr (4, [.ref (d 1), .ref (d 2), .ref (d 3), .int (nI ru)])), (d 1, .inl (tA 0, 8, .inl (nF F))), (d 2, .inl (tA 0, 8, .inl (nF sy))), (d 3, .inl (tA 0, 8, .inl (nF nd))), (a 0, .inr (0, [.ref (a 1), .ref (a 2), .ref (a 3), .ref (a 4), .ref (a 5), .ref (a 6), .ref (a 7), .ref (a 8), .ref (a 9)])), (a 1, .inr (2, [.ref (a 10), .int (nI 8), .int (nI 3), .int (nI n0)])), (a 10, .inl (tA 0, 40, .inl (nF c0))), (a 2, .inr (2, [.ref (a 11), .int (nI 10), .int (nI 4), .int (nI n1)])), (a 11, .inl (tA 0, 40, .inl (nF c1))), (a 3, .inr (2, [.ref (a 12), .int (nI 10), .int (nI 3), .int (nI n2)])), (a 12, .inl (tA 0, 40, .inl (nF c2))), (a 4, .inr (2, [.ref (a 13), .int (nI 8), .int (nI 3), .int (nI n3)])), (a 13, .inl (tA 0, 40, .inl (nF c3))), (a 5, .inr (2, [.ref (a 14), .int (nI 5), .int (nI 4), .int (nI n4)])), (a 14, .inl (tA 0, 40, .inl (nF c4))), (a 6, .inr (2, [.ref (a 15), .int (nI 8), .int (nI 2), .int (nI n5)])), (a 15, .inl (tA 0, 40, .inl (nF c5))), (a 7, .inl (tA 0, 5, .inl (nF hs))), (a 8, .inl (tA 0, 5, .inl (nF wf))), (a 9, .inl (tA 0, 40, .inl (nF wt)))] H := hP
  have hD : va_D A [(d 0, .inr (4, [.ref (d 1), .ref (d 2), .ref (d 3), .int (nI ru)])), (d 1, .inl (tA 0, 8, .inl (nF F))), (d 2, .inl (tA 0, 8, .inl (nF sy))), (d 3, .inl (tA 0, 8, .inl (nF nd))), (a 0, .inr (0, [.ref (a 1), .ref (a 2), .ref (a 3), .ref (a 4), .ref (a 5), .ref (a 6), .ref (a 7), .ref (a 8), .ref (a 9)])), (a 1, .inr (2, [.ref (a 10), .int (nI 8), .int (nI 3), .int (nI n0)])), (a 10, .inl (tA 0, 40, .inl (nF c0))), (a 2, .inr (2, [.ref (a 11), .int (nI 10), .int (nI 4), .int (nI n1)])), (a 11, .inl (tA 0, 40, .inl (nF c1))), (a 3, .inr (2, [.ref (a 12), .int (nI 10), .int (nI 3), .int (nI n2)])), (a 12, .inl (tA 0, 40, .inl (nF c2))), (a 4, .inr (2, [.ref (a 13), .int (nI 8), .int (nI 3), .int (nI n3)])), (a 13, .inl (tA 0, 40, .inl (nF c3))), (a 5, .inr (2, [.ref (a 14), .int (nI 5), .int (nI 4), .int (nI n4)])), (a 14, .inl (tA 0, 40, .inl (nF c4))), (a 6, .inr (2, [.ref (a 15), .int (nI 8), .int (nI 2), .int (nI n5)])), (a 15, .inl (tA 0, 40, .inl (nF c5))), (a 7, .inl (tA 0, 5, .inl (nF hs))), (a 8, .inl (tA 0, 5, .inl (nF wf))), (a 9, .inl (tA 0, 40, .inl (nF wt)))] := hD
  have hu : u ≤ 8 ∧ t < n0 ∧ ah < 1048576 := hu
  have hlf : leafW n3 c3 F (8 - u) t ah = leafW n3 c3 F 8 t0 i0 := hlf
  refine lv_iload hx hb dX6_placeOfRow_9 (lv_at hl 0 rfl) ?_
  refine lv_bipush (v := nI 8) hx hb dX6_placeOfRow_11 (by decide +kernel) ?_
  refine nv_icmp_ge (tgt := 94) (by omega) (by omega) hx hb dX6_placeOfRow_13 (by decide) (fun c_2 => ?_) (fun c_2 => ?_)
  · refine lv_iload hx hb dX6_placeOfRow_94 (lv_at hl 2 rfl) ?_
    exact retI hx hb hr hlocks hS hP hD () (rfl) (congrArg nI (show (t : Nat) = leafW n3 c3 F 8 t0 i0 from by rw [← hlf]; first | exact (leafW_e (by omega)).symm | (rw [show 8 - u = 0 from (by omega)]; rfl))) dX6_placeOfRow_96
  · refine lv_aload_n hx hb dX6_placeOfRow_16 rfl (lv_at hl 3 rfl) ?_
    refine lv_iload hx hb dX6_placeOfRow_17 (lv_at hl 2 rfl) ?_
    refine roI hP hD hS hA [0, 1, 2, 3] rfl (runV (As := [.int (nI t)]) (rest := []) (isC := [0, 1, 2, 3]) ⟨hx, hb, hml, hown, hts⟩ hKK hP hD rfl (by decide) (c_X6_fewest l G tA d F sy nd ru t (by first | assumption | omega) _) (cwV 1 hts gX6_placeOfRow_X6_fewest rfl rfl rfl (by decide +kernel) ⟨Nat.le_of_ble_eq_true rfl, Nat.le_of_ble_eq_true rfl⟩) rfl rfl rfl rfl hl.1 rfl (lv_room (Nat.le_of_ble_eq_true rfl)) dX6_placeOfRow_19 ⟨Nat.le_of_ble_eq_true rfl, Nat.le_of_ble_eq_true rfl⟩) (fun _ => rfl) (fun r_3 u_4 H locs q_5 hP hS => ?_)
    subst q_5
    refine nv_top (y := F t) (congrArg nI (if_pos (by omega))) ?_
    have hft := hbF (t)
    refine lv_iconst (v := nI 1) hx hb dX6_placeOfRow_22 (by decide) ?_
    refine nv_icmp_le (tgt := 94) (by omega) (by omega) hx hb dX6_placeOfRow_23 (by decide) (fun c_6 => ?_) (fun c_6 => ?_)
    · refine lv_iload hx hb dX6_placeOfRow_94 (lv_at hl 2 rfl) ?_
      exact retI hx hb hr hlocks hS hP hD () (rfl) (congrArg nI (show (t : Nat) = leafW n3 c3 F 8 t0 i0 from by rw [← hlf]; first | exact (leafW_e (by omega)).symm | (rw [show 8 - u = 0 from (by omega)]; rfl))) dX6_placeOfRow_96
    · refine lv_aload_n hx hb dX6_placeOfRow_26 rfl (lv_at hl 3 rfl) ?_
      refine lv_aload_n hx hb dX6_placeOfRow_27 rfl (lv_at hl 4 rfl) ?_
      refine lv_iload hx hb dX6_placeOfRow_28 (lv_at hl 2 rfl) ?_
      refine roI hP hD hS hA [0, 1, 2, 3, 4, 5, 6, 7, 8, 9, 10, 11, 12, 13, 14, 15, 16, 17, 18, 19] rfl (runV (As := [.ref (a 0), .int (nI t)]) (rest := []) (isC := [0, 1, 2, 3, 4, 5, 6, 7, 8, 9, 10, 11, 12, 13, 14, 15, 16, 17, 18, 19]) ⟨hx, hb, hml, hown, hts⟩ hKK hP hD rfl (by decide) (c_X6_firstRule l G tA d F sy nd ru a n0 c0 n1 c1 n2 c2 n3 c3 n4 c4 n5 c5 hs wf wt t (hCW) (hbF) (by first | assumption | omega) _) (cwV 2 hts gX6_placeOfRow_X6_firstRule rfl rfl rfl (by decide +kernel) ⟨Nat.le_of_ble_eq_true rfl, Nat.le_of_ble_eq_true rfl⟩) rfl rfl rfl rfl hl.1 rfl (lv_room (Nat.le_of_ble_eq_true rfl)) dX6_placeOfRow_30 ⟨Nat.le_of_ble_eq_true rfl, Nat.le_of_ble_eq_true rfl⟩) (fun _ => rfl) (fun r_7 u_8 H locs q_9 hP hS => ?_)
      subst q_9
      obtain ⟨q8, hq8, hq81, hq82⟩ := hfx t (by omega) (by omega)
      obtain ⟨qq, hqe⟩ : ∃ z, z = ffN (rulB F c3 t) n3 0 := ⟨_, rfl⟩
      have hqf := ffN_at (p := rulB F c3 t) n3 0 q8 (Nat.zero_le _) (by omega) (decide_eq_true ⟨hq81, hq82⟩)
      rw [← hqe] at hqf
      have hqn : qq < n3 := by omega
      have hv := hv3 qq hqn
      refine nv_top (y := qq) (by rw [hqe]; exact firstI_ff hq8 (decide_eq_true ⟨hq81, hq82⟩)) ?_
      refine lv_istore (lv' := [(7, .int (nI qq)), (6, .int (nI u)), (5, .int (nI ah)), (4, .int (nI t)), (0, .ref (d 0)), (1, .ref (a 0)), (2, .int (nI t0)), (3, .int (nI i0))]) hx hb dX6_placeOfRow_33 hl (by decide) rfl (fun ls hl => ?_)
      refine lv_aload_n hx hb dX6_placeOfRow_35 rfl (lv_at hl 5 rfl) ?_
      refine va_getN (D := G) (ci := 0) (C := RX0) (T := TX0) (N := 9) hx hb hts iX0 hown hKK.1 hP 4 rfl rfl 3 (by decide) n29 (fun _ h9 => h9) rfl dX6_placeOfRow_36 ?_
      refine lv_iload hx hb dX6_placeOfRow_39 (lv_at hl 0 rfl) ?_
      refine lv_iconst (v := nI 1) hx hb dX6_placeOfRow_41 (by decide) ?_
      refine roI hP hD hS hA [11, 12] rfl (runV (As := [.int (nI qq), .int (nI 1)]) (rest := []) (isC := [11, 12]) ⟨hx, hb, hml, hown, hts⟩ hKK hP hD rfl (by decide) (c_X4_at_in l G tA (a 4) (a 13) 8 3 n3 c3 qq 1 (by omega) (by omega) (by omega) (by omega) (hb3) _) (cwV 2 hts gX6_placeOfRow_X4_at rfl rfl rfl (by decide +kernel) ⟨Nat.le_of_ble_eq_true rfl, Nat.le_of_ble_eq_true rfl⟩) rfl rfl rfl rfl hl.1 rfl (lv_room (Nat.le_of_ble_eq_true rfl)) dX6_placeOfRow_42 ⟨Nat.le_of_ble_eq_true rfl, Nat.le_of_ble_eq_true rfl⟩) (fun _ => rfl) (fun r_10 u_11 H locs q_12 hP hS => ?_)
      obtain ⟨rfl, e_13⟩ := q_12
      have e_13 : c3 (qq * 4 + 1) < 1048576 := e_13
      refine lv_istore (lv' := [(8, .int (nI (c3 (qq * 4 + 1)))), (7, .int (nI qq)), (6, .int (nI u)), (5, .int (nI ah)), (4, .int (nI t)), (0, .ref (d 0)), (1, .ref (a 0)), (2, .int (nI t0)), (3, .int (nI i0))]) hx hb dX6_placeOfRow_45 hl (by decide) rfl (fun ls hl => ?_)
      refine lv_iload hx hb dX6_placeOfRow_47 (lv_at hl 3 rfl) ?_
      refine lv_aload_n hx hb dX6_placeOfRow_49 rfl (lv_at hl 5 rfl) ?_
      refine lv_iload hx hb dX6_placeOfRow_50 (lv_at hl 0 rfl) ?_
      refine roI hP hD hS hA [0, 1, 2, 3] rfl (runV (As := [.int (nI (c3 (qq * 4 + 1)))]) (rest := [.int (nI ah)]) (isC := [0, 1, 2, 3]) ⟨hx, hb, hml, hown, hts⟩ hKK hP hD rfl (by decide) (c_X6_fewest l G tA d F sy nd ru (c3 (qq * 4 + 1)) (by first | assumption | omega) _) (cwV 1 hts gX6_placeOfRow_X6_fewest rfl rfl rfl (by decide +kernel) ⟨Nat.le_of_ble_eq_true rfl, Nat.le_of_ble_eq_true rfl⟩) rfl rfl rfl rfl hl.1 rfl (lv_room (Nat.le_of_ble_eq_true rfl)) dX6_placeOfRow_52 ⟨Nat.le_of_ble_eq_true rfl, Nat.le_of_ble_eq_true rfl⟩) (fun _ => rfl) (fun r_14 u_15 H locs q_16 hP hS => ?_)
      subst q_16
      refine nv_top (y := F (c3 (qq * 4 + 1))) (congrArg nI (if_pos (by omega))) ?_
      have hft := hbF ((c3 (qq * 4 + 1)))
      refine nv_icmp_ge (tgt := 65) (by omega) (by omega) hx hb dX6_placeOfRow_55 (by decide) (fun c_17 => ?_) (fun c_17 => ?_)
      · refine lv_iload hx hb dX6_placeOfRow_65 (lv_at hl 3 rfl) ?_
        refine lv_aload_n hx hb dX6_placeOfRow_67 rfl (lv_at hl 5 rfl) ?_
        refine lv_iload hx hb dX6_placeOfRow_68 (lv_at hl 0 rfl) ?_
        refine roI hP hD hS hA [0, 1, 2, 3] rfl (runV (As := [.int (nI (c3 (qq * 4 + 1)))]) (rest := [.int (nI ah)]) (isC := [0, 1, 2, 3]) ⟨hx, hb, hml, hown, hts⟩ hKK hP hD rfl (by decide) (c_X6_fewest l G tA d F sy nd ru (c3 (qq * 4 + 1)) (by first | assumption | omega) _) (cwV 1 hts gX6_placeOfRow_X6_fewest rfl rfl rfl (by decide +kernel) ⟨Nat.le_of_ble_eq_true rfl, Nat.le_of_ble_eq_true rfl⟩) rfl rfl rfl rfl hl.1 rfl (lv_room (Nat.le_of_ble_eq_true rfl)) dX6_placeOfRow_70 ⟨Nat.le_of_ble_eq_true rfl, Nat.le_of_ble_eq_true rfl⟩) (fun _ => rfl) (fun r_18 u_19 H locs q_20 hP hS => ?_)
        subst q_20
        refine nv_top (y := F (c3 (qq * 4 + 1))) (congrArg nI (if_pos (by omega))) ?_
        have hft := hbF ((c3 (qq * 4 + 1)))
        refine nv_isub (show F (c3 (qq * 4 + 1)) ≤ ah from by omega) hx hb dX6_placeOfRow_73 ?_
        refine lv_istore (lv' := [(5, .int (nI (ah - (F (c3 (qq * 4 + 1)))))), (8, .int (nI (c3 (qq * 4 + 1)))), (7, .int (nI qq)), (6, .int (nI u)), (4, .int (nI t)), (0, .ref (d 0)), (1, .ref (a 0)), (2, .int (nI t0)), (3, .int (nI i0))]) hx hb dX6_placeOfRow_74 hl (by decide) rfl (fun ls hl => ?_)
        refine lv_aload_n hx hb dX6_placeOfRow_76 rfl (lv_at hl 6 rfl) ?_
        refine va_getN (D := G) (ci := 0) (C := RX0) (T := TX0) (N := 9) hx hb hts iX0 hown hKK.1 hP 4 rfl rfl 3 (by decide) n29 (fun _ h9 => h9) rfl dX6_placeOfRow_77 ?_
        refine lv_iload hx hb dX6_placeOfRow_80 (lv_at hl 2 rfl) ?_
        refine lv_iconst (v := nI 2) hx hb dX6_placeOfRow_82 (by decide) ?_
        refine roI hP hD hS hA [11, 12] rfl (runV (As := [.int (nI qq), .int (nI 2)]) (rest := []) (isC := [11, 12]) ⟨hx, hb, hml, hown, hts⟩ hKK hP hD rfl (by decide) (c_X4_at_in l G tA (a 4) (a 13) 8 3 n3 c3 qq 2 (by omega) (by omega) (by omega) (by omega) (hb3) _) (cwV 2 hts gX6_placeOfRow_X4_at rfl rfl rfl (by decide +kernel) ⟨Nat.le_of_ble_eq_true rfl, Nat.le_of_ble_eq_true rfl⟩) rfl rfl rfl rfl hl.1 rfl (lv_room (Nat.le_of_ble_eq_true rfl)) dX6_placeOfRow_83 ⟨Nat.le_of_ble_eq_true rfl, Nat.le_of_ble_eq_true rfl⟩) (fun _ => rfl) (fun r_21 u_22 H locs q_23 hP hS => ?_)
        obtain ⟨rfl, e_24⟩ := q_23
        have e_24 : c3 (qq * 4 + 2) < 1048576 := e_24
        refine lv_istore (lv' := [(4, .int (nI (c3 (qq * 4 + 2)))), (5, .int (nI (ah - (F (c3 (qq * 4 + 1)))))), (8, .int (nI (c3 (qq * 4 + 1)))), (7, .int (nI qq)), (6, .int (nI u)), (0, .ref (d 0)), (1, .ref (a 0)), (2, .int (nI t0)), (3, .int (nI i0))]) hx hb dX6_placeOfRow_86 hl (by decide) rfl (fun ls hl => ?_)
        refine lv_iinc (v := (nI (u + 1))) (lv' := [(6, .int (nI (u + 1))), (4, .int (nI (c3 (qq * 4 + 2)))), (5, .int (nI (ah - (F (c3 (qq * 4 + 1)))))), (8, .int (nI (c3 (qq * 4 + 1)))), (7, .int (nI qq)), (0, .ref (d 0)), (1, .ref (a 0)), (2, .int (nI t0)), (3, .int (nI i0))]) hx hb dX6_placeOfRow_88 hl (k := 4) rfl (nI_add u 1) (by decide) rfl (fun ls hl => ?_)
        refine lv_goto (tgt := 9) hx hb dX6_placeOfRow_91 (by decide) ?_
        exact ih_1 (u + 1, c3 (qq * 4 + 2), ah - (F (c3 (qq * 4 + 1)))) (show 8 - (u + 1) < 8 - u from by omega) ⟨(show (u + 1) ≤ 8 ∧ (c3 (qq * 4 + 2)) < n0 ∧ (ah - (F (c3 (qq * 4 + 1)))) < 1048576 from ⟨by omega, by omega, by omega⟩), (show leafW n3 c3 F (8 - (u + 1)) (c3 (qq * 4 + 2)) (ah - (F (c3 (qq * 4 + 1)))) = leafW n3 c3 F 8 t0 i0 from by rw [← hlf, show 8 - u = (8 - (u + 1)) + 1 from (by omega)]; first | rw [leafW_1 (by omega) hqe (by omega)] | rw [leafW_2 (by omega) hqe (by omega)])⟩ _ _ _ (lv_sub hl [0, 2, 1, 5, 6, 7, 8] rfl) hP hD hS
      · refine lv_iload hx hb dX6_placeOfRow_58 (lv_at hl 0 rfl) ?_
        refine lv_istore (lv' := [(4, .int (nI (c3 (qq * 4 + 1)))), (8, .int (nI (c3 (qq * 4 + 1)))), (7, .int (nI qq)), (6, .int (nI u)), (5, .int (nI ah)), (0, .ref (d 0)), (1, .ref (a 0)), (2, .int (nI t0)), (3, .int (nI i0))]) hx hb dX6_placeOfRow_60 hl (by decide) rfl (fun ls hl => ?_)
        refine lv_goto (tgt := 88) hx hb dX6_placeOfRow_62 (by decide) ?_
        refine lv_iinc (v := (nI (u + 1))) (lv' := [(6, .int (nI (u + 1))), (4, .int (nI (c3 (qq * 4 + 1)))), (8, .int (nI (c3 (qq * 4 + 1)))), (7, .int (nI qq)), (5, .int (nI ah)), (0, .ref (d 0)), (1, .ref (a 0)), (2, .int (nI t0)), (3, .int (nI i0))]) hx hb dX6_placeOfRow_88 hl (k := 3) rfl (nI_add u 1) (by decide) rfl (fun ls hl => ?_)
        refine lv_goto (tgt := 9) hx hb dX6_placeOfRow_91 (by decide) ?_
        exact ih_1 (u + 1, c3 (qq * 4 + 1), ah) (show 8 - (u + 1) < 8 - u from by omega) ⟨(show (u + 1) ≤ 8 ∧ (c3 (qq * 4 + 1)) < n0 ∧ ah < 1048576 from ⟨by omega, by omega, by omega⟩), (show leafW n3 c3 F (8 - (u + 1)) (c3 (qq * 4 + 1)) ah = leafW n3 c3 F 8 t0 i0 from by rw [← hlf, show 8 - u = (8 - (u + 1)) + 1 from (by omega)]; first | rw [leafW_1 (by omega) hqe (by omega)] | rw [leafW_2 (by omega) hqe (by omega)])⟩ _ _ _ (lv_sub hl [0, 4, 1, 5, 6, 7, 8] rfl) hP hD hS
