/-! what an item does to a counter -/
def clOk (n0 w : Nat) (N : Nat → Int32) : Bool := if w = 0 then okT (N 0).toInt (N 1).toInt (N 2).toInt else if w = 1 then okU n0 (N 0).toInt (N 1).toInt (N 2).toInt else if w = 2 then okL n0 (N 0).toInt (N 1).toInt (N 2).toInt (N 3).toInt else if w = 3 then okW n0 (N 0).toInt (N 1).toInt (N 2).toInt (N 3).toInt (bcS (N 1)).toInt else okY n0 (N 0).toInt (N 1).toInt
def clJ (w : Nat) : Nat := if w = 0 then 0 else if w = 1 then 3 else if w = 2 then 1 else if w = 3 then 4 else 5
def clL (w : Nat) : Nat := if w = 0 then 8 else if w = 1 then 8 else if w = 2 then 10 else if w = 3 then 5 else 8
def clN (nn : Nat → Nat) (w : Nat) (N : Nat → Int32) : Nat → Nat := fun j => if j = clJ w then okN (clOk (nn 0) w N) (nn j) (clL w) else nn j
def clC (nn : Nat → Nat) (cc : Nat → Nat → Nat) (w : Nat) (N : Nat → Int32) : Nat → Nat → Nat := fun j => if j = clJ w then okC (clOk (nn 0) w N) (nn j) (clL w) (cc j) (N 0).toInt.toNat (N 1).toInt.toNat (if w = 4 then 0 else (N 2).toInt.toNat) (if w = 2 ∨ w = 3 then (N 3).toInt.toNat else 0) else cc j
def clA (nn : Nat → Nat) (w : Nat) (N : Nat → Int32) : Int32 := okR (clOk (nn 0) w N) (nn (clJ w)) (clL w)
theorem popN_M : ∀ m, m < 256 → popN m = popM m 10 := by decide +kernel
theorem okW_bc {n : Nat} (hn : n ≤ 8) {x : Int32} {P S A B : Int} (hx : x.toInt = S) : okW n P S A B (bcS x).toInt = okW n P S A B ((popM S.toNat 10 : Nat) : Int) := by
  have hp := p256 hn
  by_cases h : 0 ≤ S ∧ S < ((2 ^ n : Nat) : Int)
  · obtain ⟨m, hm, rfl⟩ := toN (x := x) (by omega)
    rw [nI_toInt hm] at hx
    have hm2 : m < 256 := by omega
    have e : S.toNat = m := by omega
    have hl := popN_le m
    rw [bcS_N m hm2, e, ← popN_M m hm2, nI_toInt (by omega)]
  · unfold okW
    rw [decide_eq_false (fun z => h z.2.1), decide_eq_false (fun z => h z.2.1)]
def clB (B : Nat → Nat) (w : Nat) (N : Nat → Int32) : Nat → Nat :=
  if w = 0 then okB (clOk (B 0) 0 N) (B 0) 8 (termB B (N 0).toInt.toNat (N 1).toInt.toNat (N 2).toInt.toNat) B
  else if w = 1 then okB (clOk (B 0) 1 N) (B 3) 8 (rowM3 B (102 + 3 * B 3) 3 (N 0).toInt.toNat (N 1).toInt.toNat (N 2).toInt.toNat) B
  else if w = 2 then okB (clOk (B 0) 2 N) (B 1) 10 (rowM4 B (32 + 4 * B 1) 1 (N 0).toInt.toNat (N 1).toInt.toNat (N 2).toInt.toNat (N 3).toInt.toNat) B
  else if w = 3 then okB (clOk (B 0) 3 N) (B 4) 5 (rowM4 B (126 + 4 * B 4) 4 (N 0).toInt.toNat (N 1).toInt.toNat (N 2).toInt.toNat (N 3).toInt.toNat) B
  else okB (clOk (B 0) 4 N) (B 5) 8 (rowM2 B (196 + 2 * B 5) 5 (N 0).toInt.toNat (N 1).toInt.toNat) B
theorem Rep_cl {nn : Nat → Nat} {cc : Nat → Nat → Nat} {hs wf wt B : Nat → Nat} {w : Nat} {N : Nat → Int32} (h : Rep (nn 0) (cc 0) (nn 1) (cc 1) (nn 2) (cc 2) (nn 3) (cc 3) (nn 4) (cc 4) (nn 5) (cc 5) hs wf wt B) (hw : WB B) (hv : w < 5) : Rep (clN nn w N 0) (clC nn cc w N 0) (clN nn w N 1) (clC nn cc w N 1) (clN nn w N 2) (clC nn cc w N 2) (clN nn w N 3) (clC nn cc w N 3) (clN nn w N 4) (clC nn cc w N 4) (clN nn w N 5) (clC nn cc w N 5) hs wf wt (clB B w N) ∧ WB (clB B w N) := by
  have e0 : nn 0 = B 0 := h.1.1
  have h8 := hw.1.1
  have hp := p256 h8
  rcases (show w = 0 ∨ w = 1 ∨ w = 2 ∨ w = 3 ∨ w = 4 by omega) with rfl | rfl | rfl | rfl | rfl
  · have hk : clOk (nn 0) 0 N = true → (0 ≤ (N 0).toInt ∧ (N 0).toInt < 6 ∧ 1 ≤ (N 1).toInt ∧ (N 1).toInt ≤ 3 ∧ 0 ≤ (N 2).toInt ∧ (N 2).toInt ≤ 9) := fun z => of_decide_eq_true z
    have hk2 : clOk (B 0) 0 N = true → (0 ≤ (N 0).toInt ∧ (N 0).toInt < 6 ∧ 1 ≤ (N 1).toInt ∧ (N 1).toInt ≤ 3 ∧ 0 ≤ (N 2).toInt ∧ (N 2).toInt ≤ 9) := fun z => of_decide_eq_true z
    have r := Rep_ok_term (ok := clOk (nn 0) 0 N) (x0 := (N 0).toInt.toNat) (x1 := (N 1).toInt.toNat) (x2 := (N 2).toInt.toNat) h hw (fun z => by have := hk z; omega)
    rw [e0] at r
    refine ⟨?_, okB_WB hw (fun z hl => WB_term hw hl (by have := hk2 z; omega))⟩
    unfold clN clC; rw [e0]; exact r
  · have hk2 : clOk (B 0) 1 N = true → ((0 ≤ (N 0).toInt ∧ (N 0).toInt < ((B 0 : Nat) : Int)) ∧ (0 ≤ (N 1).toInt ∧ (N 1).toInt < ((B 0 : Nat) : Int)) ∧ (0 ≤ (N 2).toInt ∧ (N 2).toInt < ((B 0 : Nat) : Int)) ∧ ¬ (N 0).toInt = (N 1).toInt ∧ ¬ (N 0).toInt = (N 2).toInt) := fun z => of_decide_eq_true z
    have r := Rep_ok_rule (ok := clOk (B 0) 1 N) (x0 := (N 0).toInt.toNat) (x1 := (N 1).toInt.toNat) (x2 := (N 2).toInt.toNat) h hw (fun z => by have := hk2 z; omega)
    refine ⟨?_, okB_WB hw (fun z hl => WB_rule hw hl (by have := hk2 z; omega))⟩
    unfold clN clC; rw [e0]; rw [e0] at r; exact r
  · have hk2 : clOk (B 0) 2 N = true → ((0 ≤ (N 0).toInt ∧ (N 0).toInt < 5) ∧ (0 ≤ (N 1).toInt ∧ (N 1).toInt < ((B 0 : Nat) : Int)) ∧ (0 ≤ (N 2).toInt ∧ (N 2).toInt < 24) ∧ (0 ≤ (N 3).toInt ∧ (N 3).toInt < 24) ∧ (N 2).toInt ≤ (N 3).toInt) := fun z => of_decide_eq_true z
    have r := Rep_ok_loan (ok := clOk (B 0) 2 N) (x0 := (N 0).toInt.toNat) (x1 := (N 1).toInt.toNat) (x2 := (N 2).toInt.toNat) (x3 := (N 3).toInt.toNat) h hw (fun z => by have := hk2 z; omega)
    refine ⟨?_, okB_WB hw (fun z hl => WB_loan hw hl (by have := hk2 z; omega))⟩
    unfold clN clC; rw [e0]; rw [e0] at r; exact r
  · have hk2 : clOk (B 0) 3 N = true → ((0 ≤ (N 0).toInt ∧ (N 0).toInt < 5) ∧ (0 ≤ (N 1).toInt ∧ (N 1).toInt < ((2 ^ B 0 : Nat) : Int)) ∧ (1 ≤ (bcS (N 1)).toInt ∧ (bcS (N 1)).toInt ≤ 3) ∧ (0 ≤ (N 2).toInt ∧ (N 2).toInt < 24) ∧ (0 ≤ (N 3).toInt ∧ (N 3).toInt < 24) ∧ (N 2).toInt ≤ (N 3).toInt ∧ (N 3).toInt - (N 2).toInt ≤ 5) := fun z => of_decide_eq_true z
    have hpos : clOk (B 0) 3 N = true → 0 < (N 1).toInt.toNat := fun z => by
      have z2 : okW (B 0) (N 0).toInt (N 1).toInt (N 2).toInt (N 3).toInt (bcS (N 1)).toInt = true := z
      rw [okW_bc h8 rfl] at z2
      have z3 := of_decide_eq_true z2
      exact popM_pos (by have := z3.2.2.1.1; exact Int.ofNat_le.mp this)
    have r := Rep_ok_want (ok := clOk (B 0) 3 N) (x0 := (N 0).toInt.toNat) (x1 := (N 1).toInt.toNat) (x2 := (N 2).toInt.toNat) (x3 := (N 3).toInt.toNat) h hw (fun z => by have := hk2 z; omega)
    refine ⟨?_, okB_WB hw (fun z hl => WB_want hw hl (by have := hk2 z; have := hpos z; omega))⟩
    unfold clN clC; rw [e0]; rw [e0] at r; exact r
  · have hk2 : clOk (B 0) 4 N = true → ((0 ≤ (N 0).toInt ∧ (N 0).toInt < ((2 ^ B 0 : Nat) : Int)) ∧ ¬ (N 0).toInt = 0 ∧ 1 ≤ (N 1).toInt ∧ (N 1).toInt ≤ 9) := fun z => of_decide_eq_true z
    have r := Rep_ok_saying (ok := clOk (B 0) 4 N) (x0 := (N 0).toInt.toNat) (x1 := (N 1).toInt.toNat) h hw (fun z => by have := hk2 z; omega)
    refine ⟨?_, okB_WB hw (fun z hl => WB_saying hw hl (by have := hk2 z; omega))⟩
    unfold clN clC; rw [e0]; rw [e0] at r; exact r
theorem CW_cl {nn : Nat → Nat} {cc : Nat → Nat → Nat} {hs wf wt : Nat → Nat} {w : Nat} {N : Nat → Int32} (h : CW (nn 0) (cc 0) (nn 1) (cc 1) (nn 2) (cc 2) (nn 3) (cc 3) (nn 4) (cc 4) (nn 5) (cc 5) hs wf wt) (hv : w < 5) : CW (clN nn w N 0) (clC nn cc w N 0) (clN nn w N 1) (clC nn cc w N 1) (clN nn w N 2) (clC nn cc w N 2) (clN nn w N 3) (clC nn cc w N 3) (clN nn w N 4) (clC nn cc w N 4) (clN nn w N 5) (clC nn cc w N 5) hs wf wt := by
  have r := Rep_cl (N := N) (Rep_bk h) (WB_bk h) hv
  exact CW_of r.1 r.2
/-- as the model tells it -/
theorem cl_tl {nn B : Nat → Nat} {w a b c d : Nat} {N : Nat → Int32} (hn : ∀ j, j < 6 → nn j = B j) (h8 : B 0 ≤ 8) (hv : w < 5) (h0 : (N 0).toInt = ((a : Nat) : Int)) (h1 : (N 1).toInt = ((b : Nat) : Int)) (h2 : w < 4 → (N 2).toInt = ((c : Nat) : Int)) (h3 : w = 2 ∨ w = 3 → (N 3).toInt = ((d : Nat) : Int)) : clB B w N = tlB B w a b c d ∧ clA nn w N = tlR B w a b c d := by
  have e0 := hn 0 (by omega)
  have e1 := hn 1 (by omega)
  have e3 := hn 3 (by omega)
  have e4 := hn 4 (by omega)
  have e5 := hn 5 (by omega)
  rcases (show w = 0 ∨ w = 1 ∨ w = 2 ∨ w = 3 ∨ w = 4 by omega) with rfl | rfl | rfl | rfl | rfl
  · have k : clOk (B 0) 0 N = okT ((a : Nat) : Int) ((b : Nat) : Int) ((c : Nat) : Int) := by show okT _ _ _ = _; rw [h0, h1, h2 (by omega)]
    refine ⟨?_, ?_⟩
    · show okB (clOk (B 0) 0 N) _ _ _ _ = okB _ _ _ _ _; rw [k, h0, h1, h2 (by omega)]
    · show okR (clOk (nn 0) 0 N) (nn 0) 8 = okR _ _ _; rw [e0, k]
  · have k : clOk (B 0) 1 N = okU (B 0) ((a : Nat) : Int) ((b : Nat) : Int) ((c : Nat) : Int) := by show okU _ _ _ _ = _; rw [h0, h1, h2 (by omega)]
    refine ⟨?_, ?_⟩
    · show okB (clOk (B 0) 1 N) _ _ _ _ = okB _ _ _ _ _; rw [k, h0, h1, h2 (by omega)]
    · show okR (clOk (nn 0) 1 N) (nn 3) 8 = okR _ _ _; rw [e0, e3, k]
  · have k : clOk (B 0) 2 N = okL (B 0) ((a : Nat) : Int) ((b : Nat) : Int) ((c : Nat) : Int) ((d : Nat) : Int) := by show okL _ _ _ _ _ = _; rw [h0, h1, h2 (by omega), h3 (by omega)]
    refine ⟨?_, ?_⟩
    · show okB (clOk (B 0) 2 N) _ _ _ _ = okB _ _ _ _ _; rw [k, h0, h1, h2 (by omega), h3 (by omega)]
    · show okR (clOk (nn 0) 2 N) (nn 1) 10 = okR _ _ _; rw [e0, e1, k]
  · have k : clOk (B 0) 3 N = okW (B 0) ((a : Nat) : Int) ((b : Nat) : Int) ((c : Nat) : Int) ((d : Nat) : Int) ((popM ((b : Nat) : Int).toNat 10 : Nat) : Int) := by show okW _ _ _ _ _ _ = _; rw [okW_bc h8 rfl, h0, h1, h2 (by omega), h3 (by omega)]
    refine ⟨?_, ?_⟩
    · show okB (clOk (B 0) 3 N) _ _ _ _ = okB _ _ _ _ _; rw [k, h0, h1, h2 (by omega), h3 (by omega)]
    · show okR (clOk (nn 0) 3 N) (nn 4) 5 = okR _ _ _; rw [e0, e4, k]
  · have k : clOk (B 0) 4 N = okY (B 0) ((a : Nat) : Int) ((b : Nat) : Int) := by show okY _ _ _ = _; rw [h0, h1]
    refine ⟨?_, ?_⟩
    · show okB (clOk (B 0) 4 N) _ _ _ _ = okB _ _ _ _ _; rw [k, h0, h1]
    · show okR (clOk (nn 0) 4 N) (nn 5) 8 = okR _ _ _; rw [e0, e5, k]
/-- what is answered behind the last item -/
def tfin (k rf : Nat) : Int32 := if rf = 0 then nI k else (-1000) - ((nI rf) + (-1))
def wqA (tx : Nat → Nat) (sz a : Nat) : Nat := ruE tx sz 97 122 a
noncomputable def wqN (tx : Nat → Nat) (sz a : Nat) : Nat := wqS tx a (wqA tx sz a - a)
noncomputable def nmZ (tx : Nat → Nat) (sz a : Nat) (N : Nat → Int32) : Bool × Nat × (Nat → Int32) := nmC tx sz (nuV (wqN tx sz a - 1)) 0 (wqA tx sz a) N
def semB (tx : Nat → Nat) (sz b : Nat) : Prop := ruE tx sz 32 32 b < sz ∧ tx (ruE tx sz 32 32 b) = 59
abbrev TTR : Type := Int32 × Nat × (Nat → Int32) × (Nat → Nat) × (Nat → Nat → Nat)
noncomputable def ttS (tx : Nat → Nat) (sz : Nat) : Nat → Nat → Nat → Nat → (Nat → Int32) → (Nat → Nat) → (Nat → Nat → Nat) → TTR
  | 0, a, k, rf, N, nn, cc => (tfin k rf, a, N, nn, cc)
  | f + 1, a, k, rf, N, nn, cc => if sz ≤ a then (tfin k rf, a, N, nn, cc) else if wqN tx sz a = 0 then ((-10) - nI a, a, N, nn, cc) else if (nmZ tx sz a N).1 = false then ((-10) - nI (nmZ tx sz a N).2.1, (nmZ tx sz a N).2.1, (nmZ tx sz a N).2.2, nn, cc) else if pB (semB tx sz (nmZ tx sz a N).2.1) = false then ((-10) - nI (ruE tx sz 32 32 (nmZ tx sz a N).2.1), ruE tx sz 32 32 (nmZ tx sz a N).2.1, (nmZ tx sz a N).2.2, nn, cc) else if rf = 0 then ttS tx sz f (ruE tx sz 32 32 (ruE tx sz 32 32 (nmZ tx sz a N).2.1 + 1)) (k + 1) (if (clA nn (wqN tx sz a - 1) (nmZ tx sz a N).2.2).toInt < 0 then k + 1 else 0) (nmZ tx sz a N).2.2 (clN nn (wqN tx sz a - 1) (nmZ tx sz a N).2.2) (clC nn cc (wqN tx sz a - 1) (nmZ tx sz a N).2.2) else ttS tx sz f (ruE tx sz 32 32 (ruE tx sz 32 32 (nmZ tx sz a N).2.1 + 1)) (k + 1) rf (nmZ tx sz a N).2.2 nn cc
section TTS
variable {tx : Nat → Nat} {sz a k rf : Nat} {N : Nat → Int32} {nn : Nat → Nat} {cc : Nat → Nat → Nat}
theorem ttS_e (f : Nat) (h : sz ≤ a) : ttS tx sz f a k rf N nn cc = (tfin k rf, a, N, nn, cc) := by cases f with
  | zero => rfl
  | succ f => exact if_pos h
theorem ttS_w (f : Nat) (h : a < sz) (hq : wqN tx sz a = 0) : ttS tx sz (f + 1) a k rf N nn cc = ((-10) - nI a, a, N, nn, cc) := (if_neg (by omega)).trans (if_pos hq)
theorem ttS_n (f : Nat) (h : a < sz) {q : Nat} {z : Bool × Nat × (Nat → Int32)} (hq : q = wqN tx sz a) (hq0 : ¬ q = 0) (hz : z = nmC tx sz (nuV (q - 1)) 0 (wqA tx sz a) N) (h1 : ¬ z.1 = true) : ttS tx sz (f + 1) a k rf N nn cc = ((-10) - nI z.2.1, z.2.1, z.2.2, nn, cc) := by
  subst hq; subst hz
  exact (if_neg (by omega)).trans ((if_neg hq0).trans (if_pos (Bool.eq_false_iff.mpr h1)))
theorem ttS_s (f : Nat) (h : a < sz) {q : Nat} {z : Bool × Nat × (Nat → Int32)} (hq : q = wqN tx sz a) (hq0 : ¬ q = 0) (hz : z = nmC tx sz (nuV (q - 1)) 0 (wqA tx sz a) N) (h1 : z.1 = true) (h2 : ¬ (ruE tx sz 32 32 z.2.1 < sz ∧ tx (ruE tx sz 32 32 z.2.1) = 59)) : ttS tx sz (f + 1) a k rf N nn cc = ((-10) - nI (ruE tx sz 32 32 z.2.1), ruE tx sz 32 32 z.2.1, z.2.2, nn, cc) := by
  subst hq; subst hz
  exact (if_neg (by omega)).trans ((if_neg hq0).trans ((if_neg (by rw [show (nmZ tx sz a N).1 = true from h1]; decide)).trans (if_pos (pB_f.mpr h2))))
theorem ttS_k (f : Nat) (h : a < sz) {q : Nat} {z : Bool × Nat × (Nat → Int32)} (hq : q = wqN tx sz a) (hq0 : ¬ q = 0) (hz : z = nmC tx sz (nuV (q - 1)) 0 (wqA tx sz a) N) (h1 : z.1 = true) (h2 : ruE tx sz 32 32 z.2.1 < sz ∧ tx (ruE tx sz 32 32 z.2.1) = 59) (hrf : rf = 0) : ttS tx sz (f + 1) a k rf N nn cc = ttS tx sz f (ruE tx sz 32 32 (ruE tx sz 32 32 z.2.1 + 1)) (k + 1) (if (clA nn (q - 1) z.2.2).toInt < 0 then k + 1 else 0) z.2.2 (clN nn (q - 1) z.2.2) (clC nn cc (q - 1) z.2.2) := by
  subst hq; subst hz
  exact (if_neg (by omega)).trans ((if_neg hq0).trans ((if_neg (by rw [show (nmZ tx sz a N).1 = true from h1]; decide)).trans ((if_neg (by rw [pB_t.mpr (show semB tx sz (nmZ tx sz a N).2.1 from h2)]; decide)).trans (if_pos hrf))))
theorem ttS_r (f : Nat) (h : a < sz) {q : Nat} {z : Bool × Nat × (Nat → Int32)} (hq : q = wqN tx sz a) (hq0 : ¬ q = 0) (hz : z = nmC tx sz (nuV (q - 1)) 0 (wqA tx sz a) N) (h1 : z.1 = true) (h2 : ruE tx sz 32 32 z.2.1 < sz ∧ tx (ruE tx sz 32 32 z.2.1) = 59) (hrf : ¬ rf = 0) : ttS tx sz (f + 1) a k rf N nn cc = ttS tx sz f (ruE tx sz 32 32 (ruE tx sz 32 32 z.2.1 + 1)) (k + 1) rf z.2.2 nn cc := by
  subst hq; subst hz
  exact (if_neg (by omega)).trans ((if_neg hq0).trans ((if_neg (by rw [show (nmZ tx sz a N).1 = true from h1]; decide)).trans ((if_neg (by rw [pB_t.mpr (show semB tx sz (nmZ tx sz a N).2.1 from h2)]; decide)).trans (if_neg hrf))))
end TTS
