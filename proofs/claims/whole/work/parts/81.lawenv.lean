/-! THE LAW: what is known at its entry -/
def pk3 {α : Type} (x0 x1 x2 : α) : Nat → α := fun k => match k with
  | 0 => x0
  | 1 => x1
  | _ => x2
def pk8 {α : Type} (x0 x1 x2 x3 x4 x5 x6 x7 : α) : Nat → α := fun k => match k with
  | 0 => x0
  | 1 => x1
  | 2 => x2
  | 3 => x3
  | 4 => x4
  | 5 => x5
  | 6 => x6
  | _ => x7
theorem nest_tb : ∀ w ∈ nestW, w.onTables = true := by decide +kernel
theorem nest_in : ∀ w ∈ nestW, w ∈ lw_tbl := by decide +kernel
theorem law_w0 : Cond.instantiable RX0 9 ∈ lw_tbl := by decide +kernel
theorem law_w1 : Cond.instantiable RX1 4 ∈ lw_tbl := by decide +kernel
theorem law_w2 : Cond.instantiable RX4 4 ∈ lw_tbl := by decide +kernel
theorem law_w3 : Cond.instantiable RX5 4 ∈ lw_tbl := by decide +kernel
theorem law_w4 : Cond.instantiable RX6 4 ∈ lw_tbl := by decide +kernel
theorem law_w5 : Cond.instantiable RX7 4 ∈ lw_tbl := by decide +kernel
theorem law_w6 : Cond.instantiable RX8 12 ∈ lw_tbl := by decide +kernel
theorem law_w7 : Cond.instantiable RX9 23 ∈ lw_tbl := by decide +kernel
theorem law_w8 : Cond.arrayClass .int ∈ lw_tbl := by decide +kernel
theorem law_w9 : Cond.arrayClass .boolean ∈ lw_tbl := by decide +kernel
theorem law_w10 : Cond.arrayOver (.object "LentTerms$Counter") ∈ lw_tbl := by decide +kernel
theorem law_kk {s : State} {args : Array Value} (hts : ∀ w ∈ lw_tbl, w.before args s = true) : ∃ (G : va_G) (tA : Nat → ClassId), kk G tA s := by
  obtain ⟨c0, i0, K0⟩ := u_known (C := RX0) (T := TX0) (N := 9) (n := 9) hts lawin_X0 (hts _ law_w0)
  obtain ⟨c1, i1, K1⟩ := u_known (C := RX1) (T := TX1) (N := 4) (n := 4) hts lawin_X1 (hts _ law_w1)
  obtain ⟨c2, i2, K2⟩ := u_known (C := RX4) (T := TX4) (N := 4) (n := 4) hts lawin_X4 (hts _ law_w2)
  obtain ⟨c3, i3, K3⟩ := u_known (C := RX5) (T := TX5) (N := 4) (n := 4) hts lawin_X5 (hts _ law_w3)
  obtain ⟨c4, i4, K4⟩ := u_known (C := RX6) (T := TX6) (N := 4) (n := 4) hts lawin_X6 (hts _ law_w4)
  obtain ⟨c5, i5, K5⟩ := u_known (C := RX7) (T := TX7) (N := 4) (n := 4) hts lawin_X7 (hts _ law_w5)
  obtain ⟨c6, i6, K6⟩ := u_known (C := RX8) (T := TX8) (N := 12) (n := 12) hts lawin_X8 (hts _ law_w6)
  obtain ⟨c7, i7, K7⟩ := u_known (C := RX9) (T := TX9) (N := 23) (n := 23) hts lawin_X9 (hts _ law_w7)
  obtain ⟨a0, k0, p0, x1, x2, x3⟩ := Cond.arrayClass_spec (hts _ law_w8)
  obtain ⟨a1, k1, p1, y1, y2, y3⟩ := Cond.arrayClass_spec (hts _ law_w9)
  obtain ⟨p2, a2, k2, z1, z2, z3, z4, z5⟩ := Cond.arrayOver_spec (hts _ law_w10)
  refine ⟨(pk8 c0 c1 c2 c3 c4 c5 c6 c7, pk8 i0 i1 i2 i3 i4 i5 i6 i7), pk3 a0 a1 a2, ⟨?_, ?_⟩, fun w hw => va_Nw.of (nest_tb w hw) (hts w (nest_in w hw))⟩
  · intro k q hq
    match k, hq with
    | 0, hq => cases hq; exact K0
    | 1, hq => cases hq; exact K1
    | 2, hq => cases hq; exact K2
    | 3, hq => cases hq; exact K3
    | 4, hq => cases hq; exact K4
    | 5, hq => cases hq; exact K5
    | 6, hq => cases hq; exact K6
    | 7, hq => cases hq; exact K7
    | k + 8, hq => simp at hq
  · intro k q hq
    match k, hq with
    | 0, hq => cases hq; exact ⟨fun n z => ⟨fun k h => (by cases h), k0, x2, p0, x3⟩, x1⟩
    | 1, hq => cases hq; exact ⟨fun n z => ⟨fun k h => (by cases h), k1, y2, p1, y3⟩, y1⟩
    | 2, hq => cases hq; exact ⟨fun n z => ⟨fun k h => (by cases h), k2, z3, p2, z4⟩, ⟨k2, p2, z3, z4, z1, z5⟩⟩
    | k + 3, hq => simp at hq
abbrev lw_N : Cond := Jvm.Cond.and given_1 narrow_1
def tmW (i : Nat) : Term := Term.string "LentTerms$Text" (idxW.getD i 0)
def tmV (i : Nat) : Term := (tmW i).field "java/lang/String" "value" "[B"
def tmN : Term := Term.static "LentTerms$Text" "NUMBERS_OF" "[I"
theorem ev_1 : ∀ i, i < 5 → Cond.exactly (tmW i) "java/lang/String" ∈ flatC lw_N ∧ Cond.eq ((tmW i).field "java/lang/String" "coder" "B") (Term.int 0) ∈ flatC lw_N ∧ Cond.arrayOf (tmV i) FieldType.byte ∈ flatC lw_N ∧ Cond.eq (tmV i).length (Term.int (Int32.ofNat (lenW.getD i 0))) ∈ flatC lw_N := by decide +kernel
theorem ev_2 : ∀ i, i < 5 → ∀ j, j < lenW.getD i 0 → Cond.eq ((tmV i).elem (Term.int (Int32.ofNat j))) (Term.int ((bytW.getD i []).getD j 0)) ∈ flatC lw_N := by decide +kernel
theorem ev_3 : ∀ i, i < 5 → ∀ j, j < 5 → i ≠ j → (Cond.eq (tmW i) (tmW j)).not ∈ flatC lw_N ∨ (Cond.eq (tmW j) (tmW i)).not ∈ flatC lw_N := by decide +kernel
theorem ev_4 : Cond.eq (Term.static "java/lang/String" "COMPACT_STRINGS" "Z") (Term.int 1) ∈ flatC lw_N ∧ Cond.isRef (Term.static "jdk/internal/util/Preconditions" "SIOOBE_FORMATTER" "Ljava/util/function/BiFunction;") ∈ flatC lw_N ∧ Cond.arrayOf tmN .int ∈ flatC lw_N ∧ Cond.eq tmN.length (Term.int (Int32.ofNat 5)) ∈ flatC lw_N := by decide +kernel
theorem ev_5 : ∀ j, j < 5 → Cond.eq (tmN.elem (Term.int (Int32.ofNat j))) (Term.int (numW.getD j 0)) ∈ flatC lw_N := by decide +kernel
theorem ev_6 : ∀ i, i < 5 → Cond.stringRef "LentTerms$Text" (idxW.getD i 0) (txtW.getD i "") ∈ lw_tbl := by decide +kernel
theorem ev_7 : Cond.laysStatic "java/lang/String" "COMPACT_STRINGS" "Z" ∈ lw_tbl ∧ Cond.laysStatic "LentTerms$Text" "NUMBERS_OF" "[I" ∈ lw_tbl ∧ Cond.laysStatic "jdk/internal/util/Preconditions" "SIOOBE_FORMATTER" "Ljava/util/function/BiFunction;" ∈ lw_tbl ∧ Cond.initialized "java/lang/String" ∈ lw_tbl ∧ Cond.initialized "jdk/internal/util/Preconditions" ∈ lw_tbl ∧ Cond.initialized "LentTerms$Text" ∈ lw_tbl := by decide +kernel
theorem law_ev {s : State} {args : Array Value} (hts : ∀ w ∈ lw_tbl, w.before args s = true) (hgv : (Jvm.Cond.and given_1 narrow_1).before args s = true) : ∃ (ad av : Nat → Nat) (na : Nat), evS ad av na (fun q : Nat => s.heap.size ≤ q) s s.heap := by
  have hn := flat_of_before _ hgv
  have hA : ∀ a : Nat, a < s.heap.size → ¬ (fun q : Nat => s.heap.size ≤ q) a := fun a h => Nat.not_le.mpr h
  obtain ⟨ad, av, h1, h2⟩ := vk_Sof (args := args) (s := s) (N := 5) (tm := tmW) (len := lenW) (byt := bytW) (A := fun q : Nat => s.heap.size ≤ q) (by decide +kernel) (fun i hi => hn _ (ev_1 i hi).1) (fun i hi => hn _ (ev_1 i hi).2.1) (fun i hi => hn _ (ev_1 i hi).2.2.1) (fun i hi => hn _ (ev_1 i hi).2.2.2) (fun i hi j hj => hn _ (ev_2 i hi j hj)) (fun i j hi hj hne => (ev_3 i hi j hj hne).elim (fun z => .inl (hn _ z)) (fun z => .inr (hn _ z))) hA
  obtain ⟨na, h3, h4⟩ := va_Tof (args := args) (s := s) (tm := tmN) (ty := .int) (N := 5) (f := fun j => .int (numW.getD j 0)) (A := fun q : Nat => s.heap.size ≤ q) (by decide) (hn _ ev_4.2.2.1) (va_eqt (hn _ ev_4.2.2.2)) (fun j hj => va_eqt (hn _ (ev_5 j hj))) hA
  exact ⟨ad, av, na, h1, va_Zof (hts _ ev_7.1) (hts _ ev_7.2.2.2.1) (va_eqi (hn _ ev_4.1)) hA, va_Zqof (hts _ ev_7.2.2.1) (hts _ ev_7.2.2.2.2.1) (hn _ ev_4.2.1) hA, va_Zof (hts _ ev_7.2.1) (hts _ ev_7.2.2.2.2.2) h3 hA, h4, fun i hi => vk_R.of (hts _ (ev_6 i hi)) (h2 i hi), va_AO.of (hts _ law_w10)⟩
