/-! loops, and what specifications are made of -/
theorem toN {x : Int32} (h : 0 ≤ x.toInt) : ∃ n : Nat, n < 2 ^ 31 ∧ x = nI n := by
  obtain ⟨j, h1, h2⟩ := nI_of (x := x) (by rw [Int32.lt_iff_toInt_lt]; exact Int.not_lt.mpr h)
  exact ⟨j, h1, h2⟩
theorem wloop {σ : Type} {p : Program} {l : Launch} {e : Env} {R : Room} {s : State} {m : MethodId} {args : Array Value} {below : List Frame} {meth : Method} {c : Code} {H : Heap} {locs : List Loc} {cells slots : Nat} {Q : State → Prop} {pc : Nat} {ls : Array Slot} {nL : Nat} {G : va_G} {A : Nat → Prop} {H0 : Heap} (μ : σ → Nat) (inv : σ → Prop) (lv : σ → List (Nat × Value)) (ws : σ → va_W) (x0 : σ) (h0 : inv x0) (hl : lv_has ls nL (lv x0)) (hP : va_P G vwCl (ws x0) H) (hD : va_D A (ws x0)) (hS : va_S A H0 H locs)
    (body : ∀ x, inv x → (∀ y, μ y < μ x → inv y → ∀ (ls : Array Slot) (H : Heap) (locs : List Loc), lv_has ls nL (lv y) → va_P G vwCl (ws y) H → va_D A (ws y) → va_S A H0 H locs → W p l e R s m args below meth c H locs cells slots Q (F0 m pc ls [])) → ∀ (ls : Array Slot) (H : Heap) (locs : List Loc), lv_has ls nL (lv x) → va_P G vwCl (ws x) H → va_D A (ws x) → va_S A H0 H locs → W p l e R s m args below meth c H locs cells slots Q (F0 m pc ls [])) : W p l e R s m args below meth c H locs cells slots Q (F0 m pc ls []) := by
  have key : ∀ (n : Nat) (x : σ), μ x < n → inv x → ∀ (ls : Array Slot) (H : Heap) (locs : List Loc), lv_has ls nL (lv x) → va_P G vwCl (ws x) H → va_D A (ws x) → va_S A H0 H locs → W p l e R s m args below meth c H locs cells slots Q (F0 m pc ls []) := by
    intro n
    induction n with
    | zero => intro x h; exact absurd h (Nat.not_lt_zero _)
    | succ n ih =>
      intro x hx hi
      exact body x hi (fun y hy hj => ih y (by omega) hj)
  exact key (μ x0 + 1) x0 (Nat.lt_succ_self _) h0 ls H locs hl hP hD hS
/-- n turns from a start: turn k makes f k of what stands -/
def it {σ : Type} (f : Nat → σ → σ) : Nat → σ → σ
  | 0, x => x
  | k + 1, x => f k (it f k x)
theorem it_congr {σ : Type} {f g : Nat → σ → σ} : ∀ (n : Nat) (x : σ), (∀ k, k < n → ∀ y, f k y = g k y) → it f n x = it g n x := by
  intro n
  induction n with
  | zero => intro x _; rfl
  | succ n ih => intro x h; show f n (it f n x) = g n (it g n x); rw [ih x (fun k hk => h k (by omega)), h n (by omega)]
theorem it_inv {σ : Type} {f : Nat → σ → σ} (I : Nat → σ → Prop) : ∀ (n : Nat) (x : σ), I 0 x → (∀ k y, k < n → I k y → I (k + 1) (f k y)) → I n (it f n x) := by
  intro n
  induction n with
  | zero => intro x h _; exact h
  | succ n ih => intro x h hs; exact hs n _ (by omega) (ih x h (fun k y hk => hs k y (by omega)))
def cntN (p : Nat → Bool) (n : Nat) : Nat := it (fun k a => a + if p k = true then 1 else 0) n 0
theorem cntN_s (p : Nat → Bool) (n : Nat) : cntN p (n + 1) = cntN p n + if p n = true then 1 else 0 := rfl
theorem cntN_le (p : Nat → Bool) : ∀ n, cntN p n ≤ n := by
  intro n
  induction n with
  | zero => exact Nat.le_refl 0
  | succ n ih => rw [cntN_s]; split <;> omega
theorem cntN_congr {p q : Nat → Bool} (n : Nat) (h : ∀ k, k < n → p k = q k) : cntN p n = cntN q n := it_congr n 0 (fun k hk y => by rw [h k hk])
def bitsN (p : Nat → Bool) (n : Nat) : Nat := it (fun k a => a ||| if p k = true then 2 ^ k else 0) n 0
theorem bitsN_s (p : Nat → Bool) (n : Nat) : bitsN p (n + 1) = bitsN p n ||| if p n = true then 2 ^ n else 0 := rfl
theorem bitsN_congr {p q : Nat → Bool} (n : Nat) (h : ∀ k, k < n → p k = q k) : bitsN p n = bitsN q n := it_congr n 0 (fun k hk y => by rw [h k hk])
theorem bitsN_lt (p : Nat → Bool) : ∀ n, bitsN p n < 2 ^ n := by
  intro n
  induction n with
  | zero => exact Nat.zero_lt_one
  | succ n ih =>
    rw [bitsN_s]
    have h2 : 2 ^ n < 2 ^ (n + 1) := Nat.pow_lt_pow_right (by omega) (by omega)
    refine Nat.or_lt_two_pow (by omega) ?_
    split
    · exact h2
    · exact Nat.two_pow_pos _
/-- the first below n of a kind, or -1 -/
def firstI (p : Nat → Bool) : Nat → Nat → Int32
  | 0, _ => -1
  | n + 1, k => if p k = true then nI k else firstI p n (k + 1)
theorem firstI_at {p : Nat → Bool} : ∀ (n k j : Nat), k ≤ j → j < k + n → p j = true → (∀ i, k ≤ i → i < j → p i = false) → firstI p n k = nI j := by
  intro n
  induction n with
  | zero => intro k j h1 h2; omega
  | succ n ih =>
    intro k j h1 h2 hp hn
    unfold firstI
    by_cases e : k = j
    · subst e; rw [if_pos hp]
    · rw [if_neg (by rw [hn k (Nat.le_refl k) (by omega)]; decide)]
      exact ih (k + 1) j (by omega) (by omega) hp (fun i h3 h4 => hn i (by omega) h4)
theorem firstI_no {p : Nat → Bool} : ∀ (n k : Nat), (∀ i, k ≤ i → i < k + n → p i = false) → firstI p n k = -1 := by
  intro n
  induction n with
  | zero => intro k _; rfl
  | succ n ih =>
    intro k hn
    unfold firstI
    rw [if_neg (by rw [hn k (Nat.le_refl k) (by omega)]; decide)]
    exact ih (k + 1) (fun i h1 h2 => hn i (by omega) (by omega))
theorem firstI_congr {p q : Nat → Bool} : ∀ (n k : Nat), (∀ i, k ≤ i → i < k + n → p i = q i) → firstI p n k = firstI q n k := by
  intro n
  induction n with
  | zero => intro k _; rfl
  | succ n ih =>
    intro k h
    unfold firstI
    rw [h k (Nat.le_refl k) (by omega), ih (k + 1) (fun i h1 h2 => h i (by omega) (by omega))]
section LIBM
variable {p : Program} {l : Launch} {e : Env} {R : Room} {s : State} {m : MethodId} {args : Array Value} {below : List Frame} {meth : Method} {c : Code} {H : Heap} {locs : List Loc} {cells slots : Nat} {Q : State → Prop} {pc : Nat} {ls : Array Slot} {rest : List Value} {cc : ByteArray}
theorem nv_min (hx : p.tables.exec = Jvm.exec) (hb : c.code = cc) (hml : c.maxLocals = ls.size) {own : String} {index : Nat} (hown : s.vm.findClass own = some m.cls) (hlink : (Cond.methodLink own index Lib.Math.min.name).before args s = true) (hstat : (Cond.static Lib.Math.min.name).before args s = true) (hini : (Cond.initialized "java/lang/Math").before args s = true) (hcode : (Cond.code Lib.Math.min.name Lib.Math.min.code 2 (some .int)).before args s = true) (hframes : 1 ≤ R.frames) (hlocals : (rest.map fun v => v.category).sum + 13 ≤ R.locals) (hc : cells ≤ R.cells) (hs : slots ≤ R.slots) {a b : Nat} (ha : a < 2 ^ 31) (hb2 : b < 2 ^ 31) (hdg : decode cc pc = .ok (.invokestatic index, 3)) (k : W p l e R s m args below meth c H locs cells slots Q (F0 m (pc + 3) ls (.int (nI (Nat.min a b)) :: rest))) : W p l e R s m args below meth c H locs cells slots Q (F0 m pc ls (.int (nI b) :: .int (nI a) :: rest)) := by
  refine va_mmin hx hb hml hown hlink hstat hini hcode hframes hlocals hc hs hdg ?_
  have e : (if nI b < nI a then nI b else nI a) = nI (Nat.min a b) := by
    split
    · rename_i h; have h := (nI_ltI hb2 ha).mp h; exact congrArg nI (by show b = min a b; omega)
    · rename_i h; have h : ¬ b < a := fun q => h ((nI_ltI hb2 ha).mpr q); exact congrArg nI (by show a = min a b; omega)
  rw [e]; exact k
theorem nv_max (hx : p.tables.exec = Jvm.exec) (hb : c.code = cc) (hml : c.maxLocals = ls.size) {own : String} {index : Nat} (hown : s.vm.findClass own = some m.cls) (hlink : (Cond.methodLink own index Lib.Math.max.name).before args s = true) (hstat : (Cond.static Lib.Math.max.name).before args s = true) (hini : (Cond.initialized "java/lang/Math").before args s = true) (hcode : (Cond.code Lib.Math.max.name Lib.Math.max.code 2 (some .int)).before args s = true) (hframes : 1 ≤ R.frames) (hlocals : (rest.map fun v => v.category).sum + 13 ≤ R.locals) (hc : cells ≤ R.cells) (hs : slots ≤ R.slots) {a b : Nat} (ha : a < 2 ^ 31) (hb2 : b < 2 ^ 31) (hdg : decode cc pc = .ok (.invokestatic index, 3)) (k : W p l e R s m args below meth c H locs cells slots Q (F0 m (pc + 3) ls (.int (nI (Nat.max a b)) :: rest))) : W p l e R s m args below meth c H locs cells slots Q (F0 m pc ls (.int (nI b) :: .int (nI a) :: rest)) := by
  refine va_mmax hx hb hml hown hlink hstat hini hcode hframes hlocals hc hs hdg ?_
  have e : (if nI a < nI b then nI b else nI a) = nI (Nat.max a b) := by
    split
    · rename_i h; have h := (nI_ltI ha hb2).mp h; exact congrArg nI (by show b = max a b; omega)
    · rename_i h; have h : ¬ a < b := fun q => h ((nI_ltI ha hb2).mpr q); exact congrArg nI (by show a = max a b; omega)
  rw [e]; exact k
def cpyN (f g : Nat → Nat) (n : Nat) : Nat → Nat := fun k => if k < n then f k else g k
theorem cpyN_lt {f g : Nat → Nat} {K : Nat} (hf : ∀ j, f j < K) (hg : ∀ j, g j < K) (n : Nat) : ∀ j, cpyN f g n j < K := by intro j; unfold cpyN; split; exact hf j; exact hg j
theorem cpy_nF (f g : Nat → Nat) (n : Nat) : va_cpy (nF f) (nF g) 0 0 n = nF (cpyN f g n) := by funext k; simp only [va_cpy, nF, cpyN, Nat.zero_le, Nat.zero_add, Nat.sub_zero, true_and]; split <;> rfl
theorem nv_copy {G : va_G} {cl : List vw_C} {tys : List (ClassId × FieldType)} {ws : va_W} {A : Nat → Prop} {H0 : Heap} (hx : p.tables.exec = Jvm.exec) (hb : c.code = cc) (hml : c.maxLocals = ls.size) {own : String} {index : Nat} (hown : s.vm.findClass own = some m.cls) (hlink : (Cond.methodLink own index arraycopyName).before args s = true) (hnat : (Cond.native arraycopyName).before args s = true) (hstat : (Cond.static arraycopyName).before args s = true) (hini : (Cond.initialized "java/lang/System").before args s = true)
    (hK : va_K G cl tys s) (hP : va_P G cl ws H) (hD : va_D A ws) (hS : va_S A H0 H locs) (q0 q1 t0 : Nat) {a a0 : Nat} {c0 : ClassId} {n0 : Nat} {f g : Nat → Nat} (ha0 : ws[q0]? = some (a0, .inl (c0, n0, .inl (nF f)))) (ha1 : ws[q1]? = some (a, .inl (c0, n0, .inl (nF g)))) (ht0 : tys[t0]? = some (c0, .int)) {n : Nat} (hn : n ≤ n0) (hn0 : n0 < 2 ^ 31)
    (hframes : 1 ≤ R.frames) (hlocals : (rest.map fun v => v.category).sum + (nativeFrameWords "java/lang/System" "arraycopy" 5 + 11) ≤ R.locals) (hdg : decode cc pc = .ok (.invokestatic index, 3)) (ws2 : va_W) (hw : ws.set q1 (a, .inl (c0, n0, .inl (nF (cpyN f g n)))) = ws2)
    (k : ∀ (H1 : Heap) (locs1 : List Loc), va_P G cl ws2 H1 → va_D A ws2 → va_S A H0 H1 locs1 → W p l e R s m args below meth c H1 locs1 cells slots Q (F0 m (pc + 3) ls (rest))) : W p l e R s m args below meth c H locs cells slots Q (F0 m pc ls (.int (nI n) :: .int (nI 0) :: .ref a :: .int (nI 0) :: .ref a0 :: rest)) := by
  subst hw
  have hc : (nI n).toNatClampNeg = n := nI_clamp (by omega)
  have hz : (nI 0).toNatClampNeg = 0 := by decide
  refine va_copyi hx hb hml hown hlink hnat hstat hini hK hP hD hS q0 q1 t0 t0 ha0 ha1 ht0 ht0 rfl (by decide) (by decide) (nI_pos (by omega)) (by rw [hc, hz]; omega) (by rw [hc, hz]; omega) (fun _ _ => rfl) hframes hlocals hdg ?_
  rw [hc, hz, cpy_nF]; exact k
theorem nv_newI {G : va_G} {tA : Nat → ClassId} {ws : va_W} {A : Nat → Prop} {H0 : Heap} (hx : p.tables.exec = Jvm.exec) (hb : c.code = cc) (harr : (Cond.arrayClass (newarray.typeOf .int)).before args s = true) (hk : kk G tA s) (hP : va_P G vwCl ws H) (hD : va_D A ws) (hS : va_S A H0 H locs) (hA : ∀ q, H0.size ≤ q → A q) {n : Nat} (hn : n < 100000) (hcells : cells + 1 ≤ R.cells) (hslots : slots + n ≤ R.slots) (hdg : decode cc pc = .ok (.newarray .int, 2))
    (k : ∀ (q : Nat) (H1 : Heap), va_P G vwCl (ws ++ [(q, .inl (tA 0, n, .inl (nF fun _ => 0)))]) H1 → va_D A (ws ++ [(q, .inl (tA 0, n, .inl (nF fun _ => 0)))]) → va_S A H0 H1 locs → W p l e R s m args below meth c H1 locs (cells + 1) (slots + n) Q (F0 m (pc + 2) ls (.ref q :: rest))) : W p l e R s m args below meth c H locs cells slots Q (F0 m pc ls (.int (nI n) :: rest)) := by
  refine va_newa (ty := .int) (a0 := (n, .inl (nF fun _ => 0))) (N' := n) hx hb harr rfl hk.1 hP hD hS hA (fun _ => rfl) (nI_pos (by omega)) (nI_clamp (by omega)) (by show n * componentBytes .int ≤ 536870912; have : componentBytes .int ≤ 8 := (by decide); have := Nat.mul_le_mul (show n ≤ 100000 from by omega) this; omega) hcells hslots hdg ?_
  intro q cA H1 hK1 hP1 hD1 hS1
  have h1 : va_RA s cA .int := (hK1.2 3 (cA, .int) rfl).2
  have h2 : va_RA s (tA 0) .int := (hK1.2 0 (tA 0, .int) rfl).2
  have e : tA 0 = cA := Option.some.inj (h2.symm.trans h1)
  subst e
  exact k q H1 hP1 hD1 hS1
theorem nv_newZ {G : va_G} {tA : Nat → ClassId} {ws : va_W} {A : Nat → Prop} {H0 : Heap} (hx : p.tables.exec = Jvm.exec) (hb : c.code = cc) (harr : (Cond.arrayClass (newarray.typeOf .boolean)).before args s = true) (hk : kk G tA s) (hP : va_P G vwCl ws H) (hD : va_D A ws) (hS : va_S A H0 H locs) (hA : ∀ q, H0.size ≤ q → A q) {n : Nat} (hn : n < 100000) (hcells : cells + 1 ≤ R.cells) (hslots : slots + n ≤ R.slots) (hdg : decode cc pc = .ok (.newarray .boolean, 2))
    (k : ∀ (q : Nat) (H1 : Heap), va_P G vwCl (ws ++ [(q, .inl (tA 1, n, .inl (nF fun _ => 0)))]) H1 → va_D A (ws ++ [(q, .inl (tA 1, n, .inl (nF fun _ => 0)))]) → va_S A H0 H1 locs → W p l e R s m args below meth c H1 locs (cells + 1) (slots + n) Q (F0 m (pc + 2) ls (.ref q :: rest))) : W p l e R s m args below meth c H locs cells slots Q (F0 m pc ls (.int (nI n) :: rest)) := by
  refine va_newa (ty := .boolean) (a0 := (n, .inl (nF fun _ => 0))) (N' := n) hx hb harr rfl hk.1 hP hD hS hA (fun _ => rfl) (nI_pos (by omega)) (nI_clamp (by omega)) (by show n * componentBytes .boolean ≤ 536870912; have : componentBytes .boolean ≤ 8 := (by decide); have := Nat.mul_le_mul (show n ≤ 100000 from by omega) this; omega) hcells hslots hdg ?_
  intro q cA H1 hK1 hP1 hD1 hS1
  have h1 : va_RA s cA .boolean := (hK1.2 3 (cA, .boolean) rfl).2
  have h2 : va_RA s (tA 1) .boolean := (hK1.2 1 (tA 1, .boolean) rfl).2
  have e : tA 1 = cA := Option.some.inj (h2.symm.trans h1)
  subst e
  exact k q H1 hP1 hD1 hS1
end LIBM
