/-! READ: the state after, alike -/
def CWt (nn : Nat → Nat) (cc : Nat → Nat → Nat) (hs wf wt : Nat → Nat) : Prop := CW (nn 0) (cc 0) (nn 1) (cc 1) (nn 2) (cc 2) (nn 3) (cc 3) (nn 4) (cc 4) (nn 5) (cc 5) hs wf wt
theorem CW_tt {tx : Nat → Nat} {sz : Nat} {hs wf wt : Nat → Nat} : ∀ f a k rf N nn cc, CWt nn cc hs wf wt → CWt (ttS tx sz f a k rf N nn cc).2.2.2.1 (ttS tx sz f a k rf N nn cc).2.2.2.2 hs wf wt := by
  intro f
  induction f with
  | zero => intro a k rf N nn cc h; exact h
  | succ f ih =>
    intro a k rf N nn cc h
    by_cases c : sz ≤ a
    · rw [ttS_e _ c]; exact h
    by_cases q : wqN tx sz a = 0
    · rw [ttS_w f (by omega) q]; exact h
    by_cases z1 : (nmC tx sz (nuV (wqN tx sz a - 1)) 0 (wqA tx sz a) N).1 = true
    · by_cases z2 : ruE tx sz 32 32 (nmC tx sz (nuV (wqN tx sz a - 1)) 0 (wqA tx sz a) N).2.1 < sz ∧ tx (ruE tx sz 32 32 (nmC tx sz (nuV (wqN tx sz a - 1)) 0 (wqA tx sz a) N).2.1) = 59
      · by_cases hrf : rf = 0
        · rw [ttS_k f (by omega) rfl q rfl z1 z2 hrf]
          refine ih _ _ _ _ _ _ ?_
          exact CW_cl h (by have := wqS_le tx a (wqA tx sz a - a); unfold wqN at q ⊢; omega)
        · rw [ttS_r f (by omega) rfl q rfl z1 z2 hrf]; exact ih _ _ _ _ _ _ h
      · rw [ttS_s f (by omega) rfl q rfl z1 z2]; exact h
    · rw [ttS_n f (by omega) rfl q rfl z1]; exact h
theorem neg10 : ∀ p, p ≤ 250 → ((-10) - nI p).toInt < 0 := by decide +kernel
theorem neg1000 : ∀ p, p ≤ 62 → ((-1000) - nI p).toInt < 0 := by decide +kernel
theorem RepT_0 {nn : Nat → Nat} {cc : Nat → Nat → Nat} {hs wf wt X : Nat → Nat} (h : CWt nn cc hs wf wt) (hX : ∀ j, j < 212 → X j = 0) : RepT zeroB cc (fillN hs 0 5) (fillN wf 0 5) (fillN wt 0 40) X := by
  obtain ⟨-, ⟨hb0, hb1, hb2, hb3, hb4, hb5, hbh, hbw, hbt⟩, -⟩ := h
  have f : ∀ (g : Nat → Nat) (n j : Nat), j < n → fillN g 0 n j = 0 := fun g n j hj => if_pos hj
  have fb : ∀ (g : Nat → Nat) (n : Nat), (∀ j, g j < 1048576) → ∀ j, fillN g 0 n j < 1048576 := fun g n hg j => by unfold fillN; split; omega; exact hg j
  have z : ∀ j, zeroB j = 0 := fun _ => rfl
  have e0 := hX 0 (by omega)
  have e1 := hX 1 (by omega)
  have e2 := hX 2 (by omega)
  have e3 := hX 3 (by omega)
  have e4 := hX 4 (by omega)
  have e5 := hX 5 (by omega)
  refine ⟨⟨by rw [z]; omega, by rw [z]; omega, by rw [z]; omega, by rw [z]; omega, by rw [z]; omega, by rw [z]; omega⟩, ⟨hb0, hb1, hb2, hb3, hb4, hb5, fb _ _ hbh, fb _ _ hbw, fb _ _ hbt⟩, fun q hq => by omega, fun q hq => by omega, fun q hq => by omega, fun q hq => by omega, fun q hq => by omega, fun q hq => by omega, fun p hp => ?_, fun p t hp ht => ?_⟩
  · rw [f _ _ _ hp, f _ _ _ hp, hX _ (by omega), hX _ (by omega)]; exact ⟨rfl, rfl⟩
  · rw [f _ _ _ (by omega), if_neg (by omega)]
theorem WB_tlT {I X : Nat → Nat} (h : WB X) : ∀ n, WB (tlT I X n) := by
  intro n
  induction n with
  | zero => exact h
  | succ n ih => rw [tlT_s]; exact WB_tl ih
/-- what the model's book is after read -/
noncomputable def rdB (R : Bool × (Nat × Nat × Nat × Nat) × Nat × (Nat → Nat)) (B asd : Nat → Nat) (kk : Nat) : Nat → Nat := if R.1 = true then (if kk = R.2.2.1 then tlT R.2.2.2 (cpTo B 0 zeroB 212) kk else cpTo (tlT R.2.2.2 (cpTo B 0 zeroB 212) (kk + 1)) 0 (cpTo asd 0 B 212) 212) else B
theorem st_read {n0 : Nat} {c0 : Nat → Nat} {n1 : Nat} {c1 : Nat → Nat} {n2 : Nat} {c2 : Nat → Nat} {n3 : Nat} {c3 : Nat → Nat} {n4 : Nat} {c4 : Nat → Nat} {n5 : Nat} {c5 hs wf wt : Nat → Nat} {B : Nat → Nat} (hR : Rep n0 c0 n1 c1 n2 c2 n3 c3 n4 c4 n5 c5 hs wf wt B) (hw : WB B) {nn : Nat → Nat} {cc : Nat → Nat → Nat} {hs2 wf2 wt2 asd tx itm : Nat → Nat} {sz val kk : Nat} {nu : Nat → Int32} (hC : CWt nn cc hs2 wf2 wt2) (hty : sz ≤ 250) (hasd : ∀ j, asd j < 1048576) (h1 : (rdS tx sz 251 (scN tx sz 0 val) 0 itm).2.1.2.1 ≤ sz) (h2 : (rdS tx sz 251 (scN tx sz 0 val) 0 itm).2.2.1 ≤ 62)
    (hk : (rdS tx sz 251 (scN tx sz 0 val) 0 itm).1 = true → (kk ≤ (rdS tx sz 251 (scN tx sz 0 val) 0 itm).2.2.1 ∧ (∀ j, j < kk → tlO (rdS tx sz 251 (scN tx sz 0 val) 0 itm).2.2.2 (cpTo B 0 zeroB 212) j) ∧ (kk = (rdS tx sz 251 (scN tx sz 0 val) 0 itm).2.2.1 ∨ ¬ tlO (rdS tx sz 251 (scN tx sz 0 val) 0 itm).2.2.2 (cpTo B 0 zeroB 212) kk))) :
    (ttS tx sz 250 (ruE tx sz 32 32 0) 0 0 nu zeroB cc).1 = (if (rdS tx sz 251 (scN tx sz 0 val) 0 itm).1 = true then (if kk = (rdS tx sz 251 (scN tx sz 0 val) 0 itm).2.2.1 then nI (rdS tx sz 251 (scN tx sz 0 val) 0 itm).2.2.1 else (-1000) - nI kk) else (-10) - nI (rdS tx sz 251 (scN tx sz 0 val) 0 itm).2.1.2.1) ∧
    CWt (ttS tx sz 250 (ruE tx sz 32 32 0) 0 0 nu zeroB cc).2.2.2.1 (ttS tx sz 250 (ruE tx sz 32 32 0) 0 0 nu zeroB cc).2.2.2.2 (fillN hs2 0 5) (fillN wf2 0 5) (fillN wt2 0 40) ∧
    WB (rdB (rdS tx sz 251 (scN tx sz 0 val) 0 itm) B asd kk) ∧
    (0 ≤ (ttS tx sz 250 (ruE tx sz 32 32 0) 0 0 nu zeroB cc).1.toInt → RepT (ttS tx sz 250 (ruE tx sz 32 32 0) 0 0 nu zeroB cc).2.2.2.1 (ttS tx sz 250 (ruE tx sz 32 32 0) 0 0 nu zeroB cc).2.2.2.2 (fillN hs2 0 5) (fillN wf2 0 5) (fillN wt2 0 40) (rdB (rdS tx sz 251 (scN tx sz 0 val) 0 itm) B asd kk)) ∧
    (¬ 0 ≤ (ttS tx sz 250 (ruE tx sz 32 32 0) 0 0 nu zeroB cc).1.toInt → Rep n0 c0 n1 c1 n2 c2 n3 c3 n4 c4 n5 c5 hs wf wt (rdB (rdS tx sz 251 (scN tx sz 0 val) 0 itm) B asd kk)) := by
  have hX0 : ∀ j, j < 212 → cpTo B 0 zeroB 212 j = 0 := fun j hj => by unfold cpTo; rw [if_pos (by omega)]; rfl
  have hWX := WB_zero (B := B) hw.2.1
  have hC2 : CWt (ttS tx sz 250 (ruE tx sz 32 32 0) 0 0 nu zeroB cc).2.2.2.1 (ttS tx sz 250 (ruE tx sz 32 32 0) 0 0 nu zeroB cc).2.2.2.2 (fillN hs2 0 5) (fillN wf2 0 5) (fillN wt2 0 40) := CW_tt _ _ _ _ _ _ _ (CW_forget hC)
  have key := read_eq (tx := tx) (sz := sz) (hs := fillN hs2 0 5) (wf := fillN wf2 0 5) (wt := fillN wt2 0 40) (X := cpTo B 0 zeroB 212) 250 (ruE tx sz 32 32 0) 0 val 0 0 nu zeroB cc itm (Nat.zero_le _) rfl (by omega) (fun _ => ⟨RepT_0 hC hX0, hWX, fun j hj => absurd hj (Nat.not_lt_zero _)⟩) (fun z => absurd rfl z)
  have hWT := WB_tlT (I := (rdS tx sz 251 (scN tx sz 0 val) 0 itm).2.2.2) hWX
  generalize ttS tx sz 250 (ruE tx sz 32 32 0) 0 0 nu zeroB cc = z at *
  generalize rdS tx sz 251 (scN tx sz 0 val) 0 itm = R at *
  obtain ⟨k1, k2⟩ := key
  by_cases c : R.1 = true
  · obtain ⟨g1, g2, g3⟩ := hk c
    obtain ⟨ka, a1, a2, a3⟩ := k2 c
    have ek : ka = kk := by
      rcases Nat.lt_trichotomy ka kk with y | y | y
      · rcases a3 with ⟨e, -, -⟩ | ⟨-, e, -⟩
        · omega
        · exact absurd (g2 ka y) e
      · exact y
      · rcases g3 with e | e
        · omega
        · exact absurd (a2 kk y) e
    subst ek
    rcases a3 with ⟨e1, e2, e3⟩ | ⟨e1, e2, e3⟩
    · have eB : rdB R B asd ka = tlT R.2.2.2 (cpTo B 0 zeroB 212) ka := by unfold rdB; rw [if_pos c, if_pos e1]
      rw [eB, if_pos c, if_pos e1]
      refine ⟨by rw [e2, e1], hC2, hWT ka, fun _ => e3, fun h => absurd ?_ h⟩
      rw [e2, nI_toInt (by omega)]; omega
    · have eB : rdB R B asd ka = cpTo (tlT R.2.2.2 (cpTo B 0 zeroB 212) (ka + 1)) 0 (cpTo asd 0 B 212) 212 := by unfold rdB; rw [if_pos c, if_neg (by omega)]
      have same := Rep_book (B2 := rdB R B asd ka) hR hw (by rw [eB]; exact cpTo_lt (hWT _).2.1 (cpTo_lt hasd hw.2.1 0 212) 0 212) (fun j hj => by rw [eB]; unfold cpTo; rw [if_pos (by omega), if_pos (by omega)]; rfl)
      refine ⟨by rw [e3, if_pos c, if_neg (by omega)], hC2, same.2, fun h => absurd h ?_, fun _ => same.1⟩
      rw [e3]; have := neg1000 ka (by omega); omega
  · have c2 : R.1 = false := Bool.eq_false_iff.mpr c
    have e := k1 c2
    have eB : rdB R B asd kk = B := by unfold rdB; rw [if_neg c]
    rw [eB]
    refine ⟨by rw [e, if_neg c], hC2, hw, fun h => absurd h ?_, fun _ => hR⟩
    rw [e]; have := neg10 R.2.1.2.1 (by omega); omega
