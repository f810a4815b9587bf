/-! the model: plans and deals -/
def allB (P : Nat → Prop) (n : Nat) : Prop := ∀ k, k < n → P k
theorem allB_0 (P : Nat → Prop) : allB P 0 := fun k h => by omega
theorem allB_s {P : Nat → Prop} {n : Nat} : allB P (n + 1) ↔ allB P n ∧ P n := ⟨fun h => ⟨fun k hk => h k (by omega), h n (by omega)⟩, fun h k hk => by rcases Nat.lt_succ_iff_lt_or_eq.mp hk with q | q; exact h.1 k q; rw [q]; exact h.2⟩
def flg (f : Nat) (A : Prop) : Prop := (f = 1 ∧ A) ∨ (f = 0 ∧ ¬ A)
theorem flg_iff {f : Nat} {A A2 : Prop} (h : flg f A) (e : A ↔ A2) : flg f A2 := by rw [← propext e]; exact h
theorem flg_1 {f : Nat} {A : Prop} (h : flg f A) (hf : ¬ f = 0) : A := by rcases h with z | z; exact z.2; exact absurd z.1 hf
theorem flg_0 {f : Nat} {A : Prop} (h : flg f A) (hf : f = 0) : ¬ A := by rcases h with z | z; omega; exact z.2
theorem flg_lt {f : Nat} {A : Prop} (h : flg f A) : f < 2 := by rcases h with z | z <;> omega
theorem flg_p1 {f n : Nat} {A : Prop} {P : Nat → Prop} (h : flg f (A ∧ allB P n)) (hf : ¬ f = 0) (hp : P n) : flg 1 (A ∧ allB P (n + 1)) := Or.inl ⟨rfl, (flg_1 h hf).1, allB_s.mpr ⟨(flg_1 h hf).2, hp⟩⟩
theorem flg_p0 {n : Nat} {A : Prop} {P : Nat → Prop} (hp : ¬ P n) : flg 0 (A ∧ allB P (n + 1)) := Or.inr ⟨rfl, fun z => hp (allB_s.mp z.2).2⟩
theorem flg_pf {f n : Nat} {A : Prop} {P : Nat → Prop} (h : flg f (A ∧ allB P n)) (hf : f = 0) : flg 0 (A ∧ allB P (n + 1)) := Or.inr ⟨rfl, fun z => flg_0 h hf ⟨z.1, (allB_s.mp z.2).1⟩⟩
theorem flg_q1 {f n : Nat} {A R : Prop} {Q : Nat → Prop} (h : flg f ((A ∧ allB Q n) ∧ R)) (hf : ¬ f = 0) (hq : R → Q n) : flg 1 (A ∧ allB Q (n + 1)) := Or.inl ⟨rfl, (flg_1 h hf).1.1, allB_s.mpr ⟨(flg_1 h hf).1.2, hq (flg_1 h hf).2⟩⟩
theorem flg_q0 {n : Nat} {A : Prop} {Q : Nat → Prop} (hq : ¬ Q n) : flg 0 (A ∧ allB Q (n + 1)) := Or.inr ⟨rfl, fun z => hq (allB_s.mp z.2).2⟩
theorem flg_qf {f n : Nat} {A R : Prop} {Q : Nat → Prop} (h : flg f ((A ∧ allB Q n) ∧ R)) (hf : f = 0) (hq : Q n → R) : flg 0 (A ∧ allB Q (n + 1)) := Or.inr ⟨rfl, fun z => flg_0 h hf ⟨⟨z.1, (allB_s.mp z.2).1⟩, hq (allB_s.mp z.2).2⟩⟩
def bothM (h : Nat → Nat) (v w : Nat) : Prop := h v = h w ∧ h w < 24
def meetM (B h : Nat → Nat) (w v : Nat) : Prop := ¬ (bothM h v w ∧ ¬ v = w ∧ B (126 + 4 * v) = B (126 + 4 * w))
noncomputable def cntW (B h : Nat → Nat) (w t n : Nat) : Nat := it (fun v a => a + if pB (bothM h v w ∧ B (126 + 4 * v + 1) / 2 ^ t % 2 = 1) = true then 1 else 0) n 0
theorem cntW_0 (B h : Nat → Nat) (w t : Nat) : cntW B h w t 0 = 0 := rfl
theorem cntW_s (B h : Nat → Nat) (w t n : Nat) : cntW B h w t (n + 1) = cntW B h w t n + if pB (bothM h n w ∧ B (126 + 4 * n + 1) / 2 ^ t % 2 = 1) = true then 1 else 0 := rfl
def okWT (B h : Nat → Nat) (w t : Nat) : Prop := allB (meetM B h w) (B 4) ∧ cntW B h w t (B 4) ≤ mayM B t
def canP (B h : Nat → Nat) : Prop := allB (fun w => allB (okWT B h w) (B 0)) (B 4)

set_option maxHeartbeats 4000000 in
set_option maxRecDepth 100000 in
theorem c_X9_canBe (l : Launch) (G : va_G) (tA : Nat → ClassId) (b : Nat → Nat) (qu : Nat) (ab : Int64) (bl : Int64) (tyd : Nat) (at0 : Nat) (sta : Nat) (tok : Nat) (val : Nat) (man : Nat) (B : Nat → Nat) (hrs : Nat → Nat) (hWB : WB B) (hbh : ∀ j, hrs j < 1048576) : CtI l yX9_canBe wsX9_canBe ({ frames := 1, cells := 0, slots := 0, locals := 22 }) G tA [.ref (b 0)] ([(b 0, .inr (7, [.ref (b 1), .ref (b 2), .ref (b 3), .ref (b 4), .ref (b 5), .int (nI qu), .long ab, .long bl, .ref (b 6), .int (nI tyd), .int (nI at0), .int (nI sta), .int (nI tok), .int (nI val), .ref (b 7), .int (nI man), .ref (b 8), .ref (b 9), .ref (b 10), .ref (b 11), .ref (b 12), .ref (b 13), .ref (b 14)])), (b 1, .inl (tA 0, 212, .inl (nF B))), (b 11, .inl (tA 0, 5, .inl (nF hrs)))]) (fun (r : Int32) (_ : Unit) => ((r = nI 1 ∧ (canP B hrs)) ∨ (r = nI 0 ∧ ¬ (canP B hrs)))) (fun (_ : Unit) => [(b 0, .inr (7, [.ref (b 1), .ref (b 2), .ref (b 3), .ref (b 4), .ref (b 5), .int (nI qu), .long ab, .long bl, .ref (b 6), .int (nI tyd), .int (nI at0), .int (nI sta), .int (nI tok), .int (nI val), .ref (b 7), .int (nI man), .ref (b 8), .ref (b 9), .ref (b 10), .ref (b 11), .ref (b 12), .ref (b 13), .ref (b 14)])), (b 1, .inl (tA 0, 212, .inl (nF B))), (b 11, .inl (tA 0, 5, .inl (nF hrs)))]) 0 0 := by
  refine enterI (cc := cX9_canBe) (maxL := 7) (ret := (some .boolean)) (by decide) rfl (Nat.le_of_ble_eq_true rfl) ?_
  intro p0 e0 s m args below meth c0_ A ls hx hb hml hr hts hown hlocks hin hKK hA hP hD hl hS
  have hown : s.vm.findClass RX9 = some m.cls := hown
  have hl : lv_has ls 7 [(0, .ref (b 0))] := hl
  have f7 := hts (Cond.fieldLink RX9 7 "LentTermsModel" "book" "[I") (List.mem_of_getElem? (i := 1) rfl)
  have iX9 : ∀ w ∈ wsX90, w ∈ wsX9_canBe := by decide +kernel
  have f41 := hts (Cond.fieldLink RX9 41 "LentTermsModel" "hours" "[I") (List.mem_of_getElem? (i := 2) rfl)
  obtain ⟨⟨hn0, hn1, hn2, hn3, hn4, hn5⟩, hbB, hv0, hv1, hv2, hv3, hv4, hv5, hv6, hv7⟩ := id hWB
  have h256 := p256 hn0
  refine lv_iconst (v := nI 1) hx hb dX9_canBe_0 (by decide) ?_
  refine lv_istore_n (lv' := [(1, .int (nI 1)), (0, .ref (b 0))]) hx hb dX9_canBe_1 rfl hl (by decide) rfl (fun ls hl => ?_)
  refine lv_iconst (v := nI 0) hx hb dX9_canBe_2 (by decide) ?_
  refine lv_istore_n (lv' := [(2, .int (nI 0)), (1, .int (nI 1)), (0, .ref (b 0))]) hx hb dX9_canBe_3 rfl hl (by decide) rfl (fun ls hl => ?_)
  refine wloop (σ := (Nat) × (Nat)) (fun | (w, cv) => B 4 - w) (fun | (w, cv) => (w ≤ B 4) ∧ (flg cv (allB (fun z9 => allB (okWT B hrs z9) (B 0)) w)) ∧ (cv < 2)) (fun | (w, cv) => [(2, .int (nI w)), (1, .int (nI cv)), (0, .ref (b 0))]) (fun | (w, cv) => [(b 0, .inr (7, [.ref (b 1), .ref (b 2), .ref (b 3), .ref (b 4), .ref (b 5), .int (nI qu), .long ab, .long bl, .ref (b 6), .int (nI tyd), .int (nI at0), .int (nI sta), .int (nI tok), .int (nI val), .ref (b 7), .int (nI man), .ref (b 8), .ref (b 9), .ref (b 10), .ref (b 11), .ref (b 12), .ref (b 13), .ref (b 14)])), (b 1, .inl (tA 0, 212, .inl (nF B))), (b 11, .inl (tA 0, 5, .inl (nF hrs)))]) (0, 1) ⟨(show 0 ≤ B 4 from by omega), (show flg 1 (allB (fun z9 => allB (okWT B hrs z9) (B 0)) 0) from Or.inl ⟨rfl, allB_0 _⟩), (show 1 < 2 from by omega)⟩ (lv_sub hl [0, 1, 2] rfl) hP hD hS ?_
  rintro ⟨w, cv⟩ ⟨hw, hcv, hcv2⟩ ih_1 ls H locs hl hP hD hS
  have hl : lv_has ls 7 [(2, .int (nI w)), (1, .int (nI cv)), (0, .ref (b 0))] := hl
  have hP : va_P G vwCl [(b 0, .inr (7, [.ref (b 1), .ref (b 2), .ref (b 3), .ref (b 4), .ref (b 5), .int (nI qu), .long ab, .long bl, .ref (b 6), .int (nI tyd), .int (nI at0), .int (nI sta), .int (nI tok), .int (nI val), .ref (b 7), .int (nI man), .ref (b 8), .ref (b 9), .ref (b 10), .ref (b 11), .ref (b 12), .ref (b 13), .ref (b 14)])), (b 1, .inl (tA 0, 212, .inl (nF B))), (b 11, .inl (tA 0, 5, .inl (nF hrs)))] H := hP
  have hD : va_D A [(b 0, .inr (7, [.ref (b 1), .ref (b 2), .ref (b 3), .ref (b 4), .ref (b 5), .int (nI qu), .long ab, .long bl, .ref (b 6), .int (nI tyd), .int (nI at0), .int (nI sta), .int (nI tok), .int (nI val), .ref (b 7), .int (nI man), .ref (b 8), .ref (b 9), .ref (b 10), .ref (b 11), .ref (b 12), .ref (b 13), .ref (b 14)])), (b 1, .inl (tA 0, 212, .inl (nF B))), (b 11, .inl (tA 0, 5, .inl (nF hrs)))] := hD
  have hw : w ≤ B 4 := hw
  have hcv : flg cv (allB (fun z9 => allB (okWT B hrs z9) (B 0)) w) := hcv
  have hcv2 : cv < 2 := hcv2
  refine lv_iload_n hx hb dX9_canBe_4 rfl (lv_at hl 0 rfl) ?_
  refine lv_aload_n hx hb dX9_canBe_5 rfl (lv_at hl 2 rfl) ?_
  refine va_get (D := G) (ci := 7) (C := RX9) (T := TX9) (N := 23) hx hb hts iX9 hown hKK.1 hP 0 rfl rfl 0 (by decide) f7 (fun _ h9 => h9) rfl dX9_canBe_6 ?_
  refine lv_iconst (v := nI 4) hx hb dX9_canBe_9 (by decide) ?_
  refine nv_iald (i := 4) hx hb hKK.1 hP 1 0 rfl rfl (by omega) (by decide) dX9_canBe_10 ?_
  have b_2 := hbB 4
  refine nv_icmp_ge (tgt := 199) (by omega) (by omega) hx hb dX9_canBe_11 (by decide) (fun c_3 => ?_) (fun c_3 => ?_)
  · refine lv_iload_n hx hb dX9_canBe_199 rfl (lv_at hl 1 rfl) ?_
    rcases (show cv = 1 ∨ cv = 0 by omega) with rfl | rfl
    · exact retZ (ty := .boolean) hx hb hr rfl hlocks hS hP hD () (rfl) (Or.inl ⟨rfl, by rw [show w = B 4 from by omega] at hcv; first | exact flg_1 hcv (by omega) | exact flg_0 hcv (by omega)⟩) dX9_canBe_200
    · exact retZ (ty := .boolean) hx hb hr rfl hlocks hS hP hD () (rfl) (Or.inr ⟨rfl, by rw [show w = B 4 from by omega] at hcv; first | exact flg_1 hcv (by omega) | exact flg_0 hcv (by omega)⟩) dX9_canBe_200
  · refine lv_iconst (v := nI 0) hx hb dX9_canBe_14 (by decide) ?_
    refine lv_istore_n (lv' := [(3, .int (nI 0)), (2, .int (nI w)), (1, .int (nI cv)), (0, .ref (b 0))]) hx hb dX9_canBe_15 rfl hl (by decide) rfl (fun ls hl => ?_)
    refine wloop (σ := (Nat) × (Nat)) (fun | (t, cu) => B 0 - t) (fun | (t, cu) => (t ≤ B 0) ∧ (flg cu (allB (fun z9 => allB (okWT B hrs z9) (B 0)) w ∧ allB (okWT B hrs w) t)) ∧ (cu < 2)) (fun | (t, cu) => [(3, .int (nI t)), (2, .int (nI w)), (1, .int (nI cu)), (0, .ref (b 0))]) (fun | (t, cu) => [(b 0, .inr (7, [.ref (b 1), .ref (b 2), .ref (b 3), .ref (b 4), .ref (b 5), .int (nI qu), .long ab, .long bl, .ref (b 6), .int (nI tyd), .int (nI at0), .int (nI sta), .int (nI tok), .int (nI val), .ref (b 7), .int (nI man), .ref (b 8), .ref (b 9), .ref (b 10), .ref (b 11), .ref (b 12), .ref (b 13), .ref (b 14)])), (b 1, .inl (tA 0, 212, .inl (nF B))), (b 11, .inl (tA 0, 5, .inl (nF hrs)))]) (0, cv) ⟨(show 0 ≤ B 0 from by omega), (show flg cv (allB (fun z9 => allB (okWT B hrs z9) (B 0)) w ∧ allB (okWT B hrs w) 0) from flg_iff hcv ⟨fun z => ⟨z, allB_0 _⟩, fun z => z.1⟩), (show cv < 2 from by omega)⟩ (lv_sub hl [0, 1, 2, 3] rfl) hP hD hS ?_
    rintro ⟨t, cu⟩ ⟨ht, hcu, hcu2⟩ ih_4 ls H locs hl hP hD hS
    have hl : lv_has ls 7 [(3, .int (nI t)), (2, .int (nI w)), (1, .int (nI cu)), (0, .ref (b 0))] := hl
    have hP : va_P G vwCl [(b 0, .inr (7, [.ref (b 1), .ref (b 2), .ref (b 3), .ref (b 4), .ref (b 5), .int (nI qu), .long ab, .long bl, .ref (b 6), .int (nI tyd), .int (nI at0), .int (nI sta), .int (nI tok), .int (nI val), .ref (b 7), .int (nI man), .ref (b 8), .ref (b 9), .ref (b 10), .ref (b 11), .ref (b 12), .ref (b 13), .ref (b 14)])), (b 1, .inl (tA 0, 212, .inl (nF B))), (b 11, .inl (tA 0, 5, .inl (nF hrs)))] H := hP
    have hD : va_D A [(b 0, .inr (7, [.ref (b 1), .ref (b 2), .ref (b 3), .ref (b 4), .ref (b 5), .int (nI qu), .long ab, .long bl, .ref (b 6), .int (nI tyd), .int (nI at0), .int (nI sta), .int (nI tok), .int (nI val), .ref (b 7), .int (nI man), .ref (b 8), .ref (b 9), .ref (b 10), .ref (b 11), .ref (b 12), .ref (b 13), .ref (b 14)])), (b 1, .inl (tA 0, 212, .inl (nF B))), (b 11, .inl (tA 0, 5, .inl (nF hrs)))] := hD
    have ht : t ≤ B 0 := ht
    have hcu : flg cu (allB (fun z9 => allB (okWT B hrs z9) (B 0)) w ∧ allB (okWT B hrs w) t) := hcu
    have hcu2 : cu < 2 := hcu2
    refine lv_iload_n hx hb dX9_canBe_16 rfl (lv_at hl 0 rfl) ?_
    refine lv_aload_n hx hb dX9_canBe_17 rfl (lv_at hl 3 rfl) ?_
    refine va_get (D := G) (ci := 7) (C := RX9) (T := TX9) (N := 23) hx hb hts iX9 hown hKK.1 hP 0 rfl rfl 0 (by decide) f7 (fun _ h9 => h9) rfl dX9_canBe_18 ?_
    refine lv_iconst (v := nI 0) hx hb dX9_canBe_21 (by decide) ?_
    refine nv_iald (i := 0) hx hb hKK.1 hP 1 0 rfl rfl (by omega) (by decide) dX9_canBe_22 ?_
    have b_5 := hbB 0
    refine nv_icmp_ge (tgt := 193) (by omega) (by omega) hx hb dX9_canBe_23 (by decide) (fun c_6 => ?_) (fun c_6 => ?_)
    · refine lv_iinc (v := (nI (w + 1))) (lv' := [(2, .int (nI (w + 1))), (3, .int (nI t)), (1, .int (nI cu)), (0, .ref (b 0))]) hx hb dX9_canBe_193 hl (k := 1) rfl (nI_add w 1) (by decide) rfl (fun ls hl => ?_)
      refine lv_goto (tgt := 4) hx hb dX9_canBe_196 (by decide) ?_
      exact ih_1 (w + 1, cu) (show B 4 - (w + 1) < B 4 - w from by omega) ⟨(show (w + 1) ≤ B 4 from by omega), (show flg cu (allB (fun z9 => allB (okWT B hrs z9) (B 0)) (w + 1)) from flg_iff hcu (by rw [show t = B 0 from by omega]; exact allB_s.symm)), (show cu < 2 from by omega)⟩ _ _ _ (lv_sub hl [0, 2, 3] rfl) hP hD hS
    · refine lv_iconst (v := nI 0) hx hb dX9_canBe_26 (by decide) ?_
      refine lv_istore (lv' := [(4, .int (nI 0)), (3, .int (nI t)), (2, .int (nI w)), (1, .int (nI cu)), (0, .ref (b 0))]) hx hb dX9_canBe_27 hl (by decide) rfl (fun ls hl => ?_)
      refine lv_iconst (v := nI 0) hx hb dX9_canBe_29 (by decide) ?_
      refine lv_istore (lv' := [(5, .int (nI 0)), (4, .int (nI 0)), (3, .int (nI t)), (2, .int (nI w)), (1, .int (nI cu)), (0, .ref (b 0))]) hx hb dX9_canBe_30 hl (by decide) rfl (fun ls hl => ?_)
      refine wloop (σ := (Nat) × (Nat) × (Nat)) (fun | (v, cx, n9) => B 4 - v) (fun | (v, cx, n9) => (v ≤ B 4) ∧ (flg cx ((allB (fun z9 => allB (okWT B hrs z9) (B 0)) w ∧ allB (okWT B hrs w) t) ∧ allB (meetM B hrs w) v)) ∧ (cx < 2) ∧ (n9 = cntW B hrs w t v) ∧ (n9 ≤ v)) (fun | (v, cx, n9) => [(5, .int (nI v)), (4, .int (nI n9)), (3, .int (nI t)), (2, .int (nI w)), (1, .int (nI cx)), (0, .ref (b 0))]) (fun | (v, cx, n9) => [(b 0, .inr (7, [.ref (b 1), .ref (b 2), .ref (b 3), .ref (b 4), .ref (b 5), .int (nI qu), .long ab, .long bl, .ref (b 6), .int (nI tyd), .int (nI at0), .int (nI sta), .int (nI tok), .int (nI val), .ref (b 7), .int (nI man), .ref (b 8), .ref (b 9), .ref (b 10), .ref (b 11), .ref (b 12), .ref (b 13), .ref (b 14)])), (b 1, .inl (tA 0, 212, .inl (nF B))), (b 11, .inl (tA 0, 5, .inl (nF hrs)))]) (0, cu, 0) ⟨(show 0 ≤ B 4 from by omega), (show flg cu ((allB (fun z9 => allB (okWT B hrs z9) (B 0)) w ∧ allB (okWT B hrs w) t) ∧ allB (meetM B hrs w) 0) from flg_iff hcu ⟨fun z => ⟨z, allB_0 _⟩, fun z => z.1⟩), (show cu < 2 from by omega), (show 0 = cntW B hrs w t 0 from rfl), (show 0 ≤ 0 from by omega)⟩ (lv_sub hl [0, 1, 2, 3, 4, 5] rfl) hP hD hS ?_
      rintro ⟨v, cx, n9⟩ ⟨hv, hcx, hcx2, hn9, hn8⟩ ih_7 ls H locs hl hP hD hS
      have hl : lv_has ls 7 [(5, .int (nI v)), (4, .int (nI n9)), (3, .int (nI t)), (2, .int (nI w)), (1, .int (nI cx)), (0, .ref (b 0))] := hl
      have hP : va_P G vwCl [(b 0, .inr (7, [.ref (b 1), .ref (b 2), .ref (b 3), .ref (b 4), .ref (b 5), .int (nI qu), .long ab, .long bl, .ref (b 6), .int (nI tyd), .int (nI at0), .int (nI sta), .int (nI tok), .int (nI val), .ref (b 7), .int (nI man), .ref (b 8), .ref (b 9), .ref (b 10), .ref (b 11), .ref (b 12), .ref (b 13), .ref (b 14)])), (b 1, .inl (tA 0, 212, .inl (nF B))), (b 11, .inl (tA 0, 5, .inl (nF hrs)))] H := hP
      have hD : va_D A [(b 0, .inr (7, [.ref (b 1), .ref (b 2), .ref (b 3), .ref (b 4), .ref (b 5), .int (nI qu), .long ab, .long bl, .ref (b 6), .int (nI tyd), .int (nI at0), .int (nI sta), .int (nI tok), .int (nI val), .ref (b 7), .int (nI man), .ref (b 8), .ref (b 9), .ref (b 10), .ref (b 11), .ref (b 12), .ref (b 13), .ref (b 14)])), (b 1, .inl (tA 0, 212, .inl (nF B))), (b 11, .inl (tA 0, 5, .inl (nF hrs)))] := hD
      have hv : v ≤ B 4 := hv
      have hcx : flg cx ((allB (fun z9 => allB (okWT B hrs z9) (B 0)) w ∧ allB (okWT B hrs w) t) ∧ allB (meetM B hrs w) v) := hcx
      have hcx2 : cx < 2 := hcx2
      have hn9 : n9 = cntW B hrs w t v := hn9
      have hn8 : n9 ≤ v := hn8
      refine lv_iload hx hb dX9_canBe_32 (lv_at hl 0 rfl) ?_
      refine lv_aload_n hx hb dX9_canBe_34 rfl (lv_at hl 5 rfl) ?_
      refine va_get (D := G) (ci := 7) (C := RX9) (T := TX9) (N := 23) hx hb hts iX9 hown hKK.1 hP 0 rfl rfl 0 (by decide) f7 (fun _ h9 => h9) rfl dX9_canBe_35 ?_
      refine lv_iconst (v := nI 4) hx hb dX9_canBe_38 (by decide) ?_
      refine nv_iald (i := 4) hx hb hKK.1 hP 1 0 rfl rfl (by omega) (by decide) dX9_canBe_39 ?_
      have b_8 := hbB 4
      refine nv_icmp_ge (tgt := 167) (by omega) (by omega) hx hb dX9_canBe_40 (by decide) (fun c_9 => ?_) (fun c_9 => ?_)
      · refine lv_iload_n hx hb dX9_canBe_167 rfl (lv_at hl 4 rfl) ?_
        refine nv_if_eq (tgt := 185) (by omega) hx hb dX9_canBe_168 (by decide) (fun c_10 => ?_) (fun c_10 => ?_)
        · refine lv_iconst (v := nI 0) hx hb dX9_canBe_185 (by decide) ?_
          refine lv_istore_n (lv' := [(1, .int (nI 0)), (5, .int (nI v)), (4, .int (nI n9)), (3, .int (nI t)), (2, .int (nI w)), (0, .ref (b 0))]) hx hb dX9_canBe_186 rfl hl (by decide) rfl (fun ls hl => ?_)
          refine lv_iinc (v := (nI (t + 1))) (lv' := [(3, .int (nI (t + 1))), (1, .int (nI 0)), (5, .int (nI v)), (4, .int (nI n9)), (2, .int (nI w)), (0, .ref (b 0))]) hx hb dX9_canBe_187 hl (k := 3) rfl (nI_add t 1) (by decide) rfl (fun ls hl => ?_)
          refine lv_goto (tgt := 16) hx hb dX9_canBe_190 (by decide) ?_
          exact ih_4 (t + 1, 0) (show B 0 - (t + 1) < B 0 - t from by omega) ⟨(show (t + 1) ≤ B 0 from by omega), (show flg 0 (allB (fun z9 => allB (okWT B hrs z9) (B 0)) w ∧ allB (okWT B hrs w) (t + 1)) from by rw [show v = B 4 from by omega] at hcx hn9; first | exact flg_q1 hcx (by omega) (fun z => ⟨z, by omega⟩) | exact flg_q0 (fun z => by have := z.2; omega) | exact flg_qf hcx (by omega) (fun z => z.1)), (show 0 < 2 from by omega)⟩ _ _ _ (lv_sub hl [0, 4, 1, 5] rfl) hP hD hS
        · refine lv_iload hx hb dX9_canBe_171 (lv_at hl 1 rfl) ?_
          refine lv_aload_n hx hb dX9_canBe_173 rfl (lv_at hl 5 rfl) ?_
          refine lv_iload_n hx hb dX9_canBe_174 rfl (lv_at hl 2 rfl) ?_
          refine roI hP hD hS hA [0, 1] rfl (runV (As := [.int (nI t)]) (rest := [.int (nI n9)]) (isC := [0, 1]) ⟨hx, hb, hml, hown, hts⟩ hKK hP hD rfl (by decide) (c_X9_mayOf l G tA b qu ab bl tyd at0 sta tok val man B t (hWB) (by omega) _) (cwV 1 hts gX9_canBe_X9_mayOf rfl rfl rfl (by decide +kernel) ⟨Nat.le_of_ble_eq_true rfl, Nat.le_of_ble_eq_true rfl⟩) rfl rfl rfl rfl hl.1 rfl (lv_room (Nat.le_of_ble_eq_true rfl)) dX9_canBe_175 ⟨Nat.le_of_ble_eq_true rfl, Nat.le_of_ble_eq_true rfl⟩) (fun _ => rfl) (fun r_11 u_12 H locs q_13 hP hS => ?_)
          obtain ⟨rfl, e_14⟩ := q_13
          have e_14 : mayM B t < 4 := e_14
          refine nv_icmp_gt (tgt := 185) (by omega) (by omega) hx hb dX9_canBe_178 (by decide) (fun c_15 => ?_) (fun c_15 => ?_)
          · refine lv_iconst (v := nI 0) hx hb dX9_canBe_185 (by decide) ?_
            refine lv_istore_n (lv' := [(1, .int (nI 0)), (5, .int (nI v)), (4, .int (nI n9)), (3, .int (nI t)), (2, .int (nI w)), (0, .ref (b 0))]) hx hb dX9_canBe_186 rfl hl (by decide) rfl (fun ls hl => ?_)
            refine lv_iinc (v := (nI (t + 1))) (lv' := [(3, .int (nI (t + 1))), (1, .int (nI 0)), (5, .int (nI v)), (4, .int (nI n9)), (2, .int (nI w)), (0, .ref (b 0))]) hx hb dX9_canBe_187 hl (k := 3) rfl (nI_add t 1) (by decide) rfl (fun ls hl => ?_)
            refine lv_goto (tgt := 16) hx hb dX9_canBe_190 (by decide) ?_
            exact ih_4 (t + 1, 0) (show B 0 - (t + 1) < B 0 - t from by omega) ⟨(show (t + 1) ≤ B 0 from by omega), (show flg 0 (allB (fun z9 => allB (okWT B hrs z9) (B 0)) w ∧ allB (okWT B hrs w) (t + 1)) from by rw [show v = B 4 from by omega] at hcx hn9; first | exact flg_q1 hcx (by omega) (fun z => ⟨z, by omega⟩) | exact flg_q0 (fun z => by have := z.2; omega) | exact flg_qf hcx (by omega) (fun z => z.1)), (show 0 < 2 from by omega)⟩ _ _ _ (lv_sub hl [0, 4, 1, 5] rfl) hP hD hS
          · refine lv_iconst (v := nI 1) hx hb dX9_canBe_181 (by decide) ?_
            refine lv_goto (tgt := 186) hx hb dX9_canBe_182 (by decide) ?_
            refine lv_istore_n (lv' := [(1, .int (nI 1)), (5, .int (nI v)), (4, .int (nI n9)), (3, .int (nI t)), (2, .int (nI w)), (0, .ref (b 0))]) hx hb dX9_canBe_186 rfl hl (by decide) rfl (fun ls hl => ?_)
            refine lv_iinc (v := (nI (t + 1))) (lv' := [(3, .int (nI (t + 1))), (1, .int (nI 1)), (5, .int (nI v)), (4, .int (nI n9)), (2, .int (nI w)), (0, .ref (b 0))]) hx hb dX9_canBe_187 hl (k := 3) rfl (nI_add t 1) (by decide) rfl (fun ls hl => ?_)
            refine lv_goto (tgt := 16) hx hb dX9_canBe_190 (by decide) ?_
            exact ih_4 (t + 1, 1) (show B 0 - (t + 1) < B 0 - t from by omega) ⟨(show (t + 1) ≤ B 0 from by omega), (show flg 1 (allB (fun z9 => allB (okWT B hrs z9) (B 0)) w ∧ allB (okWT B hrs w) (t + 1)) from by rw [show v = B 4 from by omega] at hcx hn9; first | exact flg_q1 hcx (by omega) (fun z => ⟨z, by omega⟩) | exact flg_q0 (fun z => by have := z.2; omega) | exact flg_qf hcx (by omega) (fun z => z.1)), (show 1 < 2 from by omega)⟩ _ _ _ (lv_sub hl [0, 4, 1, 5] rfl) hP hD hS
      · have hwv := hv4 v (by omega)
        have hww := hv4 w (by omega)
        refine lv_aload_n hx hb dX9_canBe_43 rfl (lv_at hl 5 rfl) ?_
        refine va_get (D := G) (ci := 7) (C := RX9) (T := TX9) (N := 23) hx hb hts iX9 hown hKK.1 hP 0 rfl rfl 19 (by decide) f41 (fun _ h9 => h9) rfl dX9_canBe_44 ?_
        refine lv_iload hx hb dX9_canBe_47 (lv_at hl 0 rfl) ?_
        refine nv_iald (i := v) hx hb hKK.1 hP 2 0 rfl rfl (by omega) (by decide) dX9_canBe_49 ?_
        have b_16 := hbh v
        refine lv_aload_n hx hb dX9_canBe_50 rfl (lv_at hl 5 rfl) ?_
        refine va_get (D := G) (ci := 7) (C := RX9) (T := TX9) (N := 23) hx hb hts iX9 hown hKK.1 hP 0 rfl rfl 19 (by decide) f41 (fun _ h9 => h9) rfl dX9_canBe_51 ?_
        refine lv_iload_n hx hb dX9_canBe_54 rfl (lv_at hl 3 rfl) ?_
        refine nv_iald (i := w) hx hb hKK.1 hP 2 0 rfl rfl (by omega) (by decide) dX9_canBe_55 ?_
        have b_17 := hbh w
        refine nv_icmp_ne (tgt := 74) (by omega) (by omega) hx hb dX9_canBe_56 (by decide) (fun c_18 => ?_) (fun c_18 => ?_)
        · refine lv_iconst (v := nI 0) hx hb dX9_canBe_74 (by decide) ?_
          refine lv_istore (lv' := [(6, .int (nI 0)), (5, .int (nI v)), (4, .int (nI n9)), (3, .int (nI t)), (2, .int (nI w)), (1, .int (nI cx)), (0, .ref (b 0))]) hx hb dX9_canBe_75 hl (by decide) rfl (fun ls hl => ?_)
          refine lv_iload hx hb dX9_canBe_77 (lv_at hl 2 rfl) ?_
          refine lv_iload hx hb dX9_canBe_79 (lv_at hl 0 rfl) ?_
          refine nv_if_eq (tgt := 110) (by omega) hx hb dX9_canBe_81 (by decide) (fun _ => ?_) (fun h => absurd h (by omega))
          refine lv_iconst (v := nI 0) hx hb dX9_canBe_110 (by decide) ?_
          refine nv_iadd hx hb dX9_canBe_111 ?_
          refine lv_istore (lv' := [(4, .int (nI (n9 + 0))), (6, .int (nI 0)), (5, .int (nI v)), (3, .int (nI t)), (2, .int (nI w)), (1, .int (nI cx)), (0, .ref (b 0))]) hx hb dX9_canBe_112 hl (by decide) rfl (fun ls hl => ?_)
          refine lv_iload_n hx hb dX9_canBe_114 rfl (lv_at hl 5 rfl) ?_
          refine nv_if_eq (tgt := 159) (by omega) hx hb dX9_canBe_115 (by decide) (fun c_20 => ?_) (fun c_20 => ?_)
          · refine lv_iconst (v := nI 0) hx hb dX9_canBe_159 (by decide) ?_
            refine lv_istore_n (lv' := [(1, .int (nI 0)), (4, .int (nI (n9 + 0))), (6, .int (nI 0)), (5, .int (nI v)), (3, .int (nI t)), (2, .int (nI w)), (0, .ref (b 0))]) hx hb dX9_canBe_160 rfl hl (by decide) rfl (fun ls hl => ?_)
            refine lv_iinc (v := (nI (v + 1))) (lv' := [(5, .int (nI (v + 1))), (1, .int (nI 0)), (4, .int (nI (n9 + 0))), (6, .int (nI 0)), (3, .int (nI t)), (2, .int (nI w)), (0, .ref (b 0))]) hx hb dX9_canBe_161 hl (k := 3) rfl (nI_add v 1) (by decide) rfl (fun ls hl => ?_)
            refine lv_goto (tgt := 32) hx hb dX9_canBe_164 (by decide) ?_
            exact ih_7 (v + 1, 0, n9 + 0) (show B 4 - (v + 1) < B 4 - v from by omega) ⟨(show (v + 1) ≤ B 4 from by omega), (show flg 0 ((allB (fun z9 => allB (okWT B hrs z9) (B 0)) w ∧ allB (okWT B hrs w) t) ∧ allB (meetM B hrs w) (v + 1)) from by first | exact flg_p1 hcx (by omega) (by rintro ⟨⟨z1, z2⟩, z3, z4⟩; omega) | exact flg_p0 (fun z => z ⟨⟨by omega, by omega⟩, by omega, by omega⟩) | exact flg_pf hcx (by omega)), (show 0 < 2 from by omega), (show (n9 + 0) = cntW B hrs w t (v + 1) from by rw [cntW_s, ← hn9]; first | rw [if_pos (pB_t.mpr ⟨⟨by omega, by omega⟩, by omega⟩)] | rw [if_neg (fun z => by (rcases pB_t.mp z with ⟨⟨z1, z2⟩, z3⟩); omega)]), (show (n9 + 0) ≤ (v + 1) from by omega)⟩ _ _ _ (lv_sub hl [0, 2, 4, 5, 1, 6] rfl) hP hD hS
          · refine lv_iload hx hb dX9_canBe_118 (lv_at hl 1 rfl) ?_
            refine nv_if_eq (tgt := 155) (by omega) hx hb dX9_canBe_120 (by decide) (fun _ => ?_) (fun h => absurd h (by omega))
            refine lv_iconst (v := nI 1) hx hb dX9_canBe_155 (by decide) ?_
            refine lv_goto (tgt := 160) hx hb dX9_canBe_156 (by decide) ?_
            refine lv_istore_n (lv' := [(1, .int (nI 1)), (4, .int (nI (n9 + 0))), (6, .int (nI 0)), (5, .int (nI v)), (3, .int (nI t)), (2, .int (nI w)), (0, .ref (b 0))]) hx hb dX9_canBe_160 rfl hl (by decide) rfl (fun ls hl => ?_)
            refine lv_iinc (v := (nI (v + 1))) (lv' := [(5, .int (nI (v + 1))), (1, .int (nI 1)), (4, .int (nI (n9 + 0))), (6, .int (nI 0)), (3, .int (nI t)), (2, .int (nI w)), (0, .ref (b 0))]) hx hb dX9_canBe_161 hl (k := 3) rfl (nI_add v 1) (by decide) rfl (fun ls hl => ?_)
            refine lv_goto (tgt := 32) hx hb dX9_canBe_164 (by decide) ?_
            exact ih_7 (v + 1, 1, n9 + 0) (show B 4 - (v + 1) < B 4 - v from by omega) ⟨(show (v + 1) ≤ B 4 from by omega), (show flg 1 ((allB (fun z9 => allB (okWT B hrs z9) (B 0)) w ∧ allB (okWT B hrs w) t) ∧ allB (meetM B hrs w) (v + 1)) from by first | exact flg_p1 hcx (by omega) (by rintro ⟨⟨z1, z2⟩, z3, z4⟩; omega) | exact flg_p0 (fun z => z ⟨⟨by omega, by omega⟩, by omega, by omega⟩) | exact flg_pf hcx (by omega)), (show 1 < 2 from by omega), (show (n9 + 0) = cntW B hrs w t (v + 1) from by rw [cntW_s, ← hn9]; first | rw [if_pos (pB_t.mpr ⟨⟨by omega, by omega⟩, by omega⟩)] | rw [if_neg (fun z => by (rcases pB_t.mp z with ⟨⟨z1, z2⟩, z3⟩); omega)]), (show (n9 + 0) ≤ (v + 1) from by omega)⟩ _ _ _ (lv_sub hl [0, 2, 4, 5, 1, 6] rfl) hP hD hS
        · refine lv_aload_n hx hb dX9_canBe_59 rfl (lv_at hl 5 rfl) ?_
          refine va_get (D := G) (ci := 7) (C := RX9) (T := TX9) (N := 23) hx hb hts iX9 hown hKK.1 hP 0 rfl rfl 19 (by decide) f41 (fun _ h9 => h9) rfl dX9_canBe_60 ?_
          refine lv_iload_n hx hb dX9_canBe_63 rfl (lv_at hl 3 rfl) ?_
          refine nv_iald (i := w) hx hb hKK.1 hP 2 0 rfl rfl (by omega) (by decide) dX9_canBe_64 ?_
          have b_22 := hbh w
          refine lv_bipush (v := nI 24) hx hb dX9_canBe_65 (by decide +kernel) ?_
          refine nv_icmp_ge (tgt := 74) (by omega) (by omega) hx hb dX9_canBe_67 (by decide) (fun c_23 => ?_) (fun c_23 => ?_)
          · refine lv_iconst (v := nI 0) hx hb dX9_canBe_74 (by decide) ?_
            refine lv_istore (lv' := [(6, .int (nI 0)), (5, .int (nI v)), (4, .int (nI n9)), (3, .int (nI t)), (2, .int (nI w)), (1, .int (nI cx)), (0, .ref (b 0))]) hx hb dX9_canBe_75 hl (by decide) rfl (fun ls hl => ?_)
            refine lv_iload hx hb dX9_canBe_77 (lv_at hl 2 rfl) ?_
            refine lv_iload hx hb dX9_canBe_79 (lv_at hl 0 rfl) ?_
            refine nv_if_eq (tgt := 110) (by omega) hx hb dX9_canBe_81 (by decide) (fun _ => ?_) (fun h => absurd h (by omega))
            refine lv_iconst (v := nI 0) hx hb dX9_canBe_110 (by decide) ?_
            refine nv_iadd hx hb dX9_canBe_111 ?_
            refine lv_istore (lv' := [(4, .int (nI (n9 + 0))), (6, .int (nI 0)), (5, .int (nI v)), (3, .int (nI t)), (2, .int (nI w)), (1, .int (nI cx)), (0, .ref (b 0))]) hx hb dX9_canBe_112 hl (by decide) rfl (fun ls hl => ?_)
            refine lv_iload_n hx hb dX9_canBe_114 rfl (lv_at hl 5 rfl) ?_
            refine nv_if_eq (tgt := 159) (by omega) hx hb dX9_canBe_115 (by decide) (fun c_25 => ?_) (fun c_25 => ?_)
            · refine lv_iconst (v := nI 0) hx hb dX9_canBe_159 (by decide) ?_
              refine lv_istore_n (lv' := [(1, .int (nI 0)), (4, .int (nI (n9 + 0))), (6, .int (nI 0)), (5, .int (nI v)), (3, .int (nI t)), (2, .int (nI w)), (0, .ref (b 0))]) hx hb dX9_canBe_160 rfl hl (by decide) rfl (fun ls hl => ?_)
              refine lv_iinc (v := (nI (v + 1))) (lv' := [(5, .int (nI (v + 1))), (1, .int (nI 0)), (4, .int (nI (n9 + 0))), (6, .int (nI 0)), (3, .int (nI t)), (2, .int (nI w)), (0, .ref (b 0))]) hx hb dX9_canBe_161 hl (k := 3) rfl (nI_add v 1) (by decide) rfl (fun ls hl => ?_)
              refine lv_goto (tgt := 32) hx hb dX9_canBe_164 (by decide) ?_
              exact ih_7 (v + 1, 0, n9 + 0) (show B 4 - (v + 1) < B 4 - v from by omega) ⟨(show (v + 1) ≤ B 4 from by omega), (show flg 0 ((allB (fun z9 => allB (okWT B hrs z9) (B 0)) w ∧ allB (okWT B hrs w) t) ∧ allB (meetM B hrs w) (v + 1)) from by first | exact flg_p1 hcx (by omega) (by rintro ⟨⟨z1, z2⟩, z3, z4⟩; omega) | exact flg_p0 (fun z => z ⟨⟨by omega, by omega⟩, by omega, by omega⟩) | exact flg_pf hcx (by omega)), (show 0 < 2 from by omega), (show (n9 + 0) = cntW B hrs w t (v + 1) from by rw [cntW_s, ← hn9]; first | rw [if_pos (pB_t.mpr ⟨⟨by omega, by omega⟩, by omega⟩)] | rw [if_neg (fun z => by (rcases pB_t.mp z with ⟨⟨z1, z2⟩, z3⟩); omega)]), (show (n9 + 0) ≤ (v + 1) from by omega)⟩ _ _ _ (lv_sub hl [0, 2, 4, 5, 1, 6] rfl) hP hD hS
            · refine lv_iload hx hb dX9_canBe_118 (lv_at hl 1 rfl) ?_
              refine nv_if_eq (tgt := 155) (by omega) hx hb dX9_canBe_120 (by decide) (fun _ => ?_) (fun h => absurd h (by omega))
              refine lv_iconst (v := nI 1) hx hb dX9_canBe_155 (by decide) ?_
              refine lv_goto (tgt := 160) hx hb dX9_canBe_156 (by decide) ?_
              refine lv_istore_n (lv' := [(1, .int (nI 1)), (4, .int (nI (n9 + 0))), (6, .int (nI 0)), (5, .int (nI v)), (3, .int (nI t)), (2, .int (nI w)), (0, .ref (b 0))]) hx hb dX9_canBe_160 rfl hl (by decide) rfl (fun ls hl => ?_)
              refine lv_iinc (v := (nI (v + 1))) (lv' := [(5, .int (nI (v + 1))), (1, .int (nI 1)), (4, .int (nI (n9 + 0))), (6, .int (nI 0)), (3, .int (nI t)), (2, .int (nI w)), (0, .ref (b 0))]) hx hb dX9_canBe_161 hl (k := 3) rfl (nI_add v 1) (by decide) rfl (fun ls hl => ?_)
              refine lv_goto (tgt := 32) hx hb dX9_canBe_164 (by decide) ?_
              exact ih_7 (v + 1, 1, n9 + 0) (show B 4 - (v + 1) < B 4 - v from by omega) ⟨(show (v + 1) ≤ B 4 from by omega), (show flg 1 ((allB (fun z9 => allB (okWT B hrs z9) (B 0)) w ∧ allB (okWT B hrs w) t) ∧ allB (meetM B hrs w) (v + 1)) from by first | exact flg_p1 hcx (by omega) (by rintro ⟨⟨z1, z2⟩, z3, z4⟩; omega) | exact flg_p0 (fun z => z ⟨⟨by omega, by omega⟩, by omega, by omega⟩) | exact flg_pf hcx (by omega)), (show 1 < 2 from by omega), (show (n9 + 0) = cntW B hrs w t (v + 1) from by rw [cntW_s, ← hn9]; first | rw [if_pos (pB_t.mpr ⟨⟨by omega, by omega⟩, by omega⟩)] | rw [if_neg (fun z => by (rcases pB_t.mp z with ⟨⟨z1, z2⟩, z3⟩); omega)]), (show (n9 + 0) ≤ (v + 1) from by omega)⟩ _ _ _ (lv_sub hl [0, 2, 4, 5, 1, 6] rfl) hP hD hS
          · refine lv_iconst (v := nI 1) hx hb dX9_canBe_70 (by decide) ?_
            refine lv_goto (tgt := 75) hx hb dX9_canBe_71 (by decide) ?_
            refine lv_istore (lv' := [(6, .int (nI 1)), (5, .int (nI v)), (4, .int (nI n9)), (3, .int (nI t)), (2, .int (nI w)), (1, .int (nI cx)), (0, .ref (b 0))]) hx hb dX9_canBe_75 hl (by decide) rfl (fun ls hl => ?_)
            refine lv_iload hx hb dX9_canBe_77 (lv_at hl 2 rfl) ?_
            refine lv_iload hx hb dX9_canBe_79 (lv_at hl 0 rfl) ?_
            refine nv_if_eq (tgt := 110) (by omega) hx hb dX9_canBe_81 (by decide) (fun h => absurd h (by omega)) (fun _ => ?_)
            refine lv_aload_n hx hb dX9_canBe_84 rfl (lv_at hl 6 rfl) ?_
            refine va_get (D := G) (ci := 7) (C := RX9) (T := TX9) (N := 23) hx hb hts iX9 hown hKK.1 hP 0 rfl rfl 0 (by decide) f7 (fun _ h9 => h9) rfl dX9_canBe_85 ?_
            refine lv_bipush (v := nI 126) hx hb dX9_canBe_88 (by decide +kernel) ?_
            refine lv_iconst (v := nI 4) hx hb dX9_canBe_90 (by decide) ?_
            refine lv_iload hx hb dX9_canBe_91 (lv_at hl 1 rfl) ?_
            refine nv_imul hx hb dX9_canBe_93 ?_
            refine nv_iadd hx hb dX9_canBe_94 ?_
            refine lv_iconst (v := nI 1) hx hb dX9_canBe_95 (by decide) ?_
            refine nv_iadd hx hb dX9_canBe_96 ?_
            refine nv_iald (i := (126 + (4 * v)) + 1) hx hb hKK.1 hP 1 0 rfl rfl (by omega) (by decide) dX9_canBe_97 ?_
            have b_28 := hbB ((126 + (4 * v)) + 1)
            refine lv_iload_n hx hb dX9_canBe_98 rfl (lv_at hl 3 rfl) ?_
            refine nv_ishr (by omega) (by omega) hx hb dX9_canBe_99 ?_
            refine lv_iconst (v := nI 1) hx hb dX9_canBe_100 (by decide) ?_
            refine nv_iand1 hx hb dX9_canBe_101 ?_
            refine lv_iconst (v := nI 1) hx hb dX9_canBe_102 (by decide) ?_
            refine nv_icmp_ne (tgt := 110) (by omega) (by omega) hx hb dX9_canBe_103 (by decide) (fun c_29 => ?_) (fun c_29 => ?_)
            · refine lv_iconst (v := nI 0) hx hb dX9_canBe_110 (by decide) ?_
              refine nv_iadd hx hb dX9_canBe_111 ?_
              refine lv_istore (lv' := [(4, .int (nI (n9 + 0))), (6, .int (nI 1)), (5, .int (nI v)), (3, .int (nI t)), (2, .int (nI w)), (1, .int (nI cx)), (0, .ref (b 0))]) hx hb dX9_canBe_112 hl (by decide) rfl (fun ls hl => ?_)
              refine lv_iload_n hx hb dX9_canBe_114 rfl (lv_at hl 5 rfl) ?_
              refine nv_if_eq (tgt := 159) (by omega) hx hb dX9_canBe_115 (by decide) (fun c_30 => ?_) (fun c_30 => ?_)
              · refine lv_iconst (v := nI 0) hx hb dX9_canBe_159 (by decide) ?_
                refine lv_istore_n (lv' := [(1, .int (nI 0)), (4, .int (nI (n9 + 0))), (6, .int (nI 1)), (5, .int (nI v)), (3, .int (nI t)), (2, .int (nI w)), (0, .ref (b 0))]) hx hb dX9_canBe_160 rfl hl (by decide) rfl (fun ls hl => ?_)
                refine lv_iinc (v := (nI (v + 1))) (lv' := [(5, .int (nI (v + 1))), (1, .int (nI 0)), (4, .int (nI (n9 + 0))), (6, .int (nI 1)), (3, .int (nI t)), (2, .int (nI w)), (0, .ref (b 0))]) hx hb dX9_canBe_161 hl (k := 3) rfl (nI_add v 1) (by decide) rfl (fun ls hl => ?_)
                refine lv_goto (tgt := 32) hx hb dX9_canBe_164 (by decide) ?_
                exact ih_7 (v + 1, 0, n9 + 0) (show B 4 - (v + 1) < B 4 - v from by omega) ⟨(show (v + 1) ≤ B 4 from by omega), (show flg 0 ((allB (fun z9 => allB (okWT B hrs z9) (B 0)) w ∧ allB (okWT B hrs w) t) ∧ allB (meetM B hrs w) (v + 1)) from by first | exact flg_p1 hcx (by omega) (by rintro ⟨⟨z1, z2⟩, z3, z4⟩; omega) | exact flg_p0 (fun z => z ⟨⟨by omega, by omega⟩, by omega, by omega⟩) | exact flg_pf hcx (by omega)), (show 0 < 2 from by omega), (show (n9 + 0) = cntW B hrs w t (v + 1) from by rw [cntW_s, ← hn9]; first | rw [if_pos (pB_t.mpr ⟨⟨by omega, by omega⟩, by omega⟩)] | rw [if_neg (fun z => by (rcases pB_t.mp z with ⟨⟨z1, z2⟩, z3⟩); omega)]), (show (n9 + 0) ≤ (v + 1) from by omega)⟩ _ _ _ (lv_sub hl [0, 2, 4, 5, 1, 6] rfl) hP hD hS
              · refine lv_iload hx hb dX9_canBe_118 (lv_at hl 1 rfl) ?_
                refine nv_if_eq (tgt := 155) (by omega) hx hb dX9_canBe_120 (by decide) (fun h => absurd h (by omega)) (fun _ => ?_)
                refine lv_iload hx hb dX9_canBe_123 (lv_at hl 2 rfl) ?_
                refine lv_iload_n hx hb dX9_canBe_125 rfl (lv_at hl 4 rfl) ?_
                refine nv_icmp_eq (tgt := 155) (by omega) (by omega) hx hb dX9_canBe_126 (by decide) (fun c_32 => ?_) (fun c_32 => ?_)
                · refine lv_iconst (v := nI 1) hx hb dX9_canBe_155 (by decide) ?_
                  refine lv_goto (tgt := 160) hx hb dX9_canBe_156 (by decide) ?_
                  refine lv_istore_n (lv' := [(1, .int (nI 1)), (4, .int (nI (n9 + 0))), (6, .int (nI 1)), (5, .int (nI v)), (3, .int (nI t)), (2, .int (nI w)), (0, .ref (b 0))]) hx hb dX9_canBe_160 rfl hl (by decide) rfl (fun ls hl => ?_)
                  refine lv_iinc (v := (nI (v + 1))) (lv' := [(5, .int (nI (v + 1))), (1, .int (nI 1)), (4, .int (nI (n9 + 0))), (6, .int (nI 1)), (3, .int (nI t)), (2, .int (nI w)), (0, .ref (b 0))]) hx hb dX9_canBe_161 hl (k := 3) rfl (nI_add v 1) (by decide) rfl (fun ls hl => ?_)
                  refine lv_goto (tgt := 32) hx hb dX9_canBe_164 (by decide) ?_
                  exact ih_7 (v + 1, 1, n9 + 0) (show B 4 - (v + 1) < B 4 - v from by omega) ⟨(show (v + 1) ≤ B 4 from by omega), (show flg 1 ((allB (fun z9 => allB (okWT B hrs z9) (B 0)) w ∧ allB (okWT B hrs w) t) ∧ allB (meetM B hrs w) (v + 1)) from by first | exact flg_p1 hcx (by omega) (by rintro ⟨⟨z1, z2⟩, z3, z4⟩; omega) | exact flg_p0 (fun z => z ⟨⟨by omega, by omega⟩, by omega, by omega⟩) | exact flg_pf hcx (by omega)), (show 1 < 2 from by omega), (show (n9 + 0) = cntW B hrs w t (v + 1) from by rw [cntW_s, ← hn9]; first | rw [if_pos (pB_t.mpr ⟨⟨by omega, by omega⟩, by omega⟩)] | rw [if_neg (fun z => by (rcases pB_t.mp z with ⟨⟨z1, z2⟩, z3⟩); omega)]), (show (n9 + 0) ≤ (v + 1) from by omega)⟩ _ _ _ (lv_sub hl [0, 2, 4, 5, 1, 6] rfl) hP hD hS
                · refine lv_aload_n hx hb dX9_canBe_129 rfl (lv_at hl 6 rfl) ?_
                  refine va_get (D := G) (ci := 7) (C := RX9) (T := TX9) (N := 23) hx hb hts iX9 hown hKK.1 hP 0 rfl rfl 0 (by decide) f7 (fun _ h9 => h9) rfl dX9_canBe_130 ?_
                  refine lv_bipush (v := nI 126) hx hb dX9_canBe_133 (by decide +kernel) ?_
                  refine lv_iconst (v := nI 4) hx hb dX9_canBe_135 (by decide) ?_
                  refine lv_iload hx hb dX9_canBe_136 (lv_at hl 2 rfl) ?_
                  refine nv_imul hx hb dX9_canBe_138 ?_
                  refine nv_iadd hx hb dX9_canBe_139 ?_
                  refine nv_iald (i := 126 + (4 * v)) hx hb hKK.1 hP 1 0 rfl rfl (by omega) (by decide) dX9_canBe_140 ?_
                  have b_33 := hbB (126 + (4 * v))
                  refine lv_aload_n hx hb dX9_canBe_141 rfl (lv_at hl 6 rfl) ?_
                  refine va_get (D := G) (ci := 7) (C := RX9) (T := TX9) (N := 23) hx hb hts iX9 hown hKK.1 hP 0 rfl rfl 0 (by decide) f7 (fun _ h9 => h9) rfl dX9_canBe_142 ?_
                  refine lv_bipush (v := nI 126) hx hb dX9_canBe_145 (by decide +kernel) ?_
                  refine lv_iconst (v := nI 4) hx hb dX9_canBe_147 (by decide) ?_
                  refine lv_iload_n hx hb dX9_canBe_148 rfl (lv_at hl 4 rfl) ?_
                  refine nv_imul hx hb dX9_canBe_149 ?_
                  refine nv_iadd hx hb dX9_canBe_150 ?_
                  refine nv_iald (i := 126 + (4 * w)) hx hb hKK.1 hP 1 0 rfl rfl (by omega) (by decide) dX9_canBe_151 ?_
                  have b_34 := hbB (126 + (4 * w))
                  refine nv_icmp_eq (tgt := 159) (by omega) (by omega) hx hb dX9_canBe_152 (by decide) (fun c_35 => ?_) (fun c_35 => ?_)
                  · refine lv_iconst (v := nI 0) hx hb dX9_canBe_159 (by decide) ?_
                    refine lv_istore_n (lv' := [(1, .int (nI 0)), (4, .int (nI (n9 + 0))), (6, .int (nI 1)), (5, .int (nI v)), (3, .int (nI t)), (2, .int (nI w)), (0, .ref (b 0))]) hx hb dX9_canBe_160 rfl hl (by decide) rfl (fun ls hl => ?_)
                    refine lv_iinc (v := (nI (v + 1))) (lv' := [(5, .int (nI (v + 1))), (1, .int (nI 0)), (4, .int (nI (n9 + 0))), (6, .int (nI 1)), (3, .int (nI t)), (2, .int (nI w)), (0, .ref (b 0))]) hx hb dX9_canBe_161 hl (k := 3) rfl (nI_add v 1) (by decide) rfl (fun ls hl => ?_)
                    refine lv_goto (tgt := 32) hx hb dX9_canBe_164 (by decide) ?_
                    exact ih_7 (v + 1, 0, n9 + 0) (show B 4 - (v + 1) < B 4 - v from by omega) ⟨(show (v + 1) ≤ B 4 from by omega), (show flg 0 ((allB (fun z9 => allB (okWT B hrs z9) (B 0)) w ∧ allB (okWT B hrs w) t) ∧ allB (meetM B hrs w) (v + 1)) from by first | exact flg_p1 hcx (by omega) (by rintro ⟨⟨z1, z2⟩, z3, z4⟩; omega) | exact flg_p0 (fun z => z ⟨⟨by omega, by omega⟩, by omega, by omega⟩) | exact flg_pf hcx (by omega)), (show 0 < 2 from by omega), (show (n9 + 0) = cntW B hrs w t (v + 1) from by rw [cntW_s, ← hn9]; first | rw [if_pos (pB_t.mpr ⟨⟨by omega, by omega⟩, by omega⟩)] | rw [if_neg (fun z => by (rcases pB_t.mp z with ⟨⟨z1, z2⟩, z3⟩); omega)]), (show (n9 + 0) ≤ (v + 1) from by omega)⟩ _ _ _ (lv_sub hl [0, 2, 4, 5, 1, 6] rfl) hP hD hS
                  · refine lv_iconst (v := nI 1) hx hb dX9_canBe_155 (by decide) ?_
                    refine lv_goto (tgt := 160) hx hb dX9_canBe_156 (by decide) ?_
                    refine lv_istore_n (lv' := [(1, .int (nI 1)), (4, .int (nI (n9 + 0))), (6, .int (nI 1)), (5, .int (nI v)), (3, .int (nI t)), (2, .int (nI w)), (0, .ref (b 0))]) hx hb dX9_canBe_160 rfl hl (by decide) rfl (fun ls hl => ?_)
                    refine lv_iinc (v := (nI (v + 1))) (lv' := [(5, .int (nI (v + 1))), (1, .int (nI 1)), (4, .int (nI (n9 + 0))), (6, .int (nI 1)), (3, .int (nI t)), (2, .int (nI w)), (0, .ref (b 0))]) hx hb dX9_canBe_161 hl (k := 3) rfl (nI_add v 1) (by decide) rfl (fun ls hl => ?_)
                    refine lv_goto (tgt := 32) hx hb dX9_canBe_164 (by decide) ?_
                    exact ih_7 (v + 1, 1, n9 + 0) (show B 4 - (v + 1) < B 4 - v from by omega) ⟨(show (v + 1) ≤ B 4 from by omega), (show flg 1 ((allB (fun z9 => allB (okWT B hrs z9) (B 0)) w ∧ allB (okWT B hrs w) t) ∧ allB (meetM B hrs w) (v + 1)) from by first | exact flg_p1 hcx (by omega) (by rintro ⟨⟨z1, z2⟩, z3, z4⟩; omega) | exact flg_p0 (fun z => z ⟨⟨by omega, by omega⟩, by omega, by omega⟩) | exact flg_pf hcx (by omega)), (show 1 < 2 from by omega), (show (n9 + 0) = cntW B hrs w t (v + 1) from by rw [cntW_s, ← hn9]; first | rw [if_pos (pB_t.mpr ⟨⟨by omega, by omega⟩, by omega⟩)] | rw [if_neg (fun z => by (rcases pB_t.mp z with ⟨⟨z1, z2⟩, z3⟩); omega)]), (show (n9 + 0) ≤ (v + 1) from by omega)⟩ _ _ _ (lv_sub hl [0, 2, 4, 5, 1, 6] rfl) hP hD hS
            · refine lv_iconst (v := nI 1) hx hb dX9_canBe_106 (by decide) ?_
              refine lv_goto (tgt := 111) hx hb dX9_canBe_107 (by decide) ?_
              refine nv_iadd hx hb dX9_canBe_111 ?_
              refine lv_istore (lv' := [(4, .int (nI (n9 + 1))), (6, .int (nI 1)), (5, .int (nI v)), (3, .int (nI t)), (2, .int (nI w)), (1, .int (nI cx)), (0, .ref (b 0))]) hx hb dX9_canBe_112 hl (by decide) rfl (fun ls hl => ?_)
              refine lv_iload_n hx hb dX9_canBe_114 rfl (lv_at hl 5 rfl) ?_
              refine nv_if_eq (tgt := 159) (by omega) hx hb dX9_canBe_115 (by decide) (fun c_36 => ?_) (fun c_36 => ?_)
              · refine lv_iconst (v := nI 0) hx hb dX9_canBe_159 (by decide) ?_
                refine lv_istore_n (lv' := [(1, .int (nI 0)), (4, .int (nI (n9 + 1))), (6, .int (nI 1)), (5, .int (nI v)), (3, .int (nI t)), (2, .int (nI w)), (0, .ref (b 0))]) hx hb dX9_canBe_160 rfl hl (by decide) rfl (fun ls hl => ?_)
                refine lv_iinc (v := (nI (v + 1))) (lv' := [(5, .int (nI (v + 1))), (1, .int (nI 0)), (4, .int (nI (n9 + 1))), (6, .int (nI 1)), (3, .int (nI t)), (2, .int (nI w)), (0, .ref (b 0))]) hx hb dX9_canBe_161 hl (k := 3) rfl (nI_add v 1) (by decide) rfl (fun ls hl => ?_)
                refine lv_goto (tgt := 32) hx hb dX9_canBe_164 (by decide) ?_
                exact ih_7 (v + 1, 0, n9 + 1) (show B 4 - (v + 1) < B 4 - v from by omega) ⟨(show (v + 1) ≤ B 4 from by omega), (show flg 0 ((allB (fun z9 => allB (okWT B hrs z9) (B 0)) w ∧ allB (okWT B hrs w) t) ∧ allB (meetM B hrs w) (v + 1)) from by first | exact flg_p1 hcx (by omega) (by rintro ⟨⟨z1, z2⟩, z3, z4⟩; omega) | exact flg_p0 (fun z => z ⟨⟨by omega, by omega⟩, by omega, by omega⟩) | exact flg_pf hcx (by omega)), (show 0 < 2 from by omega), (show (n9 + 1) = cntW B hrs w t (v + 1) from by rw [cntW_s, ← hn9]; first | rw [if_pos (pB_t.mpr ⟨⟨by omega, by omega⟩, by omega⟩)] | rw [if_neg (fun z => by (rcases pB_t.mp z with ⟨⟨z1, z2⟩, z3⟩); omega)]), (show (n9 + 1) ≤ (v + 1) from by omega)⟩ _ _ _ (lv_sub hl [0, 2, 4, 5, 1, 6] rfl) hP hD hS
              · refine lv_iload hx hb dX9_canBe_118 (lv_at hl 1 rfl) ?_
                refine nv_if_eq (tgt := 155) (by omega) hx hb dX9_canBe_120 (by decide) (fun h => absurd h (by omega)) (fun _ => ?_)
                refine lv_iload hx hb dX9_canBe_123 (lv_at hl 2 rfl) ?_
                refine lv_iload_n hx hb dX9_canBe_125 rfl (lv_at hl 4 rfl) ?_
                refine nv_icmp_eq (tgt := 155) (by omega) (by omega) hx hb dX9_canBe_126 (by decide) (fun c_38 => ?_) (fun c_38 => ?_)
                · refine lv_iconst (v := nI 1) hx hb dX9_canBe_155 (by decide) ?_
                  refine lv_goto (tgt := 160) hx hb dX9_canBe_156 (by decide) ?_
                  refine lv_istore_n (lv' := [(1, .int (nI 1)), (4, .int (nI (n9 + 1))), (6, .int (nI 1)), (5, .int (nI v)), (3, .int (nI t)), (2, .int (nI w)), (0, .ref (b 0))]) hx hb dX9_canBe_160 rfl hl (by decide) rfl (fun ls hl => ?_)
                  refine lv_iinc (v := (nI (v + 1))) (lv' := [(5, .int (nI (v + 1))), (1, .int (nI 1)), (4, .int (nI (n9 + 1))), (6, .int (nI 1)), (3, .int (nI t)), (2, .int (nI w)), (0, .ref (b 0))]) hx hb dX9_canBe_161 hl (k := 3) rfl (nI_add v 1) (by decide) rfl (fun ls hl => ?_)
                  refine lv_goto (tgt := 32) hx hb dX9_canBe_164 (by decide) ?_
                  exact ih_7 (v + 1, 1, n9 + 1) (show B 4 - (v + 1) < B 4 - v from by omega) ⟨(show (v + 1) ≤ B 4 from by omega), (show flg 1 ((allB (fun z9 => allB (okWT B hrs z9) (B 0)) w ∧ allB (okWT B hrs w) t) ∧ allB (meetM B hrs w) (v + 1)) from by first | exact flg_p1 hcx (by omega) (by rintro ⟨⟨z1, z2⟩, z3, z4⟩; omega) | exact flg_p0 (fun z => z ⟨⟨by omega, by omega⟩, by omega, by omega⟩) | exact flg_pf hcx (by omega)), (show 1 < 2 from by omega), (show (n9 + 1) = cntW B hrs w t (v + 1) from by rw [cntW_s, ← hn9]; first | rw [if_pos (pB_t.mpr ⟨⟨by omega, by omega⟩, by omega⟩)] | rw [if_neg (fun z => by (rcases pB_t.mp z with ⟨⟨z1, z2⟩, z3⟩); omega)]), (show (n9 + 1) ≤ (v + 1) from by omega)⟩ _ _ _ (lv_sub hl [0, 2, 4, 5, 1, 6] rfl) hP hD hS
                · refine lv_aload_n hx hb dX9_canBe_129 rfl (lv_at hl 6 rfl) ?_
                  refine va_get (D := G) (ci := 7) (C := RX9) (T := TX9) (N := 23) hx hb hts iX9 hown hKK.1 hP 0 rfl rfl 0 (by decide) f7 (fun _ h9 => h9) rfl dX9_canBe_130 ?_
                  refine lv_bipush (v := nI 126) hx hb dX9_canBe_133 (by decide +kernel) ?_
                  refine lv_iconst (v := nI 4) hx hb dX9_canBe_135 (by decide) ?_
                  refine lv_iload hx hb dX9_canBe_136 (lv_at hl 2 rfl) ?_
                  refine nv_imul hx hb dX9_canBe_138 ?_
                  refine nv_iadd hx hb dX9_canBe_139 ?_
                  refine nv_iald (i := 126 + (4 * v)) hx hb hKK.1 hP 1 0 rfl rfl (by omega) (by decide) dX9_canBe_140 ?_
                  have b_39 := hbB (126 + (4 * v))
                  refine lv_aload_n hx hb dX9_canBe_141 rfl (lv_at hl 6 rfl) ?_
                  refine va_get (D := G) (ci := 7) (C := RX9) (T := TX9) (N := 23) hx hb hts iX9 hown hKK.1 hP 0 rfl rfl 0 (by decide) f7 (fun _ h9 => h9) rfl dX9_canBe_142 ?_
                  refine lv_bipush (v := nI 126) hx hb dX9_canBe_145 (by decide +kernel) ?_
                  refine lv_iconst (v := nI 4) hx hb dX9_canBe_147 (by decide) ?_
                  refine lv_iload_n hx hb dX9_canBe_148 rfl (lv_at hl 4 rfl) ?_
                  refine nv_imul hx hb dX9_canBe_149 ?_
                  refine nv_iadd hx hb dX9_canBe_150 ?_
                  refine nv_iald (i := 126 + (4 * w)) hx hb hKK.1 hP 1 0 rfl rfl (by omega) (by decide) dX9_canBe_151 ?_
                  have b_40 := hbB (126 + (4 * w))
                  refine nv_icmp_eq (tgt := 159) (by omega) (by omega) hx hb dX9_canBe_152 (by decide) (fun c_41 => ?_) (fun c_41 => ?_)
                  · refine lv_iconst (v := nI 0) hx hb dX9_canBe_159 (by decide) ?_
                    refine lv_istore_n (lv' := [(1, .int (nI 0)), (4, .int (nI (n9 + 1))), (6, .int (nI 1)), (5, .int (nI v)), (3, .int (nI t)), (2, .int (nI w)), (0, .ref (b 0))]) hx hb dX9_canBe_160 rfl hl (by decide) rfl (fun ls hl => ?_)
                    refine lv_iinc (v := (nI (v + 1))) (lv' := [(5, .int (nI (v + 1))), (1, .int (nI 0)), (4, .int (nI (n9 + 1))), (6, .int (nI 1)), (3, .int (nI t)), (2, .int (nI w)), (0, .ref (b 0))]) hx hb dX9_canBe_161 hl (k := 3) rfl (nI_add v 1) (by decide) rfl (fun ls hl => ?_)
                    refine lv_goto (tgt := 32) hx hb dX9_canBe_164 (by decide) ?_
                    exact ih_7 (v + 1, 0, n9 + 1) (show B 4 - (v + 1) < B 4 - v from by omega) ⟨(show (v + 1) ≤ B 4 from by omega), (show flg 0 ((allB (fun z9 => allB (okWT B hrs z9) (B 0)) w ∧ allB (okWT B hrs w) t) ∧ allB (meetM B hrs w) (v + 1)) from by first | exact flg_p1 hcx (by omega) (by rintro ⟨⟨z1, z2⟩, z3, z4⟩; omega) | exact flg_p0 (fun z => z ⟨⟨by omega, by omega⟩, by omega, by omega⟩) | exact flg_pf hcx (by omega)), (show 0 < 2 from by omega), (show (n9 + 1) = cntW B hrs w t (v + 1) from by rw [cntW_s, ← hn9]; first | rw [if_pos (pB_t.mpr ⟨⟨by omega, by omega⟩, by omega⟩)] | rw [if_neg (fun z => by (rcases pB_t.mp z with ⟨⟨z1, z2⟩, z3⟩); omega)]), (show (n9 + 1) ≤ (v + 1) from by omega)⟩ _ _ _ (lv_sub hl [0, 2, 4, 5, 1, 6] rfl) hP hD hS
                  · refine lv_iconst (v := nI 1) hx hb dX9_canBe_155 (by decide) ?_
                    refine lv_goto (tgt := 160) hx hb dX9_canBe_156 (by decide) ?_
                    refine lv_istore_n (lv' := [(1, .int (nI 1)), (4, .int (nI (n9 + 1))), (6, .int (nI 1)), (5, .int (nI v)), (3, .int (nI t)), (2, .int (nI w)), (0, .ref (b 0))]) hx hb dX9_canBe_160 rfl hl (by decide) rfl (fun ls hl => ?_)
                    refine lv_iinc (v := (nI (v + 1))) (lv' := [(5, .int (nI (v + 1))), (1, .int (nI 1)), (4, .int (nI (n9 + 1))), (6, .int (nI 1)), (3, .int (nI t)), (2, .int (nI w)), (0, .ref (b 0))]) hx hb dX9_canBe_161 hl (k := 3) rfl (nI_add v 1) (by decide) rfl (fun ls hl => ?_)
                    refine lv_goto (tgt := 32) hx hb dX9_canBe_164 (by decide) ?_
                    exact ih_7 (v + 1, 1, n9 + 1) (show B 4 - (v + 1) < B 4 - v from by omega) ⟨(show (v + 1) ≤ B 4 from by omega), (show flg 1 ((allB (fun z9 => allB (okWT B hrs z9) (B 0)) w ∧ allB (okWT B hrs w) t) ∧ allB (meetM B hrs w) (v + 1)) from by first | exact flg_p1 hcx (by omega) (by rintro ⟨⟨z1, z2⟩, z3, z4⟩; omega) | exact flg_p0 (fun z => z ⟨⟨by omega, by omega⟩, by omega, by omega⟩) | exact flg_pf hcx (by omega)), (show 1 < 2 from by omega), (show (n9 + 1) = cntW B hrs w t (v + 1) from by rw [cntW_s, ← hn9]; first | rw [if_pos (pB_t.mpr ⟨⟨by omega, by omega⟩, by omega⟩)] | rw [if_neg (fun z => by (rcases pB_t.mp z with ⟨⟨z1, z2⟩, z3⟩); omega)]), (show (n9 + 1) ≤ (v + 1) from by omega)⟩ _ _ _ (lv_sub hl [0, 2, 4, 5, 1, 6] rfl) hP hD hS

def eachS (B : Nat → Nat) (w : Nat) : Nat := B (126 + 4 * w + 3) - B (126 + 4 * w + 2) + 2
def waysS (B : Nat → Nat) (n : Nat) : Nat := it (fun w x => x * eachS B w) n 1
theorem waysS_s (B : Nat → Nat) (n : Nat) : waysS B (n + 1) = waysS B n * eachS B n := rfl
theorem eachS_le {B : Nat → Nat} (hw : WB B) {w : Nat} (h : w < B 4) : 2 ≤ eachS B w ∧ eachS B w ≤ 7 := by
  obtain ⟨-, -, -, -, -, -, hv, -⟩ := hw
  have := hv w h
  unfold eachS
  omega
theorem waysS_le {B : Nat → Nat} (hw : WB B) : ∀ n, n ≤ B 4 → 1 ≤ waysS B n ∧ waysS B n ≤ 7 ^ n := by
  intro n
  induction n with
  | zero => intro _; exact ⟨Nat.le_refl 1, Nat.le_refl 1⟩
  | succ n ih =>
    intro h
    have h1 := ih (by omega)
    have h2 := eachS_le hw (show n < B 4 by omega)
    rw [waysS_s, Nat.pow_succ]
    exact ⟨Nat.mul_pos h1.1 (by omega), Nat.mul_le_mul h1.2 h2.2⟩
theorem waysS_lt {B : Nat → Nat} (hw : WB B) {n : Nat} (h : n ≤ B 4) : waysS B n ≤ 16807 := by
  have h1 := waysS_le hw n h
  have h2 : B 4 ≤ 5 := hw.1.2.2.2.2.1
  have h3 : 7 ^ n ≤ 7 ^ 5 := Nat.pow_le_pow_right (by omega) (by omega)
  omega
def dL (B : Nat → Nat) (N code i : Nat) : Nat := it (fun i l => l / eachS B (N - 1 - i)) i code
theorem dL_s (B : Nat → Nat) (N code i : Nat) : dL B N code (i + 1) = dL B N code i / eachS B (N - 1 - i) := rfl
theorem dL_le (B : Nat → Nat) (N code i : Nat) : dL B N code i ≤ code := by
  induction i with
  | zero => exact Nat.le_refl _
  | succ i ih => rw [dL_s]; exact Nat.le_trans (Nat.div_le_self _ _) ih
def hourC (B : Nat → Nat) (l w : Nat) : Nat := if l % eachS B w = eachS B w - 1 then 24 else B (126 + 4 * w + 2) + l % eachS B w
def dH (B : Nat → Nat) (N code : Nat) (h : Nat → Nat) (i : Nat) : Nat → Nat := it (fun i h => updN h (N - 1 - i) (hourC B (dL B N code i) (N - 1 - i))) i h
theorem dH_s (B : Nat → Nat) (N code : Nat) (h : Nat → Nat) (i : Nat) : dH B N code h (i + 1) = updN (dH B N code h i) (N - 1 - i) (hourC B (dL B N code i) (N - 1 - i)) := rfl
def dM (B : Nat → Nat) (N code i : Nat) : Nat := it (fun i a => a + if hourC B (dL B N code i) (N - 1 - i) < 24 then 1 else 0) i 0
theorem dM_s (B : Nat → Nat) (N code i : Nat) : dM B N code (i + 1) = dM B N code i + if hourC B (dL B N code i) (N - 1 - i) < 24 then 1 else 0 := rfl
theorem dM_le (B : Nat → Nat) (N code i : Nat) : dM B N code i ≤ i := by
  induction i with
  | zero => exact Nat.le_refl _
  | succ i ih => rw [dM_s]; split <;> omega
theorem hourC_lt {B : Nat → Nat} (hw : WB B) {w : Nat} (h : w < B 4) (l : Nat) : hourC B l w < 100 := by
  obtain ⟨-, -, -, -, -, -, hv, -⟩ := id hw
  have h1 := hv w h
  have h2 := eachS_le hw h
  have h3 := Nat.mod_lt l (show eachS B w > 0 by omega)
  unfold hourC
  split <;> omega
theorem dH_lt {B : Nat → Nat} (hw : WB B) (code : Nat) {h : Nat → Nat} (hb : ∀ j, h j < 1048576) : ∀ i, i ≤ B 4 → ∀ j, dH B (B 4) code h i j < 1048576 := by
  intro i
  induction i with
  | zero => intro _; exact hb
  | succ i ih => intro hi; rw [dH_s]; exact updN_lt (ih (by omega)) _ (Nat.lt_trans (hourC_lt hw (by omega) _) (by omega))
/-- most (shifted by one), the best hours, the hours tried last -/
noncomputable def plT (B be h : Nat → Nat) (n : Nat) : Nat × (Nat → Nat) × (Nat → Nat) := it (fun code (x : Nat × (Nat → Nat) × (Nat → Nat)) => if pB (x.1 < dM B (B 4) code (B 4) + 1 ∧ canP B (dH B (B 4) code x.2.2 (B 4))) = true then (dM B (B 4) code (B 4) + 1, cpTo x.2.1 0 (dH B (B 4) code x.2.2 (B 4)) (B 4), dH B (B 4) code x.2.2 (B 4)) else (x.1, x.2.1, dH B (B 4) code x.2.2 (B 4))) n (0, be, h)
theorem plT_s (B be h : Nat → Nat) (n : Nat) : plT B be h (n + 1) = if pB ((plT B be h n).1 < dM B (B 4) n (B 4) + 1 ∧ canP B (dH B (B 4) n (plT B be h n).2.2 (B 4))) = true then (dM B (B 4) n (B 4) + 1, cpTo (plT B be h n).2.1 0 (dH B (B 4) n (plT B be h n).2.2 (B 4)) (B 4), dH B (B 4) n (plT B be h n).2.2 (B 4)) else ((plT B be h n).1, (plT B be h n).2.1, dH B (B 4) n (plT B be h n).2.2 (B 4)) := rfl
theorem plT_1 {B be h : Nat → Nat} {n mo met : Nat} {b2 h2 h3 : Nat → Nat} (e : (mo, b2, h2) = plT B be h n) (e3 : h3 = dH B (B 4) n h2 (B 4)) (em : met = dM B (B 4) n (B 4)) (h1 : mo < met + 1) (hc : canP B h3) : (met + 1, cpTo b2 0 h3 (B 4), h3) = plT B be h (n + 1) := by
  subst e3; subst em
  rw [plT_s, ← e]
  dsimp only
  rw [if_pos (pB_t.mpr ⟨h1, hc⟩)]
theorem plT_2 {B be h : Nat → Nat} {n mo met : Nat} {b2 h2 h3 : Nat → Nat} (e : (mo, b2, h2) = plT B be h n) (e3 : h3 = dH B (B 4) n h2 (B 4)) (em : met = dM B (B 4) n (B 4)) (h1 : ¬ (mo < met + 1 ∧ canP B h3)) : (mo, b2, h3) = plT B be h (n + 1) := by
  subst e3; subst em
  rw [plT_s, ← e]
  dsimp only
  rw [if_neg (fun z => h1 (pB_t.mp z))]
theorem cpTo_lt {Y X : Nat → Nat} {K : Nat} (hY : ∀ j, Y j < K) (hX : ∀ j, X j < K) (o n : Nat) : ∀ j, cpTo Y o X n j < K := by intro j; unfold cpTo; split; exact hX _; exact hY _

noncomputable def plS (B be h : Nat → Nat) : Nat × (Nat → Nat) × (Nat → Nat) := plT B be h (waysS B (B 4))
theorem plT_ok {B be h : Nat → Nat} (hw : WB B) (hbe : ∀ j, be j < 1048576) (hbh : ∀ j, h j < 1048576) : ∀ n, (plT B be h n).1 ≤ 6 ∧ (∀ j, (plT B be h n).2.1 j < 1048576) ∧ ∀ j, (plT B be h n).2.2 j < 1048576 := by
  intro n
  induction n with
  | zero => exact ⟨Nat.zero_le _, hbe, hbh⟩
  | succ n ih =>
    have h4 : B 4 ≤ 5 := hw.1.2.2.2.2.1
    have h1 := dM_le B (B 4) n (B 4)
    have h2 := dH_lt hw n ih.2.2 (B 4) (Nat.le_refl _)
    rw [plT_s]
    split
    · exact ⟨by dsimp only; omega, cpTo_lt ih.2.1 h2 _ _, h2⟩
    · exact ⟨ih.1, ih.2.1, h2⟩
theorem plS_ok {B be h : Nat → Nat} (hw : WB B) (hbe : ∀ j, be j < 1048576) (hbh : ∀ j, h j < 1048576) : (plS B be h).1 ≤ 6 ∧ (∀ j, (plS B be h).2.1 j < 1048576) ∧ ∀ j, (plS B be h).2.2 j < 1048576 := plT_ok hw hbe hbh _

set_option maxHeartbeats 4000000 in
set_option maxRecDepth 100000 in
theorem c_X9_plans (l : Launch) (G : va_G) (tA : Nat → ClassId) (b : Nat → Nat) (qu : Nat) (ab : Int64) (bl : Int64) (tyd : Nat) (at0 : Nat) (sta : Nat) (tok : Nat) (val : Nat) (man : Nat) (B : Nat → Nat) (hrs : Nat → Nat) (be : Nat → Nat) (hWB : WB B) (hbh : ∀ j, hrs j < 1048576) (hbb : ∀ j, be j < 1048576) : CtI l yX9_plans wsX9_plans ({ frames := 2, cells := 0, slots := 0, locals := 48 }) G tA [.ref (b 0)] ([(b 0, .inr (7, [.ref (b 1), .ref (b 2), .ref (b 3), .ref (b 4), .ref (b 5), .int (nI qu), .long ab, .long bl, .ref (b 6), .int (nI tyd), .int (nI at0), .int (nI sta), .int (nI tok), .int (nI val), .ref (b 7), .int (nI man), .ref (b 8), .ref (b 9), .ref (b 10), .ref (b 11), .ref (b 12), .ref (b 13), .ref (b 14)])), (b 1, .inl (tA 0, 212, .inl (nF B))), (b 11, .inl (tA 0, 5, .inl (nF hrs))), (b 12, .inl (tA 0, 5, .inl (nF be)))]) (fun (r : Int32) (u : (Nat) × (Nat → Nat) × (Nat → Nat)) => r = (nI u.1) + (-1) ∧ (u.1, u.2.1, u.2.2) = plS B be hrs ∧ u.1 ≤ 6 ∧ (∀ j, u.2.1 j < 1048576) ∧ (∀ j, u.2.2 j < 1048576)) (fun (u : (Nat) × (Nat → Nat) × (Nat → Nat)) => [(b 0, .inr (7, [.ref (b 1), .ref (b 2), .ref (b 3), .ref (b 4), .ref (b 5), .int (nI qu), .long ab, .long bl, .ref (b 6), .int (nI tyd), .int (nI at0), .int (nI sta), .int (nI tok), .int (nI val), .ref (b 7), .int (nI man), .ref (b 8), .ref (b 9), .ref (b 10), .ref (b 11), .ref (b 12), .ref (b 13), .ref (b 14)])), (b 1, .inl (tA 0, 212, .inl (nF B))), (b 11, .inl (tA 0, 5, .inl (nF u.2.2))), (b 12, .inl (tA 0, 5, .inl (nF u.2.1)))]) 0 0 := by
  refine enterI (cc := cX9_plans) (maxL := 10) (ret := (some .int)) (by decide) rfl (Nat.le_of_ble_eq_true rfl) ?_
  intro p0 e0 s m args below meth c0_ A ls hx hb hml hr hts hown hlocks hin hKK hA hP hD hl hS
  have hown : s.vm.findClass RX9 = some m.cls := hown
  have hl : lv_has ls 10 [(0, .ref (b 0))] := hl
  have f7 := hts (Cond.fieldLink RX9 7 "LentTermsModel" "book" "[I") (List.mem_of_getElem? (i := 1) rfl)
  have iX9 : ∀ w ∈ wsX90, w ∈ wsX9_plans := by decide +kernel
  have f44 := hts (Cond.fieldLink RX9 44 "LentTermsModel" "best" "[I") (List.mem_of_getElem? (i := 3) rfl)
  have f41 := hts (Cond.fieldLink RX9 41 "LentTermsModel" "hours" "[I") (List.mem_of_getElem? (i := 2) rfl)
  obtain ⟨⟨hn0, hn1, hn2, hn3, hn4, hn5⟩, hbB, hv0, hv1, hv2, hv3, hv4, hv5, hv6, hv7⟩ := id hWB
  have h256 := p256 hn0
  refine lv_iconst (v := nI 1) hx hb dX9_plans_0 (by decide) ?_
  refine lv_istore_n (lv' := [(1, .int (nI 1)), (0, .ref (b 0))]) hx hb dX9_plans_1 rfl hl (by decide) rfl (fun ls hl => ?_)
  refine lv_aload_n hx hb dX9_plans_2 rfl (lv_at hl 1 rfl) ?_
  refine va_get (D := G) (ci := 7) (C := RX9) (T := TX9) (N := 23) hx hb hts iX9 hown hKK.1 hP 0 rfl rfl 0 (by decide) f7 (fun _ h9 => h9) rfl dX9_plans_3 ?_
  refine lv_iconst (v := nI 4) hx hb dX9_plans_6 (by decide) ?_
  refine nv_iald (i := 4) hx hb hKK.1 hP 1 0 rfl rfl (by omega) (by decide) dX9_plans_7 ?_
  have b_1 := hbB 4
  refine lv_istore_n (lv' := [(2, .int (nI (B 4))), (1, .int (nI 1)), (0, .ref (b 0))]) hx hb dX9_plans_8 rfl hl (by decide) rfl (fun ls hl => ?_)
  refine lv_iconst (v := nI 0) hx hb dX9_plans_9 (by decide) ?_
  refine lv_istore_n (lv' := [(3, .int (nI 0)), (2, .int (nI (B 4))), (1, .int (nI 1)), (0, .ref (b 0))]) hx hb dX9_plans_10 rfl hl (by decide) rfl (fun ls hl => ?_)
  refine wloop (σ := (Nat) × (Nat)) (fun | (w, x) => B 4 - w) (fun | (w, x) => (w ≤ B 4) ∧ (x = waysS B w) ∧ (x ≤ 16807)) (fun | (w, x) => [(3, .int (nI w)), (2, .int (nI (B 4))), (1, .int (nI x)), (0, .ref (b 0))]) (fun | (w, x) => [(b 0, .inr (7, [.ref (b 1), .ref (b 2), .ref (b 3), .ref (b 4), .ref (b 5), .int (nI qu), .long ab, .long bl, .ref (b 6), .int (nI tyd), .int (nI at0), .int (nI sta), .int (nI tok), .int (nI val), .ref (b 7), .int (nI man), .ref (b 8), .ref (b 9), .ref (b 10), .ref (b 11), .ref (b 12), .ref (b 13), .ref (b 14)])), (b 1, .inl (tA 0, 212, .inl (nF B))), (b 11, .inl (tA 0, 5, .inl (nF hrs))), (b 12, .inl (tA 0, 5, .inl (nF be)))]) (0, 1) ⟨(show 0 ≤ B 4 from by omega), (show 1 = waysS B 0 from rfl), (show 1 ≤ 16807 from by omega)⟩ (lv_sub hl [0, 1, 2, 3] rfl) hP hD hS ?_
  rintro ⟨w, x⟩ ⟨hw, hx9, hx8⟩ ih_2 ls H locs hl hP hD hS
  have hl : lv_has ls 10 [(3, .int (nI w)), (2, .int (nI (B 4))), (1, .int (nI x)), (0, .ref (b 0))] := hl
  have hP : va_P G vwCl [(b 0, .inr (7, [.ref (b 1), .ref (b 2), .ref (b 3), .ref (b 4), .ref (b 5), .int (nI qu), .long ab, .long bl, .ref (b 6), .int (nI tyd), .int (nI at0), .int (nI sta), .int (nI tok), .int (nI val), .ref (b 7), .int (nI man), .ref (b 8), .ref (b 9), .ref (b 10), .ref (b 11), .ref (b 12), .ref (b 13), .ref (b 14)])), (b 1, .inl (tA 0, 212, .inl (nF B))), (b 11, .inl (tA 0, 5, .inl (nF hrs))), (b 12, .inl (tA 0, 5, .inl (nF be)))] H := hP
  have hD : va_D A [(b 0, .inr (7, [.ref (b 1), .ref (b 2), .ref (b 3), .ref (b 4), .ref (b 5), .int (nI qu), .long ab, .long bl, .ref (b 6), .int (nI tyd), .int (nI at0), .int (nI sta), .int (nI tok), .int (nI val), .ref (b 7), .int (nI man), .ref (b 8), .ref (b 9), .ref (b 10), .ref (b 11), .ref (b 12), .ref (b 13), .ref (b 14)])), (b 1, .inl (tA 0, 212, .inl (nF B))), (b 11, .inl (tA 0, 5, .inl (nF hrs))), (b 12, .inl (tA 0, 5, .inl (nF be)))] := hD
  have hw : w ≤ B 4 := hw
  have hx9 : x = waysS B w := hx9
  have hx8 : x ≤ 16807 := hx8
  refine lv_iload_n hx hb dX9_plans_11 rfl (lv_at hl 0 rfl) ?_
  refine lv_iload_n hx hb dX9_plans_12 rfl (lv_at hl 1 rfl) ?_
  refine nv_icmp_ge (tgt := 54) (by omega) (by omega) hx hb dX9_plans_13 (by decide) (fun c_3 => ?_) (fun c_3 => ?_)
  · refine lv_iconst (v := (-1)) hx hb dX9_plans_54 (by decide) ?_
    refine nv_topx (y := (nI 0) + (-1)) (by decide) ?_
    refine lv_istore_n (lv' := [(3, .int ((nI 0) + (-1))), (2, .int (nI (B 4))), (1, .int (nI x)), (0, .ref (b 0))]) hx hb dX9_plans_55 rfl hl (by decide) rfl (fun ls hl => ?_)
    refine lv_iconst (v := nI 0) hx hb dX9_plans_56 (by decide) ?_
    refine lv_istore (lv' := [(4, .int (nI 0)), (3, .int ((nI 0) + (-1))), (2, .int (nI (B 4))), (1, .int (nI x)), (0, .ref (b 0))]) hx hb dX9_plans_57 hl (by decide) rfl (fun ls hl => ?_)
    refine wloop (σ := (Nat) × (Nat) × (Nat → Nat) × (Nat → Nat)) (fun | (code, mo, b2, h2) => x - code) (fun | (code, mo, b2, h2) => (code ≤ x) ∧ ((mo, b2, h2) = plT B be hrs code) ∧ (mo ≤ 6) ∧ (∀ j, h2 j < 1048576) ∧ (∀ j, b2 j < 1048576)) (fun | (code, mo, b2, h2) => [(4, .int (nI code)), (3, .int ((nI mo) + (-1))), (2, .int (nI (B 4))), (1, .int (nI x)), (0, .ref (b 0))]) (fun | (code, mo, b2, h2) => [(b 0, .inr (7, [.ref (b 1), .ref (b 2), .ref (b 3), .ref (b 4), .ref (b 5), .int (nI qu), .long ab, .long bl, .ref (b 6), .int (nI tyd), .int (nI at0), .int (nI sta), .int (nI tok), .int (nI val), .ref (b 7), .int (nI man), .ref (b 8), .ref (b 9), .ref (b 10), .ref (b 11), .ref (b 12), .ref (b 13), .ref (b 14)])), (b 1, .inl (tA 0, 212, .inl (nF B))), (b 11, .inl (tA 0, 5, .inl (nF h2))), (b 12, .inl (tA 0, 5, .inl (nF b2)))]) (0, 0, be, hrs) ⟨(show 0 ≤ x from by omega), (show (0, be, hrs) = plT B be hrs 0 from rfl), (show 0 ≤ 6 from by omega), (show ∀ j, hrs j < 1048576 from hbh), (show ∀ j, be j < 1048576 from hbb)⟩ (lv_sub hl [0, 1, 2, 3, 4] rfl) hP hD hS ?_
    rintro ⟨code, mo, b2, h2⟩ ⟨hcode, hpl, hmo, hbh2, hbb2⟩ ih_4 ls H locs hl hP hD hS
    have hl : lv_has ls 10 [(4, .int (nI code)), (3, .int ((nI mo) + (-1))), (2, .int (nI (B 4))), (1, .int (nI x)), (0, .ref (b 0))] := hl
    have hP : va_P G vwCl [(b 0, .inr (7, [.ref (b 1), .ref (b 2), .ref (b 3), .ref (b 4), .ref (b 5), .int (nI qu), .long ab, .long bl, .ref (b 6), .int (nI tyd), .int (nI at0), .int (nI sta), .int (nI tok), .int (nI val), .ref (b 7), .int (nI man), .ref (b 8), .ref (b 9), .ref (b 10), .ref (b 11), .ref (b 12), .ref (b 13), .ref (b 14)])), (b 1, .inl (tA 0, 212, .inl (nF B))), (b 11, .inl (tA 0, 5, .inl (nF h2))), (b 12, .inl (tA 0, 5, .inl (nF b2)))] H := hP
    have hD : va_D A [(b 0, .inr (7, [.ref (b 1), .ref (b 2), .ref (b 3), .ref (b 4), .ref (b 5), .int (nI qu), .long ab, .long bl, .ref (b 6), .int (nI tyd), .int (nI at0), .int (nI sta), .int (nI tok), .int (nI val), .ref (b 7), .int (nI man), .ref (b 8), .ref (b 9), .ref (b 10), .ref (b 11), .ref (b 12), .ref (b 13), .ref (b 14)])), (b 1, .inl (tA 0, 212, .inl (nF B))), (b 11, .inl (tA 0, 5, .inl (nF h2))), (b 12, .inl (tA 0, 5, .inl (nF b2)))] := hD
    have hcode : code ≤ x := hcode
    have hpl : (mo, b2, h2) = plT B be hrs code := hpl
    have hmo : mo ≤ 6 := hmo
    have hbh2 : ∀ j, h2 j < 1048576 := hbh2
    have hbb2 : ∀ j, b2 j < 1048576 := hbb2
    refine lv_iload hx hb dX9_plans_59 (lv_at hl 0 rfl) ?_
    refine lv_iload_n hx hb dX9_plans_61 rfl (lv_at hl 3 rfl) ?_
    refine nv_icmp_ge (tgt := 237) (by omega) (by omega) hx hb dX9_plans_62 (by decide) (fun c_5 => ?_) (fun c_5 => ?_)
    · refine lv_iload_n hx hb dX9_plans_237 rfl (lv_at hl 1 rfl) ?_
      exact retI hx hb hr hlocks hS hP hD (mo, b2, h2) (rfl) (⟨rfl, by unfold plS; rw [← show x = waysS B (B 4) from (by rw [hx9, show w = B 4 from (by omega)]), ← show code = x from (by omega)]; exact hpl, hmo, hbb2, hbh2⟩) dX9_plans_238
    · refine lv_iload hx hb dX9_plans_65 (lv_at hl 0 rfl) ?_
      refine lv_istore (lv' := [(5, .int (nI code)), (4, .int (nI code)), (3, .int ((nI mo) + (-1))), (2, .int (nI (B 4))), (1, .int (nI x)), (0, .ref (b 0))]) hx hb dX9_plans_67 hl (by decide) rfl (fun ls hl => ?_)
      refine lv_iconst (v := nI 0) hx hb dX9_plans_69 (by decide) ?_
      refine lv_istore (lv' := [(6, .int (nI 0)), (5, .int (nI code)), (4, .int (nI code)), (3, .int ((nI mo) + (-1))), (2, .int (nI (B 4))), (1, .int (nI x)), (0, .ref (b 0))]) hx hb dX9_plans_70 hl (by decide) rfl (fun ls hl => ?_)
      refine lv_iload_n hx hb dX9_plans_72 rfl (lv_at hl 4 rfl) ?_
      refine lv_iconst (v := nI 1) hx hb dX9_plans_73 (by decide) ?_
      refine lv_isub hx hb dX9_plans_74 ?_
      refine nv_topx (y := (nI (B 4)) + (-1)) (by rw [Int32.sub_eq_add_neg]; rfl) ?_
      refine lv_istore (lv' := [(7, .int ((nI (B 4)) + (-1))), (6, .int (nI 0)), (5, .int (nI code)), (4, .int (nI code)), (3, .int ((nI mo) + (-1))), (2, .int (nI (B 4))), (1, .int (nI x)), (0, .ref (b 0))]) hx hb dX9_plans_75 hl (by decide) rfl (fun ls hl => ?_)
      refine wloop (σ := (Nat) × (Nat) × (Nat) × (Nat → Nat)) (fun | (jj, lf, met, h3) => jj) (fun | (jj, lf, met, h3) => (jj ≤ B 4) ∧ (lf = dL B (B 4) code (B 4 - jj)) ∧ (met = dM B (B 4) code (B 4 - jj)) ∧ (h3 = dH B (B 4) code h2 (B 4 - jj)) ∧ (∀ j, h3 j < 1048576)) (fun | (jj, lf, met, h3) => [(7, .int ((nI jj) + (-1))), (6, .int (nI met)), (5, .int (nI lf)), (4, .int (nI code)), (3, .int ((nI mo) + (-1))), (2, .int (nI (B 4))), (1, .int (nI x)), (0, .ref (b 0))]) (fun | (jj, lf, met, h3) => [(b 0, .inr (7, [.ref (b 1), .ref (b 2), .ref (b 3), .ref (b 4), .ref (b 5), .int (nI qu), .long ab, .long bl, .ref (b 6), .int (nI tyd), .int (nI at0), .int (nI sta), .int (nI tok), .int (nI val), .ref (b 7), .int (nI man), .ref (b 8), .ref (b 9), .ref (b 10), .ref (b 11), .ref (b 12), .ref (b 13), .ref (b 14)])), (b 1, .inl (tA 0, 212, .inl (nF B))), (b 11, .inl (tA 0, 5, .inl (nF h3))), (b 12, .inl (tA 0, 5, .inl (nF b2)))]) ((B 4), code, 0, h2) ⟨(show (B 4) ≤ B 4 from by omega), (show code = dL B (B 4) code (B 4 - (B 4)) from by rw [Nat.sub_self]; rfl), (show 0 = dM B (B 4) code (B 4 - (B 4)) from by rw [Nat.sub_self]; rfl), (show h2 = dH B (B 4) code h2 (B 4 - (B 4)) from by rw [Nat.sub_self]; rfl), (show ∀ j, h2 j < 1048576 from hbh2)⟩ (lv_sub hl [0, 1, 2, 3, 4, 5, 6, 7] rfl) hP hD hS ?_
      rintro ⟨jj, lf, met, h3⟩ ⟨hj, hlf, hmet, hh3, hbh3⟩ ih_6 ls H locs hl hP hD hS
      have hl : lv_has ls 10 [(7, .int ((nI jj) + (-1))), (6, .int (nI met)), (5, .int (nI lf)), (4, .int (nI code)), (3, .int ((nI mo) + (-1))), (2, .int (nI (B 4))), (1, .int (nI x)), (0, .ref (b 0))] := hl
      have hP : va_P G vwCl [(b 0, .inr (7, [.ref (b 1), .ref (b 2), .ref (b 3), .ref (b 4), .ref (b 5), .int (nI qu), .long ab, .long bl, .ref (b 6), .int (nI tyd), .int (nI at0), .int (nI sta), .int (nI tok), .int (nI val), .ref (b 7), .int (nI man), .ref (b 8), .ref (b 9), .ref (b 10), .ref (b 11), .ref (b 12), .ref (b 13), .ref (b 14)])), (b 1, .inl (tA 0, 212, .inl (nF B))), (b 11, .inl (tA 0, 5, .inl (nF h3))), (b 12, .inl (tA 0, 5, .inl (nF b2)))] H := hP
      have hD : va_D A [(b 0, .inr (7, [.ref (b 1), .ref (b 2), .ref (b 3), .ref (b 4), .ref (b 5), .int (nI qu), .long ab, .long bl, .ref (b 6), .int (nI tyd), .int (nI at0), .int (nI sta), .int (nI tok), .int (nI val), .ref (b 7), .int (nI man), .ref (b 8), .ref (b 9), .ref (b 10), .ref (b 11), .ref (b 12), .ref (b 13), .ref (b 14)])), (b 1, .inl (tA 0, 212, .inl (nF B))), (b 11, .inl (tA 0, 5, .inl (nF h3))), (b 12, .inl (tA 0, 5, .inl (nF b2)))] := hD
      have hj : jj ≤ B 4 := hj
      have hlf : lf = dL B (B 4) code (B 4 - jj) := hlf
      have hmet : met = dM B (B 4) code (B 4 - jj) := hmet
      have hh3 : h3 = dH B (B 4) code h2 (B 4 - jj) := hh3
      have hbh3 : ∀ j, h3 j < 1048576 := hbh3
      refine lv_iload hx hb dX9_plans_77 (lv_at hl 0 rfl) ?_
      refine zv_if_lt (tgt := 186) (X := ((jj : Nat) : Int) - 1) (predZ (by omega)) hx hb dX9_plans_79 (by decide) (fun c_7 => ?_) (fun c_7 => ?_)
      · have hj0 : jj = 0 := by omega
        rw [hj0, Nat.sub_zero] at hmet hh3
        have hmm : met ≤ 5 := by have := dM_le B (B 4) code (B 4); omega
        refine lv_iload hx hb dX9_plans_186 (lv_at hl 1 rfl) ?_
        refine lv_iload_n hx hb dX9_plans_188 rfl (lv_at hl 4 rfl) ?_
        refine zv_icmp_le (tgt := 231) (X := ((met : Nat) : Int)) (Y := ((mo : Nat) : Int) - 1) (nI_toIntC (by omega)) (predZ (by omega)) hx hb dX9_plans_189 (by decide) (fun c_8 => ?_) (fun c_8 => ?_)
        · refine lv_iinc (v := (nI (code + 1))) (lv' := [(4, .int (nI (code + 1))), (7, .int ((nI jj) + (-1))), (6, .int (nI met)), (5, .int (nI lf)), (3, .int ((nI mo) + (-1))), (2, .int (nI (B 4))), (1, .int (nI x)), (0, .ref (b 0))]) hx hb dX9_plans_231 hl (k := 3) rfl (nI_add code 1) (by decide) rfl (fun ls hl => ?_)
          refine lv_goto (tgt := 59) hx hb dX9_plans_234 (by decide) ?_
          exact ih_4 (code + 1, mo, b2, h3) (show x - (code + 1) < x - code from by omega) ⟨(show (code + 1) ≤ x from by omega), (show (mo, b2, h3) = plT B be hrs (code + 1) from by first | exact (show cpTo b2 0 h3 (B 4) = b3 from by rw [hb3, show w = B 4 from by omega]) ▸ plT_1 hpl hh3 hmet (by omega) (by assumption) | exact plT_2 hpl hh3 hmet (fun z => by first | omega | exact absurd z.2 (by assumption))), (show mo ≤ 6 from by omega), (show ∀ j, h3 j < 1048576 from hbh3), (show ∀ j, b2 j < 1048576 from by first | exact hbb2 | (rw [hb3]; exact cpTo_lt hbb2 hbh3 _ _))⟩ _ _ _ (lv_sub hl [0, 4, 5, 6, 7] rfl) hP hD hS
        · refine lv_aload_n hx hb dX9_plans_192 rfl (lv_at hl 7 rfl) ?_
          refine roI hP hD hS hA [0, 1, 2] rfl (runV (As := []) (rest := []) (isC := [0, 1, 2]) ⟨hx, hb, hml, hown, hts⟩ hKK hP hD rfl (by decide) (c_X9_canBe l G tA b qu ab bl tyd at0 sta tok val man B h3 (hWB) (hbh3) _) (cwV 0 hts gX9_plans_X9_canBe rfl rfl rfl (by decide +kernel) ⟨Nat.le_of_ble_eq_true rfl, Nat.le_of_ble_eq_true rfl⟩) rfl rfl rfl rfl hl.1 rfl (lv_room (Nat.le_of_ble_eq_true rfl)) dX9_plans_193 ⟨Nat.le_of_ble_eq_true rfl, Nat.le_of_ble_eq_true rfl⟩) (fun _ => rfl) (fun r_9 u_10 H locs q_11 hP hS => ?_)
          rcases q_11 with ⟨rfl, p_12⟩ | ⟨rfl, p_12⟩
          · have p_12 : canP B h3 := p_12
            refine nv_if_eq (tgt := 231) (by omega) hx hb dX9_plans_196 (by decide) (fun h => absurd h (by omega)) (fun _ => ?_)
            refine lv_iload hx hb dX9_plans_199 (lv_at hl 1 rfl) ?_
            refine nv_topx (y := (nI (met + 1)) + (-1)) (pk_m1 met).symm ?_
            refine lv_istore_n (lv' := [(3, .int ((nI (met + 1)) + (-1))), (7, .int ((nI jj) + (-1))), (6, .int (nI met)), (5, .int (nI lf)), (4, .int (nI code)), (2, .int (nI (B 4))), (1, .int (nI x)), (0, .ref (b 0))]) hx hb dX9_plans_201 rfl hl (by decide) rfl (fun ls hl => ?_)
            refine lv_iconst (v := nI 0) hx hb dX9_plans_202 (by decide) ?_
            refine lv_istore (lv' := [(7, .int (nI 0)), (3, .int ((nI (met + 1)) + (-1))), (6, .int (nI met)), (5, .int (nI lf)), (4, .int (nI code)), (2, .int (nI (B 4))), (1, .int (nI x)), (0, .ref (b 0))]) hx hb dX9_plans_203 hl (by decide) rfl (fun ls hl => ?_)
            refine wloop (σ := (Nat) × (Nat → Nat)) (fun | (w, b3) => B 4 - w) (fun | (w, b3) => (w ≤ B 4) ∧ (b3 = cpTo b2 0 h3 w)) (fun | (w, b3) => [(7, .int (nI w)), (3, .int ((nI (met + 1)) + (-1))), (6, .int (nI met)), (5, .int (nI lf)), (4, .int (nI code)), (2, .int (nI (B 4))), (1, .int (nI x)), (0, .ref (b 0))]) (fun | (w, b3) => [(b 0, .inr (7, [.ref (b 1), .ref (b 2), .ref (b 3), .ref (b 4), .ref (b 5), .int (nI qu), .long ab, .long bl, .ref (b 6), .int (nI tyd), .int (nI at0), .int (nI sta), .int (nI tok), .int (nI val), .ref (b 7), .int (nI man), .ref (b 8), .ref (b 9), .ref (b 10), .ref (b 11), .ref (b 12), .ref (b 13), .ref (b 14)])), (b 1, .inl (tA 0, 212, .inl (nF B))), (b 11, .inl (tA 0, 5, .inl (nF h3))), (b 12, .inl (tA 0, 5, .inl (nF b3)))]) (0, b2) ⟨(show 0 ≤ B 4 from by omega), (show b2 = cpTo b2 0 h3 0 from (cpTo_0 _ _ _).symm)⟩ (lv_sub hl [0, 1, 2, 3, 4, 5, 6, 7] rfl) hP hD hS ?_
            rintro ⟨w, b3⟩ ⟨hw4, hb3⟩ ih_14 ls H locs hl hP hD hS
            have hl : lv_has ls 10 [(7, .int (nI w)), (3, .int ((nI (met + 1)) + (-1))), (6, .int (nI met)), (5, .int (nI lf)), (4, .int (nI code)), (2, .int (nI (B 4))), (1, .int (nI x)), (0, .ref (b 0))] := hl
            have hP : va_P G vwCl [(b 0, .inr (7, [.ref (b 1), .ref (b 2), .ref (b 3), .ref (b 4), .ref (b 5), .int (nI qu), .long ab, .long bl, .ref (b 6), .int (nI tyd), .int (nI at0), .int (nI sta), .int (nI tok), .int (nI val), .ref (b 7), .int (nI man), .ref (b 8), .ref (b 9), .ref (b 10), .ref (b 11), .ref (b 12), .ref (b 13), .ref (b 14)])), (b 1, .inl (tA 0, 212, .inl (nF B))), (b 11, .inl (tA 0, 5, .inl (nF h3))), (b 12, .inl (tA 0, 5, .inl (nF b3)))] H := hP
            have hD : va_D A [(b 0, .inr (7, [.ref (b 1), .ref (b 2), .ref (b 3), .ref (b 4), .ref (b 5), .int (nI qu), .long ab, .long bl, .ref (b 6), .int (nI tyd), .int (nI at0), .int (nI sta), .int (nI tok), .int (nI val), .ref (b 7), .int (nI man), .ref (b 8), .ref (b 9), .ref (b 10), .ref (b 11), .ref (b 12), .ref (b 13), .ref (b 14)])), (b 1, .inl (tA 0, 212, .inl (nF B))), (b 11, .inl (tA 0, 5, .inl (nF h3))), (b 12, .inl (tA 0, 5, .inl (nF b3)))] := hD
            have hw4 : w ≤ B 4 := hw4
            have hb3 : b3 = cpTo b2 0 h3 w := hb3
            refine lv_iload hx hb dX9_plans_205 (lv_at hl 0 rfl) ?_
            refine lv_iload_n hx hb dX9_plans_207 rfl (lv_at hl 5 rfl) ?_
            refine nv_icmp_ge (tgt := 231) (by omega) (by omega) hx hb dX9_plans_208 (by decide) (fun c_15 => ?_) (fun c_15 => ?_)
            · refine lv_iinc (v := (nI (code + 1))) (lv' := [(4, .int (nI (code + 1))), (7, .int (nI w)), (3, .int ((nI (met + 1)) + (-1))), (6, .int (nI met)), (5, .int (nI lf)), (2, .int (nI (B 4))), (1, .int (nI x)), (0, .ref (b 0))]) hx hb dX9_plans_231 hl (k := 4) rfl (nI_add code 1) (by decide) rfl (fun ls hl => ?_)
              refine lv_goto (tgt := 59) hx hb dX9_plans_234 (by decide) ?_
              exact ih_4 (code + 1, (met + 1), b3, h3) (show x - (code + 1) < x - code from by omega) ⟨(show (code + 1) ≤ x from by omega), (show ((met + 1), b3, h3) = plT B be hrs (code + 1) from by first | exact (show cpTo b2 0 h3 (B 4) = b3 from by rw [hb3, show w = B 4 from by omega]) ▸ plT_1 hpl hh3 hmet (by omega) (by assumption) | exact plT_2 hpl hh3 hmet (fun z => by first | omega | exact absurd z.2 (by assumption))), (show (met + 1) ≤ 6 from by omega), (show ∀ j, h3 j < 1048576 from hbh3), (show ∀ j, b3 j < 1048576 from by first | exact hbb2 | (rw [hb3]; exact cpTo_lt hbb2 hbh3 _ _))⟩ _ _ _ (lv_sub hl [0, 2, 5, 6, 7] rfl) hP hD hS
            · refine lv_aload_n hx hb dX9_plans_211 rfl (lv_at hl 7 rfl) ?_
              refine va_get (D := G) (ci := 7) (C := RX9) (T := TX9) (N := 23) hx hb hts iX9 hown hKK.1 hP 0 rfl rfl 20 (by decide) f44 (fun _ h9 => h9) rfl dX9_plans_212 ?_
              refine lv_iload hx hb dX9_plans_215 (lv_at hl 0 rfl) ?_
              refine lv_aload_n hx hb dX9_plans_217 rfl (lv_at hl 7 rfl) ?_
              refine va_get (D := G) (ci := 7) (C := RX9) (T := TX9) (N := 23) hx hb hts iX9 hown hKK.1 hP 0 rfl rfl 19 (by decide) f41 (fun _ h9 => h9) rfl dX9_plans_218 ?_
              refine lv_iload hx hb dX9_plans_221 (lv_at hl 0 rfl) ?_
              refine nv_iald (i := w) hx hb hKK.1 hP 2 0 rfl rfl (by omega) (by decide) dX9_plans_223 ?_
              have b_16 := hbh3 w
              refine nv_iast (i := w) hx hb hKK.1 hP hD hS 3 0 rfl rfl (by omega) (by decide) dX9_plans_224 [(b 0, .inr (7, [.ref (b 1), .ref (b 2), .ref (b 3), .ref (b 4), .ref (b 5), .int (nI qu), .long ab, .long bl, .ref (b 6), .int (nI tyd), .int (nI at0), .int (nI sta), .int (nI tok), .int (nI val), .ref (b 7), .int (nI man), .ref (b 8), .ref (b 9), .ref (b 10), .ref (b 11), .ref (b 12), .ref (b 13), .ref (b 14)])), (b 1, .inl (tA 0, 212, .inl (nF B))), (b 11, .inl (tA 0, 5, .inl (nF h3))), (b 12, .inl (tA 0, 5, .inl (nF (updN b3 w (h3 w)))))] rfl (fun H locs hP hD hS => ?_)
              refine lv_iinc (v := (nI (w + 1))) (lv' := [(7, .int (nI (w + 1))), (3, .int ((nI (met + 1)) + (-1))), (6, .int (nI met)), (5, .int (nI lf)), (4, .int (nI code)), (2, .int (nI (B 4))), (1, .int (nI x)), (0, .ref (b 0))]) hx hb dX9_plans_225 hl (k := 0) rfl (nI_add w 1) (by decide) rfl (fun ls hl => ?_)
              refine lv_goto (tgt := 205) hx hb dX9_plans_228 (by decide) ?_
              exact ih_14 (w + 1, updN b3 w (h3 w)) (show B 4 - (w + 1) < B 4 - w from by omega) ⟨(show (w + 1) ≤ B 4 from by omega), (show (updN b3 w (h3 w)) = cpTo b2 0 h3 (w + 1) from by rw [cpTo_s, hb3, Nat.zero_add])⟩ _ _ _ (lv_sub hl [0, 1, 2, 3, 4, 5, 6, 7] rfl) hP hD hS
          · have p_12 : ¬ (canP B h3) := p_12
            refine nv_if_eq (tgt := 231) (by omega) hx hb dX9_plans_196 (by decide) (fun _ => ?_) (fun h => absurd h (by omega))
            refine lv_iinc (v := (nI (code + 1))) (lv' := [(4, .int (nI (code + 1))), (7, .int ((nI jj) + (-1))), (6, .int (nI met)), (5, .int (nI lf)), (3, .int ((nI mo) + (-1))), (2, .int (nI (B 4))), (1, .int (nI x)), (0, .ref (b 0))]) hx hb dX9_plans_231 hl (k := 3) rfl (nI_add code 1) (by decide) rfl (fun ls hl => ?_)
            refine lv_goto (tgt := 59) hx hb dX9_plans_234 (by decide) ?_
            exact ih_4 (code + 1, mo, b2, h3) (show x - (code + 1) < x - code from by omega) ⟨(show (code + 1) ≤ x from by omega), (show (mo, b2, h3) = plT B be hrs (code + 1) from by first | exact (show cpTo b2 0 h3 (B 4) = b3 from by rw [hb3, show w = B 4 from by omega]) ▸ plT_1 hpl hh3 hmet (by omega) (by assumption) | exact plT_2 hpl hh3 hmet (fun z => by first | omega | exact absurd z.2 (by assumption))), (show mo ≤ 6 from by omega), (show ∀ j, h3 j < 1048576 from hbh3), (show ∀ j, b2 j < 1048576 from by first | exact hbb2 | (rw [hb3]; exact cpTo_lt hbb2 hbh3 _ _))⟩ _ _ _ (lv_sub hl [0, 4, 5, 6, 7] rfl) hP hD hS
      · obtain ⟨j9, rfl⟩ : ∃ z, jj = z + 1 := ⟨jj - 1, by omega⟩
        have hl : lv_has ls 10 [(7, .int (nI j9)), (6, .int (nI met)), (5, .int (nI lf)), (4, .int (nI code)), (3, .int ((nI mo) + (-1))), (2, .int (nI (B 4))), (1, .int (nI x)), (0, .ref (b 0))] := by rw [pk_m1] at hl; exact hl
        have hvw := hv4 j9 (by omega)
        have hew := eachS_le hWB (show j9 < B 4 by omega)
        have hmod := Nat.mod_lt lf (show eachS B j9 > 0 by omega)
        have hj8 : B 4 - 1 - (B 4 - (j9 + 1)) = j9 := by omega
        have hlfc : lf ≤ code := by rw [hlf]; exact dL_le _ _ _ _
        have hmm : met ≤ 5 := by have := dM_le B (B 4) code (B 4 - (j9 + 1)); omega
        refine lv_aload_n hx hb dX9_plans_82 rfl (lv_at hl 7 rfl) ?_
        refine va_get (D := G) (ci := 7) (C := RX9) (T := TX9) (N := 23) hx hb hts iX9 hown hKK.1 hP 0 rfl rfl 0 (by decide) f7 (fun _ h9 => h9) rfl dX9_plans_83 ?_
        refine lv_bipush (v := nI 126) hx hb dX9_plans_86 (by decide +kernel) ?_
        refine lv_iconst (v := nI 4) hx hb dX9_plans_88 (by decide) ?_
        refine lv_iload hx hb dX9_plans_89 (lv_at hl 0 rfl) ?_
        refine nv_imul hx hb dX9_plans_91 ?_
        refine nv_iadd hx hb dX9_plans_92 ?_
        refine lv_iconst (v := nI 2) hx hb dX9_plans_93 (by decide) ?_
        refine nv_iadd hx hb dX9_plans_94 ?_
        refine nv_iald (i := (126 + (4 * j9)) + 2) hx hb hKK.1 hP 1 0 rfl rfl (by omega) (by decide) dX9_plans_95 ?_
        have b_18 := hbB ((126 + (4 * j9)) + 2)
        refine lv_istore (lv' := [(8, .int (nI (B ((126 + (4 * j9)) + 2)))), (7, .int (nI j9)), (6, .int (nI met)), (5, .int (nI lf)), (4, .int (nI code)), (3, .int ((nI mo) + (-1))), (2, .int (nI (B 4))), (1, .int (nI x)), (0, .ref (b 0))]) hx hb dX9_plans_96 hl (by decide) rfl (fun ls hl => ?_)
        refine lv_aload_n hx hb dX9_plans_98 rfl (lv_at hl 8 rfl) ?_
        refine va_get (D := G) (ci := 7) (C := RX9) (T := TX9) (N := 23) hx hb hts iX9 hown hKK.1 hP 0 rfl rfl 0 (by decide) f7 (fun _ h9 => h9) rfl dX9_plans_99 ?_
        refine lv_bipush (v := nI 126) hx hb dX9_plans_102 (by decide +kernel) ?_
        refine lv_iconst (v := nI 4) hx hb dX9_plans_104 (by decide) ?_
        refine lv_iload hx hb dX9_plans_105 (lv_at hl 1 rfl) ?_
        refine nv_imul hx hb dX9_plans_107 ?_
        refine nv_iadd hx hb dX9_plans_108 ?_
        refine lv_iconst (v := nI 3) hx hb dX9_plans_109 (by decide) ?_
        refine nv_iadd hx hb dX9_plans_110 ?_
        refine nv_iald (i := (126 + (4 * j9)) + 3) hx hb hKK.1 hP 1 0 rfl rfl (by omega) (by decide) dX9_plans_111 ?_
        have b_19 := hbB ((126 + (4 * j9)) + 3)
        refine lv_iload hx hb dX9_plans_112 (lv_at hl 0 rfl) ?_
        refine nv_isub (show B ((126 + (4 * j9)) + 2) ≤ B ((126 + (4 * j9)) + 3) from by omega) hx hb dX9_plans_114 ?_
        refine lv_iconst (v := nI 2) hx hb dX9_plans_115 (by decide) ?_
        refine nv_iadd hx hb dX9_plans_116 ?_
        refine nv_top (y := eachS B j9) rfl ?_
        refine lv_istore (lv' := [(9, .int (nI (eachS B j9))), (8, .int (nI (B ((126 + (4 * j9)) + 2)))), (7, .int (nI j9)), (6, .int (nI met)), (5, .int (nI lf)), (4, .int (nI code)), (3, .int ((nI mo) + (-1))), (2, .int (nI (B 4))), (1, .int (nI x)), (0, .ref (b 0))]) hx hb dX9_plans_117 hl (by decide) rfl (fun ls hl => ?_)
        refine lv_aload_n hx hb dX9_plans_119 rfl (lv_at hl 9 rfl) ?_
        refine va_get (D := G) (ci := 7) (C := RX9) (T := TX9) (N := 23) hx hb hts iX9 hown hKK.1 hP 0 rfl rfl 19 (by decide) f41 (fun _ h9 => h9) rfl dX9_plans_120 ?_
        refine lv_iload hx hb dX9_plans_123 (lv_at hl 2 rfl) ?_
        refine lv_iload hx hb dX9_plans_125 (lv_at hl 4 rfl) ?_
        refine lv_iload hx hb dX9_plans_127 (lv_at hl 0 rfl) ?_
        refine nv_irem (by omega) (by omega) (by omega) hx hb dX9_plans_129 ?_
        refine lv_iload hx hb dX9_plans_130 (lv_at hl 0 rfl) ?_
        refine lv_iconst (v := nI 1) hx hb dX9_plans_132 (by decide) ?_
        refine nv_isub (show 1 ≤ eachS B j9 from by omega) hx hb dX9_plans_133 ?_
        refine nv_icmp_ne (tgt := 142) (by omega) (by omega) hx hb dX9_plans_134 (by decide) (fun c_20 => ?_) (fun c_20 => ?_)
        · refine lv_iload hx hb dX9_plans_142 (lv_at hl 1 rfl) ?_
          refine lv_iload hx hb dX9_plans_144 (lv_at hl 4 rfl) ?_
          refine lv_iload hx hb dX9_plans_146 (lv_at hl 0 rfl) ?_
          refine nv_irem (by omega) (by omega) (by omega) hx hb dX9_plans_148 ?_
          refine nv_iadd hx hb dX9_plans_149 ?_
          have hvv : (B ((126 + (4 * j9)) + 2)) + (lf % (eachS B j9)) = hourC B lf j9 := by unfold hourC; first | rw [if_pos (by omega)] | rw [if_neg (by omega)]
          have hv100 : (B ((126 + (4 * j9)) + 2)) + (lf % (eachS B j9)) < 100 := by rw [hvv]; exact hourC_lt hWB (by omega) _
          refine nv_iast (i := j9) hx hb hKK.1 hP hD hS 2 0 rfl rfl (by omega) (by decide) dX9_plans_150 [(b 0, .inr (7, [.ref (b 1), .ref (b 2), .ref (b 3), .ref (b 4), .ref (b 5), .int (nI qu), .long ab, .long bl, .ref (b 6), .int (nI tyd), .int (nI at0), .int (nI sta), .int (nI tok), .int (nI val), .ref (b 7), .int (nI man), .ref (b 8), .ref (b 9), .ref (b 10), .ref (b 11), .ref (b 12), .ref (b 13), .ref (b 14)])), (b 1, .inl (tA 0, 212, .inl (nF B))), (b 11, .inl (tA 0, 5, .inl (nF (updN h3 j9 ((B ((126 + (4 * j9)) + 2)) + (lf % (eachS B j9))))))), (b 12, .inl (tA 0, 5, .inl (nF b2)))] rfl (fun H locs hP hD hS => ?_)
          have B_21 := updN_lt hbh3 j9 (show (B ((126 + (4 * j9)) + 2)) + (lf % (eachS B j9)) < 1048576 from by omega)
          refine lv_iload hx hb dX9_plans_151 (lv_at hl 3 rfl) ?_
          refine lv_aload_n hx hb dX9_plans_153 rfl (lv_at hl 9 rfl) ?_
          refine va_get (D := G) (ci := 7) (C := RX9) (T := TX9) (N := 23) hx hb hts iX9 hown hKK.1 hP 0 rfl rfl 19 (by decide) f41 (fun _ h9 => h9) rfl dX9_plans_154 ?_
          refine lv_iload hx hb dX9_plans_157 (lv_at hl 2 rfl) ?_
          refine nv_iald (i := j9) hx hb hKK.1 hP 2 0 rfl rfl (by omega) (by decide) dX9_plans_159 ?_
          have b_22 := B_21 j9
          refine nv_top (y := ((B ((126 + (4 * j9)) + 2)) + (lf % (eachS B j9)))) (congrArg nI (updN_s _ _ _)) ?_
          refine lv_bipush (v := nI 24) hx hb dX9_plans_160 (by decide +kernel) ?_
          refine nv_icmp_ge (tgt := 169) (by omega) (by omega) hx hb dX9_plans_162 (by decide) (fun c_23 => ?_) (fun c_23 => ?_)
          · refine lv_iconst (v := nI 0) hx hb dX9_plans_169 (by decide) ?_
            refine nv_iadd hx hb dX9_plans_170 ?_
            refine lv_istore (lv' := [(6, .int (nI (met + 0))), (9, .int (nI (eachS B j9))), (8, .int (nI (B ((126 + (4 * j9)) + 2)))), (7, .int (nI j9)), (5, .int (nI lf)), (4, .int (nI code)), (3, .int ((nI mo) + (-1))), (2, .int (nI (B 4))), (1, .int (nI x)), (0, .ref (b 0))]) hx hb dX9_plans_171 hl (by decide) rfl (fun ls hl => ?_)
            refine lv_iload hx hb dX9_plans_173 (lv_at hl 4 rfl) ?_
            refine lv_iload hx hb dX9_plans_175 (lv_at hl 1 rfl) ?_
            refine nv_idiv (by omega) (by omega) (by omega) hx hb dX9_plans_177 ?_
            refine lv_istore (lv' := [(5, .int (nI (lf / (eachS B j9)))), (6, .int (nI (met + 0))), (9, .int (nI (eachS B j9))), (8, .int (nI (B ((126 + (4 * j9)) + 2)))), (7, .int (nI j9)), (4, .int (nI code)), (3, .int ((nI mo) + (-1))), (2, .int (nI (B 4))), (1, .int (nI x)), (0, .ref (b 0))]) hx hb dX9_plans_178 hl (by decide) rfl (fun ls hl => ?_)
            refine lv_iinc (v := ((nI j9) + (-1))) (lv' := [(7, .int ((nI j9) + (-1))), (5, .int (nI (lf / (eachS B j9)))), (6, .int (nI (met + 0))), (9, .int (nI (eachS B j9))), (8, .int (nI (B ((126 + (4 * j9)) + 2)))), (4, .int (nI code)), (3, .int ((nI mo) + (-1))), (2, .int (nI (B 4))), (1, .int (nI x)), (0, .ref (b 0))]) hx hb dX9_plans_180 hl (k := 4) rfl rfl (by decide) rfl (fun ls hl => ?_)
            refine lv_goto (tgt := 77) hx hb dX9_plans_183 (by decide) ?_
            exact ih_6 (j9, lf / (eachS B j9), met + 0, updN h3 j9 ((B ((126 + (4 * j9)) + 2)) + (lf % (eachS B j9)))) (show j9 < (j9 + 1) from by omega) ⟨(show j9 ≤ B 4 from by omega), (show (lf / (eachS B j9)) = dL B (B 4) code (B 4 - j9) from by rw [show B 4 - j9 = (B 4 - (j9 + 1)) + 1 from (by omega), dL_s, ← hlf, hj8]), (show (met + 0) = dM B (B 4) code (B 4 - j9) from by rw [show B 4 - j9 = (B 4 - (j9 + 1)) + 1 from (by omega), dM_s, ← hmet, ← hlf, hj8]; first | rw [if_pos (by rw [← hvv]; omega)] | rw [if_neg (by rw [← hvv]; omega)]), (show (updN h3 j9 ((B ((126 + (4 * j9)) + 2)) + (lf % (eachS B j9)))) = dH B (B 4) code h2 (B 4 - j9) from by rw [show B 4 - j9 = (B 4 - (j9 + 1)) + 1 from (by omega), dH_s, ← hh3, ← hlf, hj8, ← hvv]), (show ∀ j, (updN h3 j9 ((B ((126 + (4 * j9)) + 2)) + (lf % (eachS B j9)))) j < 1048576 from by assumption)⟩ _ _ _ (lv_sub hl [0, 2, 1, 5, 6, 7, 8, 9] rfl) hP hD hS
          · refine lv_iconst (v := nI 1) hx hb dX9_plans_165 (by decide) ?_
            refine lv_goto (tgt := 170) hx hb dX9_plans_166 (by decide) ?_
            refine nv_iadd hx hb dX9_plans_170 ?_
            refine lv_istore (lv' := [(6, .int (nI (met + 1))), (9, .int (nI (eachS B j9))), (8, .int (nI (B ((126 + (4 * j9)) + 2)))), (7, .int (nI j9)), (5, .int (nI lf)), (4, .int (nI code)), (3, .int ((nI mo) + (-1))), (2, .int (nI (B 4))), (1, .int (nI x)), (0, .ref (b 0))]) hx hb dX9_plans_171 hl (by decide) rfl (fun ls hl => ?_)
            refine lv_iload hx hb dX9_plans_173 (lv_at hl 4 rfl) ?_
            refine lv_iload hx hb dX9_plans_175 (lv_at hl 1 rfl) ?_
            refine nv_idiv (by omega) (by omega) (by omega) hx hb dX9_plans_177 ?_
            refine lv_istore (lv' := [(5, .int (nI (lf / (eachS B j9)))), (6, .int (nI (met + 1))), (9, .int (nI (eachS B j9))), (8, .int (nI (B ((126 + (4 * j9)) + 2)))), (7, .int (nI j9)), (4, .int (nI code)), (3, .int ((nI mo) + (-1))), (2, .int (nI (B 4))), (1, .int (nI x)), (0, .ref (b 0))]) hx hb dX9_plans_178 hl (by decide) rfl (fun ls hl => ?_)
            refine lv_iinc (v := ((nI j9) + (-1))) (lv' := [(7, .int ((nI j9) + (-1))), (5, .int (nI (lf / (eachS B j9)))), (6, .int (nI (met + 1))), (9, .int (nI (eachS B j9))), (8, .int (nI (B ((126 + (4 * j9)) + 2)))), (4, .int (nI code)), (3, .int ((nI mo) + (-1))), (2, .int (nI (B 4))), (1, .int (nI x)), (0, .ref (b 0))]) hx hb dX9_plans_180 hl (k := 4) rfl rfl (by decide) rfl (fun ls hl => ?_)
            refine lv_goto (tgt := 77) hx hb dX9_plans_183 (by decide) ?_
            exact ih_6 (j9, lf / (eachS B j9), met + 1, updN h3 j9 ((B ((126 + (4 * j9)) + 2)) + (lf % (eachS B j9)))) (show j9 < (j9 + 1) from by omega) ⟨(show j9 ≤ B 4 from by omega), (show (lf / (eachS B j9)) = dL B (B 4) code (B 4 - j9) from by rw [show B 4 - j9 = (B 4 - (j9 + 1)) + 1 from (by omega), dL_s, ← hlf, hj8]), (show (met + 1) = dM B (B 4) code (B 4 - j9) from by rw [show B 4 - j9 = (B 4 - (j9 + 1)) + 1 from (by omega), dM_s, ← hmet, ← hlf, hj8]; first | rw [if_pos (by rw [← hvv]; omega)] | rw [if_neg (by rw [← hvv]; omega)]), (show (updN h3 j9 ((B ((126 + (4 * j9)) + 2)) + (lf % (eachS B j9)))) = dH B (B 4) code h2 (B 4 - j9) from by rw [show B 4 - j9 = (B 4 - (j9 + 1)) + 1 from (by omega), dH_s, ← hh3, ← hlf, hj8, ← hvv]), (show ∀ j, (updN h3 j9 ((B ((126 + (4 * j9)) + 2)) + (lf % (eachS B j9)))) j < 1048576 from by assumption)⟩ _ _ _ (lv_sub hl [0, 2, 1, 5, 6, 7, 8, 9] rfl) hP hD hS
        · refine lv_bipush (v := nI 24) hx hb dX9_plans_137 (by decide +kernel) ?_
          refine lv_goto (tgt := 150) hx hb dX9_plans_139 (by decide) ?_
          have hvv : 24 = hourC B lf j9 := by unfold hourC; first | rw [if_pos (by omega)] | rw [if_neg (by omega)]
          have hv100 : 24 < 100 := by rw [hvv]; exact hourC_lt hWB (by omega) _
          refine nv_iast (i := j9) hx hb hKK.1 hP hD hS 2 0 rfl rfl (by omega) (by decide) dX9_plans_150 [(b 0, .inr (7, [.ref (b 1), .ref (b 2), .ref (b 3), .ref (b 4), .ref (b 5), .int (nI qu), .long ab, .long bl, .ref (b 6), .int (nI tyd), .int (nI at0), .int (nI sta), .int (nI tok), .int (nI val), .ref (b 7), .int (nI man), .ref (b 8), .ref (b 9), .ref (b 10), .ref (b 11), .ref (b 12), .ref (b 13), .ref (b 14)])), (b 1, .inl (tA 0, 212, .inl (nF B))), (b 11, .inl (tA 0, 5, .inl (nF (updN h3 j9 24)))), (b 12, .inl (tA 0, 5, .inl (nF b2)))] rfl (fun H locs hP hD hS => ?_)
          have B_24 := updN_lt hbh3 j9 (show 24 < 1048576 from by omega)
          refine lv_iload hx hb dX9_plans_151 (lv_at hl 3 rfl) ?_
          refine lv_aload_n hx hb dX9_plans_153 rfl (lv_at hl 9 rfl) ?_
          refine va_get (D := G) (ci := 7) (C := RX9) (T := TX9) (N := 23) hx hb hts iX9 hown hKK.1 hP 0 rfl rfl 19 (by decide) f41 (fun _ h9 => h9) rfl dX9_plans_154 ?_
          refine lv_iload hx hb dX9_plans_157 (lv_at hl 2 rfl) ?_
          refine nv_iald (i := j9) hx hb hKK.1 hP 2 0 rfl rfl (by omega) (by decide) dX9_plans_159 ?_
          have b_25 := B_24 j9
          refine nv_top (y := 24) (congrArg nI (updN_s _ _ _)) ?_
          refine lv_bipush (v := nI 24) hx hb dX9_plans_160 (by decide +kernel) ?_
          refine nv_icmp_ge (tgt := 169) (by omega) (by omega) hx hb dX9_plans_162 (by decide) (fun _ => ?_) (fun h => absurd h (by omega))
          refine lv_iconst (v := nI 0) hx hb dX9_plans_169 (by decide) ?_
          refine nv_iadd hx hb dX9_plans_170 ?_
          refine lv_istore (lv' := [(6, .int (nI (met + 0))), (9, .int (nI (eachS B j9))), (8, .int (nI (B ((126 + (4 * j9)) + 2)))), (7, .int (nI j9)), (5, .int (nI lf)), (4, .int (nI code)), (3, .int ((nI mo) + (-1))), (2, .int (nI (B 4))), (1, .int (nI x)), (0, .ref (b 0))]) hx hb dX9_plans_171 hl (by decide) rfl (fun ls hl => ?_)
          refine lv_iload hx hb dX9_plans_173 (lv_at hl 4 rfl) ?_
          refine lv_iload hx hb dX9_plans_175 (lv_at hl 1 rfl) ?_
          refine nv_idiv (by omega) (by omega) (by omega) hx hb dX9_plans_177 ?_
          refine lv_istore (lv' := [(5, .int (nI (lf / (eachS B j9)))), (6, .int (nI (met + 0))), (9, .int (nI (eachS B j9))), (8, .int (nI (B ((126 + (4 * j9)) + 2)))), (7, .int (nI j9)), (4, .int (nI code)), (3, .int ((nI mo) + (-1))), (2, .int (nI (B 4))), (1, .int (nI x)), (0, .ref (b 0))]) hx hb dX9_plans_178 hl (by decide) rfl (fun ls hl => ?_)
          refine lv_iinc (v := ((nI j9) + (-1))) (lv' := [(7, .int ((nI j9) + (-1))), (5, .int (nI (lf / (eachS B j9)))), (6, .int (nI (met + 0))), (9, .int (nI (eachS B j9))), (8, .int (nI (B ((126 + (4 * j9)) + 2)))), (4, .int (nI code)), (3, .int ((nI mo) + (-1))), (2, .int (nI (B 4))), (1, .int (nI x)), (0, .ref (b 0))]) hx hb dX9_plans_180 hl (k := 4) rfl rfl (by decide) rfl (fun ls hl => ?_)
          refine lv_goto (tgt := 77) hx hb dX9_plans_183 (by decide) ?_
          exact ih_6 (j9, lf / (eachS B j9), met + 0, updN h3 j9 24) (show j9 < (j9 + 1) from by omega) ⟨(show j9 ≤ B 4 from by omega), (show (lf / (eachS B j9)) = dL B (B 4) code (B 4 - j9) from by rw [show B 4 - j9 = (B 4 - (j9 + 1)) + 1 from (by omega), dL_s, ← hlf, hj8]), (show (met + 0) = dM B (B 4) code (B 4 - j9) from by rw [show B 4 - j9 = (B 4 - (j9 + 1)) + 1 from (by omega), dM_s, ← hmet, ← hlf, hj8]; first | rw [if_pos (by rw [← hvv]; omega)] | rw [if_neg (by rw [← hvv]; omega)]), (show (updN h3 j9 24) = dH B (B 4) code h2 (B 4 - j9) from by rw [show B 4 - j9 = (B 4 - (j9 + 1)) + 1 from (by omega), dH_s, ← hh3, ← hlf, hj8, ← hvv]), (show ∀ j, (updN h3 j9 24) j < 1048576 from by assumption)⟩ _ _ _ (lv_sub hl [0, 2, 1, 5, 6, 7, 8, 9] rfl) hP hD hS
  · have hvw := hv4 w (by omega)
    refine lv_iload_n hx hb dX9_plans_16 rfl (lv_at hl 2 rfl) ?_
    refine lv_aload_n hx hb dX9_plans_17 rfl (lv_at hl 3 rfl) ?_
    refine va_get (D := G) (ci := 7) (C := RX9) (T := TX9) (N := 23) hx hb hts iX9 hown hKK.1 hP 0 rfl rfl 0 (by decide) f7 (fun _ h9 => h9) rfl dX9_plans_18 ?_
    refine lv_bipush (v := nI 126) hx hb dX9_plans_21 (by decide +kernel) ?_
    refine lv_iconst (v := nI 4) hx hb dX9_plans_23 (by decide) ?_
    refine lv_iload_n hx hb dX9_plans_24 rfl (lv_at hl 0 rfl) ?_
    refine nv_imul hx hb dX9_plans_25 ?_
    refine nv_iadd hx hb dX9_plans_26 ?_
    refine lv_iconst (v := nI 3) hx hb dX9_plans_27 (by decide) ?_
    refine nv_iadd hx hb dX9_plans_28 ?_
    refine nv_iald (i := (126 + (4 * w)) + 3) hx hb hKK.1 hP 1 0 rfl rfl (by omega) (by decide) dX9_plans_29 ?_
    have b_27 := hbB ((126 + (4 * w)) + 3)
    refine lv_aload_n hx hb dX9_plans_30 rfl (lv_at hl 3 rfl) ?_
    refine va_get (D := G) (ci := 7) (C := RX9) (T := TX9) (N := 23) hx hb hts iX9 hown hKK.1 hP 0 rfl rfl 0 (by decide) f7 (fun _ h9 => h9) rfl dX9_plans_31 ?_
    refine lv_bipush (v := nI 126) hx hb dX9_plans_34 (by decide +kernel) ?_
    refine lv_iconst (v := nI 4) hx hb dX9_plans_36 (by decide) ?_
    refine lv_iload_n hx hb dX9_plans_37 rfl (lv_at hl 0 rfl) ?_
    refine nv_imul hx hb dX9_plans_38 ?_
    refine nv_iadd hx hb dX9_plans_39 ?_
    refine lv_iconst (v := nI 2) hx hb dX9_plans_40 (by decide) ?_
    refine nv_iadd hx hb dX9_plans_41 ?_
    refine nv_iald (i := (126 + (4 * w)) + 2) hx hb hKK.1 hP 1 0 rfl rfl (by omega) (by decide) dX9_plans_42 ?_
    have b_28 := hbB ((126 + (4 * w)) + 2)
    refine nv_isub (show B ((126 + (4 * w)) + 2) ≤ B ((126 + (4 * w)) + 3) from by omega) hx hb dX9_plans_43 ?_
    refine lv_iconst (v := nI 2) hx hb dX9_plans_44 (by decide) ?_
    refine nv_iadd hx hb dX9_plans_45 ?_
    refine nv_top (y := eachS B w) rfl ?_
    refine nv_imul hx hb dX9_plans_46 ?_
    refine lv_istore_n (lv' := [(1, .int (nI (x * (eachS B w)))), (3, .int (nI w)), (2, .int (nI (B 4))), (0, .ref (b 0))]) hx hb dX9_plans_47 rfl hl (by decide) rfl (fun ls hl => ?_)
    refine lv_iinc (v := (nI (w + 1))) (lv' := [(3, .int (nI (w + 1))), (1, .int (nI (x * (eachS B w)))), (2, .int (nI (B 4))), (0, .ref (b 0))]) hx hb dX9_plans_48 hl (k := 1) rfl (nI_add w 1) (by decide) rfl (fun ls hl => ?_)
    refine lv_goto (tgt := 11) hx hb dX9_plans_51 (by decide) ?_
    exact ih_2 (w + 1, x * (eachS B w)) (show B 4 - (w + 1) < B 4 - w from by omega) ⟨(show (w + 1) ≤ B 4 from by omega), (show (x * (eachS B w)) = waysS B (w + 1) from by rw [hx9]; rfl), (show (x * (eachS B w)) ≤ 16807 from by have := waysS_lt hWB (show w + 1 ≤ B 4 by omega); rw [hx9]; exact this)⟩ _ _ _ (lv_sub hl [0, 2, 1, 3] rfl) hP hD hS

set_option maxHeartbeats 4000000 in
set_option maxRecDepth 100000 in
theorem c_X9_plan (l : Launch) (G : va_G) (tA : Nat → ClassId) (b : Nat → Nat) (qu : Nat) (ab : Int64) (bl : Int64) (tyd : Nat) (at0 : Nat) (sta : Nat) (tok : Nat) (val : Nat) (man : Nat) (B : Nat → Nat) (hrs : Nat → Nat) (be : Nat → Nat) (rf : Nat → Int32) (we : Int32) (WE : Int) (hWB : WB B) (hqu : qu < 2) (hbh : ∀ j, hrs j < 1048576) (hbb : ∀ j, be j < 1048576) (hwe : we.toInt = WE) : CtI l yX9_plan wsX9_plan ({ frames := 3, cells := 0, slots := 0, locals := 77 }) G tA [.ref (b 0), .int we] ([(b 0, .inr (7, [.ref (b 1), .ref (b 2), .ref (b 3), .ref (b 4), .ref (b 5), .int (nI qu), .long ab, .long bl, .ref (b 6), .int (nI tyd), .int (nI at0), .int (nI sta), .int (nI tok), .int (nI val), .ref (b 7), .int (nI man), .ref (b 8), .ref (b 9), .ref (b 10), .ref (b 11), .ref (b 12), .ref (b 13), .ref (b 14)])), (b 1, .inl (tA 0, 212, .inl (nF B))), (b 11, .inl (tA 0, 5, .inl (nF hrs))), (b 12, .inl (tA 0, 5, .inl (nF be))), (b 5, .inl (tA 0, 3, .inl rf))]) (fun (r : Int32) (_ : Unit) => r = (if -1 ≤ WE ∧ WE < ((B 4 : Nat) : Int) then (if WE = -1 then (nI (plS B be hrs).1) + (-1) else nI ((plS B be hrs).2.1 WE.toNat)) else -10)) (fun (_ : Unit) => [(b 0, .inr (7, [.ref (b 1), .ref (b 2), .ref (b 3), .ref (b 4), .ref (b 5), .int (nI qu), .long ab, .long bl, .ref (b 6), .int (nI tyd), .int (nI at0), .int (nI sta), .int (nI tok), .int (nI val), .ref (b 7), .int (nI man), .ref (b 8), .ref (b 9), .ref (b 10), .ref (b 11), .ref (b 12), .ref (b 13), .ref (b 14)])), (b 1, .inl (tA 0, 212, .inl (nF B))), (b 11, .inl (tA 0, 5, .inl (nF (if -1 ≤ WE ∧ WE < ((B 4 : Nat) : Int) then (plS B be hrs).2.2 else hrs)))), (b 12, .inl (tA 0, 5, .inl (nF (if -1 ≤ WE ∧ WE < ((B 4 : Nat) : Int) then (plS B be hrs).2.1 else be)))), (b 5, .inl (tA 0, 3, .inl (if -1 ≤ WE ∧ WE < ((B 4 : Nat) : Int) then rf else bump qu rf 0)))]) 0 0 := by
  refine enterI (cc := cX9_plan) (maxL := 3) (ret := (some .int)) (by decide) rfl (Nat.le_of_ble_eq_true rfl) ?_
  intro p0 e0 s m args below meth c0_ A ls hx hb hml hr hts hown hlocks hin hKK hA hP hD hl hS
  have hown : s.vm.findClass RX9 = some m.cls := hown
  have hl : lv_has ls 3 [(0, .ref (b 0)), (1, .int we)] := hl
  have f200 := hts (Cond.constantLong RX9 200 (-1)) (List.mem_of_getElem? (i := 1) rfl)
  have f7 := hts (Cond.fieldLink RX9 7 "LentTermsModel" "book" "[I") (List.mem_of_getElem? (i := 2) rfl)
  have iX9 : ∀ w ∈ wsX90, w ∈ wsX9_plan := by decide +kernel
  have f44 := hts (Cond.fieldLink RX9 44 "LentTermsModel" "best" "[I") (List.mem_of_getElem? (i := 3) rfl)
  obtain ⟨⟨hn0, hn1, hn2, hn3, hn4, hn5⟩, hbB, hv0, hv1, hv2, hv3, hv4, hv5, hv6, hv7⟩ := id hWB
  have h256 := p256 hn0
  refine lv_iload_n hx hb dX9_plan_0 rfl (lv_at hl 1 rfl) ?_
  refine lv_i2l hx hb dX9_plan_1 rfl ?_
  refine lv_ldc2 (v := -1) hx hb hown f200 dX9_plan_2 ?_
  refine nv_topl (y := ((-1) : Int32).toInt64) (by decide +kernel) ?_
  refine lv_aload_n hx hb dX9_plan_5 rfl (lv_at hl 0 rfl) ?_
  refine va_get (D := G) (ci := 7) (C := RX9) (T := TX9) (N := 23) hx hb hts iX9 hown hKK.1 hP 0 rfl rfl 0 (by decide) f7 (fun _ h9 => h9) rfl dX9_plan_6 ?_
  refine lv_iconst (v := nI 4) hx hb dX9_plan_9 (by decide) ?_
  refine nv_iald (i := 4) hx hb hKK.1 hP 1 0 rfl rfl (by omega) (by decide) dX9_plan_10 ?_
  have b_1 := hbB 4
  refine lv_iconst (v := nI 1) hx hb dX9_plan_11 (by decide) ?_
  refine lv_isub hx hb dX9_plan_12 ?_
  refine lv_i2l hx hb dX9_plan_13 rfl ?_
  refine roI hP hD hS hA [] rfl (runS (As := [.long we.toInt64, .long (((-1) : Int32).toInt64), .long (((nI (B 4)) - (nI 1)).toInt64)]) (rest := []) (isC := []) ⟨hx, hb, hml, hown, hts⟩ hKK hP hD rfl (by decide) (c_X9_is l G tA we WE (-1) (-1 : Int) ((nI (B 4)) - (nI 1)) (((B 4 : Nat) : Int) - ((1 : Nat) : Int)) hwe rfl (pk_sub_toInt (by omega) (by omega)) _) (va_cwS 3 hts gX9_plan_X9_is rfl rfl rfl (by decide +kernel) ⟨Nat.le_of_ble_eq_true rfl, Nat.le_of_ble_eq_true rfl⟩) rfl rfl hl.1 rfl (lv_room (Nat.le_of_ble_eq_true rfl)) dX9_plan_14 ⟨Nat.le_of_ble_eq_true rfl, Nat.le_of_ble_eq_true rfl⟩) (fun _ => rfl) (fun r_2 u_3 H locs q_4 hP hS => ?_)
  rcases q_4 with ⟨rfl, p_5⟩ | ⟨rfl, p_5⟩
  · have p_5 : (-1 : Int) ≤ WE ∧ WE ≤ (((B 4 : Nat) : Int) - ((1 : Nat) : Int)) := p_5
    refine nv_if_ne (tgt := 28) (by omega) hx hb dX9_plan_17 (by decide) (fun _ => ?_) (fun h => absurd h (by omega))
    have hok : -1 ≤ WE ∧ WE < ((B 4 : Nat) : Int) := by omega
    refine lv_aload_n hx hb dX9_plan_28 rfl (lv_at hl 0 rfl) ?_
    refine rwI hP hD hS hA [0, 1, 2, 3] rfl (runV (As := []) (rest := []) (isC := [0, 1, 2, 3]) ⟨hx, hb, hml, hown, hts⟩ hKK hP hD rfl (by decide) (c_X9_plans l G tA b qu ab bl tyd at0 sta tok val man B hrs be (hWB) (hbh) (hbb) _) (cwV 0 hts gX9_plan_X9_plans rfl rfl rfl (by decide +kernel) ⟨Nat.le_of_ble_eq_true rfl, Nat.le_of_ble_eq_true rfl⟩) rfl rfl rfl rfl hl.1 rfl (lv_room (Nat.le_of_ble_eq_true rfl)) dX9_plan_29 ⟨Nat.le_of_ble_eq_true rfl, Nat.le_of_ble_eq_true rfl⟩) (fun (u : (Nat) × (Nat → Nat) × (Nat → Nat)) => [(b 0, .inr (7, [.ref (b 1), .ref (b 2), .ref (b 3), .ref (b 4), .ref (b 5), .int (nI qu), .long ab, .long bl, .ref (b 6), .int (nI tyd), .int (nI at0), .int (nI sta), .int (nI tok), .int (nI val), .ref (b 7), .int (nI man), .ref (b 8), .ref (b 9), .ref (b 10), .ref (b 11), .ref (b 12), .ref (b 13), .ref (b 14)])), (b 1, .inl (tA 0, 212, .inl (nF B))), (b 11, .inl (tA 0, 5, .inl (nF (u.2.2)))), (b 12, .inl (tA 0, 5, .inl (nF (u.2.1)))), (b 5, .inl (tA 0, 3, .inl rf))]) (fun _ => rfl) (fun _ => rfl) (fun _ => rfl) (fun r_7 u_8 H locs q_9 hP hD hS => ?_)
    obtain ⟨q9_10, b9_11, h9_12⟩ := u_8
    have hP : va_P G vwCl [(b 0, .inr (7, [.ref (b 1), .ref (b 2), .ref (b 3), .ref (b 4), .ref (b 5), .int (nI qu), .long ab, .long bl, .ref (b 6), .int (nI tyd), .int (nI at0), .int (nI sta), .int (nI tok), .int (nI val), .ref (b 7), .int (nI man), .ref (b 8), .ref (b 9), .ref (b 10), .ref (b 11), .ref (b 12), .ref (b 13), .ref (b 14)])), (b 1, .inl (tA 0, 212, .inl (nF B))), (b 11, .inl (tA 0, 5, .inl (nF h9_12))), (b 12, .inl (tA 0, 5, .inl (nF b9_11))), (b 5, .inl (tA 0, 3, .inl rf))] H := hP
    have hD : va_D A [(b 0, .inr (7, [.ref (b 1), .ref (b 2), .ref (b 3), .ref (b 4), .ref (b 5), .int (nI qu), .long ab, .long bl, .ref (b 6), .int (nI tyd), .int (nI at0), .int (nI sta), .int (nI tok), .int (nI val), .ref (b 7), .int (nI man), .ref (b 8), .ref (b 9), .ref (b 10), .ref (b 11), .ref (b 12), .ref (b 13), .ref (b 14)])), (b 1, .inl (tA 0, 212, .inl (nF B))), (b 11, .inl (tA 0, 5, .inl (nF h9_12))), (b 12, .inl (tA 0, 5, .inl (nF b9_11))), (b 5, .inl (tA 0, 3, .inl rf))] := hD
    obtain ⟨rfl, hpl9, e_13, e_14, e_15⟩ := q_9
    have hpl9 : (q9_10, b9_11, h9_12) = plS B be hrs := hpl9
    have e_13 : q9_10 ≤ 6 := e_13
    have e_14 : ∀ j, b9_11 j < 1048576 := e_14
    have e_15 : ∀ j, h9_12 j < 1048576 := e_15
    have hq9 := hpl9
    refine lv_istore_n (lv' := [(2, .int ((nI q9_10) + (-1))), (0, .ref (b 0)), (1, .int we)]) hx hb dX9_plan_32 rfl hl (by decide) rfl (fun ls hl => ?_)
    refine lv_iload_n hx hb dX9_plan_33 rfl (lv_at hl 2 rfl) ?_
    refine lv_iconst (v := (-1)) hx hb dX9_plan_34 (by decide) ?_
    refine zv_icmp_ne (tgt := 42) (X := WE) (Y := (-1 : Int)) hwe rfl hx hb dX9_plan_35 (by decide) (fun c_16 => ?_) (fun c_16 => ?_)
    · have hok : 0 ≤ WE := by omega
      obtain ⟨wen, h_wen, rfl⟩ := toN (x := we) (by omega)
      have t_wen : (nI wen).toInt = (wen : Int) := nI_toInt h_wen
      have z_wen : WE.toNat = wen := by omega
      refine lv_aload_n hx hb dX9_plan_42 rfl (lv_at hl 1 rfl) ?_
      refine va_get (D := G) (ci := 7) (C := RX9) (T := TX9) (N := 23) hx hb hts iX9 hown hKK.1 hP 0 rfl rfl 20 (by decide) f44 (fun _ h9 => h9) rfl dX9_plan_43 ?_
      refine lv_iload_n hx hb dX9_plan_46 rfl (lv_at hl 2 rfl) ?_
      refine nv_iald (i := wen) hx hb hKK.1 hP 3 0 rfl rfl (by omega) (by decide) dX9_plan_47 ?_
      exact retI hx hb hr hlocks hS hP hD () (by simp only [if_pos (show -1 ≤ WE ∧ WE < ((B 4 : Nat) : Int) from by omega), ← hpl9]) (by rw [if_pos (by omega), ← hpl9]; first | rw [if_pos (by omega)] | rw [if_neg (by omega), z_wen]) dX9_plan_48
    · refine lv_iload_n hx hb dX9_plan_38 rfl (lv_at hl 0 rfl) ?_
      refine lv_goto (tgt := 48) hx hb dX9_plan_39 (by decide) ?_
      exact retI hx hb hr hlocks hS hP hD () (by simp only [if_pos (show -1 ≤ WE ∧ WE < ((B 4 : Nat) : Int) from by omega), ← hpl9]) (by rw [if_pos (by omega), ← hpl9]; first | rw [if_pos (by omega)] | rw [if_neg (by omega), z_wen]) dX9_plan_48
  · have p_5 : ¬ ((-1 : Int) ≤ WE ∧ WE ≤ (((B 4 : Nat) : Int) - ((1 : Nat) : Int))) := p_5
    refine nv_if_ne (tgt := 28) (by omega) hx hb dX9_plan_17 (by decide) (fun h => absurd h (by omega)) (fun _ => ?_)
    refine lv_aload_n hx hb dX9_plan_20 rfl (lv_at hl 0 rfl) ?_
    refine lv_iconst (v := nI 0) hx hb dX9_plan_21 (by decide) ?_
    refine lv_bipush (v := (-10)) hx hb dX9_plan_22 (by decide +kernel) ?_
    refine rwI hP hD hS hA [0, 4] rfl (runV (As := [.int (nI 0), .int (-10)]) (rest := []) (isC := [0, 4]) ⟨hx, hb, hml, hown, hts⟩ hKK hP hD rfl (by decide) (c_X9_refuses l G tA b qu ab bl tyd at0 sta tok val man rf 0 (-10) (by first | assumption | omega) (hqu) _) (cwV 2 hts gX9_plan_X9_refuses rfl rfl rfl (by decide +kernel) ⟨Nat.le_of_ble_eq_true rfl, Nat.le_of_ble_eq_true rfl⟩) rfl rfl rfl rfl hl.1 rfl (lv_room (Nat.le_of_ble_eq_true rfl)) dX9_plan_24 ⟨Nat.le_of_ble_eq_true rfl, Nat.le_of_ble_eq_true rfl⟩) (fun (_ : Unit) => [(b 0, .inr (7, [.ref (b 1), .ref (b 2), .ref (b 3), .ref (b 4), .ref (b 5), .int (nI qu), .long ab, .long bl, .ref (b 6), .int (nI tyd), .int (nI at0), .int (nI sta), .int (nI tok), .int (nI val), .ref (b 7), .int (nI man), .ref (b 8), .ref (b 9), .ref (b 10), .ref (b 11), .ref (b 12), .ref (b 13), .ref (b 14)])), (b 1, .inl (tA 0, 212, .inl (nF B))), (b 11, .inl (tA 0, 5, .inl (nF hrs))), (b 12, .inl (tA 0, 5, .inl (nF be))), (b 5, .inl (tA 0, 3, .inl (bump qu rf 0)))]) (fun _ => rfl) (fun _ => rfl) (fun _ => rfl) (fun r_18 u_19 H locs q_20 hP hD hS => ?_)
    subst q_20
    exact retI hx hb hr hlocks hS hP hD () (by simp only [if_neg (show ¬ (-1 ≤ WE ∧ WE < ((B 4 : Nat) : Int)) from by omega)]) (by rw [if_neg (by omega)]) dX9_plan_27
