/-! the model: plans and deals -/
def allB (P : Nat → Prop) (n : Nat) : Prop := ∀ k, k < n → P k
theorem allB_0 (P : Nat → Prop) : allB P 0 := fun k h => by omega
theorem allB_s {P : Nat → Prop} {n : Nat} : allB P (n + 1) ↔ allB P n ∧ P n := ⟨fun h => ⟨fun k hk => h k (by omega), h n (by omega)⟩, fun h k hk => by rcases Nat.lt_succ_iff_lt_or_eq.mp hk with q | q; exact h.1 k q; rw [q]; exact h.2⟩
def flg (f : Nat) (A : Prop) : Prop := (f = 1 ∧ A) ∨ (f = 0 ∧ ¬ A)
theorem flg_iff {f : Nat} {A A2 : Prop} (h : flg f A) (e : A ↔ A2) : flg f A2 := by rw [← propext e]; exact h
theorem flg_1 {f : Nat} {A : Prop} (h : flg f A) (hf : ¬ f = 0) : A := by rcases h with z | z; exact z.2; exact absurd z.1 hf
theorem flg_0 {f : Nat} {A : Prop} (h : flg f A) (hf : f = 0) : ¬ A := by rcases h with z | z; omega; exact z.2
theorem flg_lt {f : Nat} {A : Prop} (h : flg f A) : f < 2 := by rcases h with z | z <;> omega
theorem flg_p1 {f n : Nat} {A : Prop} {P : Nat → Prop} (h : flg f (A ∧ allB P n)) (hf : ¬ f = 0) (hp : P n) : flg 1 (A ∧ allB P (n + 1)) := Or.inl ⟨rfl, (flg_1 h hf).1, allB_s.mpr ⟨(flg_1 h hf).2, hp⟩⟩
theorem flg_p0 {n : Nat} {A : Prop} {P : Nat → Prop} (hp : ¬ P n) : flg 0 (A ∧ allB P (n + 1)) := Or.inr ⟨rfl, fun z => hp (allB_s.mp z.2).2⟩
theorem flg_pf {f n : Nat} {A : Prop} {P : Nat → Prop} (h : flg f (A ∧ allB P n)) (hf : f = 0) : flg 0 (A ∧ allB P (n + 1)) := Or.inr ⟨rfl, fun z => flg_0 h hf ⟨z.1, (allB_s.mp z.2).1⟩⟩
theorem flg_q1 {f n : Nat} {A R : Prop} {Q : Nat → Prop} (h : flg f ((A ∧ allB Q n) ∧ R)) (hf : ¬ f = 0) (hq : R → Q n) : flg 1 (A ∧ allB Q (n + 1)) := Or.inl ⟨rfl, (flg_1 h hf).1.1, allB_s.mpr ⟨(flg_1 h hf).1.2, hq (flg_1 h hf).2⟩⟩
theorem flg_q0 {n : Nat} {A : Prop} {Q : Nat → Prop} (hq : ¬ Q n) : flg 0 (A ∧ allB Q (n + 1)) := Or.inr ⟨rfl, fun z => hq (allB_s.mp z.2).2⟩
theorem flg_qf {f n : Nat} {A R : Prop} {Q : Nat → Prop} (h : flg f ((A ∧ allB Q n) ∧ R)) (hf : f = 0) (hq : Q n → R) : flg 0 (A ∧ allB Q (n + 1)) := Or.inr ⟨rfl, fun z => flg_0 h hf ⟨⟨z.1, (allB_s.mp z.2).1⟩, hq (allB_s.mp z.2).2⟩⟩
def bothM (h : Nat → Nat) (v w : Nat) : Prop := h v = h w ∧ h w < 24
def meetM (B h : Nat → Nat) (w v : Nat) : Prop := ¬ (bothM h v w ∧ ¬ v = w ∧ B (126 + 4 * v) = B (126 + 4 * w))
noncomputable def cntW (B h : Nat → Nat) (w t n : Nat) : Nat := it (fun v a => a + if pB (bothM h v w ∧ B (126 + 4 * v + 1) / 2 ^ t % 2 = 1) = true then 1 else 0) n 0
theorem cntW_0 (B h : Nat → Nat) (w t : Nat) : cntW B h w t 0 = 0 := rfl
theorem cntW_s (B h : Nat → Nat) (w t n : Nat) : cntW B h w t (n + 1) = cntW B h w t n + if pB (bothM h n w ∧ B (126 + 4 * n + 1) / 2 ^ t % 2 = 1) = true then 1 else 0 := rfl
def okWT (B h : Nat → Nat) (w t : Nat) : Prop := allB (meetM B h w) (B 4) ∧ cntW B h w t (B 4) ≤ mayM B t
def canP (B h : Nat → Nat) : Prop := allB (fun w => allB (okWT B h w) (B 0)) (B 4)

set_option maxHeartbeats 4000000 in
set_option maxRecDepth 100000 in
theorem c_X9_canBe (l : Launch) (G : va_G) (tA : Nat → ClassId) (b : Nat → Nat) (qu : Nat) (ab : Int64) (bl : Int64) (tyd : Nat) (at0 : Nat) (sta : Nat) (tok : Nat) (val : Nat) (man : Nat) (B : Nat → Nat) (hrs : Nat → Nat) (hWB : WB B) (hbh : ∀ j, hrs j < 1048576) : CtI l yX9_canBe wsX9_canBe ({ frames := 1, cells := 0, slots := 0, locals := 22 }) G tA [.ref (b 0)] ([(b 0, .inr (7, [.ref (b 1), .ref (b 2), .ref (b 3), .ref (b 4), .ref (b 5), .int (nI qu), .long ab, .long bl, .ref (b 6), .int (nI tyd), .int (nI at0), .int (nI sta), .int (nI tok), .int (nI val), .ref (b 7), .int (nI man), .ref (b 8), .ref (b 9), .ref (b 10), .ref (b 11), .ref (b 12), .ref (b 13), .ref (b 14)])), (b 1, .inl (tA 0, 212, .inl (nF B))), (b 11, .inl (tA 0, 5, .inl (nF hrs)))]) (fun (r : Int32) (_ : Unit) => ((r = nI 1 ∧ (canP B hrs)) ∨ (r = nI 0 ∧ ¬ (canP B hrs)))) (fun (_ : Unit) => [(b 0, .inr (7, [.ref (b 1), .ref (b 2), .ref (b 3), .ref (b 4), .ref (b 5), .int (nI qu), .long ab, .long bl, .ref (b 6), .int (nI tyd), .int (nI at0), .int (nI sta), .int (nI tok), .int (nI val), .ref (b 7), .int (nI man), .ref (b 8), .ref (b 9), .ref (b 10), .ref (b 11), .ref (b 12), .ref (b 13), .ref (b 14)])), (b 1, .inl (tA 0, 212, .inl (nF B))), (b 11, .inl (tA 0, 5, .inl (nF hrs)))]) 0 0 := by
  refine enterI (cc := cX9_canBe) (maxL := 7) (ret := (some .boolean)) (by decide) rfl (Nat.le_of_ble_eq_true rfl) ?_
  intro p0 e0 s m args below meth c0_ A ls hx hb hml hr hts hown hlocks hin hKK hA hP hD hl hS
  have hown : s.vm.findClass RX9 = some m.cls := hown
  have hl : lv_has ls 7 [(0, .ref (b 0))] := hl
  have f7 := hts (Cond.fieldLink RX9 7 "LentTermsModel" "book" "[I") (List.mem_of_getElem? (i := 1) rfl)
  have iX9 : ∀ w ∈ wsX90, w ∈ wsX9_canBe := by decide +kernel
  have f41 := hts (Cond.fieldLink RX9 41 "LentTermsModel" "hours" "[I") (List.mem_of_getElem? (i := 2) rfl)
  obtain ⟨⟨hn0, hn1, hn2, hn3, hn4, hn5⟩, hbB, hv0, hv1, hv2, hv3, hv4, hv5, hv6, hv7⟩ := id hWB
  have h256 := p256 hn0
  refine lv_iconst (v := nI 1) hx hb dX9_canBe_0 (by decide) ?_
  refine lv_istore_n (lv' := [(1, .int (nI 1)), (0, .ref (b 0))]) hx hb dX9_canBe_1 rfl hl (by decide) rfl (fun ls hl => ?_)
  refine lv_iconst (v := nI 0) hx hb dX9_canBe_2 (by decide) ?_
  refine lv_istore_n (lv' := [(2, .int (nI 0)), (1, .int (nI 1)), (0, .ref (b 0))]) hx hb dX9_canBe_3 rfl hl (by decide) rfl (fun ls hl => ?_)
  refine wloop (σ := (Nat) × (Nat)) (fun | (w, cv) => B 4 - w) (fun | (w, cv) => (w ≤ B 4) ∧ (flg cv (allB (fun z9 => allB (okWT B hrs z9) (B 0)) w)) ∧ (cv < 2)) (fun | (w, cv) => [(2, .int (nI w)), (1, .int (nI cv)), (0, .ref (b 0))]) (fun | (w, cv) => [(b 0, .inr (7, [.ref (b 1), .ref (b 2), .ref (b 3), .ref (b 4), .ref (b 5), .int (nI qu), .long ab, .long bl, .ref (b 6), .int (nI tyd), .int (nI at0), .int (nI sta), .int (nI tok), .int (nI val), .ref (b 7), .int (nI man), .ref (b 8), .ref (b 9), .ref (b 10), .ref (b 11), .ref (b 12), .ref (b 13), .ref (b 14)])), (b 1, .inl (tA 0, 212, .inl (nF B))), (b 11, .inl (tA 0, 5, .inl (nF hrs)))]) (0, 1) ⟨(show 0 ≤ B 4 from by omega), (show flg 1 (allB (fun z9 => allB (okWT B hrs z9) (B 0)) 0) from Or.inl ⟨rfl, allB_0 _⟩), (show 1 < 2 from by omega)⟩ (lv_sub hl [0, 1, 2] rfl) hP hD hS ?_
  rintro ⟨w, cv⟩ ⟨hw, hcv, hcv2⟩ ih_1 ls H locs hl hP hD hS
  have hl : lv_has ls 7 [(2, .int (nI w)), (1, .int (nI cv)), (0, .ref (b 0))] := hl
  have hP : va_P G vwCl [(b 0, .inr (7, [.ref (b 1), .ref (b 2), .ref (b 3), .ref (b 4), .ref (b 5), .int (nI qu), .long ab, .long bl, .ref (b 6), .int (nI tyd), .int (nI at0), .int (nI sta), .int (nI tok), .int (nI val), .ref (b 7), .int (nI man), .ref (b 8), .ref (b 9), .ref (b 10), .ref (b 11), .ref (b 12), .ref (b 13), .ref (b 14)])), (b 1, .inl (tA 0, 212, .inl (nF B))), (b 11, .inl (tA 0, 5, .inl (nF hrs)))] H := hP
  have hD : va_D A [(b 0, .inr (7, [.ref (b 1), .ref (b 2), .ref (b 3), .ref (b 4), .ref (b 5), .int (nI qu), .long ab, .long bl, .ref (b 6), .int (nI tyd), .int (nI at0), .int (nI sta), .int (nI tok), .int (nI val), .ref (b 7), .int (nI man), .ref (b 8), .ref (b 9), .ref (b 10), .ref (b 11), .ref (b 12), .ref (b 13), .ref (b 14)])), (b 1, .inl (tA 0, 212, .inl (nF B))), (b 11, .inl (tA 0, 5, .inl (nF hrs)))] := hD
  have hw : w ≤ B 4 := hw
  have hcv : flg cv (allB (fun z9 => allB (okWT B hrs z9) (B 0)) w) := hcv
  have hcv2 : cv < 2 := hcv2
  refine lv_iload_n hx hb dX9_canBe_4 rfl (lv_at hl 0 rfl) ?_
  refine lv_aload_n hx hb dX9_canBe_5 rfl (lv_at hl 2 rfl) ?_
  refine va_get (D := G) (ci := 7) (C := RX9) (T := TX9) (N := 23) hx hb hts iX9 hown hKK.1 hP 0 rfl rfl 0 (by decide) f7 (fun _ h9 => h9) rfl dX9_canBe_6 ?_
  refine lv_iconst (v := nI 4) hx hb dX9_canBe_9 (by decide) ?_
  refine nv_iald (i := 4) hx hb hKK.1 hP 1 0 rfl rfl (by omega) (by decide) dX9_canBe_10 ?_
  have b_2 := hbB 4
  refine nv_icmp_ge (tgt := 199) (by omega) (by omega) hx hb dX9_canBe_11 (by decide) (fun c_3 => ?_) (fun c_3 => ?_)
  · refine lv_iload_n hx hb dX9_canBe_199 rfl (lv_at hl 1 rfl) ?_
    rcases (show cv = 1 ∨ cv = 0 by omega) with rfl | rfl
    · exact retZ (ty := .boolean) hx hb hr rfl hlocks hS hP hD () (rfl) (Or.inl ⟨rfl, by rw [show w = B 4 from by omega] at hcv; first | exact flg_1 hcv (by omega) | exact flg_0 hcv (by omega)⟩) dX9_canBe_200
    · exact retZ (ty := .boolean) hx hb hr rfl hlocks hS hP hD () (rfl) (Or.inr ⟨rfl, by rw [show w = B 4 from by omega] at hcv; first | exact flg_1 hcv (by omega) | exact flg_0 hcv (by omega)⟩) dX9_canBe_200
  · refine lv_iconst (v := nI 0) hx hb dX9_canBe_14 (by decide) ?_
    refine lv_istore_n (lv' := [(3, .int (nI 0)), (2, .int (nI w)), (1, .int (nI cv)), (0, .ref (b 0))]) hx hb dX9_canBe_15 rfl hl (by decide) rfl (fun ls hl => ?_)
    refine wloop (σ := (Nat) × (Nat)) (fun | (t, cu) => B 0 - t) (fun | (t, cu) => (t ≤ B 0) ∧ (flg cu (allB (fun z9 => allB (okWT B hrs z9) (B 0)) w ∧ allB (okWT B hrs w) t)) ∧ (cu < 2)) (fun | (t, cu) => [(3, .int (nI t)), (2, .int (nI w)), (1, .int (nI cu)), (0, .ref (b 0))]) (fun | (t, cu) => [(b 0, .inr (7, [.ref (b 1), .ref (b 2), .ref (b 3), .ref (b 4), .ref (b 5), .int (nI qu), .long ab, .long bl, .ref (b 6), .int (nI tyd), .int (nI at0), .int (nI sta), .int (nI tok), .int (nI val), .ref (b 7), .int (nI man), .ref (b 8), .ref (b 9), .ref (b 10), .ref (b 11), .ref (b 12), .ref (b 13), .ref (b 14)])), (b 1, .inl (tA 0, 212, .inl (nF B))), (b 11, .inl (tA 0, 5, .inl (nF hrs)))]) (0, cv) ⟨(show 0 ≤ B 0 from by omega), (show flg cv (allB (fun z9 => allB (okWT B hrs z9) (B 0)) w ∧ allB (okWT B hrs w) 0) from flg_iff hcv ⟨fun z => ⟨z, allB_0 _⟩, fun z => z.1⟩), (show cv < 2 from by omega)⟩ (lv_sub hl [0, 1, 2, 3] rfl) hP hD hS ?_
    rintro ⟨t, cu⟩ ⟨ht, hcu, hcu2⟩ ih_4 ls H locs hl hP hD hS
    have hl : lv_has ls 7 [(3, .int (nI t)), (2, .int (nI w)), (1, .int (nI cu)), (0, .ref (b 0))] := hl
    have hP : va_P G vwCl [(b 0, .inr (7, [.ref (b 1), .ref (b 2), .ref (b 3), .ref (b 4), .ref (b 5), .int (nI qu), .long ab, .long bl, .ref (b 6), .int (nI tyd), .int (nI at0), .int (nI sta), .int (nI tok), .int (nI val), .ref (b 7), .int (nI man), .ref (b 8), .ref (b 9), .ref (b 10), .ref (b 11), .ref (b 12), .ref (b 13), .ref (b 14)])), (b 1, .inl (tA 0, 212, .inl (nF B))), (b 11, .inl (tA 0, 5, .inl (nF hrs)))] H := hP
    have hD : va_D A [(b 0, .inr (7, [.ref (b 1), .ref (b 2), .ref (b 3), .ref (b 4), .ref (b 5), .int (nI qu), .long ab, .long bl, .ref (b 6), .int (nI tyd), .int (nI at0), .int (nI sta), .int (nI tok), .int (nI val), .ref (b 7), .int (nI man), .ref (b 8), .ref (b 9), .ref (b 10), .ref (b 11), .ref (b 12), .ref (b 13), .ref (b 14)])), (b 1, .inl (tA 0, 212, .inl (nF B))), (b 11, .inl (tA 0, 5, .inl (nF hrs)))] := hD
    have ht : t ≤ B 0 := ht
    have hcu : flg cu (allB (fun z9 => allB (okWT B hrs z9) (B 0)) w ∧ allB (okWT B hrs w) t) := hcu
    have hcu2 : cu < 2 := hcu2
    refine lv_iload_n hx hb dX9_canBe_16 rfl (lv_at hl 0 rfl) ?_
    refine lv_aload_n hx hb dX9_canBe_17 rfl (lv_at hl 3 rfl) ?_
    refine va_get (D := G) (ci := 7) (C := RX9) (T := TX9) (N := 23) hx hb hts iX9 hown hKK.1 hP 0 rfl rfl 0 (by decide) f7 (fun _ h9 => h9) rfl dX9_canBe_18 ?_
    refine lv_iconst (v := nI 0) hx hb dX9_canBe_21 (by decide) ?_
    refine nv_iald (i := 0) hx hb hKK.1 hP 1 0 rfl rfl (by omega) (by decide) dX9_canBe_22 ?_
    have b_5 := hbB 0
    refine nv_icmp_ge (tgt := 193) (by omega) (by omega) hx hb dX9_canBe_23 (by decide) (fun c_6 => ?_) (fun c_6 => ?_)
    · refine lv_iinc (v := (nI (w + 1))) (lv' := [(2, .int (nI (w + 1))), (3, .int (nI t)), (1, .int (nI cu)), (0, .ref (b 0))]) hx hb dX9_canBe_193 hl (k := 1) rfl (nI_add w 1) (by decide) rfl (fun ls hl => ?_)
      refine lv_goto (tgt := 4) hx hb dX9_canBe_196 (by decide) ?_
      exact ih_1 (w + 1, cu) (show B 4 - (w + 1) < B 4 - w from by omega) ⟨(show (w + 1) ≤ B 4 from by omega), (show flg cu (allB (fun z9 => allB (okWT B hrs z9) (B 0)) (w + 1)) from flg_iff hcu (by rw [show t = B 0 from by omega]; exact allB_s.symm)), (show cu < 2 from by omega)⟩ _ _ _ (lv_sub hl [0, 2, 3] rfl) hP hD hS
    · refine lv_iconst (v := nI 0) hx hb dX9_canBe_26 (by decide) ?_
      refine lv_istore (lv' := [(4, .int (nI 0)), (3, .int (nI t)), (2, .int (nI w)), (1, .int (nI cu)), (0, .ref (b 0))]) hx hb dX9_canBe_27 hl (by decide) rfl (fun ls hl => ?_)
      refine lv_iconst (v := nI 0) hx hb dX9_canBe_29 (by decide) ?_
      refine lv_istore (lv' := [(5, .int (nI 0)), (4, .int (nI 0)), (3, .int (nI t)), (2, .int (nI w)), (1, .int (nI cu)), (0, .ref (b 0))]) hx hb dX9_canBe_30 hl (by decide) rfl (fun ls hl => ?_)
      refine wloop (σ := (Nat) × (Nat) × (Nat)) (fun | (v, cx, n9) => B 4 - v) (fun | (v, cx, n9) => (v ≤ B 4) ∧ (flg cx ((allB (fun z9 => allB (okWT B hrs z9) (B 0)) w ∧ allB (okWT B hrs w) t) ∧ allB (meetM B hrs w) v)) ∧ (cx < 2) ∧ (n9 = cntW B hrs w t v) ∧ (n9 ≤ v)) (fun | (v, cx, n9) => [(5, .int (nI v)), (4, .int (nI n9)), (3, .int (nI t)), (2, .int (nI w)), (1, .int (nI cx)), (0, .ref (b 0))]) (fun | (v, cx, n9) => [(b 0, .inr (7, [.ref (b 1), .ref (b 2), .ref (b 3), .ref (b 4), .ref (b 5), .int (nI qu), .long ab, .long bl, .ref (b 6), .int (nI tyd), .int (nI at0), .int (nI sta), .int (nI tok), .int (nI val), .ref (b 7), .int (nI man), .ref (b 8), .ref (b 9), .ref (b 10), .ref (b 11), .ref (b 12), .ref (b 13), .ref (b 14)])), (b 1, .inl (tA 0, 212, .inl (nF B))), (b 11, .inl (tA 0, 5, .inl (nF hrs)))]) (0, cu, 0) ⟨(show 0 ≤ B 4 from by omega), (show flg cu ((allB (fun z9 => allB (okWT B hrs z9) (B 0)) w ∧ allB (okWT B hrs w) t) ∧ allB (meetM B hrs w) 0) from flg_iff hcu ⟨fun z => ⟨z, allB_0 _⟩, fun z => z.1⟩), (show cu < 2 from by omega), (show 0 = cntW B hrs w t 0 from rfl), (show 0 ≤ 0 from by omega)⟩ (lv_sub hl [0, 1, 2, 3, 4, 5] rfl) hP hD hS ?_
      rintro ⟨v, cx, n9⟩ ⟨hv, hcx, hcx2, hn9, hn8⟩ ih_7 ls H locs hl hP hD hS
      have hl : lv_has ls 7 [(5, .int (nI v)), (4, .int (nI n9)), (3, .int (nI t)), (2, .int (nI w)), (1, .int (nI cx)), (0, .ref (b 0))] := hl
      have hP : va_P G vwCl [(b 0, .inr (7, [.ref (b 1), .ref (b 2), .ref (b 3), .ref (b 4), .ref (b 5), .int (nI qu), .long ab, .long bl, .ref (b 6), .int (nI tyd), .int (nI at0), .int (nI sta), .int (nI tok), .int (nI val), .ref (b 7), .int (nI man), .ref (b 8), .ref (b 9), .ref (b 10), .ref (b 11), .ref (b 12), .ref (b 13), .ref (b 14)])), (b 1, .inl (tA 0, 212, .inl (nF B))), (b 11, .inl (tA 0, 5, .inl (nF hrs)))] H := hP
      have hD : va_D A [(b 0, .inr (7, [.ref (b 1), .ref (b 2), .ref (b 3), .ref (b 4), .ref (b 5), .int (nI qu), .long ab, .long bl, .ref (b 6), .int (nI tyd), .int (nI at0), .int (nI sta), .int (nI tok), .int (nI val), .ref (b 7), .int (nI man), .ref (b 8), .ref (b 9), .ref (b 10), .ref (b 11), .ref (b 12), .ref (b 13), .ref (b 14)])), (b 1, .inl (tA 0, 212, .inl (nF B))), (b 11, .inl (tA 0, 5, .inl (nF hrs)))] := hD
      have hv : v ≤ B 4 := hv
      have hcx : flg cx ((allB (fun z9 => allB (okWT B hrs z9) (B 0)) w ∧ allB (okWT B hrs w) t) ∧ allB (meetM B hrs w) v) := hcx
      have hcx2 : cx < 2 := hcx2
      have hn9 : n9 = cntW B hrs w t v := hn9
      have hn8 : n9 ≤ v := hn8
      refine lv_iload hx hb dX9_canBe_32 (lv_at hl 0 rfl) ?_
      refine lv_aload_n hx hb dX9_canBe_34 rfl (lv_at hl 5 rfl) ?_
      refine va_get (D := G) (ci := 7) (C := RX9) (T := TX9) (N := 23) hx hb hts iX9 hown hKK.1 hP 0 rfl rfl 0 (by decide) f7 (fun _ h9 => h9) rfl dX9_canBe_35 ?_
      refine lv_iconst (v := nI 4) hx hb dX9_canBe_38 (by decide) ?_
      refine nv_iald (i := 4) hx hb hKK.1 hP 1 0 rfl rfl (by omega) (by decide) dX9_canBe_39 ?_
      have b_8 := hbB 4
      refine nv_icmp_ge (tgt := 167) (by omega) (by omega) hx hb dX9_canBe_40 (by decide) (fun c_9 => ?_) (fun c_9 => ?_)
      · refine lv_iload_n hx hb dX9_canBe_167 rfl (lv_at hl 4 rfl) ?_
        refine nv_if_eq (tgt := 185) (by omega) hx hb dX9_canBe_168 (by decide) (fun c_10 => ?_) (fun c_10 => ?_)
        · refine lv_iconst (v := nI 0) hx hb dX9_canBe_185 (by decide) ?_
          refine lv_istore_n (lv' := [(1, .int (nI 0)), (5, .int (nI v)), (4, .int (nI n9)), (3, .int (nI t)), (2, .int (nI w)), (0, .ref (b 0))]) hx hb dX9_canBe_186 rfl hl (by decide) rfl (fun ls hl => ?_)
          refine lv_iinc (v := (nI (t + 1))) (lv' := [(3, .int (nI (t + 1))), (1, .int (nI 0)), (5, .int (nI v)), (4, .int (nI n9)), (2, .int (nI w)), (0, .ref (b 0))]) hx hb dX9_canBe_187 hl (k := 3) rfl (nI_add t 1) (by decide) rfl (fun ls hl => ?_)
          refine lv_goto (tgt := 16) hx hb dX9_canBe_190 (by decide) ?_
          exact ih_4 (t + 1, 0) (show B 0 - (t + 1) < B 0 - t from by omega) ⟨(show (t + 1) ≤ B 0 from by omega), (show flg 0 (allB (fun z9 => allB (okWT B hrs z9) (B 0)) w ∧ allB (okWT B hrs w) (t + 1)) from by rw [show v = B 4 from by omega] at hcx hn9; first | exact flg_q1 hcx (by omega) (fun z => ⟨z, by omega⟩) | exact flg_q0 (fun z => by have := z.2; omega) | exact flg_qf hcx (by omega) (fun z => z.1)), (show 0 < 2 from by omega)⟩ _ _ _ (lv_sub hl [0, 4, 1, 5] rfl) hP hD hS
        · refine lv_iload hx hb dX9_canBe_171 (lv_at hl 1 rfl) ?_
          refine lv_aload_n hx hb dX9_canBe_173 rfl (lv_at hl 5 rfl) ?_
          refine lv_iload_n hx hb dX9_canBe_174 rfl (lv_at hl 2 rfl) ?_
          refine roI hP hD hS hA [0, 1] rfl (runV (As := [.int (nI t)]) (rest := [.int (nI n9)]) (isC := [0, 1]) ⟨hx, hb, hml, hown, hts⟩ hKK hP hD rfl (by decide) (c_X9_mayOf l G tA b qu ab bl tyd at0 sta tok val man B t (hWB) (by omega) _) (cwV 1 hts gX9_canBe_X9_mayOf rfl rfl rfl (by decide +kernel) ⟨Nat.le_of_ble_eq_true rfl, Nat.le_of_ble_eq_true rfl⟩) rfl rfl rfl rfl hl.1 rfl (lv_room (Nat.le_of_ble_eq_true rfl)) dX9_canBe_175 ⟨Nat.le_of_ble_eq_true rfl, Nat.le_of_ble_eq_true rfl⟩) (fun _ => rfl) (fun r_11 u_12 H locs q_13 hP hS => ?_)
          obtain ⟨rfl, e_14⟩ := q_13
          have e_14 : mayM B t < 4 := e_14
          refine nv_icmp_gt (tgt := 185) (by omega) (by omega) hx hb dX9_canBe_178 (by decide) (fun c_15 => ?_) (fun c_15 => ?_)
          · refine lv_iconst (v := nI 0) hx hb dX9_canBe_185 (by decide) ?_
            refine lv_istore_n (lv' := [(1, .int (nI 0)), (5, .int (nI v)), (4, .int (nI n9)), (3, .int (nI t)), (2, .int (nI w)), (0, .ref (b 0))]) hx hb dX9_canBe_186 rfl hl (by decide) rfl (fun ls hl => ?_)
            refine lv_iinc (v := (nI (t + 1))) (lv' := [(3, .int (nI (t + 1))), (1, .int (nI 0)), (5, .int (nI v)), (4, .int (nI n9)), (2, .int (nI w)), (0, .ref (b 0))]) hx hb dX9_canBe_187 hl (k := 3) rfl (nI_add t 1) (by decide) rfl (fun ls hl => ?_)
            refine lv_goto (tgt := 16) hx hb dX9_canBe_190 (by decide) ?_
            exact ih_4 (t + 1, 0) (show B 0 - (t + 1) < B 0 - t from by omega) ⟨(show (t + 1) ≤ B 0 from by omega), (show flg 0 (allB (fun z9 => allB (okWT B hrs z9) (B 0)) w ∧ allB (okWT B hrs w) (t + 1)) from by rw [show v = B 4 from by omega] at hcx hn9; first | exact flg_q1 hcx (by omega) (fun z => ⟨z, by omega⟩) | exact flg_q0 (fun z => by have := z.2; omega) | exact flg_qf hcx (by omega) (fun z => z.1)), (show 0 < 2 from by omega)⟩ _ _ _ (lv_sub hl [0, 4, 1, 5] rfl) hP hD hS
          · refine lv_iconst (v := nI 1) hx hb dX9_canBe_181 (by decide) ?_
            refine lv_goto (tgt := 186) hx hb dX9_canBe_182 (by decide) ?_
            refine lv_istore_n (lv' := [(1, .int (nI 1)), (5, .int (nI v)), (4, .int (nI n9)), (3, .int (nI t)), (2, .int (nI w)), (0, .ref (b 0))]) hx hb dX9_canBe_186 rfl hl (by decide) rfl (fun ls hl => ?_)
            refine lv_iinc (v := (nI (t + 1))) (lv' := [(3, .int (nI (t + 1))), (1, .int (nI 1)), (5, .int (nI v)), (4, .int (nI n9)), (2, .int (nI w)), (0, .ref (b 0))]) hx hb dX9_canBe_187 hl (k := 3) rfl (nI_add t 1) (by decide) rfl (fun ls hl => ?_)
            refine lv_goto (tgt := 16) hx hb dX9_canBe_190 (by decide) ?_
            exact ih_4 (t + 1, 1) (show B 0 - (t + 1) < B 0 - t from by omega) ⟨(show (t + 1) ≤ B 0 from by omega), (show flg 1 (allB (fun z9 => allB (okWT B hrs z9) (B 0)) w ∧ allB (okWT B hrs w) (t + 1)) from by rw [show v = B 4 from by omega] at hcx hn9; first | exact flg_q1 hcx (by omega) (fun z => ⟨z, by omega⟩) | exact flg_q0 (fun z => by have := z.2; omega) | exact flg_qf hcx (by omega) (fun z => z.1)), (show 1 < 2 from by omega)⟩ _ _ _ (lv_sub hl [0, 4, 1, 5] rfl) hP hD hS
      · have hwv := hv4 v (by omega)
        have hww := hv4 w (by omega)
        refine lv_aload_n hx hb dX9_canBe_43 rfl (lv_at hl 5 rfl) ?_
        refine va_get (D := G) (ci := 7) (C := RX9) (T := TX9) (N := 23) hx hb hts iX9 hown hKK.1 hP 0 rfl rfl 19 (by decide) f41 (fun _ h9 => h9) rfl dX9_canBe_44 ?_
        refine lv_iload hx hb dX9_canBe_47 (lv_at hl 0 rfl) ?_
        refine nv_iald (i := v) hx hb hKK.1 hP 2 0 rfl rfl (by omega) (by decide) dX9_canBe_49 ?_
        have b_16 := hbh v
        refine lv_aload_n hx hb dX9_canBe_50 rfl (lv_at hl 5 rfl) ?_
        refine va_get (D := G) (ci := 7) (C := RX9) (T := TX9) (N := 23) hx hb hts iX9 hown hKK.1 hP 0 rfl rfl 19 (by decide) f41 (fun _ h9 => h9) rfl dX9_canBe_51 ?_
        refine lv_iload_n hx hb dX9_canBe_54 rfl (lv_at hl 3 rfl) ?_
        refine nv_iald (i := w) hx hb hKK.1 hP 2 0 rfl rfl (by omega) (by decide) dX9_canBe_55 ?_
        have b_17 := hbh w
        refine nv_icmp_ne (tgt := 74) (by omega) (by omega) hx hb dX9_canBe_56 (by decide) (fun c_18 => ?_) (fun c_18 => ?_)
        · refine lv_iconst (v := nI 0) hx hb dX9_canBe_74 (by decide) ?_
          refine lv_istore (lv' := [(6, .int (nI 0)), (5, .int (nI v)), (4, .int (nI n9)), (3, .int (nI t)), (2, .int (nI w)), (1, .int (nI cx)), (0, .ref (b 0))]) hx hb dX9_canBe_75 hl (by decide) rfl (fun ls hl => ?_)
          refine lv_iload hx hb dX9_canBe_77 (lv_at hl 2 rfl) ?_
          refine lv_iload hx hb dX9_canBe_79 (lv_at hl 0 rfl) ?_
          refine nv_if_eq (tgt := 110) (by omega) hx hb dX9_canBe_81 (by decide) (fun _ => ?_) (fun h => absurd h (by omega))
          refine lv_iconst (v := nI 0) hx hb dX9_canBe_110 (by decide) ?_
          refine nv_iadd hx hb dX9_canBe_111 ?_
          refine lv_istore (lv' := [(4, .int (nI (n9 + 0))), (6, .int (nI 0)), (5, .int (nI v)), (3, .int (nI t)), (2, .int (nI w)), (1, .int (nI cx)), (0, .ref (b 0))]) hx hb dX9_canBe_112 hl (by decide) rfl (fun ls hl => ?_)
          refine lv_iload_n hx hb dX9_canBe_114 rfl (lv_at hl 5 rfl) ?_
          refine nv_if_eq (tgt := 159) (by omega) hx hb dX9_canBe_115 (by decide) (fun c_20 => ?_) (fun c_20 => ?_)
          · refine lv_iconst (v := nI 0) hx hb dX9_canBe_159 (by decide) ?_
            refine lv_istore_n (lv' := [(1, .int (nI 0)), (4, .int (nI (n9 + 0))), (6, .int (nI 0)), (5, .int (nI v)), (3, .int (nI t)), (2, .int (nI w)), (0, .ref (b 0))]) hx hb dX9_canBe_160 rfl hl (by decide) rfl (fun ls hl => ?_)
            refine lv_iinc (v := (nI (v + 1))) (lv' := [(5, .int (nI (v + 1))), (1, .int (nI 0)), (4, .int (nI (n9 + 0))), (6, .int (nI 0)), (3, .int (nI t)), (2, .int (nI w)), (0, .ref (b 0))]) hx hb dX9_canBe_161 hl (k := 3) rfl (nI_add v 1) (by decide) rfl (fun ls hl => ?_)
            refine lv_goto (tgt := 32) hx hb dX9_canBe_164 (by decide) ?_
            exact ih_7 (v + 1, 0, n9 + 0) (show B 4 - (v + 1) < B 4 - v from by omega) ⟨(show (v + 1) ≤ B 4 from by omega), (show flg 0 ((allB (fun z9 => allB (okWT B hrs z9) (B 0)) w ∧ allB (okWT B hrs w) t) ∧ allB (meetM B hrs w) (v + 1)) from by first | exact flg_p1 hcx (by omega) (by rintro ⟨⟨z1, z2⟩, z3, z4⟩; omega) | exact flg_p0 (fun z => z ⟨⟨by omega, by omega⟩, by omega, by omega⟩) | exact flg_pf hcx (by omega)), (show 0 < 2 from by omega), (show (n9 + 0) = cntW B hrs w t (v + 1) from by rw [cntW_s, ← hn9]; first | rw [if_pos (pB_t.mpr ⟨⟨by omega, by omega⟩, by omega⟩)] | rw [if_neg (fun z => by (rcases pB_t.mp z with ⟨⟨z1, z2⟩, z3⟩); omega)]), (show (n9 + 0) ≤ (v + 1) from by omega)⟩ _ _ _ (lv_sub hl [0, 2, 4, 5, 1, 6] rfl) hP hD hS
          · refine lv_iload hx hb dX9_canBe_118 (lv_at hl 1 rfl) ?_
            refine nv_if_eq (tgt := 155) (by omega) hx hb dX9_canBe_120 (by decide) (fun _ => ?_) (fun h => absurd h (by omega))
            refine lv_iconst (v := nI 1) hx hb dX9_canBe_155 (by decide) ?_
            refine lv_goto (tgt := 160) hx hb dX9_canBe_156 (by decide) ?_
            refine lv_istore_n (lv' := [(1, .int (nI 1)), (4, .int (nI (n9 + 0))), (6, .int (nI 0)), (5, .int (nI v)), (3, .int (nI t)), (2, .int (nI w)), (0, .ref (b 0))]) hx hb dX9_canBe_160 rfl hl (by decide) rfl (fun ls hl => ?_)
            refine lv_iinc (v := (nI (v + 1))) (lv' := [(5, .int (nI (v + 1))), (1, .int (nI 1)), (4, .int (nI (n9 + 0))), (6, .int (nI 0)), (3, .int (nI t)), (2, .int (nI w)), (0, .ref (b 0))]) hx hb dX9_canBe_161 hl (k := 3) rfl (nI_add v 1) (by decide) rfl (fun ls hl => ?_)
            refine lv_goto (tgt := 32) hx hb dX9_canBe_164 (by decide) ?_
            exact ih_7 (v + 1, 1, n9 + 0) (show B 4 - (v + 1) < B 4 - v from by omega) ⟨(show (v + 1) ≤ B 4 from by omega), (show flg 1 ((allB (fun z9 => allB (okWT B hrs z9) (B 0)) w ∧ allB (okWT B hrs w) t) ∧ allB (meetM B hrs w) (v + 1)) from by first | exact flg_p1 hcx (by omega) (by rintro ⟨⟨z1, z2⟩, z3, z4⟩; omega) | exact flg_p0 (fun z => z ⟨⟨by omega, by omega⟩, by omega, by omega⟩) | exact flg_pf hcx (by omega)), (show 1 < 2 from by omega), (show (n9 + 0) = cntW B hrs w t (v + 1) from by rw [cntW_s, ← hn9]; first | rw [if_pos (pB_t.mpr ⟨⟨by omega, by omega⟩, by omega⟩)] | rw [if_neg (fun z => by (rcases pB_t.mp z with ⟨⟨z1, z2⟩, z3⟩); omega)]), (show (n9 + 0) ≤ (v + 1) from by omega)⟩ _ _ _ (lv_sub hl [0, 2, 4, 5, 1, 6] rfl) hP hD hS
        · refine lv_aload_n hx hb dX9_canBe_59 rfl (lv_at hl 5 rfl) ?_
          refine va_get (D := G) (ci := 7) (C := RX9) (T := TX9) (N := 23) hx hb hts iX9 hown hKK.1 hP 0 rfl rfl 19 (by decide) f41 (fun _ h9 => h9) rfl dX9_canBe_60 ?_
          refine lv_iload_n hx hb dX9_canBe_63 rfl (lv_at hl 3 rfl) ?_
          refine nv_iald (i := w) hx hb hKK.1 hP 2 0 rfl rfl (by omega) (by decide) dX9_canBe_64 ?_
          have b_22 := hbh w
          refine lv_bipush (v := nI 24) hx hb dX9_canBe_65 (by decide +kernel) ?_
          refine nv_icmp_ge (tgt := 74) (by omega) (by omega) hx hb dX9_canBe_67 (by decide) (fun c_23 => ?_) (fun c_23 => ?_)
          · refine lv_iconst (v := nI 0) hx hb dX9_canBe_74 (by decide) ?_
            refine lv_istore (lv' := [(6, .int (nI 0)), (5, .int (nI v)), (4, .int (nI n9)), (3, .int (nI t)), (2, .int (nI w)), (1, .int (nI cx)), (0, .ref (b 0))]) hx hb dX9_canBe_75 hl (by decide) rfl (fun ls hl => ?_)
            refine lv_iload hx hb dX9_canBe_77 (lv_at hl 2 rfl) ?_
            refine lv_iload hx hb dX9_canBe_79 (lv_at hl 0 rfl) ?_
            refine nv_if_eq (tgt := 110) (by omega) hx hb dX9_canBe_81 (by decide) (fun _ => ?_) (fun h => absurd h (by omega))
            refine lv_iconst (v := nI 0) hx hb dX9_canBe_110 (by decide) ?_
            refine nv_iadd hx hb dX9_canBe_111 ?_
            refine lv_istore (lv' := [(4, .int (nI (n9 + 0))), (6, .int (nI 0)), (5, .int (nI v)), (3, .int (nI t)), (2, .int (nI w)), (1, .int (nI cx)), (0, .ref (b 0))]) hx hb dX9_canBe_112 hl (by decide) rfl (fun ls hl => ?_)
            refine lv_iload_n hx hb dX9_canBe_114 rfl (lv_at hl 5 rfl) ?_
            refine nv_if_eq (tgt := 159) (by omega) hx hb dX9_canBe_115 (by decide) (fun c_25 => ?_) (fun c_25 => ?_)
            · refine lv_iconst (v := nI 0) hx hb dX9_canBe_159 (by decide) ?_
              refine lv_istore_n (lv' := [(1, .int (nI 0)), (4, .int (nI (n9 + 0))), (6, .int (nI 0)), (5, .int (nI v)), (3, .int (nI t)), (2, .int (nI w)), (0, .ref (b 0))]) hx hb dX9_canBe_160 rfl hl (by decide) rfl (fun ls hl => ?_)
              refine lv_iinc (v := (nI (v + 1))) (lv' := [(5, .int (nI (v + 1))), (1, .int (nI 0)), (4, .int (nI (n9 + 0))), (6, .int (nI 0)), (3, .int (nI t)), (2, .int (nI w)), (0, .ref (b 0))]) hx hb dX9_canBe_161 hl (k := 3) rfl (nI_add v 1) (by decide) rfl (fun ls hl => ?_)
              refine lv_goto (tgt := 32) hx hb dX9_canBe_164 (by decide) ?_
              exact ih_7 (v + 1, 0, n9 + 0) (show B 4 - (v + 1) < B 4 - v from by omega) ⟨(show (v + 1) ≤ B 4 from by omega), (show flg 0 ((allB (fun z9 => allB (okWT B hrs z9) (B 0)) w ∧ allB (okWT B hrs w) t) ∧ allB (meetM B hrs w) (v + 1)) from by first | exact flg_p1 hcx (by omega) (by rintro ⟨⟨z1, z2⟩, z3, z4⟩; omega) | exact flg_p0 (fun z => z ⟨⟨by omega, by omega⟩, by omega, by omega⟩) | exact flg_pf hcx (by omega)), (show 0 < 2 from by omega), (show (n9 + 0) = cntW B hrs w t (v + 1) from by rw [cntW_s, ← hn9]; first | rw [if_pos (pB_t.mpr ⟨⟨by omega, by omega⟩, by omega⟩)] | rw [if_neg (fun z => by (rcases pB_t.mp z with ⟨⟨z1, z2⟩, z3⟩); omega)]), (show (n9 + 0) ≤ (v + 1) from by omega)⟩ _ _ _ (lv_sub hl [0, 2, 4, 5, 1, 6] rfl) hP hD hS
            · refine lv_iload hx hb dX9_canBe_118 (lv_at hl 1 rfl) ?_
              refine nv_if_eq (tgt := 155) (by omega) hx hb dX9_canBe_120 (by decide) (fun _ => ?_) (fun h => absurd h (by omega))
              refine lv_iconst (v := nI 1) hx hb dX9_canBe_155 (by decide) ?_
              refine lv_goto (tgt := 160) hx hb dX9_canBe_156 (by decide) ?_
              refine lv_istore_n (lv' := [(1, .int (nI 1)), (4, .int (nI (n9 + 0))), (6, .int (nI 0)), (5, .int (nI v)), (3, .int (nI t)), (2, .int (nI w)), (0, .ref (b 0))]) hx hb dX9_canBe_160 rfl hl (by decide) rfl (fun ls hl => ?_)
              refine lv_iinc (v := (nI (v + 1))) (lv' := [(5, .int (nI (v + 1))), (1, .int (nI 1)), (4, .int (nI (n9 + 0))), (6, .int (nI 0)), (3, .int (nI t)), (2, .int (nI w)), (0, .ref (b 0))]) hx hb dX9_canBe_161 hl (k := 3) rfl (nI_add v 1) (by decide) rfl (fun ls hl => ?_)
              refine lv_goto (tgt := 32) hx hb dX9_canBe_164 (by decide) ?_
              exact ih_7 (v + 1, 1, n9 + 0) (show B 4 - (v + 1) < B 4 - v from by omega) ⟨(show (v + 1) ≤ B 4 from by omega), (show flg 1 ((allB (fun z9 => allB (okWT B hrs z9) (B 0)) w ∧ allB (okWT B hrs w) t) ∧ allB (meetM B hrs w) (v + 1)) from by first | exact flg_p1 hcx (by omega) (by rintro ⟨⟨z1, z2⟩, z3, z4⟩; omega) | exact flg_p0 (fun z => z ⟨⟨by omega, by omega⟩, by omega, by omega⟩) | exact flg_pf hcx (by omega)), (show 1 < 2 from by omega), (show (n9 + 0) = cntW B hrs w t (v + 1) from by rw [cntW_s, ← hn9]; first | rw [if_pos (pB_t.mpr ⟨⟨by omega, by omega⟩, by omega⟩)] | rw [if_neg (fun z => by (rcases pB_t.mp z with ⟨⟨z1, z2⟩, z3⟩); omega)]), (show (n9 + 0) ≤ (v + 1) from by omega)⟩ _ _ _ (lv_sub hl [0, 2, 4, 5, 1, 6] rfl) hP hD hS
          · refine lv_iconst (v := nI 1) hx hb dX9_canBe_70 (by decide) ?_
            refine lv_goto (tgt := 75) hx hb dX9_canBe_71 (by decide) ?_
            refine lv_istore (lv' := [(6, .int (nI 1)), (5, .int (nI v)), (4, .int (nI n9)), (3, .int (nI t)), (2, .int (nI w)), (1, .int (nI cx)), (0, .ref (b 0))]) hx hb dX9_canBe_75 hl (by decide) rfl (fun ls hl => ?_)
            refine lv_iload hx hb dX9_canBe_77 (lv_at hl 2 rfl) ?_
            refine lv_iload hx hb dX9_canBe_79 (lv_at hl 0 rfl) ?_
            refine nv_if_eq (tgt := 110) (by omega) hx hb dX9_canBe_81 (by decide) (fun h => absurd h (by omega)) (fun _ => ?_)
            refine lv_aload_n hx hb dX9_canBe_84 rfl (lv_at hl 6 rfl) ?_
            refine va_get (D := G) (ci := 7) (C := RX9) (T := TX9) (N := 23) hx hb hts iX9 hown hKK.1 hP 0 rfl rfl 0 (by decide) f7 (fun _ h9 => h9) rfl dX9_canBe_85 ?_
            refine lv_bipush (v := nI 126) hx hb dX9_canBe_88 (by decide +kernel) ?_
            refine lv_iconst (v := nI 4) hx hb dX9_canBe_90 (by decide) ?_
            refine lv_iload hx hb dX9_canBe_91 (lv_at hl 1 rfl) ?_
            refine nv_imul hx hb dX9_canBe_93 ?_
            refine nv_iadd hx hb dX9_canBe_94 ?_
            refine lv_iconst (v := nI 1) hx hb dX9_canBe_95 (by decide) ?_
            refine nv_iadd hx hb dX9_canBe_96 ?_
            refine nv_iald (i := (126 + (4 * v)) + 1) hx hb hKK.1 hP 1 0 rfl rfl (by omega) (by decide) dX9_canBe_97 ?_
            have b_28 := hbB ((126 + (4 * v)) + 1)
            refine lv_iload_n hx hb dX9_canBe_98 rfl (lv_at hl 3 rfl) ?_
            refine nv_ishr (by omega) (by omega) hx hb dX9_canBe_99 ?_
            refine lv_iconst (v := nI 1) hx hb dX9_canBe_100 (by decide) ?_
            refine nv_iand1 hx hb dX9_canBe_101 ?_
            refine lv_iconst (v := nI 1) hx hb dX9_canBe_102 (by decide) ?_
            refine nv_icmp_ne (tgt := 110) (by omega) (by omega) hx hb dX9_canBe_103 (by decide) (fun c_29 => ?_) (fun c_29 => ?_)
            · refine lv_iconst (v := nI 0) hx hb dX9_canBe_110 (by decide) ?_
              refine nv_iadd hx hb dX9_canBe_111 ?_
              refine lv_istore (lv' := [(4, .int (nI (n9 + 0))), (6, .int (nI 1)), (5, .int (nI v)), (3, .int (nI t)), (2, .int (nI w)), (1, .int (nI cx)), (0, .ref (b 0))]) hx hb dX9_canBe_112 hl (by decide) rfl (fun ls hl => ?_)
              refine lv_iload_n hx hb dX9_canBe_114 rfl (lv_at hl 5 rfl) ?_
              refine nv_if_eq (tgt := 159) (by omega) hx hb dX9_canBe_115 (by decide) (fun c_30 => ?_) (fun c_30 => ?_)
              · refine lv_iconst (v := nI 0) hx hb dX9_canBe_159 (by decide) ?_
                refine lv_istore_n (lv' := [(1, .int (nI 0)), (4, .int (nI (n9 + 0))), (6, .int (nI 1)), (5, .int (nI v)), (3, .int (nI t)), (2, .int (nI w)), (0, .ref (b 0))]) hx hb dX9_canBe_160 rfl hl (by decide) rfl (fun ls hl => ?_)
                refine lv_iinc (v := (nI (v + 1))) (lv' := [(5, .int (nI (v + 1))), (1, .int (nI 0)), (4, .int (nI (n9 + 0))), (6, .int (nI 1)), (3, .int (nI t)), (2, .int (nI w)), (0, .ref (b 0))]) hx hb dX9_canBe_161 hl (k := 3) rfl (nI_add v 1) (by decide) rfl (fun ls hl => ?_)
                refine lv_goto (tgt := 32) hx hb dX9_canBe_164 (by decide) ?_
                exact ih_7 (v + 1, 0, n9 + 0) (show B 4 - (v + 1) < B 4 - v from by omega) ⟨(show (v + 1) ≤ B 4 from by omega), (show flg 0 ((allB (fun z9 => allB (okWT B hrs z9) (B 0)) w ∧ allB (okWT B hrs w) t) ∧ allB (meetM B hrs w) (v + 1)) from by first | exact flg_p1 hcx (by omega) (by rintro ⟨⟨z1, z2⟩, z3, z4⟩; omega) | exact flg_p0 (fun z => z ⟨⟨by omega, by omega⟩, by omega, by omega⟩) | exact flg_pf hcx (by omega)), (show 0 < 2 from by omega), (show (n9 + 0) = cntW B hrs w t (v + 1) from by rw [cntW_s, ← hn9]; first | rw [if_pos (pB_t.mpr ⟨⟨by omega, by omega⟩, by omega⟩)] | rw [if_neg (fun z => by (rcases pB_t.mp z with ⟨⟨z1, z2⟩, z3⟩); omega)]), (show (n9 + 0) ≤ (v + 1) from by omega)⟩ _ _ _ (lv_sub hl [0, 2, 4, 5, 1, 6] rfl) hP hD hS
              · refine lv_iload hx hb dX9_canBe_118 (lv_at hl 1 rfl) ?_
                refine nv_if_eq (tgt := 155) (by omega) hx hb dX9_canBe_120 (by decide) (fun h => absurd h (by omega)) (fun _ => ?_)
                refine lv_iload hx hb dX9_canBe_123 (lv_at hl 2 rfl) ?_
                refine lv_iload_n hx hb dX9_canBe_125 rfl (lv_at hl 4 rfl) ?_
                refine nv_icmp_eq (tgt := 155) (by omega) (by omega) hx hb dX9_canBe_126 (by decide) (fun c_32 => ?_) (fun c_32 => ?_)
                · refine lv_iconst (v := nI 1) hx hb dX9_canBe_155 (by decide) ?_
                  refine lv_goto (tgt := 160) hx hb dX9_canBe_156 (by decide) ?_
                  refine lv_istore_n (lv' := [(1, .int (nI 1)), (4, .int (nI (n9 + 0))), (6, .int (nI 1)), (5, .int (nI v)), (3, .int (nI t)), (2, .int (nI w)), (0, .ref (b 0))]) hx hb dX9_canBe_160 rfl hl (by decide) rfl (fun ls hl => ?_)
                  refine lv_iinc (v := (nI (v + 1))) (lv' := [(5, .int (nI (v + 1))), (1, .int (nI 1)), (4, .int (nI (n9 + 0))), (6, .int (nI 1)), (3, .int (nI t)), (2, .int (nI w)), (0, .ref (b 0))]) hx hb dX9_canBe_161 hl (k := 3) rfl (nI_add v 1) (by decide) rfl (fun ls hl => ?_)
                  refine lv_goto (tgt := 32) hx hb dX9_canBe_164 (by decide) ?_
                  exact ih_7 (v + 1, 1, n9 + 0) (show B 4 - (v + 1) < B 4 - v from by omega) ⟨(show (v + 1) ≤ B 4 from by omega), (show flg 1 ((allB (fun z9 => allB (okWT B hrs z9) (B 0)) w ∧ allB (okWT B hrs w) t) ∧ allB (meetM B hrs w) (v + 1)) from by first | exact flg_p1 hcx (by omega) (by rintro ⟨⟨z1, z2⟩, z3, z4⟩; omega) | exact flg_p0 (fun z => z ⟨⟨by omega, by omega⟩, by omega, by omega⟩) | exact flg_pf hcx (by omega)), (show 1 < 2 from by omega), (show (n9 + 0) = cntW B hrs w t (v + 1) from by rw [cntW_s, ← hn9]; first | rw [if_pos (pB_t.mpr ⟨⟨by omega, by omega⟩, by omega⟩)] | rw [if_neg (fun z => by (rcases pB_t.mp z with ⟨⟨z1, z2⟩, z3⟩); omega)]), (show (n9 + 0) ≤ (v + 1) from by omega)⟩ _ _ _ (lv_sub hl [0, 2, 4, 5, 1, 6] rfl) hP hD hS
                · refine lv_aload_n hx hb dX9_canBe_129 rfl (lv_at hl 6 rfl) ?_
                  refine va_get (D := G) (ci := 7) (C := RX9) (T := TX9) (N := 23) hx hb hts iX9 hown hKK.1 hP 0 rfl rfl 0 (by decide) f7 (fun _ h9 => h9) rfl dX9_canBe_130 ?_
                  refine lv_bipush (v := nI 126) hx hb dX9_canBe_133 (by decide +kernel) ?_
                  refine lv_iconst (v := nI 4) hx hb dX9_canBe_135 (by decide) ?_
                  refine lv_iload hx hb dX9_canBe_136 (lv_at hl 2 rfl) ?_
                  refine nv_imul hx hb dX9_canBe_138 ?_
                  refine nv_iadd hx hb dX9_canBe_139 ?_
                  refine nv_iald (i := 126 + (4 * v)) hx hb hKK.1 hP 1 0 rfl rfl (by omega) (by decide) dX9_canBe_140 ?_
                  have b_33 := hbB (126 + (4 * v))
                  refine lv_aload_n hx hb dX9_canBe_141 rfl (lv_at hl 6 rfl) ?_
                  refine va_get (D := G) (ci := 7) (C := RX9) (T := TX9) (N := 23) hx hb hts iX9 hown hKK.1 hP 0 rfl rfl 0 (by decide) f7 (fun _ h9 => h9) rfl dX9_canBe_142 ?_
                  refine lv_bipush (v := nI 126) hx hb dX9_canBe_145 (by decide +kernel) ?_
                  refine lv_iconst (v := nI 4) hx hb dX9_canBe_147 (by decide) ?_
                  refine lv_iload_n hx hb dX9_canBe_148 rfl (lv_at hl 4 rfl) ?_
                  refine nv_imul hx hb dX9_canBe_149 ?_
                  refine nv_iadd hx hb dX9_canBe_150 ?_
                  refine nv_iald (i := 126 + (4 * w)) hx hb hKK.1 hP 1 0 rfl rfl (by omega) (by decide) dX9_canBe_151 ?_
                  have b_34 := hbB (126 + (4 * w))
                  refine nv_icmp_eq (tgt := 159) (by omega) (by omega) hx hb dX9_canBe_152 (by decide) (fun c_35 => ?_) (fun c_35 => ?_)
                  · refine lv_iconst (v := nI 0) hx hb dX9_canBe_159 (by decide) ?_
                    refine lv_istore_n (lv' := [(1, .int (nI 0)), (4, .int (nI (n9 + 0))), (6, .int (nI 1)), (5, .int (nI v)), (3, .int (nI t)), (2, .int (nI w)), (0, .ref (b 0))]) hx hb dX9_canBe_160 rfl hl (by decide) rfl (fun ls hl => ?_)
                    refine lv_iinc (v := (nI (v + 1))) (lv' := [(5, .int (nI (v + 1))), (1, .int (nI 0)), (4, .int (nI (n9 + 0))), (6, .int (nI 1)), (3, .int (nI t)), (2, .int (nI w)), (0, .ref (b 0))]) hx hb dX9_canBe_161 hl (k := 3) rfl (nI_add v 1) (by decide) rfl (fun ls hl => ?_)
                    refine lv_goto (tgt := 32) hx hb dX9_canBe_164 (by decide) ?_
                    exact ih_7 (v + 1, 0, n9 + 0) (show B 4 - (v + 1) < B 4 - v from by omega) ⟨(show (v + 1) ≤ B 4 from by omega), (show flg 0 ((allB (fun z9 => allB (okWT B hrs z9) (B 0)) w ∧ allB (okWT B hrs w) t) ∧ allB (meetM B hrs w) (v + 1)) from by first | exact flg_p1 hcx (by omega) (by rintro ⟨⟨z1, z2⟩, z3, z4⟩; omega) | exact flg_p0 (fun z => z ⟨⟨by omega, by omega⟩, by omega, by omega⟩) | exact flg_pf hcx (by omega)), (show 0 < 2 from by omega), (show (n9 + 0) = cntW B hrs w t (v + 1) from by rw [cntW_s, ← hn9]; first | rw [if_pos (pB_t.mpr ⟨⟨by omega, by omega⟩, by omega⟩)] | rw [if_neg (fun z => by (rcases pB_t.mp z with ⟨⟨z1, z2⟩, z3⟩); omega)]), (show (n9 + 0) ≤ (v + 1) from by omega)⟩ _ _ _ (lv_sub hl [0, 2, 4, 5, 1, 6] rfl) hP hD hS
                  · refine lv_iconst (v := nI 1) hx hb dX9_canBe_155 (by decide) ?_
                    refine lv_goto (tgt := 160) hx hb dX9_canBe_156 (by decide) ?_
                    refine lv_istore_n (lv' := [(1, .int (nI 1)), (4, .int (nI (n9 + 0))), (6, .int (nI 1)), (5, .int (nI v)), (3, .int (nI t)), (2, .int (nI w)), (0, .ref (b 0))]) hx hb dX9_canBe_160 rfl hl (by decide) rfl (fun ls hl => ?_)
                    refine lv_iinc (v := (nI (v + 1))) (lv' := [(5, .int (nI (v + 1))), (1, .int (nI 1)), (4, .int (nI (n9 + 0))), (6, .int (nI 1)), (3, .int (nI t)), (2, .int (nI w)), (0, .ref (b 0))]) hx hb dX9_canBe_161 hl (k := 3) rfl (nI_add v 1) (by decide) rfl (fun ls hl => ?_)
                    refine lv_goto (tgt := 32) hx hb dX9_canBe_164 (by decide) ?_
                    exact ih_7 (v + 1, 1, n9 + 0) (show B 4 - (v + 1) < B 4 - v from by omega) ⟨(show (v + 1) ≤ B 4 from by omega), (show flg 1 ((allB (fun z9 => allB (okWT B hrs z9) (B 0)) w ∧ allB (okWT B hrs w) t) ∧ allB (meetM B hrs w) (v + 1)) from by first | exact flg_p1 hcx (by omega) (by rintro ⟨⟨z1, z2⟩, z3, z4⟩; omega) | exact flg_p0 (fun z => z ⟨⟨by omega, by omega⟩, by omega, by omega⟩) | exact flg_pf hcx (by omega)), (show 1 < 2 from by omega), (show (n9 + 0) = cntW B hrs w t (v + 1) from by rw [cntW_s, ← hn9]; first | rw [if_pos (pB_t.mpr ⟨⟨by omega, by omega⟩, by omega⟩)] | rw [if_neg (fun z => by (rcases pB_t.mp z with ⟨⟨z1, z2⟩, z3⟩); omega)]), (show (n9 + 0) ≤ (v + 1) from by omega)⟩ _ _ _ (lv_sub hl [0, 2, 4, 5, 1, 6] rfl) hP hD hS
            · refine lv_iconst (v := nI 1) hx hb dX9_canBe_106 (by decide) ?_
              refine lv_goto (tgt := 111) hx hb dX9_canBe_107 (by decide) ?_
              refine nv_iadd hx hb dX9_canBe_111 ?_
              refine lv_istore (lv' := [(4, .int (nI (n9 + 1))), (6, .int (nI 1)), (5, .int (nI v)), (3, .int (nI t)), (2, .int (nI w)), (1, .int (nI cx)), (0, .ref (b 0))]) hx hb dX9_canBe_112 hl (by decide) rfl (fun ls hl => ?_)
              refine lv_iload_n hx hb dX9_canBe_114 rfl (lv_at hl 5 rfl) ?_
              refine nv_if_eq (tgt := 159) (by omega) hx hb dX9_canBe_115 (by decide) (fun c_36 => ?_) (fun c_36 => ?_)
              · refine lv_iconst (v := nI 0) hx hb dX9_canBe_159 (by decide) ?_
                refine lv_istore_n (lv' := [(1, .int (nI 0)), (4, .int (nI (n9 + 1))), (6, .int (nI 1)), (5, .int (nI v)), (3, .int (nI t)), (2, .int (nI w)), (0, .ref (b 0))]) hx hb dX9_canBe_160 rfl hl (by decide) rfl (fun ls hl => ?_)
                refine lv_iinc (v := (nI (v + 1))) (lv' := [(5, .int (nI (v + 1))), (1, .int (nI 0)), (4, .int (nI (n9 + 1))), (6, .int (nI 1)), (3, .int (nI t)), (2, .int (nI w)), (0, .ref (b 0))]) hx hb dX9_canBe_161 hl (k := 3) rfl (nI_add v 1) (by decide) rfl (fun ls hl => ?_)
                refine lv_goto (tgt := 32) hx hb dX9_canBe_164 (by decide) ?_
                exact ih_7 (v + 1, 0, n9 + 1) (show B 4 - (v + 1) < B 4 - v from by omega) ⟨(show (v + 1) ≤ B 4 from by omega), (show flg 0 ((allB (fun z9 => allB (okWT B hrs z9) (B 0)) w ∧ allB (okWT B hrs w) t) ∧ allB (meetM B hrs w) (v + 1)) from by first | exact flg_p1 hcx (by omega) (by rintro ⟨⟨z1, z2⟩, z3, z4⟩; omega) | exact flg_p0 (fun z => z ⟨⟨by omega, by omega⟩, by omega, by omega⟩) | exact flg_pf hcx (by omega)), (show 0 < 2 from by omega), (show (n9 + 1) = cntW B hrs w t (v + 1) from by rw [cntW_s, ← hn9]; first | rw [if_pos (pB_t.mpr ⟨⟨by omega, by omega⟩, by omega⟩)] | rw [if_neg (fun z => by (rcases pB_t.mp z with ⟨⟨z1, z2⟩, z3⟩); omega)]), (show (n9 + 1) ≤ (v + 1) from by omega)⟩ _ _ _ (lv_sub hl [0, 2, 4, 5, 1, 6] rfl) hP hD hS
              · refine lv_iload hx hb dX9_canBe_118 (lv_at hl 1 rfl) ?_
                refine nv_if_eq (tgt := 155) (by omega) hx hb dX9_canBe_120 (by decide) (fun h => absurd h (by omega)) (fun _ => ?_)
                refine lv_iload hx hb dX9_canBe_123 (lv_at hl 2 rfl) ?_
                refine lv_iload_n hx hb dX9_canBe_125 rfl (lv_at hl 4 rfl) ?_
                refine nv_icmp_eq (tgt := 155) (by omega) (by omega) hx hb dX9_canBe_126 (by decide) (fun c_38 => ?_) (fun c_38 => ?_)
                · refine lv_iconst (v := nI 1) hx hb dX9_canBe_155 (by decide) ?_
                  refine lv_goto (tgt := 160) hx hb dX9_canBe_156 (by decide) ?_
                  refine lv_istore_n (lv' := [(1, .int (nI 1)), (4, .int (nI (n9 + 1))), (6, .int (nI 1)), (5, .int (nI v)), (3, .int (nI t)), (2, .int (nI w)), (0, .ref (b 0))]) hx hb dX9_canBe_160 rfl hl (by decide) rfl (fun ls hl => ?_)
                  refine lv_iinc (v := (nI (v + 1))) (lv' := [(5, .int (nI (v + 1))), (1, .int (nI 1)), (4, .int (nI (n9 + 1))), (6, .int (nI 1)), (3, .int (nI t)), (2, .int (nI w)), (0, .ref (b 0))]) hx hb dX9_canBe_161 hl (k := 3) rfl (nI_add v 1) (by decide) rfl (fun ls hl => ?_)
                  refine lv_goto (tgt := 32) hx hb dX9_canBe_164 (by decide) ?_
                  exact ih_7 (v + 1, 1, n9 + 1) (show B 4 - (v + 1) < B 4 - v from by omega) ⟨(show (v + 1) ≤ B 4 from by omega), (show flg 1 ((allB (fun z9 => allB (okWT B hrs z9) (B 0)) w ∧ allB (okWT B hrs w) t) ∧ allB (meetM B hrs w) (v + 1)) from by first | exact flg_p1 hcx (by omega) (by rintro ⟨⟨z1, z2⟩, z3, z4⟩; omega) | exact flg_p0 (fun z => z ⟨⟨by omega, by omega⟩, by omega, by omega⟩) | exact flg_pf hcx (by omega)), (show 1 < 2 from by omega), (show (n9 + 1) = cntW B hrs w t (v + 1) from by rw [cntW_s, ← hn9]; first | rw [if_pos (pB_t.mpr ⟨⟨by omega, by omega⟩, by omega⟩)] | rw [if_neg (fun z => by (rcases pB_t.mp z with ⟨⟨z1, z2⟩, z3⟩); omega)]), (show (n9 + 1) ≤ (v + 1) from by omega)⟩ _ _ _ (lv_sub hl [0, 2, 4, 5, 1, 6] rfl) hP hD hS
                · refine lv_aload_n hx hb dX9_canBe_129 rfl (lv_at hl 6 rfl) ?_
                  refine va_get (D := G) (ci := 7) (C := RX9) (T := TX9) (N := 23) hx hb hts iX9 hown hKK.1 hP 0 rfl rfl 0 (by decide) f7 (fun _ h9 => h9) rfl dX9_canBe_130 ?_
                  refine lv_bipush (v := nI 126) hx hb dX9_canBe_133 (by decide +kernel) ?_
                  refine lv_iconst (v := nI 4) hx hb dX9_canBe_135 (by decide) ?_
                  refine lv_iload hx hb dX9_canBe_136 (lv_at hl 2 rfl) ?_
                  refine nv_imul hx hb dX9_canBe_138 ?_
                  refine nv_iadd hx hb dX9_canBe_139 ?_
                  refine nv_iald (i := 126 + (4 * v)) hx hb hKK.1 hP 1 0 rfl rfl (by omega) (by decide) dX9_canBe_140 ?_
                  have b_39 := hbB (126 + (4 * v))
                  refine lv_aload_n hx hb dX9_canBe_141 rfl (lv_at hl 6 rfl) ?_
                  refine va_get (D := G) (ci := 7) (C := RX9) (T := TX9) (N := 23) hx hb hts iX9 hown hKK.1 hP 0 rfl rfl 0 (by decide) f7 (fun _ h9 => h9) rfl dX9_canBe_142 ?_
                  refine lv_bipush (v := nI 126) hx hb dX9_canBe_145 (by decide +kernel) ?_
                  refine lv_iconst (v := nI 4) hx hb dX9_canBe_147 (by decide) ?_
                  refine lv_iload_n hx hb dX9_canBe_148 rfl (lv_at hl 4 rfl) ?_
                  refine nv_imul hx hb dX9_canBe_149 ?_
                  refine nv_iadd hx hb dX9_canBe_150 ?_
                  refine nv_iald (i := 126 + (4 * w)) hx hb hKK.1 hP 1 0 rfl rfl (by omega) (by decide) dX9_canBe_151 ?_
                  have b_40 := hbB (126 + (4 * w))
                  refine nv_icmp_eq (tgt := 159) (by omega) (by omega) hx hb dX9_canBe_152 (by decide) (fun c_41 => ?_) (fun c_41 => ?_)
                  · refine lv_iconst (v := nI 0) hx hb dX9_canBe_159 (by decide) ?_
                    refine lv_istore_n (lv' := [(1, .int (nI 0)), (4, .int (nI (n9 + 1))), (6, .int (nI 1)), (5, .int (nI v)), (3, .int (nI t)), (2, .int (nI w)), (0, .ref (b 0))]) hx hb dX9_canBe_160 rfl hl (by decide) rfl (fun ls hl => ?_)
                    refine lv_iinc (v := (nI (v + 1))) (lv' := [(5, .int (nI (v + 1))), (1, .int (nI 0)), (4, .int (nI (n9 + 1))), (6, .int (nI 1)), (3, .int (nI t)), (2, .int (nI w)), (0, .ref (b 0))]) hx hb dX9_canBe_161 hl (k := 3) rfl (nI_add v 1) (by decide) rfl (fun ls hl => ?_)
                    refine lv_goto (tgt := 32) hx hb dX9_canBe_164 (by decide) ?_
                    exact ih_7 (v + 1, 0, n9 + 1) (show B 4 - (v + 1) < B 4 - v from by omega) ⟨(show (v + 1) ≤ B 4 from by omega), (show flg 0 ((allB (fun z9 => allB (okWT B hrs z9) (B 0)) w ∧ allB (okWT B hrs w) t) ∧ allB (meetM B hrs w) (v + 1)) from by first | exact flg_p1 hcx (by omega) (by rintro ⟨⟨z1, z2⟩, z3, z4⟩; omega) | exact flg_p0 (fun z => z ⟨⟨by omega, by omega⟩, by omega, by omega⟩) | exact flg_pf hcx (by omega)), (show 0 < 2 from by omega), (show (n9 + 1) = cntW B hrs w t (v + 1) from by rw [cntW_s, ← hn9]; first | rw [if_pos (pB_t.mpr ⟨⟨by omega, by omega⟩, by omega⟩)] | rw [if_neg (fun z => by (rcases pB_t.mp z with ⟨⟨z1, z2⟩, z3⟩); omega)]), (show (n9 + 1) ≤ (v + 1) from by omega)⟩ _ _ _ (lv_sub hl [0, 2, 4, 5, 1, 6] rfl) hP hD hS
                  · refine lv_iconst (v := nI 1) hx hb dX9_canBe_155 (by decide) ?_
                    refine lv_goto (tgt := 160) hx hb dX9_canBe_156 (by decide) ?_
                    refine lv_istore_n (lv' := [(1, .int (nI 1)), (4, .int (nI (n9 + 1))), (6, .int (nI 1)), (5, .int (nI v)), (3, .int (nI t)), (2, .int (nI w)), (0, .ref (b 0))]) hx hb dX9_canBe_160 rfl hl (by decide) rfl (fun ls hl => ?_)
                    refine lv_iinc (v := (nI (v + 1))) (lv' := [(5, .int (nI (v + 1))), (1, .int (nI 1)), (4, .int (nI (n9 + 1))), (6, .int (nI 1)), (3, .int (nI t)), (2, .int (nI w)), (0, .ref (b 0))]) hx hb dX9_canBe_161 hl (k := 3) rfl (nI_add v 1) (by decide) rfl (fun ls hl => ?_)
                    refine lv_goto (tgt := 32) hx hb dX9_canBe_164 (by decide) ?_
                    exact ih_7 (v + 1, 1, n9 + 1) (show B 4 - (v + 1) < B 4 - v from by omega) ⟨(show (v + 1) ≤ B 4 from by omega), (show flg 1 ((allB (fun z9 => allB (okWT B hrs z9) (B 0)) w ∧ allB (okWT B hrs w) t) ∧ allB (meetM B hrs w) (v + 1)) from by first | exact flg_p1 hcx (by omega) (by rintro ⟨⟨z1, z2⟩, z3, z4⟩; omega) | exact flg_p0 (fun z => z ⟨⟨by omega, by omega⟩, by omega, by omega⟩) | exact flg_pf hcx (by omega)), (show 1 < 2 from by omega), (show (n9 + 1) = cntW B hrs w t (v + 1) from by rw [cntW_s, ← hn9]; first | rw [if_pos (pB_t.mpr ⟨⟨by omega, by omega⟩, by omega⟩)] | rw [if_neg (fun z => by (rcases pB_t.mp z with ⟨⟨z1, z2⟩, z3⟩); omega)]), (show (n9 + 1) ≤ (v + 1) from by omega)⟩ _ _ _ (lv_sub hl [0, 2, 4, 5, 1, 6] rfl) hP hD hS
