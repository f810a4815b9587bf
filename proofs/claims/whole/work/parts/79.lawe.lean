/-! THE LAW: images and read, the invariant kept -/
theorem up_s {α : Type} (f : Nat → α) (k : Nat) (v : α) : va_up f k v k = v := by unfold va_up; rw [if_pos rfl]
theorem up_o {α : Type} (f : Nat → α) {k j : Nat} (h : j ≠ k) (v : α) : va_up f k v j = f j := by unfold va_up; rw [if_neg h]
theorem cp_in (mg B : Nat → Nat) (o : Nat) {j : Nat} (h : j < 212) : cpTo mg o B 212 (o + j) = B j := by unfold cpTo; rw [if_pos (by omega), Nat.add_sub_cancel_left]
theorem cp_out (mg B : Nat → Nat) {v w j : Nat} (hv : (v = 0 ∧ w = 1) ∨ (v = 1 ∧ w = 0)) (h : j < 212) : cpTo mg (212 * v) B 212 (212 * w + j) = mg (212 * w + j) := by unfold cpTo; rw [if_neg (by omega)]
theorem IMv {tA : Nat → ClassId} {im : Nat → Option Nat} {kp mg q B d0 d1 d2 d3 d4 d5 hs2 wf2 wt2 : Nat → Nat} {v : Nat} {n0 : Nat} {c0 : Nat → Nat} {n1 : Nat} {c1 : Nat → Nat} {n2 : Nat} {c2 : Nat → Nat} {n3 : Nat} {c3 : Nat → Nat} {n4 : Nat} {c4 : Nat → Nat} {n5 : Nat} {c5 : Nat → Nat} {hs : Nat → Nat} {wf : Nat → Nat} {wt : Nat → Nat} (hR : Rep n0 c0 n1 c1 n2 c2 n3 c3 n4 c4 n5 c5 hs wf wt B) (hw : WB B) (hd : (∀ j, d0 j < 1048576) ∧ (∀ j, d1 j < 1048576) ∧ (∀ j, d2 j < 1048576) ∧ (∀ j, d3 j < 1048576) ∧ (∀ j, d4 j < 1048576) ∧ (∀ j, d5 j < 1048576) ∧ (∀ j, hs2 j < 1048576) ∧ (∀ j, wf2 j < 1048576) ∧ (∀ j, wt2 j < 1048576)) (hmg : Bd mg) (him : im v = some (q 0)) : IMt tA im (updN kp v 1) (cpTo mg (212 * v) B 212) v (blA tA q n0 (cpyN c0 d0 40) n1 (cpyN c1 d1 40) n2 (cpyN c2 d2 40) n3 (cpyN c3 d3 40) n4 (cpyN c4 d4 40) n5 (cpyN c5 d5 40) (cpyN hs hs2 5) (cpyN wf wf2 5) (cpyN wt wt2 40)) := by
  obtain ⟨h0, h1, h2, h3, h4, h5, hh, hf, ht⟩ := hd
  obtain ⟨a1, a2⟩ := Rep_copy (B2 := fun z => cpTo mg (212 * v) B 212 (212 * v + z)) hR hw h0 h1 h2 h3 h4 h5 hh hf ht (fun j => cpTo_lt hmg hw.2.1 _ _ _) (fun j hj => cp_in mg B (212 * v) hj)
  exact .inr ⟨q, n0, _, n1, _, n2, _, n3, _, n4, _, n5, _, _, _, _, him, updN_s _ _ _, rfl, a1, a2⟩
theorem IMw {tA : Nat → ClassId} {im im2 : Nat → Option Nat} {kp kp2 mg mg2 : Nat → Nat} {w : Nat} {t : va_W} (h : IMt tA im kp mg w t) (e1 : im2 w = im w) (e2 : kp2 w = kp w) (hB : Bd mg2) (e3 : ∀ z, z < 212 → mg2 (212 * w + z) = mg (212 * w + z)) : IMt tA im2 kp2 mg2 w t := by
  rcases h with ⟨b1, b2, b3⟩ | ⟨q, n0, c0, n1, c1, n2, c2, n3, c3, n4, c4, n5, c5, hs, wf, wt, b1, b2, b3, b4, b5⟩
  · exact .inl ⟨e1.trans b1, e2.trans b2, b3⟩
  · obtain ⟨a1, a2⟩ := Rep_book (B2 := fun z => mg2 (212 * w + z)) b4 b5 (fun j => hB _) (fun j hj => e3 j hj)
    exact .inr ⟨q, n0, c0, n1, c1, n2, c2, n3, c3, n4, c4, n5, c5, hs, wf, wt, e1.trans b1, e2.trans b2, b3, a1, a2⟩
theorem IMq {tA : Nat → ClassId} {im : Nat → Option Nat} {kp mg q : Nat → Nat} {v : Nat} {n0 : Nat} {c0 : Nat → Nat} {n1 : Nat} {c1 : Nat → Nat} {n2 : Nat} {c2 : Nat → Nat} {n3 : Nat} {c3 : Nat → Nat} {n4 : Nat} {c4 : Nat → Nat} {n5 : Nat} {c5 : Nat → Nat} {hs : Nat → Nat} {wf : Nat → Nat} {wt : Nat → Nat} (him : im v = some (q 0)) (hk : kp v = 1) (hR : Rep n0 c0 n1 c1 n2 c2 n3 c3 n4 c4 n5 c5 hs wf wt (fun z => mg (212 * v + z))) (hw : WB (fun z => mg (212 * v + z))) : IMt tA im kp mg v (blA tA q n0 c0 n1 c1 n2 c2 n3 c3 n4 c4 n5 c5 hs wf wt) := .inr ⟨q, n0, c0, n1, c1, n2, c2, n3, c3, n4, c4, n5, c5, hs, wf, wt, him, hk, rfl, hR, hw⟩
theorem LI_sw {G : va_G} {tA : Nat → ClassId} {A : Nat → Prop} {o b : Nat → Nat} {H : Heap} {te : Nat → Nat} {tg : Nat → Nat} {ts : Nat → Nat} {td : Nat → Nat} {a : Nat → Nat} {dr : Nat → Nat} {abv : Nat} {blw : Nat} {rf : Nat → Int32} {n0 : Nat} {c0 : Nat → Nat} {n1 : Nat} {c1 : Nat → Nat} {n2 : Nat} {c2 : Nat → Nat} {n3 : Nat} {c3 : Nat → Nat} {n4 : Nat} {c4 : Nat → Nat} {n5 : Nat} {c5 : Nat → Nat} {hs : Nat → Nat} {wf : Nat → Nat} {wt : Nat → Nat} {sz : Nat} {at1 : Nat} {sta : Nat} {tok : Nat} {val : Nat} {man : Nat} {B : Nat → Nat} {at0 : Nat} {tx : Nat → Nat} {nu : Nat → Int32} {ru : Nat} {F : Nat → Nat} {sy : Nat → Nat} {nd : Nat → Nat} {fw : Nat → Nat} {pl : Nat → Nat} {ro : Nat → Nat} {my : Nat → Nat} {sh : Nat → Nat} {sb : Nat → Nat} {smo : Nat} {hrs : Nat → Nat} {be : Nat → Nat} {lf : Nat → Nat} {gt : Nat → Nat} {hp : Nat → Nat} {dmo : Nat} {ge : Nat → Nat} {go : Nat → Nat} {im : Nat → Option Nat} {mg : Nat → Nat} {kp : Nat → Nat} {nn : Nat → Nat} {cc : Nat → Nat → Nat} {hs2 : Nat → Nat} {wf2 : Nat → Nat} {wt2 : Nat → Nat} {asd : Nat → Nat} {itm : Nat → Nat} {t0 t1 : va_W} (hW : WP G A ((blX tA o te tg ts td a dr abv blw rf) ++ ((blA tA a n0 c0 n1 c1 n2 c2 n3 c3 n4 c4 n5 c5 hs wf wt) ++ ((blM tA b abv blw sz at1 sta tok val man B rf) ++ ((blT tA te sz at0) ++ ((blV tA te tx nu) ++ ((blU tA b tx) ++ ((blK tA tg ru F sy nd) ++ ((blF tA b fw pl ro) ++ ((blS tA ts my sh sb smo) ++ ((blH tA b hrs be) ++ ((blD tA td lf gt hp dmo) ++ ((blO tA b ge go) ++ ((blI tA o im) ++ ((blJ tA b mg kp) ++ ((blR tA dr nn cc hs2 wf2 wt2) ++ ((blZ tA b asd itm) ++ (t0 ++ t1))))))))))))))))) H) : WP G A ((blX tA o te tg ts td a dr abv blw rf) ++ ((blA tA a n0 c0 n1 c1 n2 c2 n3 c3 n4 c4 n5 c5 hs wf wt) ++ ((blM tA b abv blw sz at1 sta tok val man B rf) ++ ((blT tA te sz at0) ++ ((blV tA te tx nu) ++ ((blU tA b tx) ++ ((blK tA tg ru F sy nd) ++ ((blF tA b fw pl ro) ++ ((blS tA ts my sh sb smo) ++ ((blH tA b hrs be) ++ ((blD tA td lf gt hp dmo) ++ ((blO tA b ge go) ++ ((blI tA o im) ++ ((blJ tA b mg kp) ++ ((blR tA dr nn cc hs2 wf2 wt2) ++ ((blZ tA b asd itm) ++ (t1 ++ t0))))))))))))))))) H := WP_perm (ul _ (ul _ (ul _ (ul _ (ul _ (ul _ (ul _ (ul _ (ul _ (ul _ (ul _ (ul _ (ul _ (ul _ (ul _ (ul _ List.perm_append_comm)))))))))))))))) hW
theorem LI_mk2 {G : va_G} {tA : Nat → ClassId} {A : Nat → Prop} {o b : Nat → Nat} {H : Heap} {v w : Nat} (hv : (v = 0 ∧ w = 1) ∨ (v = 1 ∧ w = 0)) (te : Nat → Nat) (tg : Nat → Nat) (ts : Nat → Nat) (td : Nat → Nat) (a : Nat → Nat) (dr : Nat → Nat) (abv : Nat) (blw : Nat) (rf : Nat → Int32) (n0 : Nat) (c0 : Nat → Nat) (n1 : Nat) (c1 : Nat → Nat) (n2 : Nat) (c2 : Nat → Nat) (n3 : Nat) (c3 : Nat → Nat) (n4 : Nat) (c4 : Nat → Nat) (n5 : Nat) (c5 : Nat → Nat) (hs : Nat → Nat) (wf : Nat → Nat) (wt : Nat → Nat) (sz : Nat) (at1 : Nat) (sta : Nat) (tok : Nat) (val : Nat) (man : Nat) (B : Nat → Nat) (at0 : Nat) (tx : Nat → Nat) (nu : Nat → Int32) (ru : Nat) (F : Nat → Nat) (sy : Nat → Nat) (nd : Nat → Nat) (fw : Nat → Nat) (pl : Nat → Nat) (ro : Nat → Nat) (my : Nat → Nat) (sh : Nat → Nat) (sb : Nat → Nat) (smo : Nat) (hrs : Nat → Nat) (be : Nat → Nat) (lf : Nat → Nat) (gt : Nat → Nat) (hp : Nat → Nat) (dmo : Nat) (ge : Nat → Nat) (go : Nat → Nat) (im : Nat → Option Nat) (mg : Nat → Nat) (kp : Nat → Nat) (nn : Nat → Nat) (cc : Nat → Nat → Nat) (hs2 : Nat → Nat) (wf2 : Nat → Nat) (wt2 : Nat → Nat) (asd : Nat → Nat) (itm : Nat → Nat) (tv tw : va_W) (hJ : JJ n0 c0 n1 c1 n2 c2 n3 c3 n4 c4 n5 c5 hs wf wt B nn cc hs2 wf2 wt2 sz val smo dmo hp kp tx F sy nd fw pl ro my sh sb hrs be lf gt ge go mg asd itm) (hIv : IMt tA im kp mg v tv) (hIw : IMt tA im kp mg w tw) (hW : WP G A ((blX tA o te tg ts td a dr abv blw rf) ++ ((blA tA a n0 c0 n1 c1 n2 c2 n3 c3 n4 c4 n5 c5 hs wf wt) ++ ((blM tA b abv blw sz at1 sta tok val man B rf) ++ ((blT tA te sz at0) ++ ((blV tA te tx nu) ++ ((blU tA b tx) ++ ((blK tA tg ru F sy nd) ++ ((blF tA b fw pl ro) ++ ((blS tA ts my sh sb smo) ++ ((blH tA b hrs be) ++ ((blD tA td lf gt hp dmo) ++ ((blO tA b ge go) ++ ((blI tA o im) ++ ((blJ tA b mg kp) ++ ((blR tA dr nn cc hs2 wf2 wt2) ++ ((blZ tA b asd itm) ++ (tv ++ tw))))))))))))))))) H) : LI G tA A o b H := by
  rcases hv with ⟨z1, z2⟩ | ⟨z1, z2⟩
  · subst z1; subst z2; exact LI_mk te tg ts td a dr abv blw rf n0 c0 n1 c1 n2 c2 n3 c3 n4 c4 n5 c5 hs wf wt sz at1 sta tok val man B at0 tx nu ru F sy nd fw pl ro my sh sb smo hrs be lf gt hp dmo ge go im mg kp nn cc hs2 wf2 wt2 asd itm tv tw hJ hIv hIw hW
  · subst z1; subst z2; exact LI_mk te tg ts td a dr abv blw rf n0 c0 n1 c1 n2 c2 n3 c3 n4 c4 n5 c5 hs wf wt sz at1 sta tok val man B at0 tx nu ru F sy nd fw pl ro my sh sb smo hrs be lf gt hp dmo ge go im mg kp nn cc hs2 wf2 wt2 asd itm tw tv hJ hIw hIv (LI_sw hW)
set_option maxHeartbeats 4000000 in
set_option maxRecDepth 100000 in
theorem w_k27_bad {p : Program} {l : Launch} {e : Env} {s : State} {m : MethodId} {args : Array Value} {below : List Frame} {meth : Method} {c : Code} {Q : State → Prop} {G : va_G} {tA : Nat → ClassId} {A : Nat → Prop} {H : Heap} {locs : List Loc} {ls : Array Slot} {cells slots sb0 L i : Nat} {xs : Nat → Int32} {o b : Nat → Nat} (hx : p.tables.exec = Jvm.exec) (hb : c.code = cL_law) (hml : c.maxLocals = 4) (hown : s.vm.findClass RL = some m.cls) (hts : ∀ w ∈ lw_tbl, w.before args s = true) (hKK : kk G tA s) (hX : va_X sb0 L xs s s.heap) (hbl : sb0 < s.heap.size) (hbA : ¬ A sb0) (hA : ∀ q, s.heap.size ≤ q → A q) (hL : L < 2 ^ 31) (hi5 : i + 5 ≤ L) (hrm : cells + 16 ≤ room_1.cells ∧ slots + 323 ≤ room_1.slots) (hLI : LI G tA A o b H) (hbad : ¬ (0 ≤ (xs (i + 1)).toInt ∧ (xs (i + 1)).toInt < 2)) (hS : va_S A s.heap H locs) (hl : lv_has ls 4 [(0, .ref sb0), (1, .ref (o 0)), (2, .ref (b 0)), (3, .int (nI i))]) (k : ∀ (H : Heap) (locs : List Loc), LI G tA A o b H → va_S A s.heap H locs → W p l e room_1 s m args below meth c H locs (cells + 16) (slots + 323) Q (F0 m 1104 ls [])) : W p l e room_1 s m args below meth c H locs cells slots Q (F0 m 998 ls []) := by
  refine LI_elim hLI (fun te tg ts td a dr abv blw rf n0 c0 n1 c1 n2 c2 n3 c3 n4 c4 n5 c5 hs wf wt sz at1 sta tok val man B at0 tx nu ru F sy nd fw pl ro my sh sb smo hrs be lf gt hp dmo ge go im mg kp nn cc hs2 wf2 wt2 asd itm t0 t1 hJ hI0 hI1 hW => ?_)
  obtain ⟨⟨hR, hWB⟩, hCd, hty, hvl, hsm, hdm, hsy8, hhp, hkp, h_tx, h_F, h_sy, h_nd, h_fw, h_pl, h_ro, h_my, h_sh, h_sb, h_hrs, h_be, h_lf, h_gt, h_ge, h_go, h_mg, h_asd, h_itm⟩ := hJ
  obtain ⟨m0, m1, m2, m3, m4, m5⟩ := hR.1
  subst m0; subst m1; subst m2; subst m3; subst m4; subst m5
  obtain ⟨hn0, hn1, hn2, hn3, hn4, hn5⟩ := hWB.1
  have hCW := CW_of hR hWB
  have hc : ¬ (0 ≤ (xs (i + 1)).toInt ∧ (xs (i + 1)).toInt ≤ 1) := fun z => hbad ⟨z.1, by omega⟩
  have hW := WP_perm (ul _ (ul _ (ul _ (ul _ (ul _ (ul _ (ul _ (ul _ (ul _ (ul _ (ul _ (sw _ _ _)))))))))))) hW
  have hW := WP_perm (ul _ (ul _ (ul _ (ul _ (ul _ (ul _ (ul _ (ul _ (ul _ (ul _ (sw _ _ _))))))))))) hW
  have hW := WP_perm (ul _ (ul _ (ul _ (ul _ (ul _ (ul _ (ul _ (ul _ (ul _ (sw _ _ _)))))))))) hW
  have hW := WP_perm (ul _ (ul _ (ul _ (ul _ (ul _ (ul _ (ul _ (ul _ (sw _ _ _))))))))) hW
  have hW := WP_perm (ul _ (ul _ (ul _ (ul _ (ul _ (ul _ (ul _ (sw _ _ _)))))))) hW
  have hW := WP_perm (ul _ (ul _ (ul _ (ul _ (ul _ (ul _ (sw _ _ _))))))) hW
  have hW := WP_perm (ul _ (ul _ (ul _ (ul _ (ul _ (sw _ _ _)))))) hW
  have hW := WP_perm (ul _ (ul _ (ul _ (ul _ (sw _ _ _))))) hW
  have hW := WP_perm (ul _ (ul _ (ul _ (sw _ _ _)))) hW
  have hW := WP_perm (ul _ (ul _ (sw _ _ _))) hW
  have hW := WP_perm (ul _ (sw _ _ _)) hW
  have hW := WP_perm (ul _ (ul _ (ul _ (ul _ (ul _ (ul _ (ul _ (ul _ (ul _ (ul _ (ul _ (ul _ (sw _ _ _))))))))))))) hW
  have hW := WP_perm (ul _ (ul _ (ul _ (ul _ (ul _ (ul _ (ul _ (ul _ (ul _ (ul _ (ul _ (sw _ _ _)))))))))))) hW
  have hW := WP_perm (ul _ (ul _ (ul _ (ul _ (ul _ (ul _ (ul _ (ul _ (ul _ (ul _ (sw _ _ _))))))))))) hW
  have hW := WP_perm (ul _ (ul _ (ul _ (ul _ (ul _ (ul _ (ul _ (ul _ (ul _ (sw _ _ _)))))))))) hW
  have hW := WP_perm (ul _ (ul _ (ul _ (ul _ (ul _ (ul _ (ul _ (ul _ (sw _ _ _))))))))) hW
  have hW := WP_perm (ul _ (ul _ (ul _ (ul _ (ul _ (ul _ (ul _ (sw _ _ _)))))))) hW
  have hW := WP_perm (ul _ (ul _ (ul _ (ul _ (ul _ (ul _ (sw _ _ _))))))) hW
  have hW := WP_perm (ul _ (ul _ (ul _ (ul _ (ul _ (sw _ _ _)))))) hW
  have hW := WP_perm (ul _ (ul _ (ul _ (ul _ (sw _ _ _))))) hW
  obtain ⟨hP, hD⟩ := (cv_XIAMJ (tl := ((blT tA te sz at0) ++ ((blV tA te tx nu) ++ ((blU tA b tx) ++ ((blK tA tg ru F sy nd) ++ ((blF tA b fw pl ro) ++ ((blS tA ts my sh sb smo) ++ ((blH tA b hrs be) ++ ((blD tA td lf gt hp dmo) ++ ((blO tA b ge go) ++ ((blR tA dr nn cc hs2 wf2 wt2) ++ ((blZ tA b asd itm) ++ (t0 ++ t1)))))))))))))).mp hW
  refine law_k27_bad (tl := ((blT tA te sz at0) ++ ((blV tA te tx nu) ++ ((blU tA b tx) ++ ((blK tA tg ru F sy nd) ++ ((blF tA b fw pl ro) ++ ((blS tA ts my sh sb smo) ++ ((blH tA b hrs be) ++ ((blD tA td lf gt hp dmo) ++ ((blO tA b ge go) ++ ((blR tA dr nn cc hs2 wf2 wt2) ++ ((blZ tA b asd itm) ++ (t0 ++ t1))))))))))))) (te := te) (tg := tg) (ts := ts) (td := td) (a := a) (dr := dr) (abv := abv) (blw := blw) (rf := rf) (im := im) (n0 := B 0) (c0 := c0) (n1 := B 1) (c1 := c1) (n2 := B 2) (c2 := c2) (n3 := B 3) (c3 := c3) (n4 := B 4) (c4 := c4) (n5 := B 5) (c5 := c5) (hs := hs) (wf := wf) (wt := wt) (sz := sz) (at1 := at1) (sta := sta) (tok := tok) (val := val) (man := man) (B := B) (mg := mg) (kp := kp) hx hb hml hown hts hKK hX hbl hbA hA hL hi5 hrm hWB hbad hP hD hS hl ?_
  refine ⟨(by rw [if_neg hc]), fun H locs hP hD hS => ?_⟩
  refine W.widen (k := cells + 16) (n := slots + 323) (by omega) (by omega) ?_
  have ec : (tdS rf (-2)) = (bump 0 rf 0) := td_bad rf
  rw [ec] at hP hD
  rw [if_neg hc, if_neg hc, if_neg hc] at hP hD
  have hW : WP G A ((blX tA o te tg ts td a dr abv blw (bump 0 rf 0)) ++ ((blI tA o im) ++ ((blA tA a (B 0) c0 (B 1) c1 (B 2) c2 (B 3) c3 (B 4) c4 (B 5) c5 hs wf wt) ++ ((blM tA b abv blw sz at1 sta tok val man B (bump 0 rf 0)) ++ ((blJ tA b mg kp) ++ ((blT tA te sz at0) ++ ((blV tA te tx nu) ++ ((blU tA b tx) ++ ((blK tA tg ru F sy nd) ++ ((blF tA b fw pl ro) ++ ((blS tA ts my sh sb smo) ++ ((blH tA b hrs be) ++ ((blD tA td lf gt hp dmo) ++ ((blO tA b ge go) ++ ((blR tA dr nn cc hs2 wf2 wt2) ++ ((blZ tA b asd itm) ++ (t0 ++ t1))))))))))))))))) H := (cv_XIAMJ (tl := ((blT tA te sz at0) ++ ((blV tA te tx nu) ++ ((blU tA b tx) ++ ((blK tA tg ru F sy nd) ++ ((blF tA b fw pl ro) ++ ((blS tA ts my sh sb smo) ++ ((blH tA b hrs be) ++ ((blD tA td lf gt hp dmo) ++ ((blO tA b ge go) ++ ((blR tA dr nn cc hs2 wf2 wt2) ++ ((blZ tA b asd itm) ++ (t0 ++ t1))))))))))))) (o := o) (te := te) (tg := tg) (ts := ts) (td := td) (a := a) (dr := dr) (abv := abv) (blw := blw) (rf := bump 0 rf 0) (im := im) (n0 := (B 0)) (c0 := c0) (n1 := (B 1)) (c1 := c1) (n2 := (B 2)) (c2 := c2) (n3 := (B 3)) (c3 := c3) (n4 := (B 4)) (c4 := c4) (n5 := (B 5)) (c5 := c5) (hs := hs) (wf := wf) (wt := wt) (b := b) (sz := sz) (at1 := at1) (sta := sta) (tok := tok) (val := val) (man := man) (B := B) (mg := mg) (kp := kp)).mpr ⟨hP, hD⟩
  have hW := WP_perm (ul _ (sw _ _ _)) hW
  have hW := WP_perm (ul _ (ul _ (sw _ _ _))) hW
  have hW := WP_perm (ul _ (ul _ (ul _ (ul _ (sw _ _ _))))) hW
  have hW := WP_perm (ul _ (ul _ (ul _ (sw _ _ _)))) hW
  have hW := WP_perm (ul _ (ul _ (ul _ (ul _ (ul _ (sw _ _ _)))))) hW
  have hW := WP_perm (ul _ (ul _ (ul _ (ul _ (sw _ _ _))))) hW
  have hW := WP_perm (ul _ (ul _ (ul _ (ul _ (ul _ (ul _ (sw _ _ _))))))) hW
  have hW := WP_perm (ul _ (ul _ (ul _ (ul _ (ul _ (sw _ _ _)))))) hW
  have hW := WP_perm (ul _ (ul _ (ul _ (ul _ (ul _ (ul _ (ul _ (sw _ _ _)))))))) hW
  have hW := WP_perm (ul _ (ul _ (ul _ (ul _ (ul _ (ul _ (sw _ _ _))))))) hW
  have hW := WP_perm (ul _ (ul _ (ul _ (ul _ (ul _ (ul _ (ul _ (ul _ (sw _ _ _))))))))) hW
  have hW := WP_perm (ul _ (ul _ (ul _ (ul _ (ul _ (ul _ (ul _ (sw _ _ _)))))))) hW
  have hW := WP_perm (ul _ (ul _ (ul _ (ul _ (ul _ (ul _ (ul _ (ul _ (ul _ (sw _ _ _)))))))))) hW
  have hW := WP_perm (ul _ (ul _ (ul _ (ul _ (ul _ (ul _ (ul _ (ul _ (sw _ _ _))))))))) hW
  have hW := WP_perm (ul _ (ul _ (ul _ (ul _ (ul _ (ul _ (ul _ (ul _ (ul _ (ul _ (sw _ _ _))))))))))) hW
  have hW := WP_perm (ul _ (ul _ (ul _ (ul _ (ul _ (ul _ (ul _ (ul _ (ul _ (sw _ _ _)))))))))) hW
  have hW := WP_perm (ul _ (ul _ (ul _ (ul _ (ul _ (ul _ (ul _ (ul _ (ul _ (ul _ (ul _ (sw _ _ _)))))))))))) hW
  have hW := WP_perm (ul _ (ul _ (ul _ (ul _ (ul _ (ul _ (ul _ (ul _ (ul _ (ul _ (sw _ _ _))))))))))) hW
  have hW := WP_perm (ul _ (ul _ (ul _ (ul _ (ul _ (ul _ (ul _ (ul _ (ul _ (ul _ (ul _ (ul _ (sw _ _ _))))))))))))) hW
  have hW := WP_perm (ul _ (ul _ (ul _ (ul _ (ul _ (ul _ (ul _ (ul _ (ul _ (ul _ (ul _ (sw _ _ _)))))))))))) hW
  exact k H locs (LI_mk te tg ts td a dr abv blw (bump 0 rf 0) (B 0) c0 (B 1) c1 (B 2) c2 (B 3) c3 (B 4) c4 (B 5) c5 hs wf wt sz at1 sta tok val man B at0 tx nu ru F sy nd fw pl ro my sh sb smo hrs be lf gt hp dmo ge go im mg kp nn cc hs2 wf2 wt2 asd itm t0 t1 ⟨⟨hR, hWB⟩, hCd, hty, hvl, hsm, hdm, hsy8, hhp, hkp, h_tx, h_F, h_sy, h_nd, h_fw, h_pl, h_ro, h_my, h_sh, h_sb, h_hrs, h_be, h_lf, h_gt, h_ge, h_go, h_mg, h_asd, h_itm⟩ hI0 hI1 hW) hS
set_option maxHeartbeats 4000000 in
set_option maxRecDepth 100000 in
theorem w_k27_old {p : Program} {l : Launch} {e : Env} {s : State} {m : MethodId} {args : Array Value} {below : List Frame} {meth : Method} {c : Code} {Q : State → Prop} {G : va_G} {tA : Nat → ClassId} {A : Nat → Prop} {H : Heap} {locs : List Loc} {ls : Array Slot} {cells slots sb0 L i : Nat} {xs : Nat → Int32} {o b : Nat → Nat} (hx : p.tables.exec = Jvm.exec) (hb : c.code = cL_law) (hml : c.maxLocals = 4) (hown : s.vm.findClass RL = some m.cls) (hts : ∀ w ∈ lw_tbl, w.before args s = true) (hKK : kk G tA s) (hX : va_X sb0 L xs s s.heap) (hbl : sb0 < s.heap.size) (hbA : ¬ A sb0) (hA : ∀ q, s.heap.size ≤ q → A q) (hL : L < 2 ^ 31) (hi5 : i + 5 ≤ L) (hrm : cells + 16 ≤ room_1.cells ∧ slots + 323 ≤ room_1.slots) {te : Nat → Nat} {tg : Nat → Nat} {ts : Nat → Nat} {td : Nat → Nat} {a : Nat → Nat} {dr : Nat → Nat} {abv : Nat} {blw : Nat} {rf : Nat → Int32} {n0 : Nat} {c0 : Nat → Nat} {n1 : Nat} {c1 : Nat → Nat} {n2 : Nat} {c2 : Nat → Nat} {n3 : Nat} {c3 : Nat → Nat} {n4 : Nat} {c4 : Nat → Nat} {n5 : Nat} {c5 : Nat → Nat} {hs : Nat → Nat} {wf : Nat → Nat} {wt : Nat → Nat} {sz : Nat} {at1 : Nat} {sta : Nat} {tok : Nat} {val : Nat} {man : Nat} {B : Nat → Nat} {at0 : Nat} {tx : Nat → Nat} {nu : Nat → Int32} {ru : Nat} {F : Nat → Nat} {sy : Nat → Nat} {nd : Nat → Nat} {fw : Nat → Nat} {pl : Nat → Nat} {ro : Nat → Nat} {my : Nat → Nat} {sh : Nat → Nat} {sb : Nat → Nat} {smo : Nat} {hrs : Nat → Nat} {be : Nat → Nat} {lf : Nat → Nat} {gt : Nat → Nat} {hp : Nat → Nat} {dmo : Nat} {ge : Nat → Nat} {go : Nat → Nat} {im : Nat → Option Nat} {mg : Nat → Nat} {kp : Nat → Nat} {nn : Nat → Nat} {cc : Nat → Nat → Nat} {hs2 : Nat → Nat} {wf2 : Nat → Nat} {wt2 : Nat → Nat} {asd : Nat → Nat} {itm : Nat → Nat} {q : Nat → Nat} {n0b : Nat} {c0b : Nat → Nat} {n1b : Nat} {c1b : Nat → Nat} {n2b : Nat} {c2b : Nat → Nat} {n3b : Nat} {c3b : Nat → Nat} {n4b : Nat} {c4b : Nat → Nat} {n5b : Nat} {c5b : Nat → Nat} {hsb : Nat → Nat} {wfb : Nat → Nat} {wtb : Nat → Nat} {w : Nat} {tw : va_W} (hv : ((xs (i + 1)).toInt.toNat = 0 ∧ w = 1) ∨ ((xs (i + 1)).toInt.toNat = 1 ∧ w = 0)) (hJ : JJ n0 c0 n1 c1 n2 c2 n3 c3 n4 c4 n5 c5 hs wf wt B nn cc hs2 wf2 wt2 sz val smo dmo hp kp tx F sy nd fw pl ro my sh sb hrs be lf gt ge go mg asd itm) (hIw : IMt tA im kp mg w tw) (hok : 0 ≤ (xs (i + 1)).toInt ∧ (xs (i + 1)).toInt < 2) (him : im (xs (i + 1)).toInt.toNat = some (q 0)) (hkv : kp (xs (i + 1)).toInt.toNat = 1) (hRq : Rep n0b c0b n1b c1b n2b c2b n3b c3b n4b c4b n5b c5b hsb wfb wtb (fun z => mg (212 * (xs (i + 1)).toInt.toNat + z))) (hWq : WB (fun z => mg (212 * (xs (i + 1)).toInt.toNat + z))) (hW : WP G A ((blX tA o te tg ts td a dr abv blw rf) ++ ((blA tA a n0 c0 n1 c1 n2 c2 n3 c3 n4 c4 n5 c5 hs wf wt) ++ ((blM tA b abv blw sz at1 sta tok val man B rf) ++ ((blT tA te sz at0) ++ ((blV tA te tx nu) ++ ((blU tA b tx) ++ ((blK tA tg ru F sy nd) ++ ((blF tA b fw pl ro) ++ ((blS tA ts my sh sb smo) ++ ((blH tA b hrs be) ++ ((blD tA td lf gt hp dmo) ++ ((blO tA b ge go) ++ ((blI tA o im) ++ ((blJ tA b mg kp) ++ ((blR tA dr nn cc hs2 wf2 wt2) ++ ((blZ tA b asd itm) ++ ((blQ tA q n0b c0b n1b c1b n2b c2b n3b c3b n4b c4b n5b c5b hsb wfb wtb) ++ tw))))))))))))))))) H) (hS : va_S A s.heap H locs) (hl : lv_has ls 4 [(0, .ref sb0), (1, .ref (o 0)), (2, .ref (b 0)), (3, .int (nI i))]) (k : ∀ (H : Heap) (locs : List Loc), LI G tA A o b H → va_S A s.heap H locs → W p l e room_1 s m args below meth c H locs (cells + 16) (slots + 323) Q (F0 m 1104 ls [])) : W p l e room_1 s m args below meth c H locs cells slots Q (F0 m 998 ls []) := by
  obtain ⟨⟨hR, hWB⟩, hCd, hty, hvl, hsm, hdm, hsy8, hhp, hkp, h_tx, h_F, h_sy, h_nd, h_fw, h_pl, h_ro, h_my, h_sh, h_sb, h_hrs, h_be, h_lf, h_gt, h_ge, h_go, h_mg, h_asd, h_itm⟩ := hJ
  obtain ⟨m0, m1, m2, m3, m4, m5⟩ := hR.1
  subst m0; subst m1; subst m2; subst m3; subst m4; subst m5
  obtain ⟨hn0, hn1, hn2, hn3, hn4, hn5⟩ := hWB.1
  have hCW := CW_of hR hWB
  have hc : 0 ≤ (xs (i + 1)).toInt ∧ (xs (i + 1)).toInt ≤ 1 := ⟨hok.1, by omega⟩
  have hCWb := CW_of hRq hWq
  have hW := WP_perm (ul _ (ul _ (ul _ (ul _ (ul _ (ul _ (ul _ (ul _ (ul _ (ul _ (ul _ (sw _ _ _)))))))))))) hW
  have hW := WP_perm (ul _ (ul _ (ul _ (ul _ (ul _ (ul _ (ul _ (ul _ (ul _ (ul _ (sw _ _ _))))))))))) hW
  have hW := WP_perm (ul _ (ul _ (ul _ (ul _ (ul _ (ul _ (ul _ (ul _ (ul _ (sw _ _ _)))))))))) hW
  have hW := WP_perm (ul _ (ul _ (ul _ (ul _ (ul _ (ul _ (ul _ (ul _ (sw _ _ _))))))))) hW
  have hW := WP_perm (ul _ (ul _ (ul _ (ul _ (ul _ (ul _ (ul _ (sw _ _ _)))))))) hW
  have hW := WP_perm (ul _ (ul _ (ul _ (ul _ (ul _ (ul _ (sw _ _ _))))))) hW
  have hW := WP_perm (ul _ (ul _ (ul _ (ul _ (ul _ (sw _ _ _)))))) hW
  have hW := WP_perm (ul _ (ul _ (ul _ (ul _ (sw _ _ _))))) hW
  have hW := WP_perm (ul _ (ul _ (ul _ (sw _ _ _)))) hW
  have hW := WP_perm (ul _ (ul _ (sw _ _ _))) hW
  have hW := WP_perm (ul _ (sw _ _ _)) hW
  have hW := WP_perm (ul _ (ul _ (ul _ (ul _ (ul _ (ul _ (ul _ (ul _ (ul _ (ul _ (ul _ (ul _ (ul _ (ul _ (ul _ (sw _ _ _)))))))))))))))) hW
  have hW := WP_perm (ul _ (ul _ (ul _ (ul _ (ul _ (ul _ (ul _ (ul _ (ul _ (ul _ (ul _ (ul _ (ul _ (ul _ (sw _ _ _))))))))))))))) hW
  have hW := WP_perm (ul _ (ul _ (ul _ (ul _ (ul _ (ul _ (ul _ (ul _ (ul _ (ul _ (ul _ (ul _ (ul _ (sw _ _ _)))))))))))))) hW
  have hW := WP_perm (ul _ (ul _ (ul _ (ul _ (ul _ (ul _ (ul _ (ul _ (ul _ (ul _ (ul _ (ul _ (sw _ _ _))))))))))))) hW
  have hW := WP_perm (ul _ (ul _ (ul _ (ul _ (ul _ (ul _ (ul _ (ul _ (ul _ (ul _ (ul _ (sw _ _ _)))))))))))) hW
  have hW := WP_perm (ul _ (ul _ (ul _ (ul _ (ul _ (ul _ (ul _ (ul _ (ul _ (ul _ (sw _ _ _))))))))))) hW
  have hW := WP_perm (ul _ (ul _ (ul _ (ul _ (ul _ (ul _ (ul _ (ul _ (ul _ (sw _ _ _)))))))))) hW
  have hW := WP_perm (ul _ (ul _ (ul _ (ul _ (ul _ (ul _ (ul _ (ul _ (sw _ _ _))))))))) hW
  have hW := WP_perm (ul _ (ul _ (ul _ (ul _ (ul _ (ul _ (ul _ (sw _ _ _)))))))) hW
  have hW := WP_perm (ul _ (ul _ (ul _ (ul _ (ul _ (ul _ (sw _ _ _))))))) hW
  have hW := WP_perm (ul _ (ul _ (ul _ (ul _ (ul _ (sw _ _ _)))))) hW
  have hW := WP_perm (ul _ (ul _ (ul _ (ul _ (sw _ _ _))))) hW
  have hW := WP_perm (ul _ (ul _ (ul _ (sw _ _ _)))) hW
  have hW := WP_perm (ul _ (ul _ (sw _ _ _))) hW
  have hW := WP_perm (ul _ (ul _ (ul _ (ul _ (ul _ (ul _ (ul _ (ul _ (ul _ (ul _ (ul _ (ul _ (ul _ (sw _ _ _)))))))))))))) hW
  have hW := WP_perm (ul _ (ul _ (ul _ (ul _ (ul _ (ul _ (ul _ (ul _ (ul _ (ul _ (ul _ (ul _ (sw _ _ _))))))))))))) hW
  have hW := WP_perm (ul _ (ul _ (ul _ (ul _ (ul _ (ul _ (ul _ (ul _ (ul _ (ul _ (ul _ (sw _ _ _)))))))))))) hW
  have hW := WP_perm (ul _ (ul _ (ul _ (ul _ (ul _ (ul _ (ul _ (ul _ (ul _ (ul _ (sw _ _ _))))))))))) hW
  have hW := WP_perm (ul _ (ul _ (ul _ (ul _ (ul _ (ul _ (ul _ (ul _ (ul _ (sw _ _ _)))))))))) hW
  have hW := WP_perm (ul _ (ul _ (ul _ (ul _ (ul _ (ul _ (ul _ (ul _ (sw _ _ _))))))))) hW
  have hW := WP_perm (ul _ (ul _ (ul _ (ul _ (ul _ (ul _ (ul _ (sw _ _ _)))))))) hW
  have hW := WP_perm (ul _ (ul _ (ul _ (ul _ (ul _ (ul _ (sw _ _ _))))))) hW
  have hW := WP_perm (ul _ (ul _ (ul _ (ul _ (ul _ (sw _ _ _)))))) hW
  obtain ⟨hP, hD⟩ := (cv_XIQAMJ (tl := ((blT tA te sz at0) ++ ((blV tA te tx nu) ++ ((blU tA b tx) ++ ((blK tA tg ru F sy nd) ++ ((blF tA b fw pl ro) ++ ((blS tA ts my sh sb smo) ++ ((blH tA b hrs be) ++ ((blD tA td lf gt hp dmo) ++ ((blO tA b ge go) ++ ((blR tA dr nn cc hs2 wf2 wt2) ++ ((blZ tA b asd itm) ++ tw))))))))))))).mp hW
  refine law_k27_old (tl := ((blT tA te sz at0) ++ ((blV tA te tx nu) ++ ((blU tA b tx) ++ ((blK tA tg ru F sy nd) ++ ((blF tA b fw pl ro) ++ ((blS tA ts my sh sb smo) ++ ((blH tA b hrs be) ++ ((blD tA td lf gt hp dmo) ++ ((blO tA b ge go) ++ ((blR tA dr nn cc hs2 wf2 wt2) ++ ((blZ tA b asd itm) ++ tw)))))))))))) (te := te) (tg := tg) (ts := ts) (td := td) (a := a) (dr := dr) (abv := abv) (blw := blw) (rf := rf) (im := im) (q := q) (n0b := n0b) (c0b := c0b) (n1b := n1b) (c1b := c1b) (n2b := n2b) (c2b := c2b) (n3b := n3b) (c3b := c3b) (n4b := n4b) (c4b := c4b) (n5b := n5b) (c5b := c5b) (hsb := hsb) (wfb := wfb) (wtb := wtb) (n0 := B 0) (c0 := c0) (n1 := B 1) (c1 := c1) (n2 := B 2) (c2 := c2) (n3 := B 3) (c3 := c3) (n4 := B 4) (c4 := c4) (n5 := B 5) (c5 := c5) (hs := hs) (wf := wf) (wt := wt) (sz := sz) (at1 := at1) (sta := sta) (tok := tok) (val := val) (man := man) (B := B) (mg := mg) (kp := kp) hx hb hml hown hts hKK hX hbl hbA hA hL hi5 hrm hWB hCW hCWb hok him hP hD hS hl ?_
  refine ⟨(by rw [if_pos hc]), fun H locs hP hD hS => ?_⟩
  refine W.widen (k := cells + 16) (n := slots + 323) (by omega) (by omega) ?_
  rw [if_pos hc, if_pos hc, if_pos hc] at hP hD
  have hW : WP G A ((blX tA o te tg ts td a dr abv blw rf) ++ ((blI tA o im) ++ ((blQ tA q (B 0) (cpyN c0 c0b 40) (B 1) (cpyN c1 c1b 40) (B 2) (cpyN c2 c2b 40) (B 3) (cpyN c3 c3b 40) (B 4) (cpyN c4 c4b 40) (B 5) (cpyN c5 c5b 40) (cpyN hs hsb 5) (cpyN wf wfb 5) (cpyN wt wtb 40)) ++ ((blA tA a (B 0) c0 (B 1) c1 (B 2) c2 (B 3) c3 (B 4) c4 (B 5) c5 hs wf wt) ++ ((blM tA b abv blw sz at1 sta tok val man B rf) ++ ((blJ tA b (cpTo mg (212 * ((xs (i + 1)).toInt).toNat) B 212) (updN kp ((xs (i + 1)).toInt).toNat 1)) ++ ((blT tA te sz at0) ++ ((blV tA te tx nu) ++ ((blU tA b tx) ++ ((blK tA tg ru F sy nd) ++ ((blF tA b fw pl ro) ++ ((blS tA ts my sh sb smo) ++ ((blH tA b hrs be) ++ ((blD tA td lf gt hp dmo) ++ ((blO tA b ge go) ++ ((blR tA dr nn cc hs2 wf2 wt2) ++ ((blZ tA b asd itm) ++ tw))))))))))))))))) H := (cv_XIQAMJ (tl := ((blT tA te sz at0) ++ ((blV tA te tx nu) ++ ((blU tA b tx) ++ ((blK tA tg ru F sy nd) ++ ((blF tA b fw pl ro) ++ ((blS tA ts my sh sb smo) ++ ((blH tA b hrs be) ++ ((blD tA td lf gt hp dmo) ++ ((blO tA b ge go) ++ ((blR tA dr nn cc hs2 wf2 wt2) ++ ((blZ tA b asd itm) ++ tw)))))))))))) (o := o) (te := te) (tg := tg) (ts := ts) (td := td) (a := a) (dr := dr) (abv := abv) (blw := blw) (rf := rf) (im := im) (q := q) (n0b := (B 0)) (c0b := cpyN c0 c0b 40) (n1b := (B 1)) (c1b := cpyN c1 c1b 40) (n2b := (B 2)) (c2b := cpyN c2 c2b 40) (n3b := (B 3)) (c3b := cpyN c3 c3b 40) (n4b := (B 4)) (c4b := cpyN c4 c4b 40) (n5b := (B 5)) (c5b := cpyN c5 c5b 40) (hsb := cpyN hs hsb 5) (wfb := cpyN wf wfb 5) (wtb := cpyN wt wtb 40) (n0 := (B 0)) (c0 := c0) (n1 := (B 1)) (c1 := c1) (n2 := (B 2)) (c2 := c2) (n3 := (B 3)) (c3 := c3) (n4 := (B 4)) (c4 := c4) (n5 := (B 5)) (c5 := c5) (hs := hs) (wf := wf) (wt := wt) (b := b) (sz := sz) (at1 := at1) (sta := sta) (tok := tok) (val := val) (man := man) (B := B) (mg := cpTo mg (212 * ((xs (i + 1)).toInt).toNat) B 212) (kp := updN kp ((xs (i + 1)).toInt).toNat 1)).mpr ⟨hP, hD⟩
  have hW := WP_perm (ul _ (ul _ (sw _ _ _))) hW
  have hW := WP_perm (ul _ (sw _ _ _)) hW
  have hW := WP_perm (ul _ (ul _ (ul _ (sw _ _ _)))) hW
  have hW := WP_perm (ul _ (ul _ (sw _ _ _))) hW
  have hW := WP_perm (ul _ (ul _ (ul _ (ul _ (ul _ (sw _ _ _)))))) hW
  have hW := WP_perm (ul _ (ul _ (ul _ (ul _ (sw _ _ _))))) hW
  have hW := WP_perm (ul _ (ul _ (ul _ (sw _ _ _)))) hW
  have hW := WP_perm (ul _ (ul _ (ul _ (ul _ (ul _ (ul _ (sw _ _ _))))))) hW
  have hW := WP_perm (ul _ (ul _ (ul _ (ul _ (ul _ (sw _ _ _)))))) hW
  have hW := WP_perm (ul _ (ul _ (ul _ (ul _ (sw _ _ _))))) hW
  have hW := WP_perm (ul _ (ul _ (ul _ (ul _ (ul _ (ul _ (ul _ (sw _ _ _)))))))) hW
  have hW := WP_perm (ul _ (ul _ (ul _ (ul _ (ul _ (ul _ (sw _ _ _))))))) hW
  have hW := WP_perm (ul _ (ul _ (ul _ (ul _ (ul _ (sw _ _ _)))))) hW
  have hW := WP_perm (ul _ (ul _ (ul _ (ul _ (ul _ (ul _ (ul _ (ul _ (sw _ _ _))))))))) hW
  have hW := WP_perm (ul _ (ul _ (ul _ (ul _ (ul _ (ul _ (ul _ (sw _ _ _)))))))) hW
  have hW := WP_perm (ul _ (ul _ (ul _ (ul _ (ul _ (ul _ (sw _ _ _))))))) hW
  have hW := WP_perm (ul _ (ul _ (ul _ (ul _ (ul _ (ul _ (ul _ (ul _ (ul _ (sw _ _ _)))))))))) hW
  have hW := WP_perm (ul _ (ul _ (ul _ (ul _ (ul _ (ul _ (ul _ (ul _ (sw _ _ _))))))))) hW
  have hW := WP_perm (ul _ (ul _ (ul _ (ul _ (ul _ (ul _ (ul _ (sw _ _ _)))))))) hW
  have hW := WP_perm (ul _ (ul _ (ul _ (ul _ (ul _ (ul _ (ul _ (ul _ (ul _ (ul _ (sw _ _ _))))))))))) hW
  have hW := WP_perm (ul _ (ul _ (ul _ (ul _ (ul _ (ul _ (ul _ (ul _ (ul _ (sw _ _ _)))))))))) hW
  have hW := WP_perm (ul _ (ul _ (ul _ (ul _ (ul _ (ul _ (ul _ (ul _ (sw _ _ _))))))))) hW
  have hW := WP_perm (ul _ (ul _ (ul _ (ul _ (ul _ (ul _ (ul _ (ul _ (ul _ (ul _ (ul _ (sw _ _ _)))))))))))) hW
  have hW := WP_perm (ul _ (ul _ (ul _ (ul _ (ul _ (ul _ (ul _ (ul _ (ul _ (ul _ (sw _ _ _))))))))))) hW
  have hW := WP_perm (ul _ (ul _ (ul _ (ul _ (ul _ (ul _ (ul _ (ul _ (ul _ (sw _ _ _)))))))))) hW
  have hW := WP_perm (ul _ (ul _ (ul _ (ul _ (ul _ (ul _ (ul _ (ul _ (ul _ (ul _ (ul _ (ul _ (sw _ _ _))))))))))))) hW
  have hW := WP_perm (ul _ (ul _ (ul _ (ul _ (ul _ (ul _ (ul _ (ul _ (ul _ (ul _ (ul _ (sw _ _ _)))))))))))) hW
  have hW := WP_perm (ul _ (ul _ (ul _ (ul _ (ul _ (ul _ (ul _ (ul _ (ul _ (ul _ (sw _ _ _))))))))))) hW
  have hW := WP_perm (ul _ (ul _ (ul _ (ul _ (ul _ (ul _ (ul _ (ul _ (ul _ (ul _ (ul _ (ul _ (ul _ (sw _ _ _)))))))))))))) hW
  have hW := WP_perm (ul _ (ul _ (ul _ (ul _ (ul _ (ul _ (ul _ (ul _ (ul _ (ul _ (ul _ (ul _ (sw _ _ _))))))))))))) hW
  have hW := WP_perm (ul _ (ul _ (ul _ (ul _ (ul _ (ul _ (ul _ (ul _ (ul _ (ul _ (ul _ (sw _ _ _)))))))))))) hW
  have hW := WP_perm (ul _ (ul _ (ul _ (ul _ (ul _ (ul _ (ul _ (ul _ (ul _ (ul _ (ul _ (ul _ (ul _ (sw _ _ _)))))))))))))) hW
  have hW := WP_perm (ul _ (ul _ (ul _ (ul _ (ul _ (ul _ (ul _ (ul _ (ul _ (ul _ (ul _ (ul _ (ul _ (ul _ (sw _ _ _))))))))))))))) hW
  have hW := WP_perm (ul _ (ul _ (ul _ (ul _ (ul _ (ul _ (ul _ (ul _ (ul _ (ul _ (ul _ (ul _ (ul _ (ul _ (ul _ (sw _ _ _)))))))))))))))) hW
  exact k H locs (LI_mk2 hv te tg ts td a dr abv blw rf (B 0) c0 (B 1) c1 (B 2) c2 (B 3) c3 (B 4) c4 (B 5) c5 hs wf wt sz at1 sta tok val man B at0 tx nu ru F sy nd fw pl ro my sh sb smo hrs be lf gt hp dmo ge go im (cpTo mg (212 * ((xs (i + 1)).toInt).toNat) B 212) (updN kp ((xs (i + 1)).toInt).toNat 1) nn cc hs2 wf2 wt2 asd itm _ tw ⟨⟨hR, hWB⟩, hCd, hty, hvl, hsm, hdm, hsy8, hhp, (updN_lt hkp _ (by decide)), h_tx, h_F, h_sy, h_nd, h_fw, h_pl, h_ro, h_my, h_sh, h_sb, h_hrs, h_be, h_lf, h_gt, h_ge, h_go, (cpTo_lt h_mg hWB.2.1 _ _), h_asd, h_itm⟩ (IMv hR hWB hRq.2.1 h_mg him) (IMw hIw rfl (updN_n _ _ (by omega)) (cpTo_lt h_mg hWB.2.1 _ _) (fun z hz => cp_out mg B hv hz)) hW) hS
set_option maxHeartbeats 4000000 in
set_option maxRecDepth 100000 in
theorem w_k27_new {p : Program} {l : Launch} {e : Env} {s : State} {m : MethodId} {args : Array Value} {below : List Frame} {meth : Method} {c : Code} {Q : State → Prop} {G : va_G} {tA : Nat → ClassId} {A : Nat → Prop} {H : Heap} {locs : List Loc} {ls : Array Slot} {cells slots sb0 L i : Nat} {xs : Nat → Int32} {o b : Nat → Nat} (hx : p.tables.exec = Jvm.exec) (hb : c.code = cL_law) (hml : c.maxLocals = 4) (hown : s.vm.findClass RL = some m.cls) (hts : ∀ w ∈ lw_tbl, w.before args s = true) (hKK : kk G tA s) (hX : va_X sb0 L xs s s.heap) (hbl : sb0 < s.heap.size) (hbA : ¬ A sb0) (hA : ∀ q, s.heap.size ≤ q → A q) (hL : L < 2 ^ 31) (hi5 : i + 5 ≤ L) (hrm : cells + 16 ≤ room_1.cells ∧ slots + 323 ≤ room_1.slots) {te : Nat → Nat} {tg : Nat → Nat} {ts : Nat → Nat} {td : Nat → Nat} {a : Nat → Nat} {dr : Nat → Nat} {abv : Nat} {blw : Nat} {rf : Nat → Int32} {n0 : Nat} {c0 : Nat → Nat} {n1 : Nat} {c1 : Nat → Nat} {n2 : Nat} {c2 : Nat → Nat} {n3 : Nat} {c3 : Nat → Nat} {n4 : Nat} {c4 : Nat → Nat} {n5 : Nat} {c5 : Nat → Nat} {hs : Nat → Nat} {wf : Nat → Nat} {wt : Nat → Nat} {sz : Nat} {at1 : Nat} {sta : Nat} {tok : Nat} {val : Nat} {man : Nat} {B : Nat → Nat} {at0 : Nat} {tx : Nat → Nat} {nu : Nat → Int32} {ru : Nat} {F : Nat → Nat} {sy : Nat → Nat} {nd : Nat → Nat} {fw : Nat → Nat} {pl : Nat → Nat} {ro : Nat → Nat} {my : Nat → Nat} {sh : Nat → Nat} {sb : Nat → Nat} {smo : Nat} {hrs : Nat → Nat} {be : Nat → Nat} {lf : Nat → Nat} {gt : Nat → Nat} {hp : Nat → Nat} {dmo : Nat} {ge : Nat → Nat} {go : Nat → Nat} {im : Nat → Option Nat} {mg : Nat → Nat} {kp : Nat → Nat} {nn : Nat → Nat} {cc : Nat → Nat → Nat} {hs2 : Nat → Nat} {wf2 : Nat → Nat} {wt2 : Nat → Nat} {asd : Nat → Nat} {itm : Nat → Nat} {w : Nat} {tw : va_W} (hv : ((xs (i + 1)).toInt.toNat = 0 ∧ w = 1) ∨ ((xs (i + 1)).toInt.toNat = 1 ∧ w = 0)) (hJ : JJ n0 c0 n1 c1 n2 c2 n3 c3 n4 c4 n5 c5 hs wf wt B nn cc hs2 wf2 wt2 sz val smo dmo hp kp tx F sy nd fw pl ro my sh sb hrs be lf gt ge go mg asd itm) (hIw : IMt tA im kp mg w tw) (hok : 0 ≤ (xs (i + 1)).toInt ∧ (xs (i + 1)).toInt < 2) (him : im (xs (i + 1)).toInt.toNat = none) (hkv : kp (xs (i + 1)).toInt.toNat = 0) (hW : WP G A ((blX tA o te tg ts td a dr abv blw rf) ++ ((blA tA a n0 c0 n1 c1 n2 c2 n3 c3 n4 c4 n5 c5 hs wf wt) ++ ((blM tA b abv blw sz at1 sta tok val man B rf) ++ ((blT tA te sz at0) ++ ((blV tA te tx nu) ++ ((blU tA b tx) ++ ((blK tA tg ru F sy nd) ++ ((blF tA b fw pl ro) ++ ((blS tA ts my sh sb smo) ++ ((blH tA b hrs be) ++ ((blD tA td lf gt hp dmo) ++ ((blO tA b ge go) ++ ((blI tA o im) ++ ((blJ tA b mg kp) ++ ((blR tA dr nn cc hs2 wf2 wt2) ++ ((blZ tA b asd itm) ++ tw)))))))))))))))) H) (hS : va_S A s.heap H locs) (hl : lv_has ls 4 [(0, .ref sb0), (1, .ref (o 0)), (2, .ref (b 0)), (3, .int (nI i))]) (k : ∀ (H : Heap) (locs : List Loc), LI G tA A o b H → va_S A s.heap H locs → W p l e room_1 s m args below meth c H locs (cells + 16) (slots + 323) Q (F0 m 1104 ls [])) : W p l e room_1 s m args below meth c H locs cells slots Q (F0 m 998 ls []) := by
  obtain ⟨⟨hR, hWB⟩, hCd, hty, hvl, hsm, hdm, hsy8, hhp, hkp, h_tx, h_F, h_sy, h_nd, h_fw, h_pl, h_ro, h_my, h_sh, h_sb, h_hrs, h_be, h_lf, h_gt, h_ge, h_go, h_mg, h_asd, h_itm⟩ := hJ
  obtain ⟨m0, m1, m2, m3, m4, m5⟩ := hR.1
  subst m0; subst m1; subst m2; subst m3; subst m4; subst m5
  obtain ⟨hn0, hn1, hn2, hn3, hn4, hn5⟩ := hWB.1
  have hCW := CW_of hR hWB
  have hc : 0 ≤ (xs (i + 1)).toInt ∧ (xs (i + 1)).toInt ≤ 1 := ⟨hok.1, by omega⟩
  have hW := WP_perm (ul _ (ul _ (ul _ (ul _ (ul _ (ul _ (ul _ (ul _ (ul _ (ul _ (ul _ (sw _ _ _)))))))))))) hW
  have hW := WP_perm (ul _ (ul _ (ul _ (ul _ (ul _ (ul _ (ul _ (ul _ (ul _ (ul _ (sw _ _ _))))))))))) hW
  have hW := WP_perm (ul _ (ul _ (ul _ (ul _ (ul _ (ul _ (ul _ (ul _ (ul _ (sw _ _ _)))))))))) hW
  have hW := WP_perm (ul _ (ul _ (ul _ (ul _ (ul _ (ul _ (ul _ (ul _ (sw _ _ _))))))))) hW
  have hW := WP_perm (ul _ (ul _ (ul _ (ul _ (ul _ (ul _ (ul _ (sw _ _ _)))))))) hW
  have hW := WP_perm (ul _ (ul _ (ul _ (ul _ (ul _ (ul _ (sw _ _ _))))))) hW
  have hW := WP_perm (ul _ (ul _ (ul _ (ul _ (ul _ (sw _ _ _)))))) hW
  have hW := WP_perm (ul _ (ul _ (ul _ (ul _ (sw _ _ _))))) hW
  have hW := WP_perm (ul _ (ul _ (ul _ (sw _ _ _)))) hW
  have hW := WP_perm (ul _ (ul _ (sw _ _ _))) hW
  have hW := WP_perm (ul _ (sw _ _ _)) hW
  have hW := WP_perm (ul _ (ul _ (ul _ (ul _ (ul _ (ul _ (ul _ (ul _ (ul _ (ul _ (ul _ (ul _ (sw _ _ _))))))))))))) hW
  have hW := WP_perm (ul _ (ul _ (ul _ (ul _ (ul _ (ul _ (ul _ (ul _ (ul _ (ul _ (ul _ (sw _ _ _)))))))))))) hW
  have hW := WP_perm (ul _ (ul _ (ul _ (ul _ (ul _ (ul _ (ul _ (ul _ (ul _ (ul _ (sw _ _ _))))))))))) hW
  have hW := WP_perm (ul _ (ul _ (ul _ (ul _ (ul _ (ul _ (ul _ (ul _ (ul _ (sw _ _ _)))))))))) hW
  have hW := WP_perm (ul _ (ul _ (ul _ (ul _ (ul _ (ul _ (ul _ (ul _ (sw _ _ _))))))))) hW
  have hW := WP_perm (ul _ (ul _ (ul _ (ul _ (ul _ (ul _ (ul _ (sw _ _ _)))))))) hW
  have hW := WP_perm (ul _ (ul _ (ul _ (ul _ (ul _ (ul _ (sw _ _ _))))))) hW
  have hW := WP_perm (ul _ (ul _ (ul _ (ul _ (ul _ (sw _ _ _)))))) hW
  have hW := WP_perm (ul _ (ul _ (ul _ (ul _ (sw _ _ _))))) hW
  obtain ⟨hP, hD⟩ := (cv_XIAMJ (tl := ((blT tA te sz at0) ++ ((blV tA te tx nu) ++ ((blU tA b tx) ++ ((blK tA tg ru F sy nd) ++ ((blF tA b fw pl ro) ++ ((blS tA ts my sh sb smo) ++ ((blH tA b hrs be) ++ ((blD tA td lf gt hp dmo) ++ ((blO tA b ge go) ++ ((blR tA dr nn cc hs2 wf2 wt2) ++ ((blZ tA b asd itm) ++ tw))))))))))))).mp hW
  refine law_k27_new (tl := ((blT tA te sz at0) ++ ((blV tA te tx nu) ++ ((blU tA b tx) ++ ((blK tA tg ru F sy nd) ++ ((blF tA b fw pl ro) ++ ((blS tA ts my sh sb smo) ++ ((blH tA b hrs be) ++ ((blD tA td lf gt hp dmo) ++ ((blO tA b ge go) ++ ((blR tA dr nn cc hs2 wf2 wt2) ++ ((blZ tA b asd itm) ++ tw)))))))))))) (te := te) (tg := tg) (ts := ts) (td := td) (a := a) (dr := dr) (abv := abv) (blw := blw) (rf := rf) (im := im) (n0 := B 0) (c0 := c0) (n1 := B 1) (c1 := c1) (n2 := B 2) (c2 := c2) (n3 := B 3) (c3 := c3) (n4 := B 4) (c4 := c4) (n5 := B 5) (c5 := c5) (hs := hs) (wf := wf) (wt := wt) (sz := sz) (at1 := at1) (sta := sta) (tok := tok) (val := val) (man := man) (B := B) (mg := mg) (kp := kp) hx hb hml hown hts hKK hX hbl hbA hA hL hi5 hrm hWB hCW hok him hP hD hS hl ?_
  intro qx
  refine ⟨(by rw [if_pos hc]), fun H locs hP hD hS => ?_⟩
  rw [if_pos hc, if_pos hc, if_pos hc] at hP hD
  have hW : WP G A ((blX tA o te tg ts td a dr abv blw rf) ++ ((blI tA o (va_up im ((xs (i + 1)).toInt).toNat (some (qx 0)))) ++ ((blQ tA qx (B 0) (cpyN c0 (fun _ => 0) 40) (B 1) (cpyN c1 (fun _ => 0) 40) (B 2) (cpyN c2 (fun _ => 0) 40) (B 3) (cpyN c3 (fun _ => 0) 40) (B 4) (cpyN c4 (fun _ => 0) 40) (B 5) (cpyN c5 (fun _ => 0) 40) (cpyN hs (fun _ => 0) 5) (cpyN wf (fun _ => 0) 5) (cpyN wt (fun _ => 0) 40)) ++ ((blA tA a (B 0) c0 (B 1) c1 (B 2) c2 (B 3) c3 (B 4) c4 (B 5) c5 hs wf wt) ++ ((blM tA b abv blw sz at1 sta tok val man B rf) ++ ((blJ tA b (cpTo mg (212 * ((xs (i + 1)).toInt).toNat) B 212) (updN kp ((xs (i + 1)).toInt).toNat 1)) ++ ((blT tA te sz at0) ++ ((blV tA te tx nu) ++ ((blU tA b tx) ++ ((blK tA tg ru F sy nd) ++ ((blF tA b fw pl ro) ++ ((blS tA ts my sh sb smo) ++ ((blH tA b hrs be) ++ ((blD tA td lf gt hp dmo) ++ ((blO tA b ge go) ++ ((blR tA dr nn cc hs2 wf2 wt2) ++ ((blZ tA b asd itm) ++ tw))))))))))))))))) H := (cv_XIQAMJ (tl := ((blT tA te sz at0) ++ ((blV tA te tx nu) ++ ((blU tA b tx) ++ ((blK tA tg ru F sy nd) ++ ((blF tA b fw pl ro) ++ ((blS tA ts my sh sb smo) ++ ((blH tA b hrs be) ++ ((blD tA td lf gt hp dmo) ++ ((blO tA b ge go) ++ ((blR tA dr nn cc hs2 wf2 wt2) ++ ((blZ tA b asd itm) ++ tw)))))))))))) (o := o) (te := te) (tg := tg) (ts := ts) (td := td) (a := a) (dr := dr) (abv := abv) (blw := blw) (rf := rf) (im := va_up im ((xs (i + 1)).toInt).toNat (some (qx 0))) (q := qx) (n0b := (B 0)) (c0b := cpyN c0 (fun _ => 0) 40) (n1b := (B 1)) (c1b := cpyN c1 (fun _ => 0) 40) (n2b := (B 2)) (c2b := cpyN c2 (fun _ => 0) 40) (n3b := (B 3)) (c3b := cpyN c3 (fun _ => 0) 40) (n4b := (B 4)) (c4b := cpyN c4 (fun _ => 0) 40) (n5b := (B 5)) (c5b := cpyN c5 (fun _ => 0) 40) (hsb := cpyN hs (fun _ => 0) 5) (wfb := cpyN wf (fun _ => 0) 5) (wtb := cpyN wt (fun _ => 0) 40) (n0 := (B 0)) (c0 := c0) (n1 := (B 1)) (c1 := c1) (n2 := (B 2)) (c2 := c2) (n3 := (B 3)) (c3 := c3) (n4 := (B 4)) (c4 := c4) (n5 := (B 5)) (c5 := c5) (hs := hs) (wf := wf) (wt := wt) (b := b) (sz := sz) (at1 := at1) (sta := sta) (tok := tok) (val := val) (man := man) (B := B) (mg := cpTo mg (212 * ((xs (i + 1)).toInt).toNat) B 212) (kp := updN kp ((xs (i + 1)).toInt).toNat 1)).mpr ⟨hP, hD⟩
  have hW := WP_perm (ul _ (ul _ (sw _ _ _))) hW
  have hW := WP_perm (ul _ (sw _ _ _)) hW
  have hW := WP_perm (ul _ (ul _ (ul _ (sw _ _ _)))) hW
  have hW := WP_perm (ul _ (ul _ (sw _ _ _))) hW
  have hW := WP_perm (ul _ (ul _ (ul _ (ul _ (ul _ (sw _ _ _)))))) hW
  have hW := WP_perm (ul _ (ul _ (ul _ (ul _ (sw _ _ _))))) hW
  have hW := WP_perm (ul _ (ul _ (ul _ (sw _ _ _)))) hW
  have hW := WP_perm (ul _ (ul _ (ul _ (ul _ (ul _ (ul _ (sw _ _ _))))))) hW
  have hW := WP_perm (ul _ (ul _ (ul _ (ul _ (ul _ (sw _ _ _)))))) hW
  have hW := WP_perm (ul _ (ul _ (ul _ (ul _ (sw _ _ _))))) hW
  have hW := WP_perm (ul _ (ul _ (ul _ (ul _ (ul _ (ul _ (ul _ (sw _ _ _)))))))) hW
  have hW := WP_perm (ul _ (ul _ (ul _ (ul _ (ul _ (ul _ (sw _ _ _))))))) hW
  have hW := WP_perm (ul _ (ul _ (ul _ (ul _ (ul _ (sw _ _ _)))))) hW
  have hW := WP_perm (ul _ (ul _ (ul _ (ul _ (ul _ (ul _ (ul _ (ul _ (sw _ _ _))))))))) hW
  have hW := WP_perm (ul _ (ul _ (ul _ (ul _ (ul _ (ul _ (ul _ (sw _ _ _)))))))) hW
  have hW := WP_perm (ul _ (ul _ (ul _ (ul _ (ul _ (ul _ (sw _ _ _))))))) hW
  have hW := WP_perm (ul _ (ul _ (ul _ (ul _ (ul _ (ul _ (ul _ (ul _ (ul _ (sw _ _ _)))))))))) hW
  have hW := WP_perm (ul _ (ul _ (ul _ (ul _ (ul _ (ul _ (ul _ (ul _ (sw _ _ _))))))))) hW
  have hW := WP_perm (ul _ (ul _ (ul _ (ul _ (ul _ (ul _ (ul _ (sw _ _ _)))))))) hW
  have hW := WP_perm (ul _ (ul _ (ul _ (ul _ (ul _ (ul _ (ul _ (ul _ (ul _ (ul _ (sw _ _ _))))))))))) hW
  have hW := WP_perm (ul _ (ul _ (ul _ (ul _ (ul _ (ul _ (ul _ (ul _ (ul _ (sw _ _ _)))))))))) hW
  have hW := WP_perm (ul _ (ul _ (ul _ (ul _ (ul _ (ul _ (ul _ (ul _ (sw _ _ _))))))))) hW
  have hW := WP_perm (ul _ (ul _ (ul _ (ul _ (ul _ (ul _ (ul _ (ul _ (ul _ (ul _ (ul _ (sw _ _ _)))))))))))) hW
  have hW := WP_perm (ul _ (ul _ (ul _ (ul _ (ul _ (ul _ (ul _ (ul _ (ul _ (ul _ (sw _ _ _))))))))))) hW
  have hW := WP_perm (ul _ (ul _ (ul _ (ul _ (ul _ (ul _ (ul _ (ul _ (ul _ (sw _ _ _)))))))))) hW
  have hW := WP_perm (ul _ (ul _ (ul _ (ul _ (ul _ (ul _ (ul _ (ul _ (ul _ (ul _ (ul _ (ul _ (sw _ _ _))))))))))))) hW
  have hW := WP_perm (ul _ (ul _ (ul _ (ul _ (ul _ (ul _ (ul _ (ul _ (ul _ (ul _ (ul _ (sw _ _ _)))))))))))) hW
  have hW := WP_perm (ul _ (ul _ (ul _ (ul _ (ul _ (ul _ (ul _ (ul _ (ul _ (ul _ (sw _ _ _))))))))))) hW
  have hW := WP_perm (ul _ (ul _ (ul _ (ul _ (ul _ (ul _ (ul _ (ul _ (ul _ (ul _ (ul _ (ul _ (ul _ (sw _ _ _)))))))))))))) hW
  have hW := WP_perm (ul _ (ul _ (ul _ (ul _ (ul _ (ul _ (ul _ (ul _ (ul _ (ul _ (ul _ (ul _ (sw _ _ _))))))))))))) hW
  have hW := WP_perm (ul _ (ul _ (ul _ (ul _ (ul _ (ul _ (ul _ (ul _ (ul _ (ul _ (ul _ (sw _ _ _)))))))))))) hW
  have hW := WP_perm (ul _ (ul _ (ul _ (ul _ (ul _ (ul _ (ul _ (ul _ (ul _ (ul _ (ul _ (ul _ (ul _ (sw _ _ _)))))))))))))) hW
  have hW := WP_perm (ul _ (ul _ (ul _ (ul _ (ul _ (ul _ (ul _ (ul _ (ul _ (ul _ (ul _ (ul _ (ul _ (ul _ (sw _ _ _))))))))))))))) hW
  have hW := WP_perm (ul _ (ul _ (ul _ (ul _ (ul _ (ul _ (ul _ (ul _ (ul _ (ul _ (ul _ (ul _ (ul _ (ul _ (ul _ (sw _ _ _)))))))))))))))) hW
  exact k H locs (LI_mk2 hv te tg ts td a dr abv blw rf (B 0) c0 (B 1) c1 (B 2) c2 (B 3) c3 (B 4) c4 (B 5) c5 hs wf wt sz at1 sta tok val man B at0 tx nu ru F sy nd fw pl ro my sh sb smo hrs be lf gt hp dmo ge go (va_up im ((xs (i + 1)).toInt).toNat (some (qx 0))) (cpTo mg (212 * ((xs (i + 1)).toInt).toNat) B 212) (updN kp ((xs (i + 1)).toInt).toNat 1) nn cc hs2 wf2 wt2 asd itm _ tw ⟨⟨hR, hWB⟩, hCd, hty, hvl, hsm, hdm, hsy8, hhp, (updN_lt hkp _ (by decide)), h_tx, h_F, h_sy, h_nd, h_fw, h_pl, h_ro, h_my, h_sh, h_sb, h_hrs, h_be, h_lf, h_gt, h_ge, h_go, (cpTo_lt h_mg hWB.2.1 _ _), h_asd, h_itm⟩ (IMv hR hWB ⟨fun _ => by decide, fun _ => by decide, fun _ => by decide, fun _ => by decide, fun _ => by decide, fun _ => by decide, fun _ => by decide, fun _ => by decide, fun _ => by decide⟩ h_mg (up_s _ _ _)) (IMw hIw (up_o _ (by omega) _) (updN_n _ _ (by omega)) (cpTo_lt h_mg hWB.2.1 _ _) (fun z hz => cp_out mg B hv hz)) hW) hS
set_option maxHeartbeats 4000000 in
set_option maxRecDepth 100000 in
theorem w_k28_bad {p : Program} {l : Launch} {e : Env} {s : State} {m : MethodId} {args : Array Value} {below : List Frame} {meth : Method} {c : Code} {Q : State → Prop} {G : va_G} {tA : Nat → ClassId} {A : Nat → Prop} {H : Heap} {locs : List Loc} {ls : Array Slot} {cells slots sb0 L i : Nat} {xs : Nat → Int32} {o b : Nat → Nat} (hx : p.tables.exec = Jvm.exec) (hb : c.code = cL_law) (hml : c.maxLocals = 4) (hown : s.vm.findClass RL = some m.cls) (hts : ∀ w ∈ lw_tbl, w.before args s = true) (hKK : kk G tA s) (hX : va_X sb0 L xs s s.heap) (hbl : sb0 < s.heap.size) (hbA : ¬ A sb0) (hA : ∀ q, s.heap.size ≤ q → A q) (hL : L < 2 ^ 31) (hi5 : i + 5 ≤ L) (hrm : cells + 16 ≤ room_1.cells ∧ slots + 323 ≤ room_1.slots) (hLI : LI G tA A o b H) (hbad : ¬ (0 ≤ (xs (i + 1)).toInt ∧ (xs (i + 1)).toInt < 2)) (hS : va_S A s.heap H locs) (hl : lv_has ls 4 [(0, .ref sb0), (1, .ref (o 0)), (2, .ref (b 0)), (3, .int (nI i))]) (k : ∀ (H : Heap) (locs : List Loc), LI G tA A o b H → va_S A s.heap H locs → W p l e room_1 s m args below meth c H locs (cells + 16) (slots + 323) Q (F0 m 1104 ls [])) : W p l e room_1 s m args below meth c H locs cells slots Q (F0 m 1021 ls []) := by
  refine LI_elim hLI (fun te tg ts td a dr abv blw rf n0 c0 n1 c1 n2 c2 n3 c3 n4 c4 n5 c5 hs wf wt sz at1 sta tok val man B at0 tx nu ru F sy nd fw pl ro my sh sb smo hrs be lf gt hp dmo ge go im mg kp nn cc hs2 wf2 wt2 asd itm t0 t1 hJ hI0 hI1 hW => ?_)
  obtain ⟨⟨hR, hWB⟩, hCd, hty, hvl, hsm, hdm, hsy8, hhp, hkp, h_tx, h_F, h_sy, h_nd, h_fw, h_pl, h_ro, h_my, h_sh, h_sb, h_hrs, h_be, h_lf, h_gt, h_ge, h_go, h_mg, h_asd, h_itm⟩ := hJ
  obtain ⟨m0, m1, m2, m3, m4, m5⟩ := hR.1
  subst m0; subst m1; subst m2; subst m3; subst m4; subst m5
  obtain ⟨hn0, hn1, hn2, hn3, hn4, hn5⟩ := hWB.1
  have hCW := CW_of hR hWB
  have hc : ¬ (0 ≤ (xs (i + 1)).toInt ∧ (xs (i + 1)).toInt ≤ 1) := fun z => hbad ⟨z.1, by omega⟩
  have hW := WP_perm (ul _ (ul _ (ul _ (ul _ (ul _ (ul _ (ul _ (ul _ (ul _ (ul _ (ul _ (sw _ _ _)))))))))))) hW
  have hW := WP_perm (ul _ (ul _ (ul _ (ul _ (ul _ (ul _ (ul _ (ul _ (ul _ (ul _ (sw _ _ _))))))))))) hW
  have hW := WP_perm (ul _ (ul _ (ul _ (ul _ (ul _ (ul _ (ul _ (ul _ (ul _ (sw _ _ _)))))))))) hW
  have hW := WP_perm (ul _ (ul _ (ul _ (ul _ (ul _ (ul _ (ul _ (ul _ (sw _ _ _))))))))) hW
  have hW := WP_perm (ul _ (ul _ (ul _ (ul _ (ul _ (ul _ (ul _ (sw _ _ _)))))))) hW
  have hW := WP_perm (ul _ (ul _ (ul _ (ul _ (ul _ (ul _ (sw _ _ _))))))) hW
  have hW := WP_perm (ul _ (ul _ (ul _ (ul _ (ul _ (sw _ _ _)))))) hW
  have hW := WP_perm (ul _ (ul _ (ul _ (ul _ (sw _ _ _))))) hW
  have hW := WP_perm (ul _ (ul _ (ul _ (sw _ _ _)))) hW
  have hW := WP_perm (ul _ (ul _ (sw _ _ _))) hW
  have hW := WP_perm (ul _ (sw _ _ _)) hW
  have hW := WP_perm (ul _ (ul _ (ul _ (ul _ (ul _ (ul _ (ul _ (ul _ (ul _ (ul _ (ul _ (ul _ (sw _ _ _))))))))))))) hW
  have hW := WP_perm (ul _ (ul _ (ul _ (ul _ (ul _ (ul _ (ul _ (ul _ (ul _ (ul _ (ul _ (sw _ _ _)))))))))))) hW
  have hW := WP_perm (ul _ (ul _ (ul _ (ul _ (ul _ (ul _ (ul _ (ul _ (ul _ (ul _ (sw _ _ _))))))))))) hW
  have hW := WP_perm (ul _ (ul _ (ul _ (ul _ (ul _ (ul _ (ul _ (ul _ (ul _ (sw _ _ _)))))))))) hW
  have hW := WP_perm (ul _ (ul _ (ul _ (ul _ (ul _ (ul _ (ul _ (ul _ (sw _ _ _))))))))) hW
  have hW := WP_perm (ul _ (ul _ (ul _ (ul _ (ul _ (ul _ (ul _ (sw _ _ _)))))))) hW
  have hW := WP_perm (ul _ (ul _ (ul _ (ul _ (ul _ (ul _ (sw _ _ _))))))) hW
  have hW := WP_perm (ul _ (ul _ (ul _ (ul _ (ul _ (sw _ _ _)))))) hW
  have hW := WP_perm (ul _ (ul _ (ul _ (ul _ (sw _ _ _))))) hW
  obtain ⟨hP, hD⟩ := (cv_XIAMJ (tl := ((blT tA te sz at0) ++ ((blV tA te tx nu) ++ ((blU tA b tx) ++ ((blK tA tg ru F sy nd) ++ ((blF tA b fw pl ro) ++ ((blS tA ts my sh sb smo) ++ ((blH tA b hrs be) ++ ((blD tA td lf gt hp dmo) ++ ((blO tA b ge go) ++ ((blR tA dr nn cc hs2 wf2 wt2) ++ ((blZ tA b asd itm) ++ (t0 ++ t1)))))))))))))).mp hW
  refine law_k28_bad (tl := ((blT tA te sz at0) ++ ((blV tA te tx nu) ++ ((blU tA b tx) ++ ((blK tA tg ru F sy nd) ++ ((blF tA b fw pl ro) ++ ((blS tA ts my sh sb smo) ++ ((blH tA b hrs be) ++ ((blD tA td lf gt hp dmo) ++ ((blO tA b ge go) ++ ((blR tA dr nn cc hs2 wf2 wt2) ++ ((blZ tA b asd itm) ++ (t0 ++ t1))))))))))))) (te := te) (tg := tg) (ts := ts) (td := td) (a := a) (dr := dr) (abv := abv) (blw := blw) (rf := rf) (im := im) (n0 := B 0) (c0 := c0) (n1 := B 1) (c1 := c1) (n2 := B 2) (c2 := c2) (n3 := B 3) (c3 := c3) (n4 := B 4) (c4 := c4) (n5 := B 5) (c5 := c5) (hs := hs) (wf := wf) (wt := wt) (sz := sz) (at1 := at1) (sta := sta) (tok := tok) (val := val) (man := man) (B := B) (mg := mg) (kp := kp) hx hb hml hown hts hKK hX hbl hbA hA hL hi5 hrm hWB hkp hbad hP hD hS hl ?_
  refine ⟨(by rw [if_neg hc]), fun H locs hP hD hS => ?_⟩
  refine W.widen (k := cells + 16) (n := slots + 323) (by omega) (by omega) ?_
  have ec : (tdS rf (-2)) = (bump 0 rf 0) := td_bad rf
  rw [ec] at hP hD
  rw [if_neg hc, if_neg hc] at hP hD
  have hW : WP G A ((blX tA o te tg ts td a dr abv blw (bump 0 rf 0)) ++ ((blI tA o im) ++ ((blA tA a (B 0) c0 (B 1) c1 (B 2) c2 (B 3) c3 (B 4) c4 (B 5) c5 hs wf wt) ++ ((blM tA b abv blw sz at1 sta tok val man B (bump 0 rf 0)) ++ ((blJ tA b mg kp) ++ ((blT tA te sz at0) ++ ((blV tA te tx nu) ++ ((blU tA b tx) ++ ((blK tA tg ru F sy nd) ++ ((blF tA b fw pl ro) ++ ((blS tA ts my sh sb smo) ++ ((blH tA b hrs be) ++ ((blD tA td lf gt hp dmo) ++ ((blO tA b ge go) ++ ((blR tA dr nn cc hs2 wf2 wt2) ++ ((blZ tA b asd itm) ++ (t0 ++ t1))))))))))))))))) H := (cv_XIAMJ (tl := ((blT tA te sz at0) ++ ((blV tA te tx nu) ++ ((blU tA b tx) ++ ((blK tA tg ru F sy nd) ++ ((blF tA b fw pl ro) ++ ((blS tA ts my sh sb smo) ++ ((blH tA b hrs be) ++ ((blD tA td lf gt hp dmo) ++ ((blO tA b ge go) ++ ((blR tA dr nn cc hs2 wf2 wt2) ++ ((blZ tA b asd itm) ++ (t0 ++ t1))))))))))))) (o := o) (te := te) (tg := tg) (ts := ts) (td := td) (a := a) (dr := dr) (abv := abv) (blw := blw) (rf := bump 0 rf 0) (im := im) (n0 := (B 0)) (c0 := c0) (n1 := (B 1)) (c1 := c1) (n2 := (B 2)) (c2 := c2) (n3 := (B 3)) (c3 := c3) (n4 := (B 4)) (c4 := c4) (n5 := (B 5)) (c5 := c5) (hs := hs) (wf := wf) (wt := wt) (b := b) (sz := sz) (at1 := at1) (sta := sta) (tok := tok) (val := val) (man := man) (B := B) (mg := mg) (kp := kp)).mpr ⟨hP, hD⟩
  have hW := WP_perm (ul _ (sw _ _ _)) hW
  have hW := WP_perm (ul _ (ul _ (sw _ _ _))) hW
  have hW := WP_perm (ul _ (ul _ (ul _ (ul _ (sw _ _ _))))) hW
  have hW := WP_perm (ul _ (ul _ (ul _ (sw _ _ _)))) hW
  have hW := WP_perm (ul _ (ul _ (ul _ (ul _ (ul _ (sw _ _ _)))))) hW
  have hW := WP_perm (ul _ (ul _ (ul _ (ul _ (sw _ _ _))))) hW
  have hW := WP_perm (ul _ (ul _ (ul _ (ul _ (ul _ (ul _ (sw _ _ _))))))) hW
  have hW := WP_perm (ul _ (ul _ (ul _ (ul _ (ul _ (sw _ _ _)))))) hW
  have hW := WP_perm (ul _ (ul _ (ul _ (ul _ (ul _ (ul _ (ul _ (sw _ _ _)))))))) hW
  have hW := WP_perm (ul _ (ul _ (ul _ (ul _ (ul _ (ul _ (sw _ _ _))))))) hW
  have hW := WP_perm (ul _ (ul _ (ul _ (ul _ (ul _ (ul _ (ul _ (ul _ (sw _ _ _))))))))) hW
  have hW := WP_perm (ul _ (ul _ (ul _ (ul _ (ul _ (ul _ (ul _ (sw _ _ _)))))))) hW
  have hW := WP_perm (ul _ (ul _ (ul _ (ul _ (ul _ (ul _ (ul _ (ul _ (ul _ (sw _ _ _)))))))))) hW
  have hW := WP_perm (ul _ (ul _ (ul _ (ul _ (ul _ (ul _ (ul _ (ul _ (sw _ _ _))))))))) hW
  have hW := WP_perm (ul _ (ul _ (ul _ (ul _ (ul _ (ul _ (ul _ (ul _ (ul _ (ul _ (sw _ _ _))))))))))) hW
  have hW := WP_perm (ul _ (ul _ (ul _ (ul _ (ul _ (ul _ (ul _ (ul _ (ul _ (sw _ _ _)))))))))) hW
  have hW := WP_perm (ul _ (ul _ (ul _ (ul _ (ul _ (ul _ (ul _ (ul _ (ul _ (ul _ (ul _ (sw _ _ _)))))))))))) hW
  have hW := WP_perm (ul _ (ul _ (ul _ (ul _ (ul _ (ul _ (ul _ (ul _ (ul _ (ul _ (sw _ _ _))))))))))) hW
  have hW := WP_perm (ul _ (ul _ (ul _ (ul _ (ul _ (ul _ (ul _ (ul _ (ul _ (ul _ (ul _ (ul _ (sw _ _ _))))))))))))) hW
  have hW := WP_perm (ul _ (ul _ (ul _ (ul _ (ul _ (ul _ (ul _ (ul _ (ul _ (ul _ (ul _ (sw _ _ _)))))))))))) hW
  exact k H locs (LI_mk te tg ts td a dr abv blw (bump 0 rf 0) (B 0) c0 (B 1) c1 (B 2) c2 (B 3) c3 (B 4) c4 (B 5) c5 hs wf wt sz at1 sta tok val man B at0 tx nu ru F sy nd fw pl ro my sh sb smo hrs be lf gt hp dmo ge go im mg kp nn cc hs2 wf2 wt2 asd itm t0 t1 ⟨⟨hR, hWB⟩, hCd, hty, hvl, hsm, hdm, hsy8, hhp, hkp, h_tx, h_F, h_sy, h_nd, h_fw, h_pl, h_ro, h_my, h_sh, h_sb, h_hrs, h_be, h_lf, h_gt, h_ge, h_go, h_mg, h_asd, h_itm⟩ hI0 hI1 hW) hS
set_option maxHeartbeats 4000000 in
set_option maxRecDepth 100000 in
theorem w_k28_no {p : Program} {l : Launch} {e : Env} {s : State} {m : MethodId} {args : Array Value} {below : List Frame} {meth : Method} {c : Code} {Q : State → Prop} {G : va_G} {tA : Nat → ClassId} {A : Nat → Prop} {H : Heap} {locs : List Loc} {ls : Array Slot} {cells slots sb0 L i : Nat} {xs : Nat → Int32} {o b : Nat → Nat} (hx : p.tables.exec = Jvm.exec) (hb : c.code = cL_law) (hml : c.maxLocals = 4) (hown : s.vm.findClass RL = some m.cls) (hts : ∀ w ∈ lw_tbl, w.before args s = true) (hKK : kk G tA s) (hX : va_X sb0 L xs s s.heap) (hbl : sb0 < s.heap.size) (hbA : ¬ A sb0) (hA : ∀ q, s.heap.size ≤ q → A q) (hL : L < 2 ^ 31) (hi5 : i + 5 ≤ L) (hrm : cells + 16 ≤ room_1.cells ∧ slots + 323 ≤ room_1.slots) {te : Nat → Nat} {tg : Nat → Nat} {ts : Nat → Nat} {td : Nat → Nat} {a : Nat → Nat} {dr : Nat → Nat} {abv : Nat} {blw : Nat} {rf : Nat → Int32} {n0 : Nat} {c0 : Nat → Nat} {n1 : Nat} {c1 : Nat → Nat} {n2 : Nat} {c2 : Nat → Nat} {n3 : Nat} {c3 : Nat → Nat} {n4 : Nat} {c4 : Nat → Nat} {n5 : Nat} {c5 : Nat → Nat} {hs : Nat → Nat} {wf : Nat → Nat} {wt : Nat → Nat} {sz : Nat} {at1 : Nat} {sta : Nat} {tok : Nat} {val : Nat} {man : Nat} {B : Nat → Nat} {at0 : Nat} {tx : Nat → Nat} {nu : Nat → Int32} {ru : Nat} {F : Nat → Nat} {sy : Nat → Nat} {nd : Nat → Nat} {fw : Nat → Nat} {pl : Nat → Nat} {ro : Nat → Nat} {my : Nat → Nat} {sh : Nat → Nat} {sb : Nat → Nat} {smo : Nat} {hrs : Nat → Nat} {be : Nat → Nat} {lf : Nat → Nat} {gt : Nat → Nat} {hp : Nat → Nat} {dmo : Nat} {ge : Nat → Nat} {go : Nat → Nat} {im : Nat → Option Nat} {mg : Nat → Nat} {kp : Nat → Nat} {nn : Nat → Nat} {cc : Nat → Nat → Nat} {hs2 : Nat → Nat} {wf2 : Nat → Nat} {wt2 : Nat → Nat} {asd : Nat → Nat} {itm : Nat → Nat} {w : Nat} {tw : va_W} (hv : ((xs (i + 1)).toInt.toNat = 0 ∧ w = 1) ∨ ((xs (i + 1)).toInt.toNat = 1 ∧ w = 0)) (hJ : JJ n0 c0 n1 c1 n2 c2 n3 c3 n4 c4 n5 c5 hs wf wt B nn cc hs2 wf2 wt2 sz val smo dmo hp kp tx F sy nd fw pl ro my sh sb hrs be lf gt ge go mg asd itm) (hIw : IMt tA im kp mg w tw) (hok : 0 ≤ (xs (i + 1)).toInt ∧ (xs (i + 1)).toInt < 2) (him : im (xs (i + 1)).toInt.toNat = none) (hkv : kp (xs (i + 1)).toInt.toNat = 0) {tv : va_W} (hIv : IMt tA im kp mg (xs (i + 1)).toInt.toNat tv) (hW : WP G A ((blX tA o te tg ts td a dr abv blw rf) ++ ((blA tA a n0 c0 n1 c1 n2 c2 n3 c3 n4 c4 n5 c5 hs wf wt) ++ ((blM tA b abv blw sz at1 sta tok val man B rf) ++ ((blT tA te sz at0) ++ ((blV tA te tx nu) ++ ((blU tA b tx) ++ ((blK tA tg ru F sy nd) ++ ((blF tA b fw pl ro) ++ ((blS tA ts my sh sb smo) ++ ((blH tA b hrs be) ++ ((blD tA td lf gt hp dmo) ++ ((blO tA b ge go) ++ ((blI tA o im) ++ ((blJ tA b mg kp) ++ ((blR tA dr nn cc hs2 wf2 wt2) ++ ((blZ tA b asd itm) ++ (tv ++ tw))))))))))))))))) H) (hS : va_S A s.heap H locs) (hl : lv_has ls 4 [(0, .ref sb0), (1, .ref (o 0)), (2, .ref (b 0)), (3, .int (nI i))]) (k : ∀ (H : Heap) (locs : List Loc), LI G tA A o b H → va_S A s.heap H locs → W p l e room_1 s m args below meth c H locs (cells + 16) (slots + 323) Q (F0 m 1104 ls [])) : W p l e room_1 s m args below meth c H locs cells slots Q (F0 m 1021 ls []) := by
  obtain ⟨⟨hR, hWB⟩, hCd, hty, hvl, hsm, hdm, hsy8, hhp, hkp, h_tx, h_F, h_sy, h_nd, h_fw, h_pl, h_ro, h_my, h_sh, h_sb, h_hrs, h_be, h_lf, h_gt, h_ge, h_go, h_mg, h_asd, h_itm⟩ := hJ
  obtain ⟨m0, m1, m2, m3, m4, m5⟩ := hR.1
  subst m0; subst m1; subst m2; subst m3; subst m4; subst m5
  obtain ⟨hn0, hn1, hn2, hn3, hn4, hn5⟩ := hWB.1
  have hCW := CW_of hR hWB
  have hc : 0 ≤ (xs (i + 1)).toInt ∧ (xs (i + 1)).toInt ≤ 1 := ⟨hok.1, by omega⟩
  have hW := WP_perm (ul _ (ul _ (ul _ (ul _ (ul _ (ul _ (ul _ (ul _ (ul _ (ul _ (ul _ (sw _ _ _)))))))))))) hW
  have hW := WP_perm (ul _ (ul _ (ul _ (ul _ (ul _ (ul _ (ul _ (ul _ (ul _ (ul _ (sw _ _ _))))))))))) hW
  have hW := WP_perm (ul _ (ul _ (ul _ (ul _ (ul _ (ul _ (ul _ (ul _ (ul _ (sw _ _ _)))))))))) hW
  have hW := WP_perm (ul _ (ul _ (ul _ (ul _ (ul _ (ul _ (ul _ (ul _ (sw _ _ _))))))))) hW
  have hW := WP_perm (ul _ (ul _ (ul _ (ul _ (ul _ (ul _ (ul _ (sw _ _ _)))))))) hW
  have hW := WP_perm (ul _ (ul _ (ul _ (ul _ (ul _ (ul _ (sw _ _ _))))))) hW
  have hW := WP_perm (ul _ (ul _ (ul _ (ul _ (ul _ (sw _ _ _)))))) hW
  have hW := WP_perm (ul _ (ul _ (ul _ (ul _ (sw _ _ _))))) hW
  have hW := WP_perm (ul _ (ul _ (ul _ (sw _ _ _)))) hW
  have hW := WP_perm (ul _ (ul _ (sw _ _ _))) hW
  have hW := WP_perm (ul _ (sw _ _ _)) hW
  have hW := WP_perm (ul _ (ul _ (ul _ (ul _ (ul _ (ul _ (ul _ (ul _ (ul _ (ul _ (ul _ (ul _ (sw _ _ _))))))))))))) hW
  have hW := WP_perm (ul _ (ul _ (ul _ (ul _ (ul _ (ul _ (ul _ (ul _ (ul _ (ul _ (ul _ (sw _ _ _)))))))))))) hW
  have hW := WP_perm (ul _ (ul _ (ul _ (ul _ (ul _ (ul _ (ul _ (ul _ (ul _ (ul _ (sw _ _ _))))))))))) hW
  have hW := WP_perm (ul _ (ul _ (ul _ (ul _ (ul _ (ul _ (ul _ (ul _ (ul _ (sw _ _ _)))))))))) hW
  have hW := WP_perm (ul _ (ul _ (ul _ (ul _ (ul _ (ul _ (ul _ (ul _ (sw _ _ _))))))))) hW
  have hW := WP_perm (ul _ (ul _ (ul _ (ul _ (ul _ (ul _ (ul _ (sw _ _ _)))))))) hW
  have hW := WP_perm (ul _ (ul _ (ul _ (ul _ (ul _ (ul _ (sw _ _ _))))))) hW
  have hW := WP_perm (ul _ (ul _ (ul _ (ul _ (ul _ (sw _ _ _)))))) hW
  have hW := WP_perm (ul _ (ul _ (ul _ (ul _ (sw _ _ _))))) hW
  obtain ⟨hP, hD⟩ := (cv_XIAMJ (tl := ((blT tA te sz at0) ++ ((blV tA te tx nu) ++ ((blU tA b tx) ++ ((blK tA tg ru F sy nd) ++ ((blF tA b fw pl ro) ++ ((blS tA ts my sh sb smo) ++ ((blH tA b hrs be) ++ ((blD tA td lf gt hp dmo) ++ ((blO tA b ge go) ++ ((blR tA dr nn cc hs2 wf2 wt2) ++ ((blZ tA b asd itm) ++ (tv ++ tw)))))))))))))).mp hW
  refine law_k28_no (tl := ((blT tA te sz at0) ++ ((blV tA te tx nu) ++ ((blU tA b tx) ++ ((blK tA tg ru F sy nd) ++ ((blF tA b fw pl ro) ++ ((blS tA ts my sh sb smo) ++ ((blH tA b hrs be) ++ ((blD tA td lf gt hp dmo) ++ ((blO tA b ge go) ++ ((blR tA dr nn cc hs2 wf2 wt2) ++ ((blZ tA b asd itm) ++ (tv ++ tw))))))))))))) (te := te) (tg := tg) (ts := ts) (td := td) (a := a) (dr := dr) (abv := abv) (blw := blw) (rf := rf) (im := im) (n0 := B 0) (c0 := c0) (n1 := B 1) (c1 := c1) (n2 := B 2) (c2 := c2) (n3 := B 3) (c3 := c3) (n4 := B 4) (c4 := c4) (n5 := B 5) (c5 := c5) (hs := hs) (wf := wf) (wt := wt) (sz := sz) (at1 := at1) (sta := sta) (tok := tok) (val := val) (man := man) (B := B) (mg := mg) (kp := kp) hx hb hml hown hts hKK hX hbl hbA hA hL hi5 hrm hWB hkp hok him hP hD hS hl ?_
  refine ⟨(by rw [if_pos hc, if_pos hkv]), fun H locs hP hD hS => ?_⟩
  refine W.widen (k := cells + 16) (n := slots + 323) (by omega) (by omega) ?_
  have ec : (tdS rf (-3)) = (bump 0 rf 1) := td_no rf
  rw [ec] at hP hD
  rw [if_pos hc, if_pos hc, if_pos hkv, if_pos hkv] at hP hD
  have hW : WP G A ((blX tA o te tg ts td a dr abv blw (bump 0 rf 1)) ++ ((blI tA o im) ++ ((blA tA a (B 0) c0 (B 1) c1 (B 2) c2 (B 3) c3 (B 4) c4 (B 5) c5 hs wf wt) ++ ((blM tA b abv blw sz at1 sta tok val man B (bump 0 rf 1)) ++ ((blJ tA b mg kp) ++ ((blT tA te sz at0) ++ ((blV tA te tx nu) ++ ((blU tA b tx) ++ ((blK tA tg ru F sy nd) ++ ((blF tA b fw pl ro) ++ ((blS tA ts my sh sb smo) ++ ((blH tA b hrs be) ++ ((blD tA td lf gt hp dmo) ++ ((blO tA b ge go) ++ ((blR tA dr nn cc hs2 wf2 wt2) ++ ((blZ tA b asd itm) ++ (tv ++ tw))))))))))))))))) H := (cv_XIAMJ (tl := ((blT tA te sz at0) ++ ((blV tA te tx nu) ++ ((blU tA b tx) ++ ((blK tA tg ru F sy nd) ++ ((blF tA b fw pl ro) ++ ((blS tA ts my sh sb smo) ++ ((blH tA b hrs be) ++ ((blD tA td lf gt hp dmo) ++ ((blO tA b ge go) ++ ((blR tA dr nn cc hs2 wf2 wt2) ++ ((blZ tA b asd itm) ++ (tv ++ tw))))))))))))) (o := o) (te := te) (tg := tg) (ts := ts) (td := td) (a := a) (dr := dr) (abv := abv) (blw := blw) (rf := bump 0 rf 1) (im := im) (n0 := (B 0)) (c0 := c0) (n1 := (B 1)) (c1 := c1) (n2 := (B 2)) (c2 := c2) (n3 := (B 3)) (c3 := c3) (n4 := (B 4)) (c4 := c4) (n5 := (B 5)) (c5 := c5) (hs := hs) (wf := wf) (wt := wt) (b := b) (sz := sz) (at1 := at1) (sta := sta) (tok := tok) (val := val) (man := man) (B := B) (mg := mg) (kp := kp)).mpr ⟨hP, hD⟩
  have hW := WP_perm (ul _ (sw _ _ _)) hW
  have hW := WP_perm (ul _ (ul _ (sw _ _ _))) hW
  have hW := WP_perm (ul _ (ul _ (ul _ (ul _ (sw _ _ _))))) hW
  have hW := WP_perm (ul _ (ul _ (ul _ (sw _ _ _)))) hW
  have hW := WP_perm (ul _ (ul _ (ul _ (ul _ (ul _ (sw _ _ _)))))) hW
  have hW := WP_perm (ul _ (ul _ (ul _ (ul _ (sw _ _ _))))) hW
  have hW := WP_perm (ul _ (ul _ (ul _ (ul _ (ul _ (ul _ (sw _ _ _))))))) hW
  have hW := WP_perm (ul _ (ul _ (ul _ (ul _ (ul _ (sw _ _ _)))))) hW
  have hW := WP_perm (ul _ (ul _ (ul _ (ul _ (ul _ (ul _ (ul _ (sw _ _ _)))))))) hW
  have hW := WP_perm (ul _ (ul _ (ul _ (ul _ (ul _ (ul _ (sw _ _ _))))))) hW
  have hW := WP_perm (ul _ (ul _ (ul _ (ul _ (ul _ (ul _ (ul _ (ul _ (sw _ _ _))))))))) hW
  have hW := WP_perm (ul _ (ul _ (ul _ (ul _ (ul _ (ul _ (ul _ (sw _ _ _)))))))) hW
  have hW := WP_perm (ul _ (ul _ (ul _ (ul _ (ul _ (ul _ (ul _ (ul _ (ul _ (sw _ _ _)))))))))) hW
  have hW := WP_perm (ul _ (ul _ (ul _ (ul _ (ul _ (ul _ (ul _ (ul _ (sw _ _ _))))))))) hW
  have hW := WP_perm (ul _ (ul _ (ul _ (ul _ (ul _ (ul _ (ul _ (ul _ (ul _ (ul _ (sw _ _ _))))))))))) hW
  have hW := WP_perm (ul _ (ul _ (ul _ (ul _ (ul _ (ul _ (ul _ (ul _ (ul _ (sw _ _ _)))))))))) hW
  have hW := WP_perm (ul _ (ul _ (ul _ (ul _ (ul _ (ul _ (ul _ (ul _ (ul _ (ul _ (ul _ (sw _ _ _)))))))))))) hW
  have hW := WP_perm (ul _ (ul _ (ul _ (ul _ (ul _ (ul _ (ul _ (ul _ (ul _ (ul _ (sw _ _ _))))))))))) hW
  have hW := WP_perm (ul _ (ul _ (ul _ (ul _ (ul _ (ul _ (ul _ (ul _ (ul _ (ul _ (ul _ (ul _ (sw _ _ _))))))))))))) hW
  have hW := WP_perm (ul _ (ul _ (ul _ (ul _ (ul _ (ul _ (ul _ (ul _ (ul _ (ul _ (ul _ (sw _ _ _)))))))))))) hW
  exact k H locs (LI_mk2 hv te tg ts td a dr abv blw (bump 0 rf 1) (B 0) c0 (B 1) c1 (B 2) c2 (B 3) c3 (B 4) c4 (B 5) c5 hs wf wt sz at1 sta tok val man B at0 tx nu ru F sy nd fw pl ro my sh sb smo hrs be lf gt hp dmo ge go im mg kp nn cc hs2 wf2 wt2 asd itm tv tw ⟨⟨hR, hWB⟩, hCd, hty, hvl, hsm, hdm, hsy8, hhp, hkp, h_tx, h_F, h_sy, h_nd, h_fw, h_pl, h_ro, h_my, h_sh, h_sb, h_hrs, h_be, h_lf, h_gt, h_ge, h_go, h_mg, h_asd, h_itm⟩ hIv hIw hW) hS
set_option maxHeartbeats 4000000 in
set_option maxRecDepth 100000 in
theorem w_k28_old {p : Program} {l : Launch} {e : Env} {s : State} {m : MethodId} {args : Array Value} {below : List Frame} {meth : Method} {c : Code} {Q : State → Prop} {G : va_G} {tA : Nat → ClassId} {A : Nat → Prop} {H : Heap} {locs : List Loc} {ls : Array Slot} {cells slots sb0 L i : Nat} {xs : Nat → Int32} {o b : Nat → Nat} (hx : p.tables.exec = Jvm.exec) (hb : c.code = cL_law) (hml : c.maxLocals = 4) (hown : s.vm.findClass RL = some m.cls) (hts : ∀ w ∈ lw_tbl, w.before args s = true) (hKK : kk G tA s) (hX : va_X sb0 L xs s s.heap) (hbl : sb0 < s.heap.size) (hbA : ¬ A sb0) (hA : ∀ q, s.heap.size ≤ q → A q) (hL : L < 2 ^ 31) (hi5 : i + 5 ≤ L) (hrm : cells + 16 ≤ room_1.cells ∧ slots + 323 ≤ room_1.slots) {te : Nat → Nat} {tg : Nat → Nat} {ts : Nat → Nat} {td : Nat → Nat} {a : Nat → Nat} {dr : Nat → Nat} {abv : Nat} {blw : Nat} {rf : Nat → Int32} {n0 : Nat} {c0 : Nat → Nat} {n1 : Nat} {c1 : Nat → Nat} {n2 : Nat} {c2 : Nat → Nat} {n3 : Nat} {c3 : Nat → Nat} {n4 : Nat} {c4 : Nat → Nat} {n5 : Nat} {c5 : Nat → Nat} {hs : Nat → Nat} {wf : Nat → Nat} {wt : Nat → Nat} {sz : Nat} {at1 : Nat} {sta : Nat} {tok : Nat} {val : Nat} {man : Nat} {B : Nat → Nat} {at0 : Nat} {tx : Nat → Nat} {nu : Nat → Int32} {ru : Nat} {F : Nat → Nat} {sy : Nat → Nat} {nd : Nat → Nat} {fw : Nat → Nat} {pl : Nat → Nat} {ro : Nat → Nat} {my : Nat → Nat} {sh : Nat → Nat} {sb : Nat → Nat} {smo : Nat} {hrs : Nat → Nat} {be : Nat → Nat} {lf : Nat → Nat} {gt : Nat → Nat} {hp : Nat → Nat} {dmo : Nat} {ge : Nat → Nat} {go : Nat → Nat} {im : Nat → Option Nat} {mg : Nat → Nat} {kp : Nat → Nat} {nn : Nat → Nat} {cc : Nat → Nat → Nat} {hs2 : Nat → Nat} {wf2 : Nat → Nat} {wt2 : Nat → Nat} {asd : Nat → Nat} {itm : Nat → Nat} {q : Nat → Nat} {n0b : Nat} {c0b : Nat → Nat} {n1b : Nat} {c1b : Nat → Nat} {n2b : Nat} {c2b : Nat → Nat} {n3b : Nat} {c3b : Nat → Nat} {n4b : Nat} {c4b : Nat → Nat} {n5b : Nat} {c5b : Nat → Nat} {hsb : Nat → Nat} {wfb : Nat → Nat} {wtb : Nat → Nat} {w : Nat} {tw : va_W} (hv : ((xs (i + 1)).toInt.toNat = 0 ∧ w = 1) ∨ ((xs (i + 1)).toInt.toNat = 1 ∧ w = 0)) (hJ : JJ n0 c0 n1 c1 n2 c2 n3 c3 n4 c4 n5 c5 hs wf wt B nn cc hs2 wf2 wt2 sz val smo dmo hp kp tx F sy nd fw pl ro my sh sb hrs be lf gt ge go mg asd itm) (hIw : IMt tA im kp mg w tw) (hok : 0 ≤ (xs (i + 1)).toInt ∧ (xs (i + 1)).toInt < 2) (him : im (xs (i + 1)).toInt.toNat = some (q 0)) (hkv : kp (xs (i + 1)).toInt.toNat = 1) (hRq : Rep n0b c0b n1b c1b n2b c2b n3b c3b n4b c4b n5b c5b hsb wfb wtb (fun z => mg (212 * (xs (i + 1)).toInt.toNat + z))) (hWq : WB (fun z => mg (212 * (xs (i + 1)).toInt.toNat + z))) (hW : WP G A ((blX tA o te tg ts td a dr abv blw rf) ++ ((blA tA a n0 c0 n1 c1 n2 c2 n3 c3 n4 c4 n5 c5 hs wf wt) ++ ((blM tA b abv blw sz at1 sta tok val man B rf) ++ ((blT tA te sz at0) ++ ((blV tA te tx nu) ++ ((blU tA b tx) ++ ((blK tA tg ru F sy nd) ++ ((blF tA b fw pl ro) ++ ((blS tA ts my sh sb smo) ++ ((blH tA b hrs be) ++ ((blD tA td lf gt hp dmo) ++ ((blO tA b ge go) ++ ((blI tA o im) ++ ((blJ tA b mg kp) ++ ((blR tA dr nn cc hs2 wf2 wt2) ++ ((blZ tA b asd itm) ++ ((blQ tA q n0b c0b n1b c1b n2b c2b n3b c3b n4b c4b n5b c5b hsb wfb wtb) ++ tw))))))))))))))))) H) (hS : va_S A s.heap H locs) (hl : lv_has ls 4 [(0, .ref sb0), (1, .ref (o 0)), (2, .ref (b 0)), (3, .int (nI i))]) (k : ∀ (H : Heap) (locs : List Loc), LI G tA A o b H → va_S A s.heap H locs → W p l e room_1 s m args below meth c H locs (cells + 16) (slots + 323) Q (F0 m 1104 ls [])) : W p l e room_1 s m args below meth c H locs cells slots Q (F0 m 1021 ls []) := by
  obtain ⟨⟨hR, hWB⟩, hCd, hty, hvl, hsm, hdm, hsy8, hhp, hkp, h_tx, h_F, h_sy, h_nd, h_fw, h_pl, h_ro, h_my, h_sh, h_sb, h_hrs, h_be, h_lf, h_gt, h_ge, h_go, h_mg, h_asd, h_itm⟩ := hJ
  obtain ⟨m0, m1, m2, m3, m4, m5⟩ := hR.1
  subst m0; subst m1; subst m2; subst m3; subst m4; subst m5
  obtain ⟨hn0, hn1, hn2, hn3, hn4, hn5⟩ := hWB.1
  have hCW := CW_of hR hWB
  have hc : 0 ≤ (xs (i + 1)).toInt ∧ (xs (i + 1)).toInt ≤ 1 := ⟨hok.1, by omega⟩
  have hCWb := CW_of hRq hWq
  have hk0 : ¬ kp (xs (i + 1)).toInt.toNat = 0 := by omega
  have hW := WP_perm (ul _ (ul _ (ul _ (ul _ (ul _ (ul _ (ul _ (ul _ (ul _ (ul _ (ul _ (sw _ _ _)))))))))))) hW
  have hW := WP_perm (ul _ (ul _ (ul _ (ul _ (ul _ (ul _ (ul _ (ul _ (ul _ (ul _ (sw _ _ _))))))))))) hW
  have hW := WP_perm (ul _ (ul _ (ul _ (ul _ (ul _ (ul _ (ul _ (ul _ (ul _ (sw _ _ _)))))))))) hW
  have hW := WP_perm (ul _ (ul _ (ul _ (ul _ (ul _ (ul _ (ul _ (ul _ (sw _ _ _))))))))) hW
  have hW := WP_perm (ul _ (ul _ (ul _ (ul _ (ul _ (ul _ (ul _ (sw _ _ _)))))))) hW
  have hW := WP_perm (ul _ (ul _ (ul _ (ul _ (ul _ (ul _ (sw _ _ _))))))) hW
  have hW := WP_perm (ul _ (ul _ (ul _ (ul _ (ul _ (sw _ _ _)))))) hW
  have hW := WP_perm (ul _ (ul _ (ul _ (ul _ (sw _ _ _))))) hW
  have hW := WP_perm (ul _ (ul _ (ul _ (sw _ _ _)))) hW
  have hW := WP_perm (ul _ (ul _ (sw _ _ _))) hW
  have hW := WP_perm (ul _ (sw _ _ _)) hW
  have hW := WP_perm (ul _ (ul _ (ul _ (ul _ (ul _ (ul _ (ul _ (ul _ (ul _ (ul _ (ul _ (ul _ (ul _ (ul _ (ul _ (sw _ _ _)))))))))))))))) hW
  have hW := WP_perm (ul _ (ul _ (ul _ (ul _ (ul _ (ul _ (ul _ (ul _ (ul _ (ul _ (ul _ (ul _ (ul _ (ul _ (sw _ _ _))))))))))))))) hW
  have hW := WP_perm (ul _ (ul _ (ul _ (ul _ (ul _ (ul _ (ul _ (ul _ (ul _ (ul _ (ul _ (ul _ (ul _ (sw _ _ _)))))))))))))) hW
  have hW := WP_perm (ul _ (ul _ (ul _ (ul _ (ul _ (ul _ (ul _ (ul _ (ul _ (ul _ (ul _ (ul _ (sw _ _ _))))))))))))) hW
  have hW := WP_perm (ul _ (ul _ (ul _ (ul _ (ul _ (ul _ (ul _ (ul _ (ul _ (ul _ (ul _ (sw _ _ _)))))))))))) hW
  have hW := WP_perm (ul _ (ul _ (ul _ (ul _ (ul _ (ul _ (ul _ (ul _ (ul _ (ul _ (sw _ _ _))))))))))) hW
  have hW := WP_perm (ul _ (ul _ (ul _ (ul _ (ul _ (ul _ (ul _ (ul _ (ul _ (sw _ _ _)))))))))) hW
  have hW := WP_perm (ul _ (ul _ (ul _ (ul _ (ul _ (ul _ (ul _ (ul _ (sw _ _ _))))))))) hW
  have hW := WP_perm (ul _ (ul _ (ul _ (ul _ (ul _ (ul _ (ul _ (sw _ _ _)))))))) hW
  have hW := WP_perm (ul _ (ul _ (ul _ (ul _ (ul _ (ul _ (sw _ _ _))))))) hW
  have hW := WP_perm (ul _ (ul _ (ul _ (ul _ (ul _ (sw _ _ _)))))) hW
  have hW := WP_perm (ul _ (ul _ (ul _ (ul _ (sw _ _ _))))) hW
  have hW := WP_perm (ul _ (ul _ (ul _ (sw _ _ _)))) hW
  have hW := WP_perm (ul _ (ul _ (ul _ (ul _ (ul _ (ul _ (ul _ (ul _ (ul _ (ul _ (ul _ (ul _ (ul _ (sw _ _ _)))))))))))))) hW
  have hW := WP_perm (ul _ (ul _ (ul _ (ul _ (ul _ (ul _ (ul _ (ul _ (ul _ (ul _ (ul _ (ul _ (sw _ _ _))))))))))))) hW
  have hW := WP_perm (ul _ (ul _ (ul _ (ul _ (ul _ (ul _ (ul _ (ul _ (ul _ (ul _ (ul _ (sw _ _ _)))))))))))) hW
  have hW := WP_perm (ul _ (ul _ (ul _ (ul _ (ul _ (ul _ (ul _ (ul _ (ul _ (ul _ (sw _ _ _))))))))))) hW
  have hW := WP_perm (ul _ (ul _ (ul _ (ul _ (ul _ (ul _ (ul _ (ul _ (ul _ (sw _ _ _)))))))))) hW
  have hW := WP_perm (ul _ (ul _ (ul _ (ul _ (ul _ (ul _ (ul _ (ul _ (sw _ _ _))))))))) hW
  have hW := WP_perm (ul _ (ul _ (ul _ (ul _ (ul _ (ul _ (ul _ (sw _ _ _)))))))) hW
  have hW := WP_perm (ul _ (ul _ (ul _ (ul _ (ul _ (ul _ (sw _ _ _))))))) hW
  have hW := WP_perm (ul _ (ul _ (ul _ (ul _ (ul _ (sw _ _ _)))))) hW
  obtain ⟨hP, hD⟩ := (cv_XIAQMJ (tl := ((blT tA te sz at0) ++ ((blV tA te tx nu) ++ ((blU tA b tx) ++ ((blK tA tg ru F sy nd) ++ ((blF tA b fw pl ro) ++ ((blS tA ts my sh sb smo) ++ ((blH tA b hrs be) ++ ((blD tA td lf gt hp dmo) ++ ((blO tA b ge go) ++ ((blR tA dr nn cc hs2 wf2 wt2) ++ ((blZ tA b asd itm) ++ tw))))))))))))).mp hW
  refine law_k28_old (tl := ((blT tA te sz at0) ++ ((blV tA te tx nu) ++ ((blU tA b tx) ++ ((blK tA tg ru F sy nd) ++ ((blF tA b fw pl ro) ++ ((blS tA ts my sh sb smo) ++ ((blH tA b hrs be) ++ ((blD tA td lf gt hp dmo) ++ ((blO tA b ge go) ++ ((blR tA dr nn cc hs2 wf2 wt2) ++ ((blZ tA b asd itm) ++ tw)))))))))))) (te := te) (tg := tg) (ts := ts) (td := td) (a := a) (dr := dr) (abv := abv) (blw := blw) (rf := rf) (im := im) (n0 := B 0) (c0 := c0) (n1 := B 1) (c1 := c1) (n2 := B 2) (c2 := c2) (n3 := B 3) (c3 := c3) (n4 := B 4) (c4 := c4) (n5 := B 5) (c5 := c5) (hs := hs) (wf := wf) (wt := wt) (q := q) (n0b := n0b) (c0b := c0b) (n1b := n1b) (c1b := c1b) (n2b := n2b) (c2b := c2b) (n3b := n3b) (c3b := c3b) (n4b := n4b) (c4b := c4b) (n5b := n5b) (c5b := c5b) (hsb := hsb) (wfb := wfb) (wtb := wtb) (sz := sz) (at1 := at1) (sta := sta) (tok := tok) (val := val) (man := man) (B := B) (mg := mg) (kp := kp) hx hb hml hown hts hKK hX hbl hbA hA hL hi5 hrm hWB hkp hCW hCWb hok him hP hD hS hl ?_
  refine ⟨(by rw [if_pos hc, if_neg hk0]), fun H locs hP hD hS => ?_⟩
  refine W.widen (k := cells + 16) (n := slots + 323) (by omega) (by omega) ?_
  rw [if_pos hc, if_pos hc, if_neg hk0, if_neg hk0] at hP hD
  have hW : WP G A ((blX tA o te tg ts td a dr abv blw rf) ++ ((blI tA o im) ++ ((blA tA a n0b (cpyN c0b c0 40) n1b (cpyN c1b c1 40) n2b (cpyN c2b c2 40) n3b (cpyN c3b c3 40) n4b (cpyN c4b c4 40) n5b (cpyN c5b c5 40) (cpyN hsb hs 5) (cpyN wfb wf 5) (cpyN wtb wt 40)) ++ ((blQ tA q n0b c0b n1b c1b n2b c2b n3b c3b n4b c4b n5b c5b hsb wfb wtb) ++ ((blM tA b abv blw sz at1 sta tok val man (cpTo B 0 (fun z9 => mg (212 * ((xs (i + 1)).toInt).toNat + z9)) 212) rf) ++ ((blJ tA b mg kp) ++ ((blT tA te sz at0) ++ ((blV tA te tx nu) ++ ((blU tA b tx) ++ ((blK tA tg ru F sy nd) ++ ((blF tA b fw pl ro) ++ ((blS tA ts my sh sb smo) ++ ((blH tA b hrs be) ++ ((blD tA td lf gt hp dmo) ++ ((blO tA b ge go) ++ ((blR tA dr nn cc hs2 wf2 wt2) ++ ((blZ tA b asd itm) ++ tw))))))))))))))))) H := (cv_XIAQMJ (tl := ((blT tA te sz at0) ++ ((blV tA te tx nu) ++ ((blU tA b tx) ++ ((blK tA tg ru F sy nd) ++ ((blF tA b fw pl ro) ++ ((blS tA ts my sh sb smo) ++ ((blH tA b hrs be) ++ ((blD tA td lf gt hp dmo) ++ ((blO tA b ge go) ++ ((blR tA dr nn cc hs2 wf2 wt2) ++ ((blZ tA b asd itm) ++ tw)))))))))))) (o := o) (te := te) (tg := tg) (ts := ts) (td := td) (a := a) (dr := dr) (abv := abv) (blw := blw) (rf := rf) (im := im) (n0 := n0b) (c0 := cpyN c0b c0 40) (n1 := n1b) (c1 := cpyN c1b c1 40) (n2 := n2b) (c2 := cpyN c2b c2 40) (n3 := n3b) (c3 := cpyN c3b c3 40) (n4 := n4b) (c4 := cpyN c4b c4 40) (n5 := n5b) (c5 := cpyN c5b c5 40) (hs := cpyN hsb hs 5) (wf := cpyN wfb wf 5) (wt := cpyN wtb wt 40) (q := q) (n0b := n0b) (c0b := c0b) (n1b := n1b) (c1b := c1b) (n2b := n2b) (c2b := c2b) (n3b := n3b) (c3b := c3b) (n4b := n4b) (c4b := c4b) (n5b := n5b) (c5b := c5b) (hsb := hsb) (wfb := wfb) (wtb := wtb) (b := b) (sz := sz) (at1 := at1) (sta := sta) (tok := tok) (val := val) (man := man) (B := cpTo B 0 (fun z9 => mg (212 * ((xs (i + 1)).toInt).toNat + z9)) 212) (mg := mg) (kp := kp)).mpr ⟨hP, hD⟩
  have hW := WP_perm (ul _ (sw _ _ _)) hW
  have hW := WP_perm (ul _ (ul _ (ul _ (sw _ _ _)))) hW
  have hW := WP_perm (ul _ (ul _ (sw _ _ _))) hW
  have hW := WP_perm (ul _ (ul _ (ul _ (ul _ (ul _ (sw _ _ _)))))) hW
  have hW := WP_perm (ul _ (ul _ (ul _ (ul _ (sw _ _ _))))) hW
  have hW := WP_perm (ul _ (ul _ (ul _ (sw _ _ _)))) hW
  have hW := WP_perm (ul _ (ul _ (ul _ (ul _ (ul _ (ul _ (sw _ _ _))))))) hW
  have hW := WP_perm (ul _ (ul _ (ul _ (ul _ (ul _ (sw _ _ _)))))) hW
  have hW := WP_perm (ul _ (ul _ (ul _ (ul _ (sw _ _ _))))) hW
  have hW := WP_perm (ul _ (ul _ (ul _ (ul _ (ul _ (ul _ (ul _ (sw _ _ _)))))))) hW
  have hW := WP_perm (ul _ (ul _ (ul _ (ul _ (ul _ (ul _ (sw _ _ _))))))) hW
  have hW := WP_perm (ul _ (ul _ (ul _ (ul _ (ul _ (sw _ _ _)))))) hW
  have hW := WP_perm (ul _ (ul _ (ul _ (ul _ (ul _ (ul _ (ul _ (ul _ (sw _ _ _))))))))) hW
  have hW := WP_perm (ul _ (ul _ (ul _ (ul _ (ul _ (ul _ (ul _ (sw _ _ _)))))))) hW
  have hW := WP_perm (ul _ (ul _ (ul _ (ul _ (ul _ (ul _ (sw _ _ _))))))) hW
  have hW := WP_perm (ul _ (ul _ (ul _ (ul _ (ul _ (ul _ (ul _ (ul _ (ul _ (sw _ _ _)))))))))) hW
  have hW := WP_perm (ul _ (ul _ (ul _ (ul _ (ul _ (ul _ (ul _ (ul _ (sw _ _ _))))))))) hW
  have hW := WP_perm (ul _ (ul _ (ul _ (ul _ (ul _ (ul _ (ul _ (sw _ _ _)))))))) hW
  have hW := WP_perm (ul _ (ul _ (ul _ (ul _ (ul _ (ul _ (ul _ (ul _ (ul _ (ul _ (sw _ _ _))))))))))) hW
  have hW := WP_perm (ul _ (ul _ (ul _ (ul _ (ul _ (ul _ (ul _ (ul _ (ul _ (sw _ _ _)))))))))) hW
  have hW := WP_perm (ul _ (ul _ (ul _ (ul _ (ul _ (ul _ (ul _ (ul _ (sw _ _ _))))))))) hW
  have hW := WP_perm (ul _ (ul _ (ul _ (ul _ (ul _ (ul _ (ul _ (ul _ (ul _ (ul _ (ul _ (sw _ _ _)))))))))))) hW
  have hW := WP_perm (ul _ (ul _ (ul _ (ul _ (ul _ (ul _ (ul _ (ul _ (ul _ (ul _ (sw _ _ _))))))))))) hW
  have hW := WP_perm (ul _ (ul _ (ul _ (ul _ (ul _ (ul _ (ul _ (ul _ (ul _ (sw _ _ _)))))))))) hW
  have hW := WP_perm (ul _ (ul _ (ul _ (ul _ (ul _ (ul _ (ul _ (ul _ (ul _ (ul _ (ul _ (ul _ (sw _ _ _))))))))))))) hW
  have hW := WP_perm (ul _ (ul _ (ul _ (ul _ (ul _ (ul _ (ul _ (ul _ (ul _ (ul _ (ul _ (sw _ _ _)))))))))))) hW
  have hW := WP_perm (ul _ (ul _ (ul _ (ul _ (ul _ (ul _ (ul _ (ul _ (ul _ (ul _ (sw _ _ _))))))))))) hW
  have hW := WP_perm (ul _ (ul _ (ul _ (ul _ (ul _ (ul _ (ul _ (ul _ (ul _ (ul _ (ul _ (ul _ (ul _ (sw _ _ _)))))))))))))) hW
  have hW := WP_perm (ul _ (ul _ (ul _ (ul _ (ul _ (ul _ (ul _ (ul _ (ul _ (ul _ (ul _ (ul _ (sw _ _ _))))))))))))) hW
  have hW := WP_perm (ul _ (ul _ (ul _ (ul _ (ul _ (ul _ (ul _ (ul _ (ul _ (ul _ (ul _ (sw _ _ _)))))))))))) hW
  have hW := WP_perm (ul _ (ul _ (ul _ (ul _ (ul _ (ul _ (ul _ (ul _ (ul _ (ul _ (ul _ (ul _ (ul _ (sw _ _ _)))))))))))))) hW
  have hW := WP_perm (ul _ (ul _ (ul _ (ul _ (ul _ (ul _ (ul _ (ul _ (ul _ (ul _ (ul _ (ul _ (ul _ (ul _ (sw _ _ _))))))))))))))) hW
  have hW := WP_perm (ul _ (ul _ (ul _ (ul _ (ul _ (ul _ (ul _ (ul _ (ul _ (ul _ (ul _ (ul _ (ul _ (ul _ (ul _ (sw _ _ _)))))))))))))))) hW
  exact k H locs (LI_mk2 hv te tg ts td a dr abv blw rf n0b (cpyN c0b c0 40) n1b (cpyN c1b c1 40) n2b (cpyN c2b c2 40) n3b (cpyN c3b c3 40) n4b (cpyN c4b c4 40) n5b (cpyN c5b c5 40) (cpyN hsb hs 5) (cpyN wfb wf 5) (cpyN wtb wt 40) sz at1 sta tok val man (cpTo B 0 (fun z9 => mg (212 * ((xs (i + 1)).toInt).toNat + z9)) 212) at0 tx nu ru F sy nd fw pl ro my sh sb smo hrs be lf gt hp dmo ge go im mg kp nn cc hs2 wf2 wt2 asd itm _ tw ⟨(Rep_copy hRq hWq hR.2.1.1 hR.2.1.2.1 hR.2.1.2.2.1 hR.2.1.2.2.2.1 hR.2.1.2.2.2.2.1 hR.2.1.2.2.2.2.2.1 hR.2.1.2.2.2.2.2.2.1 hR.2.1.2.2.2.2.2.2.2.1 hR.2.1.2.2.2.2.2.2.2.2 (cpTo_lt hWB.2.1 (fun j => h_mg _) _ _) (fun j hj => by unfold cpTo; rw [if_pos (by omega)]; rfl)), hCd, hty, hvl, hsm, hdm, hsy8, hhp, hkp, h_tx, h_F, h_sy, h_nd, h_fw, h_pl, h_ro, h_my, h_sh, h_sb, h_hrs, h_be, h_lf, h_gt, h_ge, h_go, h_mg, h_asd, h_itm⟩ (IMq him hkv hRq hWq) hIw hW) hS
theorem w_k27 {p : Program} {l : Launch} {e : Env} {s : State} {m : MethodId} {args : Array Value} {below : List Frame} {meth : Method} {c : Code} {Q : State → Prop} {G : va_G} {tA : Nat → ClassId} {A : Nat → Prop} {H : Heap} {locs : List Loc} {ls : Array Slot} {cells slots sb0 L i : Nat} {xs : Nat → Int32} (hx : p.tables.exec = Jvm.exec) (hb : c.code = cL_law) (hml : c.maxLocals = 4) (hown : s.vm.findClass RL = some m.cls) (hts : ∀ w ∈ lw_tbl, w.before args s = true) (hKK : kk G tA s) (hX : va_X sb0 L xs s s.heap) (hbl : sb0 < s.heap.size) (hbA : ¬ A sb0) (hA : ∀ q, s.heap.size ≤ q → A q) (hL : L < 2 ^ 31) (hi5 : i + 5 ≤ L) (hrm : cells + 16 ≤ room_1.cells ∧ slots + 323 ≤ room_1.slots) {o b : Nat → Nat} (hLI : LI G tA A o b H) (hS : va_S A s.heap H locs) (hl : lv_has ls 4 [(0, .ref sb0), (1, .ref (o 0)), (2, .ref (b 0)), (3, .int (nI i))]) (k : ∀ (H : Heap) (locs : List Loc), LI G tA A o b H → va_S A s.heap H locs → W p l e room_1 s m args below meth c H locs (cells + 16) (slots + 323) Q (F0 m 1104 ls [])) : W p l e room_1 s m args below meth c H locs cells slots Q (F0 m 998 ls []) := by
  by_cases hok : 0 ≤ (xs (i + 1)).toInt ∧ (xs (i + 1)).toInt < 2
  · refine LI_elim hLI (fun te tg ts td a dr abv blw rf n0 c0 n1 c1 n2 c2 n3 c3 n4 c4 n5 c5 hs wf wt sz at1 sta tok val man B at0 tx nu ru F sy nd fw pl ro my sh sb smo hrs be lf gt hp dmo ge go im mg kp nn cc hs2 wf2 wt2 asd itm t0 t1 hJ hI0 hI1 hW => ?_)
    rcases (show (xs (i + 1)).toInt.toNat = 0 ∨ (xs (i + 1)).toInt.toNat = 1 by omega) with z | z
    · have hIv : IMt tA im kp mg (xs (i + 1)).toInt.toNat t0 := by rw [z]; exact hI0
      have hI9 := hIv
      rcases hIv with ⟨a1, a2, a3⟩ | ⟨q, n0b, c0b, n1b, c1b, n2b, c2b, n3b, c3b, n4b, c4b, n5b, c5b, hsb, wfb, wtb, a1, a2, a3, a4, a5⟩
      · subst a3; exact w_k27_new hx hb hml hown hts hKK hX hbl hbA hA hL hi5 hrm (.inl ⟨z, rfl⟩) hJ hI1 hok a1 a2 hW hS hl k
      · subst a3; exact w_k27_old hx hb hml hown hts hKK hX hbl hbA hA hL hi5 hrm (.inl ⟨z, rfl⟩) hJ hI1 hok a1 a2 a4 a5 hW hS hl k
    · have hIv : IMt tA im kp mg (xs (i + 1)).toInt.toNat t1 := by rw [z]; exact hI1
      have hW := LI_sw hW
      have hI9 := hIv
      rcases hIv with ⟨a1, a2, a3⟩ | ⟨q, n0b, c0b, n1b, c1b, n2b, c2b, n3b, c3b, n4b, c4b, n5b, c5b, hsb, wfb, wtb, a1, a2, a3, a4, a5⟩
      · subst a3; exact w_k27_new hx hb hml hown hts hKK hX hbl hbA hA hL hi5 hrm (.inr ⟨z, rfl⟩) hJ hI0 hok a1 a2 hW hS hl k
      · subst a3; exact w_k27_old hx hb hml hown hts hKK hX hbl hbA hA hL hi5 hrm (.inr ⟨z, rfl⟩) hJ hI0 hok a1 a2 a4 a5 hW hS hl k
  · exact w_k27_bad hx hb hml hown hts hKK hX hbl hbA hA hL hi5 hrm hLI hok hS hl k
theorem w_k28 {p : Program} {l : Launch} {e : Env} {s : State} {m : MethodId} {args : Array Value} {below : List Frame} {meth : Method} {c : Code} {Q : State → Prop} {G : va_G} {tA : Nat → ClassId} {A : Nat → Prop} {H : Heap} {locs : List Loc} {ls : Array Slot} {cells slots sb0 L i : Nat} {xs : Nat → Int32} (hx : p.tables.exec = Jvm.exec) (hb : c.code = cL_law) (hml : c.maxLocals = 4) (hown : s.vm.findClass RL = some m.cls) (hts : ∀ w ∈ lw_tbl, w.before args s = true) (hKK : kk G tA s) (hX : va_X sb0 L xs s s.heap) (hbl : sb0 < s.heap.size) (hbA : ¬ A sb0) (hA : ∀ q, s.heap.size ≤ q → A q) (hL : L < 2 ^ 31) (hi5 : i + 5 ≤ L) (hrm : cells + 16 ≤ room_1.cells ∧ slots + 323 ≤ room_1.slots) {o b : Nat → Nat} (hLI : LI G tA A o b H) (hS : va_S A s.heap H locs) (hl : lv_has ls 4 [(0, .ref sb0), (1, .ref (o 0)), (2, .ref (b 0)), (3, .int (nI i))]) (k : ∀ (H : Heap) (locs : List Loc), LI G tA A o b H → va_S A s.heap H locs → W p l e room_1 s m args below meth c H locs (cells + 16) (slots + 323) Q (F0 m 1104 ls [])) : W p l e room_1 s m args below meth c H locs cells slots Q (F0 m 1021 ls []) := by
  by_cases hok : 0 ≤ (xs (i + 1)).toInt ∧ (xs (i + 1)).toInt < 2
  · refine LI_elim hLI (fun te tg ts td a dr abv blw rf n0 c0 n1 c1 n2 c2 n3 c3 n4 c4 n5 c5 hs wf wt sz at1 sta tok val man B at0 tx nu ru F sy nd fw pl ro my sh sb smo hrs be lf gt hp dmo ge go im mg kp nn cc hs2 wf2 wt2 asd itm t0 t1 hJ hI0 hI1 hW => ?_)
    rcases (show (xs (i + 1)).toInt.toNat = 0 ∨ (xs (i + 1)).toInt.toNat = 1 by omega) with z | z
    · have hIv : IMt tA im kp mg (xs (i + 1)).toInt.toNat t0 := by rw [z]; exact hI0
      have hI9 := hIv
      rcases hIv with ⟨a1, a2, a3⟩ | ⟨q, n0b, c0b, n1b, c1b, n2b, c2b, n3b, c3b, n4b, c4b, n5b, c5b, hsb, wfb, wtb, a1, a2, a3, a4, a5⟩
      · exact w_k28_no hx hb hml hown hts hKK hX hbl hbA hA hL hi5 hrm (.inl ⟨z, rfl⟩) hJ hI1 hok a1 a2 hI9 hW hS hl k
      · subst a3; exact w_k28_old hx hb hml hown hts hKK hX hbl hbA hA hL hi5 hrm (.inl ⟨z, rfl⟩) hJ hI1 hok a1 a2 a4 a5 hW hS hl k
    · have hIv : IMt tA im kp mg (xs (i + 1)).toInt.toNat t1 := by rw [z]; exact hI1
      have hW := LI_sw hW
      have hI9 := hIv
      rcases hIv with ⟨a1, a2, a3⟩ | ⟨q, n0b, c0b, n1b, c1b, n2b, c2b, n3b, c3b, n4b, c4b, n5b, c5b, hsb, wfb, wtb, a1, a2, a3, a4, a5⟩
      · exact w_k28_no hx hb hml hown hts hKK hX hbl hbA hA hL hi5 hrm (.inr ⟨z, rfl⟩) hJ hI0 hok a1 a2 hI9 hW hS hl k
      · subst a3; exact w_k28_old hx hb hml hown hts hKK hX hbl hbA hA hL hi5 hrm (.inr ⟨z, rfl⟩) hJ hI0 hok a1 a2 a4 a5 hW hS hl k
  · exact w_k28_bad hx hb hml hown hts hKK hX hbl hbA hA hL hi5 hrm hLI hok hS hl k
