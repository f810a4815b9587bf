/-! THE LAW: read, the invariant kept -/
def pk6 {α : Type} (x0 x1 x2 x3 x4 x5 : α) : Nat → α
  | 0 => x0
  | 1 => x1
  | 2 => x2
  | 3 => x3
  | 4 => x4
  | _ => x5
set_option maxHeartbeats 4000000 in
set_option maxRecDepth 100000 in
theorem w_k12_ok {p : Program} {l : Launch} {e : Env} {s : State} {m : MethodId} {args : Array Value} {below : List Frame} {meth : Method} {c : Code} {Q : State → Prop} {G : va_G} {tA : Nat → ClassId} {A : Nat → Prop} {H : Heap} {locs : List Loc} {ls : Array Slot} {cells slots sb0 L i : Nat} {xs : Nat → Int32} {o b : Nat → Nat} {ad av : Nat → Nat} {na : Nat} (hx : p.tables.exec = Jvm.exec) (hb : c.code = cL_law) (hml : c.maxLocals = 4) (hown : s.vm.findClass RL = some m.cls) (hts : ∀ w ∈ lw_tbl, w.before args s = true) (hKK : kk G tA s) (hX : va_X sb0 L xs s s.heap) (hbl : sb0 < s.heap.size) (hbA : ¬ A sb0) (hA : ∀ q, s.heap.size ≤ q → A q) (hL : L < 2 ^ 31) (hi5 : i + 5 ≤ L) (hrm : cells + 16 ≤ room_1.cells ∧ slots + 323 ≤ room_1.slots) (hE : evS ad av na A s s.heap) {te : Nat → Nat} {tg : Nat → Nat} {ts : Nat → Nat} {td : Nat → Nat} {a : Nat → Nat} {dr : Nat → Nat} {abv : Nat} {blw : Nat} {rf : Nat → Int32} {n0 : Nat} {c0 : Nat → Nat} {n1 : Nat} {c1 : Nat → Nat} {n2 : Nat} {c2 : Nat → Nat} {n3 : Nat} {c3 : Nat → Nat} {n4 : Nat} {c4 : Nat → Nat} {n5 : Nat} {c5 : Nat → Nat} {hs : Nat → Nat} {wf : Nat → Nat} {wt : Nat → Nat} {sz : Nat} {at1 : Nat} {sta : Nat} {tok : Nat} {val : Nat} {man : Nat} {B : Nat → Nat} {at0 : Nat} {tx : Nat → Nat} {nu : Nat → Int32} {ru : Nat} {F : Nat → Nat} {sy : Nat → Nat} {nd : Nat → Nat} {fw : Nat → Nat} {pl : Nat → Nat} {ro : Nat → Nat} {my : Nat → Nat} {sh : Nat → Nat} {sb : Nat → Nat} {smo : Nat} {hrs : Nat → Nat} {be : Nat → Nat} {lf : Nat → Nat} {gt : Nat → Nat} {hp : Nat → Nat} {dmo : Nat} {ge : Nat → Nat} {go : Nat → Nat} {im : Nat → Option Nat} {mg : Nat → Nat} {kp : Nat → Nat} {nn : Nat → Nat} {cc : Nat → Nat → Nat} {hs2 : Nat → Nat} {wf2 : Nat → Nat} {wt2 : Nat → Nat} {asd : Nat → Nat} {itm : Nat → Nat} {t0 t1 : va_W} (hJ : JJ n0 c0 n1 c1 n2 c2 n3 c3 n4 c4 n5 c5 hs wf wt B nn cc hs2 wf2 wt2 sz val smo dmo hp kp tx F sy nd fw pl ro my sh sb hrs be lf gt ge go mg asd itm) (hI0 : IMt tA im kp mg 0 t0) (hI1 : IMt tA im kp mg 1 t1) (hW : WP G A ((blX tA o te tg ts td a dr abv blw rf) ++ ((blA tA a n0 c0 n1 c1 n2 c2 n3 c3 n4 c4 n5 c5 hs wf wt) ++ ((blM tA b abv blw sz at1 sta tok val man B rf) ++ ((blT tA te sz at0) ++ ((blV tA te tx nu) ++ ((blU tA b tx) ++ ((blK tA tg ru F sy nd) ++ ((blF tA b fw pl ro) ++ ((blS tA ts my sh sb smo) ++ ((blH tA b hrs be) ++ ((blD tA td lf gt hp dmo) ++ ((blO tA b ge go) ++ ((blI tA o im) ++ ((blJ tA b mg kp) ++ ((blR tA dr nn cc hs2 wf2 wt2) ++ ((blZ tA b asd itm) ++ (t0 ++ t1))))))))))))))))) H) (hans : 0 ≤ (ttS tx sz 250 (ruE tx sz 32 32 0) 0 0 nu zeroB cc).1.toInt) (hS : va_S A s.heap H locs) (hl : lv_has ls 4 [(0, .ref sb0), (1, .ref (o 0)), (2, .ref (b 0)), (3, .int (nI i))]) (k : ∀ (H : Heap) (locs : List Loc), LI G tA A o b H → va_S A s.heap H locs → W p l e room_1 s m args below meth c H locs (cells + 16) (slots + 323) Q (F0 m 1104 ls [])) : W p l e room_1 s m args below meth c H locs cells slots Q (F0 m 542 ls []) := by
  obtain ⟨⟨hR, hWB⟩, hCd, hty, hvl, hsm, hdm, hsy8, hhp, hkp, h_tx, h_F, h_sy, h_nd, h_fw, h_pl, h_ro, h_my, h_sh, h_sb, h_hrs, h_be, h_lf, h_gt, h_ge, h_go, h_mg, h_asd, h_itm⟩ := hJ
  obtain ⟨m0, m1, m2, m3, m4, m5⟩ := hR.1
  subst m0; subst m1; subst m2; subst m3; subst m4; subst m5
  obtain ⟨hn0, hn1, hn2, hn3, hn4, hn5⟩ := hWB.1
  have hCW := CW_of hR hWB
  have hW := WP_perm (ul _ (ul _ (sw _ _ _))) hW
  have hW := WP_perm (ul _ (sw _ _ _)) hW
  have hW := WP_perm (ul _ (ul _ (ul _ (sw _ _ _)))) hW
  have hW := WP_perm (ul _ (ul _ (sw _ _ _))) hW
  have hW := WP_perm (ul _ (ul _ (ul _ (ul _ (ul _ (ul _ (ul _ (ul _ (ul _ (ul _ (ul _ (ul _ (ul _ (sw _ _ _)))))))))))))) hW
  have hW := WP_perm (ul _ (ul _ (ul _ (ul _ (ul _ (ul _ (ul _ (ul _ (ul _ (ul _ (ul _ (ul _ (sw _ _ _))))))))))))) hW
  have hW := WP_perm (ul _ (ul _ (ul _ (ul _ (ul _ (ul _ (ul _ (ul _ (ul _ (ul _ (ul _ (sw _ _ _)))))))))))) hW
  have hW := WP_perm (ul _ (ul _ (ul _ (ul _ (ul _ (ul _ (ul _ (ul _ (ul _ (ul _ (sw _ _ _))))))))))) hW
  have hW := WP_perm (ul _ (ul _ (ul _ (ul _ (ul _ (ul _ (ul _ (ul _ (ul _ (sw _ _ _)))))))))) hW
  have hW := WP_perm (ul _ (ul _ (ul _ (ul _ (ul _ (ul _ (ul _ (ul _ (sw _ _ _))))))))) hW
  have hW := WP_perm (ul _ (ul _ (ul _ (ul _ (ul _ (ul _ (ul _ (sw _ _ _)))))))) hW
  have hW := WP_perm (ul _ (ul _ (ul _ (ul _ (ul _ (ul _ (sw _ _ _))))))) hW
  have hW := WP_perm (ul _ (ul _ (ul _ (ul _ (ul _ (sw _ _ _)))))) hW
  have hW := WP_perm (ul _ (ul _ (ul _ (ul _ (sw _ _ _))))) hW
  have hW := WP_perm (ul _ (ul _ (ul _ (sw _ _ _)))) hW
  have hW := WP_perm (ul _ (ul _ (ul _ (ul _ (sw _ _ _))))) hW
  have hW := WP_perm (ul _ (ul _ (ul _ (ul _ (ul _ (sw _ _ _)))))) hW
  have hW := WP_perm (ul _ (ul _ (ul _ (ul _ (ul _ (ul _ (ul _ (ul _ (ul _ (ul _ (ul _ (ul _ (ul _ (ul _ (sw _ _ _))))))))))))))) hW
  have hW := WP_perm (ul _ (ul _ (ul _ (ul _ (ul _ (ul _ (ul _ (ul _ (ul _ (ul _ (ul _ (ul _ (ul _ (sw _ _ _)))))))))))))) hW
  have hW := WP_perm (ul _ (ul _ (ul _ (ul _ (ul _ (ul _ (ul _ (ul _ (ul _ (ul _ (ul _ (ul _ (sw _ _ _))))))))))))) hW
  have hW := WP_perm (ul _ (ul _ (ul _ (ul _ (ul _ (ul _ (ul _ (ul _ (ul _ (ul _ (ul _ (sw _ _ _)))))))))))) hW
  have hW := WP_perm (ul _ (ul _ (ul _ (ul _ (ul _ (ul _ (ul _ (ul _ (ul _ (ul _ (sw _ _ _))))))))))) hW
  have hW := WP_perm (ul _ (ul _ (ul _ (ul _ (ul _ (ul _ (ul _ (ul _ (ul _ (sw _ _ _)))))))))) hW
  have hW := WP_perm (ul _ (ul _ (ul _ (ul _ (ul _ (ul _ (ul _ (ul _ (sw _ _ _))))))))) hW
  have hW := WP_perm (ul _ (ul _ (ul _ (ul _ (ul _ (ul _ (ul _ (sw _ _ _)))))))) hW
  have hW := WP_perm (ul _ (ul _ (ul _ (ul _ (ul _ (ul _ (sw _ _ _))))))) hW
  obtain ⟨hP, hD⟩ := (cv_XTVRMUZ (tl := ((blA tA a (B 0) c0 (B 1) c1 (B 2) c2 (B 3) c3 (B 4) c4 (B 5) c5 hs wf wt) ++ ((blK tA tg ru F sy nd) ++ ((blF tA b fw pl ro) ++ ((blS tA ts my sh sb smo) ++ ((blH tA b hrs be) ++ ((blD tA td lf gt hp dmo) ++ ((blO tA b ge go) ++ ((blI tA o im) ++ ((blJ tA b mg kp) ++ (t0 ++ t1)))))))))))).mp hW
  refine law_k12 (tl := ((blA tA a (B 0) c0 (B 1) c1 (B 2) c2 (B 3) c3 (B 4) c4 (B 5) c5 hs wf wt) ++ ((blK tA tg ru F sy nd) ++ ((blF tA b fw pl ro) ++ ((blS tA ts my sh sb smo) ++ ((blH tA b hrs be) ++ ((blD tA td lf gt hp dmo) ++ ((blO tA b ge go) ++ ((blI tA o im) ++ ((blJ tA b mg kp) ++ (t0 ++ t1))))))))))) (te := te) (tg := tg) (ts := ts) (td := td) (a := a) (dr := dr) (abv := abv) (blw := blw) (rf := rf) (sz := sz) (at0 := at0) (tx := tx) (nu := nu) (nn := nn) (cc := cc) (hs2 := hs2) (wf2 := wf2) (wt2 := wt2) (at1 := at1) (sta := sta) (tok := tok) (val := val) (man := man) (B := B) (asd := asd) (itm := itm) hx hb hml hown hts hKK hX hbl hbA hA hL hi5 hrm hE hCd hWB hty h_tx h_itm hvl hP hD hS hl ?_
  intro kkm f1 f2 f3 f4 f5
  refine ⟨((st_read hR hWB (nu := nu) hCd hty h_asd f2 f3 f1).1), fun H locs hP hD hS => ?_⟩
  refine W.widen (k := cells + 16) (n := slots + 323) (by omega) (by omega) ?_
  obtain ⟨s1, s2, s3, s4, s5⟩ := st_read hR hWB (nu := nu) hCd hty h_asd f2 f3 f1
  have em : (if (rdS tx sz 251 (scN tx sz 0 val) 0 itm).1 = true then 0 else 0) = 0 := by split <;> rfl
  rw [em] at hP hD
  rw [if_pos hans, if_pos hans] at hP hD
  have hW : WP G A ((blX tA o te tg ts td dr a abv blw rf) ++ ((blT tA te sz ((ttS tx sz 250 (ruE tx sz 32 32 0) 0 0 nu zeroB cc).2.1)) ++ ((blV tA te tx ((ttS tx sz 250 (ruE tx sz 32 32 0) 0 0 nu zeroB cc).2.2.1)) ++ ((blA tA dr ((ttS tx sz 250 (ruE tx sz 32 32 0) 0 0 nu zeroB cc).2.2.2.1 0) ((ttS tx sz 250 (ruE tx sz 32 32 0) 0 0 nu zeroB cc).2.2.2.2 0) ((ttS tx sz 250 (ruE tx sz 32 32 0) 0 0 nu zeroB cc).2.2.2.1 1) ((ttS tx sz 250 (ruE tx sz 32 32 0) 0 0 nu zeroB cc).2.2.2.2 1) ((ttS tx sz 250 (ruE tx sz 32 32 0) 0 0 nu zeroB cc).2.2.2.1 2) ((ttS tx sz 250 (ruE tx sz 32 32 0) 0 0 nu zeroB cc).2.2.2.2 2) ((ttS tx sz 250 (ruE tx sz 32 32 0) 0 0 nu zeroB cc).2.2.2.1 3) ((ttS tx sz 250 (ruE tx sz 32 32 0) 0 0 nu zeroB cc).2.2.2.2 3) ((ttS tx sz 250 (ruE tx sz 32 32 0) 0 0 nu zeroB cc).2.2.2.1 4) ((ttS tx sz 250 (ruE tx sz 32 32 0) 0 0 nu zeroB cc).2.2.2.2 4) ((ttS tx sz 250 (ruE tx sz 32 32 0) 0 0 nu zeroB cc).2.2.2.1 5) ((ttS tx sz 250 (ruE tx sz 32 32 0) 0 0 nu zeroB cc).2.2.2.2 5) (fillN hs2 0 5) (fillN wf2 0 5) (fillN wt2 0 40)) ++ ((blM tA b abv blw sz ((rdS tx sz 251 (scN tx sz 0 val) 0 itm).2.1.1) ((rdS tx sz 251 (scN tx sz 0 val) 0 itm).2.1.2.1) ((rdS tx sz 251 (scN tx sz 0 val) 0 itm).2.1.2.2.1) ((rdS tx sz 251 (scN tx sz 0 val) 0 itm).2.1.2.2.2) ((rdS tx sz 251 (scN tx sz 0 val) 0 itm).2.2.1) (rdB (rdS tx sz 251 (scN tx sz 0 val) 0 itm) B asd kkm) rf) ++ ((blU tA b tx) ++ ((blZ tA b (if (rdS tx sz 251 (scN tx sz 0 val) 0 itm).1 = true then (cpTo asd 0 B 212) else asd) ((rdS tx sz 251 (scN tx sz 0 val) 0 itm).2.2.2)) ++ ((blR tA a (pk6 (B 0) (B 1) (B 2) (B 3) (B 4) (B 5)) (pk6 c0 c1 c2 c3 c4 c5) hs wf wt) ++ ((blK tA tg ru F sy nd) ++ ((blF tA b fw pl ro) ++ ((blS tA ts my sh sb smo) ++ ((blH tA b hrs be) ++ ((blD tA td lf gt hp dmo) ++ ((blO tA b ge go) ++ ((blI tA o im) ++ ((blJ tA b mg kp) ++ (t0 ++ t1))))))))))))))))) H := (cv_XTVAMUZ (tl := ((blR tA a (pk6 (B 0) (B 1) (B 2) (B 3) (B 4) (B 5)) (pk6 c0 c1 c2 c3 c4 c5) hs wf wt) ++ ((blK tA tg ru F sy nd) ++ ((blF tA b fw pl ro) ++ ((blS tA ts my sh sb smo) ++ ((blH tA b hrs be) ++ ((blD tA td lf gt hp dmo) ++ ((blO tA b ge go) ++ ((blI tA o im) ++ ((blJ tA b mg kp) ++ (t0 ++ t1))))))))))) (o := o) (te := te) (tg := tg) (ts := ts) (td := td) (a := dr) (dr := a) (abv := abv) (blw := blw) (rf := rf) (sz := sz) (at0 := (ttS tx sz 250 (ruE tx sz 32 32 0) 0 0 nu zeroB cc).2.1) (tx := tx) (nu := (ttS tx sz 250 (ruE tx sz 32 32 0) 0 0 nu zeroB cc).2.2.1) (n0 := (ttS tx sz 250 (ruE tx sz 32 32 0) 0 0 nu zeroB cc).2.2.2.1 0) (c0 := (ttS tx sz 250 (ruE tx sz 32 32 0) 0 0 nu zeroB cc).2.2.2.2 0) (n1 := (ttS tx sz 250 (ruE tx sz 32 32 0) 0 0 nu zeroB cc).2.2.2.1 1) (c1 := (ttS tx sz 250 (ruE tx sz 32 32 0) 0 0 nu zeroB cc).2.2.2.2 1) (n2 := (ttS tx sz 250 (ruE tx sz 32 32 0) 0 0 nu zeroB cc).2.2.2.1 2) (c2 := (ttS tx sz 250 (ruE tx sz 32 32 0) 0 0 nu zeroB cc).2.2.2.2 2) (n3 := (ttS tx sz 250 (ruE tx sz 32 32 0) 0 0 nu zeroB cc).2.2.2.1 3) (c3 := (ttS tx sz 250 (ruE tx sz 32 32 0) 0 0 nu zeroB cc).2.2.2.2 3) (n4 := (ttS tx sz 250 (ruE tx sz 32 32 0) 0 0 nu zeroB cc).2.2.2.1 4) (c4 := (ttS tx sz 250 (ruE tx sz 32 32 0) 0 0 nu zeroB cc).2.2.2.2 4) (n5 := (ttS tx sz 250 (ruE tx sz 32 32 0) 0 0 nu zeroB cc).2.2.2.1 5) (c5 := (ttS tx sz 250 (ruE tx sz 32 32 0) 0 0 nu zeroB cc).2.2.2.2 5) (hs := fillN hs2 0 5) (wf := fillN wf2 0 5) (wt := fillN wt2 0 40) (b := b) (at1 := (rdS tx sz 251 (scN tx sz 0 val) 0 itm).2.1.1) (sta := (rdS tx sz 251 (scN tx sz 0 val) 0 itm).2.1.2.1) (tok := (rdS tx sz 251 (scN tx sz 0 val) 0 itm).2.1.2.2.1) (val := (rdS tx sz 251 (scN tx sz 0 val) 0 itm).2.1.2.2.2) (man := (rdS tx sz 251 (scN tx sz 0 val) 0 itm).2.2.1) (B := rdB (rdS tx sz 251 (scN tx sz 0 val) 0 itm) B asd kkm) (asd := if (rdS tx sz 251 (scN tx sz 0 val) 0 itm).1 = true then (cpTo asd 0 B 212) else asd) (itm := (rdS tx sz 251 (scN tx sz 0 val) 0 itm).2.2.2)).mpr ⟨hP, hD⟩
  have hW := WP_perm (ul _ (ul _ (sw _ _ _))) hW
  have hW := WP_perm (ul _ (sw _ _ _)) hW
  have hW := WP_perm (ul _ (ul _ (ul _ (sw _ _ _)))) hW
  have hW := WP_perm (ul _ (ul _ (sw _ _ _))) hW
  have hW := WP_perm (ul _ (ul _ (ul _ (ul _ (ul _ (ul _ (ul _ (sw _ _ _)))))))) hW
  have hW := WP_perm (ul _ (ul _ (ul _ (ul _ (ul _ (ul _ (sw _ _ _))))))) hW
  have hW := WP_perm (ul _ (ul _ (ul _ (ul _ (ul _ (ul _ (ul _ (ul _ (sw _ _ _))))))))) hW
  have hW := WP_perm (ul _ (ul _ (ul _ (ul _ (ul _ (ul _ (ul _ (sw _ _ _)))))))) hW
  have hW := WP_perm (ul _ (ul _ (ul _ (ul _ (ul _ (ul _ (ul _ (ul _ (ul _ (sw _ _ _)))))))))) hW
  have hW := WP_perm (ul _ (ul _ (ul _ (ul _ (ul _ (ul _ (ul _ (ul _ (sw _ _ _))))))))) hW
  have hW := WP_perm (ul _ (ul _ (ul _ (ul _ (ul _ (ul _ (ul _ (ul _ (ul _ (ul _ (sw _ _ _))))))))))) hW
  have hW := WP_perm (ul _ (ul _ (ul _ (ul _ (ul _ (ul _ (ul _ (ul _ (ul _ (sw _ _ _)))))))))) hW
  have hW := WP_perm (ul _ (ul _ (ul _ (ul _ (ul _ (ul _ (ul _ (ul _ (ul _ (ul _ (ul _ (sw _ _ _)))))))))))) hW
  have hW := WP_perm (ul _ (ul _ (ul _ (ul _ (ul _ (ul _ (ul _ (ul _ (ul _ (ul _ (sw _ _ _))))))))))) hW
  have hW := WP_perm (ul _ (ul _ (ul _ (ul _ (ul _ (ul _ (ul _ (ul _ (ul _ (ul _ (ul _ (ul _ (sw _ _ _))))))))))))) hW
  have hW := WP_perm (ul _ (ul _ (ul _ (ul _ (ul _ (ul _ (ul _ (ul _ (ul _ (ul _ (ul _ (sw _ _ _)))))))))))) hW
  have hW := WP_perm (ul _ (ul _ (ul _ (ul _ (ul _ (ul _ (ul _ (ul _ (ul _ (ul _ (ul _ (ul _ (ul _ (sw _ _ _)))))))))))))) hW
  have hW := WP_perm (ul _ (ul _ (ul _ (ul _ (ul _ (ul _ (ul _ (ul _ (ul _ (ul _ (ul _ (ul _ (sw _ _ _))))))))))))) hW
  have hW := WP_perm (ul _ (ul _ (ul _ (ul _ (ul _ (ul _ (ul _ (ul _ (ul _ (ul _ (ul _ (ul _ (ul _ (ul _ (sw _ _ _))))))))))))))) hW
  have hW := WP_perm (ul _ (ul _ (ul _ (ul _ (ul _ (ul _ (ul _ (ul _ (ul _ (ul _ (ul _ (ul _ (ul _ (sw _ _ _)))))))))))))) hW
  have hW := WP_perm (ul _ (ul _ (ul _ (ul _ (ul _ (ul _ (ul _ (ul _ (ul _ (ul _ (ul _ (ul _ (ul _ (ul _ (sw _ _ _))))))))))))))) hW
  exact k H locs (LI_mk te tg ts td dr a abv blw rf ((ttS tx sz 250 (ruE tx sz 32 32 0) 0 0 nu zeroB cc).2.2.2.1 0) ((ttS tx sz 250 (ruE tx sz 32 32 0) 0 0 nu zeroB cc).2.2.2.2 0) ((ttS tx sz 250 (ruE tx sz 32 32 0) 0 0 nu zeroB cc).2.2.2.1 1) ((ttS tx sz 250 (ruE tx sz 32 32 0) 0 0 nu zeroB cc).2.2.2.2 1) ((ttS tx sz 250 (ruE tx sz 32 32 0) 0 0 nu zeroB cc).2.2.2.1 2) ((ttS tx sz 250 (ruE tx sz 32 32 0) 0 0 nu zeroB cc).2.2.2.2 2) ((ttS tx sz 250 (ruE tx sz 32 32 0) 0 0 nu zeroB cc).2.2.2.1 3) ((ttS tx sz 250 (ruE tx sz 32 32 0) 0 0 nu zeroB cc).2.2.2.2 3) ((ttS tx sz 250 (ruE tx sz 32 32 0) 0 0 nu zeroB cc).2.2.2.1 4) ((ttS tx sz 250 (ruE tx sz 32 32 0) 0 0 nu zeroB cc).2.2.2.2 4) ((ttS tx sz 250 (ruE tx sz 32 32 0) 0 0 nu zeroB cc).2.2.2.1 5) ((ttS tx sz 250 (ruE tx sz 32 32 0) 0 0 nu zeroB cc).2.2.2.2 5) (fillN hs2 0 5) (fillN wf2 0 5) (fillN wt2 0 40) sz ((rdS tx sz 251 (scN tx sz 0 val) 0 itm).2.1.1) ((rdS tx sz 251 (scN tx sz 0 val) 0 itm).2.1.2.1) ((rdS tx sz 251 (scN tx sz 0 val) 0 itm).2.1.2.2.1) ((rdS tx sz 251 (scN tx sz 0 val) 0 itm).2.1.2.2.2) ((rdS tx sz 251 (scN tx sz 0 val) 0 itm).2.2.1) (rdB (rdS tx sz 251 (scN tx sz 0 val) 0 itm) B asd kkm) ((ttS tx sz 250 (ruE tx sz 32 32 0) 0 0 nu zeroB cc).2.1) tx ((ttS tx sz 250 (ruE tx sz 32 32 0) 0 0 nu zeroB cc).2.2.1) ru F sy nd fw pl ro my sh sb smo hrs be lf gt hp dmo ge go im mg kp (pk6 (B 0) (B 1) (B 2) (B 3) (B 4) (B 5)) (pk6 c0 c1 c2 c3 c4 c5) hs wf wt (if (rdS tx sz 251 (scN tx sz 0 val) 0 itm).1 = true then (cpTo asd 0 B 212) else asd) ((rdS tx sz 251 (scN tx sz 0 val) 0 itm).2.2.2) t0 t1 ⟨⟨s4 hans, s3⟩, (show CWt (pk6 (B 0) (B 1) (B 2) (B 3) (B 4) (B 5)) (pk6 c0 c1 c2 c3 c4 c5) hs wf wt from hCW), hty, f4, hsm, hdm, hsy8, hhp, hkp, h_tx, h_F, h_sy, h_nd, h_fw, h_pl, h_ro, h_my, h_sh, h_sb, h_hrs, h_be, h_lf, h_gt, h_ge, h_go, h_mg, (by split; exact cpTo_lt h_asd hWB.2.1 _ _; exact h_asd), f5⟩ hI0 hI1 hW) hS
set_option maxHeartbeats 4000000 in
set_option maxRecDepth 100000 in
theorem w_k12_no {p : Program} {l : Launch} {e : Env} {s : State} {m : MethodId} {args : Array Value} {below : List Frame} {meth : Method} {c : Code} {Q : State → Prop} {G : va_G} {tA : Nat → ClassId} {A : Nat → Prop} {H : Heap} {locs : List Loc} {ls : Array Slot} {cells slots sb0 L i : Nat} {xs : Nat → Int32} {o b : Nat → Nat} {ad av : Nat → Nat} {na : Nat} (hx : p.tables.exec = Jvm.exec) (hb : c.code = cL_law) (hml : c.maxLocals = 4) (hown : s.vm.findClass RL = some m.cls) (hts : ∀ w ∈ lw_tbl, w.before args s = true) (hKK : kk G tA s) (hX : va_X sb0 L xs s s.heap) (hbl : sb0 < s.heap.size) (hbA : ¬ A sb0) (hA : ∀ q, s.heap.size ≤ q → A q) (hL : L < 2 ^ 31) (hi5 : i + 5 ≤ L) (hrm : cells + 16 ≤ room_1.cells ∧ slots + 323 ≤ room_1.slots) (hE : evS ad av na A s s.heap) {te : Nat → Nat} {tg : Nat → Nat} {ts : Nat → Nat} {td : Nat → Nat} {a : Nat → Nat} {dr : Nat → Nat} {abv : Nat} {blw : Nat} {rf : Nat → Int32} {n0 : Nat} {c0 : Nat → Nat} {n1 : Nat} {c1 : Nat → Nat} {n2 : Nat} {c2 : Nat → Nat} {n3 : Nat} {c3 : Nat → Nat} {n4 : Nat} {c4 : Nat → Nat} {n5 : Nat} {c5 : Nat → Nat} {hs : Nat → Nat} {wf : Nat → Nat} {wt : Nat → Nat} {sz : Nat} {at1 : Nat} {sta : Nat} {tok : Nat} {val : Nat} {man : Nat} {B : Nat → Nat} {at0 : Nat} {tx : Nat → Nat} {nu : Nat → Int32} {ru : Nat} {F : Nat → Nat} {sy : Nat → Nat} {nd : Nat → Nat} {fw : Nat → Nat} {pl : Nat → Nat} {ro : Nat → Nat} {my : Nat → Nat} {sh : Nat → Nat} {sb : Nat → Nat} {smo : Nat} {hrs : Nat → Nat} {be : Nat → Nat} {lf : Nat → Nat} {gt : Nat → Nat} {hp : Nat → Nat} {dmo : Nat} {ge : Nat → Nat} {go : Nat → Nat} {im : Nat → Option Nat} {mg : Nat → Nat} {kp : Nat → Nat} {nn : Nat → Nat} {cc : Nat → Nat → Nat} {hs2 : Nat → Nat} {wf2 : Nat → Nat} {wt2 : Nat → Nat} {asd : Nat → Nat} {itm : Nat → Nat} {t0 t1 : va_W} (hJ : JJ n0 c0 n1 c1 n2 c2 n3 c3 n4 c4 n5 c5 hs wf wt B nn cc hs2 wf2 wt2 sz val smo dmo hp kp tx F sy nd fw pl ro my sh sb hrs be lf gt ge go mg asd itm) (hI0 : IMt tA im kp mg 0 t0) (hI1 : IMt tA im kp mg 1 t1) (hW : WP G A ((blX tA o te tg ts td a dr abv blw rf) ++ ((blA tA a n0 c0 n1 c1 n2 c2 n3 c3 n4 c4 n5 c5 hs wf wt) ++ ((blM tA b abv blw sz at1 sta tok val man B rf) ++ ((blT tA te sz at0) ++ ((blV tA te tx nu) ++ ((blU tA b tx) ++ ((blK tA tg ru F sy nd) ++ ((blF tA b fw pl ro) ++ ((blS tA ts my sh sb smo) ++ ((blH tA b hrs be) ++ ((blD tA td lf gt hp dmo) ++ ((blO tA b ge go) ++ ((blI tA o im) ++ ((blJ tA b mg kp) ++ ((blR tA dr nn cc hs2 wf2 wt2) ++ ((blZ tA b asd itm) ++ (t0 ++ t1))))))))))))))))) H) (hans : ¬ (0 ≤ (ttS tx sz 250 (ruE tx sz 32 32 0) 0 0 nu zeroB cc).1.toInt)) (hS : va_S A s.heap H locs) (hl : lv_has ls 4 [(0, .ref sb0), (1, .ref (o 0)), (2, .ref (b 0)), (3, .int (nI i))]) (k : ∀ (H : Heap) (locs : List Loc), LI G tA A o b H → va_S A s.heap H locs → W p l e room_1 s m args below meth c H locs (cells + 16) (slots + 323) Q (F0 m 1104 ls [])) : W p l e room_1 s m args below meth c H locs cells slots Q (F0 m 542 ls []) := by
  obtain ⟨⟨hR, hWB⟩, hCd, hty, hvl, hsm, hdm, hsy8, hhp, hkp, h_tx, h_F, h_sy, h_nd, h_fw, h_pl, h_ro, h_my, h_sh, h_sb, h_hrs, h_be, h_lf, h_gt, h_ge, h_go, h_mg, h_asd, h_itm⟩ := hJ
  obtain ⟨m0, m1, m2, m3, m4, m5⟩ := hR.1
  subst m0; subst m1; subst m2; subst m3; subst m4; subst m5
  obtain ⟨hn0, hn1, hn2, hn3, hn4, hn5⟩ := hWB.1
  have hCW := CW_of hR hWB
  have hW := WP_perm (ul _ (ul _ (sw _ _ _))) hW
  have hW := WP_perm (ul _ (sw _ _ _)) hW
  have hW := WP_perm (ul _ (ul _ (ul _ (sw _ _ _)))) hW
  have hW := WP_perm (ul _ (ul _ (sw _ _ _))) hW
  have hW := WP_perm (ul _ (ul _ (ul _ (ul _ (ul _ (ul _ (ul _ (ul _ (ul _ (ul _ (ul _ (ul _ (ul _ (sw _ _ _)))))))))))))) hW
  have hW := WP_perm (ul _ (ul _ (ul _ (ul _ (ul _ (ul _ (ul _ (ul _ (ul _ (ul _ (ul _ (ul _ (sw _ _ _))))))))))))) hW
  have hW := WP_perm (ul _ (ul _ (ul _ (ul _ (ul _ (ul _ (ul _ (ul _ (ul _ (ul _ (ul _ (sw _ _ _)))))))))))) hW
  have hW := WP_perm (ul _ (ul _ (ul _ (ul _ (ul _ (ul _ (ul _ (ul _ (ul _ (ul _ (sw _ _ _))))))))))) hW
  have hW := WP_perm (ul _ (ul _ (ul _ (ul _ (ul _ (ul _ (ul _ (ul _ (ul _ (sw _ _ _)))))))))) hW
  have hW := WP_perm (ul _ (ul _ (ul _ (ul _ (ul _ (ul _ (ul _ (ul _ (sw _ _ _))))))))) hW
  have hW := WP_perm (ul _ (ul _ (ul _ (ul _ (ul _ (ul _ (ul _ (sw _ _ _)))))))) hW
  have hW := WP_perm (ul _ (ul _ (ul _ (ul _ (ul _ (ul _ (sw _ _ _))))))) hW
  have hW := WP_perm (ul _ (ul _ (ul _ (ul _ (ul _ (sw _ _ _)))))) hW
  have hW := WP_perm (ul _ (ul _ (ul _ (ul _ (sw _ _ _))))) hW
  have hW := WP_perm (ul _ (ul _ (ul _ (sw _ _ _)))) hW
  have hW := WP_perm (ul _ (ul _ (ul _ (ul _ (sw _ _ _))))) hW
  have hW := WP_perm (ul _ (ul _ (ul _ (ul _ (ul _ (sw _ _ _)))))) hW
  have hW := WP_perm (ul _ (ul _ (ul _ (ul _ (ul _ (ul _ (ul _ (ul _ (ul _ (ul _ (ul _ (ul _ (ul _ (ul _ (sw _ _ _))))))))))))))) hW
  have hW := WP_perm (ul _ (ul _ (ul _ (ul _ (ul _ (ul _ (ul _ (ul _ (ul _ (ul _ (ul _ (ul _ (ul _ (sw _ _ _)))))))))))))) hW
  have hW := WP_perm (ul _ (ul _ (ul _ (ul _ (ul _ (ul _ (ul _ (ul _ (ul _ (ul _ (ul _ (ul _ (sw _ _ _))))))))))))) hW
  have hW := WP_perm (ul _ (ul _ (ul _ (ul _ (ul _ (ul _ (ul _ (ul _ (ul _ (ul _ (ul _ (sw _ _ _)))))))))))) hW
  have hW := WP_perm (ul _ (ul _ (ul _ (ul _ (ul _ (ul _ (ul _ (ul _ (ul _ (ul _ (sw _ _ _))))))))))) hW
  have hW := WP_perm (ul _ (ul _ (ul _ (ul _ (ul _ (ul _ (ul _ (ul _ (ul _ (sw _ _ _)))))))))) hW
  have hW := WP_perm (ul _ (ul _ (ul _ (ul _ (ul _ (ul _ (ul _ (ul _ (sw _ _ _))))))))) hW
  have hW := WP_perm (ul _ (ul _ (ul _ (ul _ (ul _ (ul _ (ul _ (sw _ _ _)))))))) hW
  have hW := WP_perm (ul _ (ul _ (ul _ (ul _ (ul _ (ul _ (sw _ _ _))))))) hW
  obtain ⟨hP, hD⟩ := (cv_XTVRMUZ (tl := ((blA tA a (B 0) c0 (B 1) c1 (B 2) c2 (B 3) c3 (B 4) c4 (B 5) c5 hs wf wt) ++ ((blK tA tg ru F sy nd) ++ ((blF tA b fw pl ro) ++ ((blS tA ts my sh sb smo) ++ ((blH tA b hrs be) ++ ((blD tA td lf gt hp dmo) ++ ((blO tA b ge go) ++ ((blI tA o im) ++ ((blJ tA b mg kp) ++ (t0 ++ t1)))))))))))).mp hW
  refine law_k12 (tl := ((blA tA a (B 0) c0 (B 1) c1 (B 2) c2 (B 3) c3 (B 4) c4 (B 5) c5 hs wf wt) ++ ((blK tA tg ru F sy nd) ++ ((blF tA b fw pl ro) ++ ((blS tA ts my sh sb smo) ++ ((blH tA b hrs be) ++ ((blD tA td lf gt hp dmo) ++ ((blO tA b ge go) ++ ((blI tA o im) ++ ((blJ tA b mg kp) ++ (t0 ++ t1))))))))))) (te := te) (tg := tg) (ts := ts) (td := td) (a := a) (dr := dr) (abv := abv) (blw := blw) (rf := rf) (sz := sz) (at0 := at0) (tx := tx) (nu := nu) (nn := nn) (cc := cc) (hs2 := hs2) (wf2 := wf2) (wt2 := wt2) (at1 := at1) (sta := sta) (tok := tok) (val := val) (man := man) (B := B) (asd := asd) (itm := itm) hx hb hml hown hts hKK hX hbl hbA hA hL hi5 hrm hE hCd hWB hty h_tx h_itm hvl hP hD hS hl ?_
  intro kkm f1 f2 f3 f4 f5
  refine ⟨((st_read hR hWB (nu := nu) hCd hty h_asd f2 f3 f1).1), fun H locs hP hD hS => ?_⟩
  refine W.widen (k := cells + 16) (n := slots + 323) (by omega) (by omega) ?_
  obtain ⟨s1, s2, s3, s4, s5⟩ := st_read hR hWB (nu := nu) hCd hty h_asd f2 f3 f1
  have em : (if (rdS tx sz 251 (scN tx sz 0 val) 0 itm).1 = true then 0 else 0) = 0 := by split <;> rfl
  rw [em] at hP hD
  rw [if_neg hans, if_neg hans] at hP hD
  have hW : WP G A ((blX tA o te tg ts td a dr abv blw rf) ++ ((blT tA te sz ((ttS tx sz 250 (ruE tx sz 32 32 0) 0 0 nu zeroB cc).2.1)) ++ ((blV tA te tx ((ttS tx sz 250 (ruE tx sz 32 32 0) 0 0 nu zeroB cc).2.2.1)) ++ ((blR tA dr ((ttS tx sz 250 (ruE tx sz 32 32 0) 0 0 nu zeroB cc).2.2.2.1) ((ttS tx sz 250 (ruE tx sz 32 32 0) 0 0 nu zeroB cc).2.2.2.2) (fillN hs2 0 5) (fillN wf2 0 5) (fillN wt2 0 40)) ++ ((blM tA b abv blw sz ((rdS tx sz 251 (scN tx sz 0 val) 0 itm).2.1.1) ((rdS tx sz 251 (scN tx sz 0 val) 0 itm).2.1.2.1) ((rdS tx sz 251 (scN tx sz 0 val) 0 itm).2.1.2.2.1) ((rdS tx sz 251 (scN tx sz 0 val) 0 itm).2.1.2.2.2) ((rdS tx sz 251 (scN tx sz 0 val) 0 itm).2.2.1) (rdB (rdS tx sz 251 (scN tx sz 0 val) 0 itm) B asd kkm) rf) ++ ((blU tA b tx) ++ ((blZ tA b (if (rdS tx sz 251 (scN tx sz 0 val) 0 itm).1 = true then (cpTo asd 0 B 212) else asd) ((rdS tx sz 251 (scN tx sz 0 val) 0 itm).2.2.2)) ++ ((blA tA a (B 0) c0 (B 1) c1 (B 2) c2 (B 3) c3 (B 4) c4 (B 5) c5 hs wf wt) ++ ((blK tA tg ru F sy nd) ++ ((blF tA b fw pl ro) ++ ((blS tA ts my sh sb smo) ++ ((blH tA b hrs be) ++ ((blD tA td lf gt hp dmo) ++ ((blO tA b ge go) ++ ((blI tA o im) ++ ((blJ tA b mg kp) ++ (t0 ++ t1))))))))))))))))) H := (cv_XTVRMUZ (tl := ((blA tA a (B 0) c0 (B 1) c1 (B 2) c2 (B 3) c3 (B 4) c4 (B 5) c5 hs wf wt) ++ ((blK tA tg ru F sy nd) ++ ((blF tA b fw pl ro) ++ ((blS tA ts my sh sb smo) ++ ((blH tA b hrs be) ++ ((blD tA td lf gt hp dmo) ++ ((blO tA b ge go) ++ ((blI tA o im) ++ ((blJ tA b mg kp) ++ (t0 ++ t1))))))))))) (o := o) (te := te) (tg := tg) (ts := ts) (td := td) (a := a) (dr := dr) (abv := abv) (blw := blw) (rf := rf) (sz := sz) (at0 := (ttS tx sz 250 (ruE tx sz 32 32 0) 0 0 nu zeroB cc).2.1) (tx := tx) (nu := (ttS tx sz 250 (ruE tx sz 32 32 0) 0 0 nu zeroB cc).2.2.1) (nn := (ttS tx sz 250 (ruE tx sz 32 32 0) 0 0 nu zeroB cc).2.2.2.1) (cc := (ttS tx sz 250 (ruE tx sz 32 32 0) 0 0 nu zeroB cc).2.2.2.2) (hs2 := fillN hs2 0 5) (wf2 := fillN wf2 0 5) (wt2 := fillN wt2 0 40) (b := b) (at1 := (rdS tx sz 251 (scN tx sz 0 val) 0 itm).2.1.1) (sta := (rdS tx sz 251 (scN tx sz 0 val) 0 itm).2.1.2.1) (tok := (rdS tx sz 251 (scN tx sz 0 val) 0 itm).2.1.2.2.1) (val := (rdS tx sz 251 (scN tx sz 0 val) 0 itm).2.1.2.2.2) (man := (rdS tx sz 251 (scN tx sz 0 val) 0 itm).2.2.1) (B := rdB (rdS tx sz 251 (scN tx sz 0 val) 0 itm) B asd kkm) (asd := if (rdS tx sz 251 (scN tx sz 0 val) 0 itm).1 = true then (cpTo asd 0 B 212) else asd) (itm := (rdS tx sz 251 (scN tx sz 0 val) 0 itm).2.2.2)).mpr ⟨hP, hD⟩
  have hW := WP_perm (ul _ (ul _ (ul _ (ul _ (ul _ (ul _ (sw _ _ _))))))) hW
  have hW := WP_perm (ul _ (ul _ (ul _ (ul _ (ul _ (sw _ _ _)))))) hW
  have hW := WP_perm (ul _ (ul _ (ul _ (ul _ (sw _ _ _))))) hW
  have hW := WP_perm (ul _ (ul _ (ul _ (sw _ _ _)))) hW
  have hW := WP_perm (ul _ (ul _ (sw _ _ _))) hW
  have hW := WP_perm (ul _ (sw _ _ _)) hW
  have hW := WP_perm (ul _ (ul _ (ul _ (ul _ (sw _ _ _))))) hW
  have hW := WP_perm (ul _ (ul _ (ul _ (sw _ _ _)))) hW
  have hW := WP_perm (ul _ (ul _ (sw _ _ _))) hW
  have hW := WP_perm (ul _ (ul _ (ul _ (ul _ (ul _ (sw _ _ _)))))) hW
  have hW := WP_perm (ul _ (ul _ (ul _ (ul _ (ul _ (ul _ (ul _ (sw _ _ _)))))))) hW
  have hW := WP_perm (ul _ (ul _ (ul _ (ul _ (ul _ (ul _ (sw _ _ _))))))) hW
  have hW := WP_perm (ul _ (ul _ (ul _ (ul _ (ul _ (ul _ (ul _ (ul _ (sw _ _ _))))))))) hW
  have hW := WP_perm (ul _ (ul _ (ul _ (ul _ (ul _ (ul _ (ul _ (sw _ _ _)))))))) hW
  have hW := WP_perm (ul _ (ul _ (ul _ (ul _ (ul _ (ul _ (ul _ (ul _ (ul _ (sw _ _ _)))))))))) hW
  have hW := WP_perm (ul _ (ul _ (ul _ (ul _ (ul _ (ul _ (ul _ (ul _ (sw _ _ _))))))))) hW
  have hW := WP_perm (ul _ (ul _ (ul _ (ul _ (ul _ (ul _ (ul _ (ul _ (ul _ (ul _ (sw _ _ _))))))))))) hW
  have hW := WP_perm (ul _ (ul _ (ul _ (ul _ (ul _ (ul _ (ul _ (ul _ (ul _ (sw _ _ _)))))))))) hW
  have hW := WP_perm (ul _ (ul _ (ul _ (ul _ (ul _ (ul _ (ul _ (ul _ (ul _ (ul _ (ul _ (sw _ _ _)))))))))))) hW
  have hW := WP_perm (ul _ (ul _ (ul _ (ul _ (ul _ (ul _ (ul _ (ul _ (ul _ (ul _ (sw _ _ _))))))))))) hW
  have hW := WP_perm (ul _ (ul _ (ul _ (ul _ (ul _ (ul _ (ul _ (ul _ (ul _ (ul _ (ul _ (ul _ (sw _ _ _))))))))))))) hW
  have hW := WP_perm (ul _ (ul _ (ul _ (ul _ (ul _ (ul _ (ul _ (ul _ (ul _ (ul _ (ul _ (sw _ _ _)))))))))))) hW
  have hW := WP_perm (ul _ (ul _ (ul _ (ul _ (ul _ (ul _ (ul _ (ul _ (ul _ (ul _ (ul _ (ul _ (ul _ (sw _ _ _)))))))))))))) hW
  have hW := WP_perm (ul _ (ul _ (ul _ (ul _ (ul _ (ul _ (ul _ (ul _ (ul _ (ul _ (ul _ (ul _ (sw _ _ _))))))))))))) hW
  have hW := WP_perm (ul _ (ul _ (ul _ (ul _ (ul _ (ul _ (ul _ (ul _ (ul _ (ul _ (ul _ (ul _ (ul _ (ul _ (sw _ _ _))))))))))))))) hW
  have hW := WP_perm (ul _ (ul _ (ul _ (ul _ (ul _ (ul _ (ul _ (ul _ (ul _ (ul _ (ul _ (ul _ (ul _ (sw _ _ _)))))))))))))) hW
  exact k H locs (LI_mk te tg ts td a dr abv blw rf (B 0) c0 (B 1) c1 (B 2) c2 (B 3) c3 (B 4) c4 (B 5) c5 hs wf wt sz ((rdS tx sz 251 (scN tx sz 0 val) 0 itm).2.1.1) ((rdS tx sz 251 (scN tx sz 0 val) 0 itm).2.1.2.1) ((rdS tx sz 251 (scN tx sz 0 val) 0 itm).2.1.2.2.1) ((rdS tx sz 251 (scN tx sz 0 val) 0 itm).2.1.2.2.2) ((rdS tx sz 251 (scN tx sz 0 val) 0 itm).2.2.1) (rdB (rdS tx sz 251 (scN tx sz 0 val) 0 itm) B asd kkm) ((ttS tx sz 250 (ruE tx sz 32 32 0) 0 0 nu zeroB cc).2.1) tx ((ttS tx sz 250 (ruE tx sz 32 32 0) 0 0 nu zeroB cc).2.2.1) ru F sy nd fw pl ro my sh sb smo hrs be lf gt hp dmo ge go im mg kp ((ttS tx sz 250 (ruE tx sz 32 32 0) 0 0 nu zeroB cc).2.2.2.1) ((ttS tx sz 250 (ruE tx sz 32 32 0) 0 0 nu zeroB cc).2.2.2.2) (fillN hs2 0 5) (fillN wf2 0 5) (fillN wt2 0 40) (if (rdS tx sz 251 (scN tx sz 0 val) 0 itm).1 = true then (cpTo asd 0 B 212) else asd) ((rdS tx sz 251 (scN tx sz 0 val) 0 itm).2.2.2) t0 t1 ⟨⟨s5 hans, s3⟩, s2, hty, f4, hsm, hdm, hsy8, hhp, hkp, h_tx, h_F, h_sy, h_nd, h_fw, h_pl, h_ro, h_my, h_sh, h_sb, h_hrs, h_be, h_lf, h_gt, h_ge, h_go, h_mg, (by split; exact cpTo_lt h_asd hWB.2.1 _ _; exact h_asd), f5⟩ hI0 hI1 hW) hS
theorem w_k12 {p : Program} {l : Launch} {e : Env} {s : State} {m : MethodId} {args : Array Value} {below : List Frame} {meth : Method} {c : Code} {Q : State → Prop} {G : va_G} {tA : Nat → ClassId} {A : Nat → Prop} {H : Heap} {locs : List Loc} {ls : Array Slot} {cells slots sb0 L i : Nat} {xs : Nat → Int32} (hx : p.tables.exec = Jvm.exec) (hb : c.code = cL_law) (hml : c.maxLocals = 4) (hown : s.vm.findClass RL = some m.cls) (hts : ∀ w ∈ lw_tbl, w.before args s = true) (hKK : kk G tA s) (hX : va_X sb0 L xs s s.heap) (hbl : sb0 < s.heap.size) (hbA : ¬ A sb0) (hA : ∀ q, s.heap.size ≤ q → A q) (hL : L < 2 ^ 31) (hi5 : i + 5 ≤ L) (hrm : cells + 16 ≤ room_1.cells ∧ slots + 323 ≤ room_1.slots) {o b : Nat → Nat} {ad av : Nat → Nat} {na : Nat} (hE : evS ad av na A s s.heap) (hLI : LI G tA A o b H) (hS : va_S A s.heap H locs) (hl : lv_has ls 4 [(0, .ref sb0), (1, .ref (o 0)), (2, .ref (b 0)), (3, .int (nI i))]) (k : ∀ (H : Heap) (locs : List Loc), LI G tA A o b H → va_S A s.heap H locs → W p l e room_1 s m args below meth c H locs (cells + 16) (slots + 323) Q (F0 m 1104 ls [])) : W p l e room_1 s m args below meth c H locs cells slots Q (F0 m 542 ls []) := by
  refine LI_elim hLI (fun te tg ts td a dr abv blw rf n0 c0 n1 c1 n2 c2 n3 c3 n4 c4 n5 c5 hs wf wt sz at1 sta tok val man B at0 tx nu ru F sy nd fw pl ro my sh sb smo hrs be lf gt hp dmo ge go im mg kp nn cc hs2 wf2 wt2 asd itm t0 t1 hJ hI0 hI1 hW => ?_)
  by_cases hans : 0 ≤ (ttS tx sz 250 (ruE tx sz 32 32 0) 0 0 nu zeroB cc).1.toInt
  · exact w_k12_ok hx hb hml hown hts hKK hX hbl hbA hA hL hi5 hrm hE hJ hI0 hI1 hW hans hS hl k
  · exact w_k12_no hx hb hml hown hts hKK hX hbl hbA hA hL hi5 hrm hE hJ hI0 hI1 hW hans hS hl k
