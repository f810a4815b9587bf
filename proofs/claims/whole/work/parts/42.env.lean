/-! what stands outside the worlds: constants of text, statics; contracts that speak of them -/
def lenW : List Nat := [4, 4, 4, 4, 6]
def bytW : List (List Int32) := [[116, 101, 114, 109], [114, 117, 108, 101], [108, 111, 97, 110], [119, 97, 110, 116], [115, 97, 121, 105, 110, 103]]
def bytM : List (List Nat) := [[116, 101, 114, 109], [114, 117, 108, 101], [108, 111, 97, 110], [119, 97, 110, 116], [115, 97, 121, 105, 110, 103]]
def lnW (i : Nat) : Nat := lenW.getD i 0
def chW (i k : Nat) : Nat := (bytM.getD i []).getD k 0
def idxW : List Nat := [66, 68, 70, 72, 74]
def txtW : List String := ["term", "rule", "loan", "want", "saying"]
def numW : List Int32 := [3, 3, 4, 4, 2]
theorem chW_at : ∀ i, i < 5 → ∀ k, k < lnW i → (bytW.getD i []).getD k 0 = nI (chW i k) := by decide +kernel
theorem chW_c : ∀ i, i < 5 → ∀ k, k < lnW i → ((nI (chW i k &&& 255)).toUInt32 % 65536).toInt32 = nI (chW i k) := by decide +kernel
theorem chW_n : ∀ i, i < 5 → ∀ k, k < lnW i → narrow .char (.int (nI (chW i k))) = .int (nI (chW i k)) := by decide +kernel
theorem chW_lt : ∀ i, i < 5 → ∀ k, k < lnW i → 97 ≤ chW i k ∧ chW i k ≤ 122 := by decide +kernel
theorem lnW_lt : ∀ i, i < 5 → 4 ≤ lnW i ∧ lnW i ≤ 6 := by decide +kernel
theorem numW_at : ∀ i, i < 5 → numW.getD i 0 = nI (nuV i) := by decide +kernel
def evS (ad av : Nat → Nat) (na : Nat) (A : Nat → Prop) (U : State) (H : Heap) : Prop :=
  vk_S 5 lenW bytW ad av A U H ∧ va_Z "java/lang/String" "COMPACT_STRINGS" "Z" (.int 1) A U H ∧ va_Zq "jdk/internal/util/Preconditions" "SIOOBE_FORMATTER" "Ljava/util/function/BiFunction;" A U H ∧ va_Z "LentTerms$Text" "NUMBERS_OF" "[I" (.ref na) A U H ∧ va_T .int na 5 (fun j => .int (numW.getD j 0)) A U H ∧ (∀ i, i < 5 → vk_R "LentTerms$Text" (idxW.getD i 0) (txtW.getD i "") (ad i) U) ∧ va_AO "LentTerms$Counter" U
theorem evS_call {ad av : Nat → Nat} {na : Nat} {A B : Nat → Prop} {s U : State} {H : Heap} {locs : List Loc} (h : evS ad av na A s s.heap) (hS : va_S A s.heap H locs) (hAB : ∀ q, B q → A q) (hW : s.WarmedH U.vm) : evS ad av na B U H := by
  obtain ⟨h1, h2, h3, h4, h5, h6, h7⟩ := h
  have hv := hW.alike
  have hk : ∀ a : Nat, a < s.heap.size → ¬ A a → H[a]? = s.heap[a]? := hS.2.1
  exact ⟨vk_S.moved hv ((h1.kept hk).narrow hAB), va_Z.moved hv ((h2.kept hk).narrow hAB), va_Zq.moved hv ((h3.kept hk).narrow hAB), va_Z.moved hv ((h4.kept hk).narrow hAB), va_T.moved hv ((h5.kept hk).narrow hAB), fun i hi => vk_R.warm hW (h6 i hi), va_AO.moved hv h7⟩
theorem evS_same {ad av : Nat → Nat} {na : Nat} {A : Nat → Prop} {s U : State} {H : Heap} (hv : s.vm = U.vm) (h : evS ad av na A s H) : evS ad av na A U H := by
  obtain ⟨h1, h2, h3, h4, h5, h6, h7⟩ := h
  have hl : s.vm.Alike U.vm := by rw [hv]; exact Vm.Alike.refl U.vm
  exact ⟨vk_S.moved hl h1, va_Z.moved hl h2, va_Zq.moved hl h3, va_Z.moved hl h4, va_T.moved hl h5, fun i hi => vk_R.same hv.symm (h6 i hi), va_AO.moved hl h7⟩
def cPs (G : va_G) (tA : Nat → ClassId) (ad av : Nat → Nat) (na : Nat) (w : va_W) (sz : Nat) (U : State) : Prop := cP G tA w sz U ∧ evS ad av na (va_A w sz) U U.heap
theorem cPs_blind {G : va_G} {tA : Nat → ClassId} {ad av : Nat → Nat} {na : Nat} {w : va_W} {sz : Nat} {as : List Value} : FrameBlind (va_Pc as (cPs G tA ad av na w sz)) := fun a U g mk q => by
  obtain ⟨q0, ⟨q1, q2, q3, q4⟩, q5⟩ := q
  exact ⟨q0, ⟨q1, q2, q3.same rfl, q4⟩, evS_same rfl q5⟩
def CsI {S : Type} (l : Launch) (y : MethodName) (wsc : List Cond) (rm : Room) (G : va_G) (tA : Nat → ClassId) (ad av : Nat → Nat) (na : Nat) (as : List Value) (w : va_W) (post : Int32 → S → Prop) (w1 : S → va_W) (mc ms : Nat) : Prop := ∀ sz : Nat, Met l y wsc rm (va_Pc as (cPs G tA ad av na w sz)) (va_Qi post (fun u => cQ G (va_A w sz) (w1 u)) (va_A w sz)) mc ms (va_A w sz)
def CsV {S : Type} (l : Launch) (y : MethodName) (wsc : List Cond) (rm : Room) (G : va_G) (tA : Nat → ClassId) (ad av : Nat → Nat) (na : Nat) (as : List Value) (w : va_W) (post : S → Prop) (w1 : S → va_W) (mc ms : Nat) : Prop := ∀ sz : Nat, Met l y wsc rm (va_Pc as (cPs G tA ad av na w sz)) (va_Qv post (fun u => cQ G (va_A w sz) (w1 u)) (va_A w sz)) mc ms (va_A w sz)
def CsR (l : Launch) (y : MethodName) (wsc : List Cond) (rm : Room) (G : va_G) (tA : Nat → ClassId) (ad av : Nat → Nat) (na : Nat) (as : List Value) (w : va_W) (r0 : Nat) (mc ms : Nat) : Prop := ∀ sz : Nat, Met l y wsc rm (va_Pc as (cPs G tA ad av na w sz)) (va_Qr (fun (_ : Unit) => True) (fun _ ra t => ra = r0 ∧ cQ G (va_A w sz) w t) (va_A w sz)) mc ms (va_A w sz)
theorem entersI {S : Type} {l : Launch} {y : MethodName} {wsc ws2 : List Cond} {rm : Room} {G : va_G} {tA : Nat → ClassId} {ad av : Nat → Nat} {na : Nat} {as : List Value} {w : va_W} {post : Int32 → S → Prop} {w1 : S → va_W} {mc ms : Nat} {cc : ByteArray} {maxL : Nat} {ret : Option FieldType} (hy : plainName y.cls = true) (hw : wsc = Cond.code y cc maxL ret :: ws2) (hn : (lg_sl as).length ≤ maxL)
  (body : ∀ (p : Program) (e : Env) (s : State) (m : MethodId) (args : Array Value) (below : List Frame) (meth : Method) (c : Code) (A : Nat → Prop) (ls : Array Slot), p.tables.exec = Jvm.exec → c.code = cc → c.maxLocals = maxL → meth.sig.returnType = ret → (∀ w ∈ wsc, w.before args s = true) → s.vm.findClass y.cls = some m.cls → meth.locks = false → meth.name = y.name → kk G tA s → (∀ q, s.heap.size ≤ q → A q) → va_P G vwCl w s.heap → va_D A w → lv_has ls maxL (lv_args 0 as) → va_S A s.heap s.heap [] → evS ad av na A s s.heap → W p l e rm s m args below meth c s.heap [] 0 0 (MQ below (va_Qi post (fun u => cQ G A (w1 u)) A) args s mc ms A) (F0 m 0 ls [])) : CsI l y wsc rm G tA ad av na as w post w1 mc ms := by
  intro sz
  refine Met.ofW hy hw ?_
  intro p e s m args below meth c s₁ B hml hv
  obtain ⟨rfl, ⟨rfl, hP, hk, hD⟩, hE⟩ := hv
  rw [lg_entry_eq]
  exact body p e s m _ below meth c (va_A w s.heap.size) _ B.exec B.bytes hml B.returns (atoms_spec (ws := wsc) B.pre) (findClass_of_methodNamed B.named) B.notSynchronized (name_of_methodNamed B.named B.method).1 hk (fun q h => Or.inr h) hP hD.self (lv_entry as hn) va_S.rf hE
theorem entersV {S : Type} {l : Launch} {y : MethodName} {wsc ws2 : List Cond} {rm : Room} {G : va_G} {tA : Nat → ClassId} {ad av : Nat → Nat} {na : Nat} {as : List Value} {w : va_W} {post : S → Prop} {w1 : S → va_W} {mc ms : Nat} {cc : ByteArray} {maxL : Nat} {ret : Option FieldType} (hy : plainName y.cls = true) (hw : wsc = Cond.code y cc maxL ret :: ws2) (hn : (lg_sl as).length ≤ maxL)
  (body : ∀ (p : Program) (e : Env) (s : State) (m : MethodId) (args : Array Value) (below : List Frame) (meth : Method) (c : Code) (A : Nat → Prop) (ls : Array Slot), p.tables.exec = Jvm.exec → c.code = cc → c.maxLocals = maxL → meth.sig.returnType = ret → (∀ w ∈ wsc, w.before args s = true) → s.vm.findClass y.cls = some m.cls → meth.locks = false → meth.name = y.name → kk G tA s → (∀ q, s.heap.size ≤ q → A q) → va_P G vwCl w s.heap → va_D A w → lv_has ls maxL (lv_args 0 as) → va_S A s.heap s.heap [] → evS ad av na A s s.heap → W p l e rm s m args below meth c s.heap [] 0 0 (MQ below (va_Qv post (fun u => cQ G A (w1 u)) A) args s mc ms A) (F0 m 0 ls [])) : CsV l y wsc rm G tA ad av na as w post w1 mc ms := by
  intro sz
  refine Met.ofW hy hw ?_
  intro p e s m args below meth c s₁ B hml hv
  obtain ⟨rfl, ⟨rfl, hP, hk, hD⟩, hE⟩ := hv
  rw [lg_entry_eq]
  exact body p e s m _ below meth c (va_A w s.heap.size) _ B.exec B.bytes hml B.returns (atoms_spec (ws := wsc) B.pre) (findClass_of_methodNamed B.named) B.notSynchronized (name_of_methodNamed B.named B.method).1 hk (fun q h => Or.inr h) hP hD.self (lv_entry as hn) va_S.rf hE
theorem entersR {l : Launch} {y : MethodName} {wsc ws2 : List Cond} {rm : Room} {G : va_G} {tA : Nat → ClassId} {ad av : Nat → Nat} {na : Nat} {as : List Value} {w : va_W} {r0 : Nat} {mc ms : Nat} {cc : ByteArray} {maxL : Nat} {ret : Option FieldType} (hy : plainName y.cls = true) (hw : wsc = Cond.code y cc maxL ret :: ws2) (hn : (lg_sl as).length ≤ maxL)
  (body : ∀ (p : Program) (e : Env) (s : State) (m : MethodId) (args : Array Value) (below : List Frame) (meth : Method) (c : Code) (A : Nat → Prop) (ls : Array Slot), p.tables.exec = Jvm.exec → c.code = cc → c.maxLocals = maxL → meth.sig.returnType = ret → (∀ w ∈ wsc, w.before args s = true) → s.vm.findClass y.cls = some m.cls → meth.locks = false → meth.name = y.name → kk G tA s → (∀ q, s.heap.size ≤ q → A q) → va_P G vwCl w s.heap → va_D A w → lv_has ls maxL (lv_args 0 as) → va_S A s.heap s.heap [] → evS ad av na A s s.heap → W p l e rm s m args below meth c s.heap [] 0 0 (MQ below (va_Qr (fun (_ : Unit) => True) (fun _ ra t => ra = r0 ∧ cQ G A w t) A) args s mc ms A) (F0 m 0 ls [])) : CsR l y wsc rm G tA ad av na as w r0 mc ms := by
  intro sz
  refine Met.ofW hy hw ?_
  intro p e s m args below meth c s₁ B hml hv
  obtain ⟨rfl, ⟨rfl, hP, hk, hD⟩, hE⟩ := hv
  rw [lg_entry_eq]
  exact body p e s m _ below meth c (va_A w s.heap.size) _ B.exec B.bytes hml B.returns (atoms_spec (ws := wsc) B.pre) (findClass_of_methodNamed B.named) B.notSynchronized (name_of_methodNamed B.named B.method).1 hk (fun q h => Or.inr h) hP hD.self (lv_entry as hn) va_S.rf hE
theorem retR {p : Program} {l : Launch} {e : Env} {R : Room} {s : State} {m : MethodId} {args : Array Value} {below : List Frame} {meth : Method} {c : Code} {H : Heap} {locs : List Loc} {mc ms : Nat} {pc : Nat} {ls : Array Slot} {cc : ByteArray} {G : va_G} {A : Nat → Prop} {w : va_W} {r0 : Nat} {nm : String} (hx : p.tables.exec = Jvm.exec) (hb : c.code = cc) (hr : meth.sig.returnType = some (.object nm)) (hlocks : meth.locks = false) (hS : va_S A s.heap H locs) (hP : va_P G vwCl w H) (hD : va_D A w) (hdg : decode cc pc = .ok (.areturn, 1)) : W p l e R s m args below meth c H locs mc ms (MQ below (va_Qr (fun (_ : Unit) => True) (fun _ ra t => ra = r0 ∧ cQ G A w t) A) args s mc ms A) (F0 m pc ls [.ref r0]) :=
  W.aret hx hb hr (Or.inl ⟨_, rfl⟩) (Or.inr ⟨_, rfl⟩) (fun t ht hW => ⟨⟨(), r0, rfl, trivial, rfl, by rw [ht]; exact hP, hD⟩, hS.F ht⟩) hS.2.2 hdg hlocks
section LIBS
variable {p : Program} {l : Launch} {e : Env} {R : Room} {s : State} {m : MethodId} {args : Array Value} {below : List Frame} {meth : Method} {c : Code} {H : Heap} {locs : List Loc} {cells slots : Nat} {rest : List Value} {g : JFrame} {cc : ByteArray}
variable {G : va_G} {tA : Nat → ClassId} {ad av : Nat → Nat} {na : Nat} {ws wc : va_W} {A0 : Nat → Prop} {nL mc ms n index maxL : Nat} {y : MethodName} {bytes : ByteArray} {ret : Option FieldType} {wsc : List Cond} {rm : Room} {Qc : Array Value → State → Outcome → State → Prop} {free : Addr → Prop} {Ts : List Cond} {own C host : String} {b ci N : Nat} {T : u_T} {fs : List Value} {As : List Value}
theorem runVs (S : CallFix p m c cc nL s args Ts own) (hk : kk G tA s) (hP : va_P G vwCl ws H) (hD : va_D A0 ws) {isC : List Nat} (hC : isC.map (fun i => ws[i]?) = wc.map some) (hnd : isC.Nodup) (hE : evS ad av na A0 s s.heap) (hS : va_S A0 s.heap H locs) (hA : ∀ q, s.heap.size ≤ q → A0 q) (hM : Met l y wsc rm (va_Pc (.ref b :: As) (cPs G tA ad av na wc H.size)) Qc mc ms free) (cw : CallW R s args own C index y bytes maxL ret wsc rm mc ms n) (hr : wc[0]? = some (b, .inr (ci, fs))) (hci : vwCl[ci]? = some (C, T, N)) (hg : g.method = m) (hn : As.length = n) (hsize : g.locals.size = nL) (hstack : g.stack = As.reverse ++ .ref b :: rest) (hW : 2 * g.monitorRoom + (rest.map fun v => v.category).sum ≤ 8) (hdg : decode cc g.pc = .ok (.invokevirtual index, 3)) (hf : cells + mc ≤ R.cells ∧ slots + ms ≤ R.slots) : va_Run p l e R s m args below meth c H locs cells slots mc ms g rest (Qc (Value.ref b :: As).toArray) free :=
  va_runV S hM cw ⟨cPs_blind, va_recv hk.1 (P_of hP hC) hci hr, fun U hU hW1 => ⟨rfl, ⟨by rw [hU], by rw [hU]; exact P_of hP hC, hk.warm hW1, D_of hD hC hnd (fun _ _ => trivial)⟩, by rw [hU]; exact evS_call hE hS (F_of hD hS hA hC) hW1⟩⟩ hg hn hsize hstack hW hdg hf
theorem runVt (S : CallFix p m c cc nL s args Ts own) (hk : kk G tA s) (hP : va_P G vwCl ws H) (hD : va_D A0 ws) {isC : List Nat} (hC : isC.map (fun i => ws[i]?) = wc.map some) (hnd : isC.Nodup) (hE : evS ad av na A0 s s.heap) (hS : va_S A0 s.heap H locs) (hA : ∀ q, s.heap.size ≤ q → A0 q) {i : Nat} (hi : i < 5) (hM : Met l y wsc rm (va_Pc (.ref (ad i) :: As) (cPs G tA ad av na wc H.size)) Qc mc ms free) (cw : CallW R s args own "java/lang/String" index y bytes maxL ret wsc rm mc ms n) (hg : g.method = m) (hn : As.length = n) (hsize : g.locals.size = nL) (hstack : g.stack = As.reverse ++ .ref (ad i) :: rest) (hW : 2 * g.monitorRoom + (rest.map fun v => v.category).sum ≤ 8) (hdg : decode cc g.pc = .ok (.invokevirtual index, 3)) (hf : cells + mc ≤ R.cells ∧ slots + ms ≤ R.slots) : va_Run p l e R s m args below meth c H locs cells slots mc ms g rest (Qc (Value.ref (ad i) :: As).toArray) free :=
  va_runV S hM cw ⟨cPs_blind, vk_recv hE.1 hi hS, fun U hU hW1 => ⟨rfl, ⟨by rw [hU], by rw [hU]; exact P_of hP hC, hk.warm hW1, D_of hD hC hnd (fun _ _ => trivial)⟩, by rw [hU]; exact evS_call hE hS (F_of hD hS hA hC) hW1⟩⟩ hg hn hsize hstack hW hdg hf
theorem runSs (S : CallFix p m c cc nL s args Ts own) (hk : kk G tA s) (hP : va_P G vwCl ws H) (hD : va_D A0 ws) {isC : List Nat} (hC : isC.map (fun i => ws[i]?) = wc.map some) (hnd : isC.Nodup) (hE : evS ad av na A0 s s.heap) (hS : va_S A0 s.heap H locs) (hA : ∀ q, s.heap.size ≤ q → A0 q) (hM : Met l y wsc rm (va_Pc (As) (cPs G tA ad av na wc H.size)) Qc mc ms free) (cw : CallB R s args own index y bytes maxL ret wsc rm mc ms n ∧ (Cond.static y).before args s = true) (hg : g.method = m) (hn : As.length = n) (hsize : g.locals.size = nL) (hstack : g.stack = As.reverse ++ rest) (hW : 2 * g.monitorRoom + (rest.map fun v => v.category).sum ≤ 8) (hdg : decode cc g.pc = .ok (.invokestatic index, 3)) (hf : cells + mc ≤ R.cells ∧ slots + ms ≤ R.slots) : va_Run p l e R s m args below meth c H locs cells slots mc ms g rest (Qc As.toArray) free :=
  va_runS S hM cw ⟨cPs_blind, fun U hU hW1 => ⟨rfl, ⟨by rw [hU], by rw [hU]; exact P_of hP hC, hk.warm hW1, D_of hD hC hnd (fun _ _ => trivial)⟩, by rw [hU]; exact evS_call hE hS (F_of hD hS hA hC) hW1⟩⟩ hg hn hsize hstack hW hdg hf
end LIBS
theorem roR {p : Program} {l : Launch} {e : Env} {R : Room} {s : State} {m : MethodId} {args : Array Value} {below : List Frame} {meth : Method} {c : Code} {H : Heap} {locs : List Loc} {cells slots : Nat} {Q : State → Prop} {pc : Nat} {ls : Array Slot} {rest st0 : List Value} {G : va_G} {ws wc : va_W} {A0 : Nat → Prop} {H0 : Heap} {a : Array Value} {r0 : Nat} (hP : va_P G vwCl ws H) (hD : va_D A0 ws) (hS : va_S A0 H0 H locs) (hA : ∀ q, H0.size ≤ q → A0 q) (isC : List Nat) (hC : isC.map (fun i => ws[i]?) = wc.map some) (hr : va_Run p l e R s m args below meth c H locs cells slots 0 0 (F0 m pc ls st0) rest (va_Qr (fun (_ : Unit) => True) (fun _ ra t => ra = r0 ∧ cQ G (va_A wc H.size) wc t) (va_A wc H.size) a) (va_A wc H.size)) (k : ∀ (H1 : Heap) (locs1 : List Loc), va_P G vwCl ws H1 → va_S A0 H0 H1 locs1 → W p l e R s m args below meth c H1 locs1 cells slots Q (F0 m (pc + 3) ls (.ref r0 :: rest))) : W p l e R s m args below meth c H locs cells slots Q (F0 m pc ls st0) := by
  have hF := F_of hD hS hA hC
  refine va_callr hr hS (fun q _ h => hF q h) hF (fun u ra t H1 locs1 ht hvm _ hB hz1 hk1 hS1 => ?_)
  obtain ⟨rfl, hP1, hD1⟩ := hB
  rw [ht] at hP1
  exact k H1 locs1 (P_ro hP hD hC hk1 hP1) hS1
theorem nv_newq {p : Program} {l : Launch} {e : Env} {R : Room} {s : State} {m : MethodId} {args : Array Value} {below : List Frame} {meth : Method} {c : Code} {H : Heap} {locs : List Loc} {cells slots : Nat} {Q : State → Prop} {pc : Nat} {ls : Array Slot} {rest : List Value} {cc : ByteArray} {G : va_G} {tA : Nat → ClassId} {ws : va_W} {A : Nat → Prop} {H0 : Heap} {own : String} {index : Nat} (hx : p.tables.exec = Jvm.exec) (hb : c.code = cc) (hown : s.vm.findClass own = some m.cls) (hclink : (Cond.classLink own index "LentTerms$Counter").before args s = true) (hao : va_AO "LentTerms$Counter" s) (hk : kk G tA s) (hP : va_P G vwCl ws H) (hD : va_D A ws) (hS : va_S A H0 H locs) (hA : ∀ q, H0.size ≤ q → A q) {n : Nat} (hn : n < 100000) (hcells : cells + 1 ≤ R.cells) (hslots : slots + n ≤ R.slots) (hdg : decode cc pc = .ok (.anewarray index, 3))
    (k : ∀ (q : Nat) (H1 : Heap), va_P G vwCl (ws ++ [(q, .inl (tA 2, n, .inr (.inr (.inr (.inr (fun _ => none))))))]) H1 → va_D A (ws ++ [(q, .inl (tA 2, n, .inr (.inr (.inr (.inr (fun _ => none))))))]) → va_S A H0 H1 locs → W p l e R s m args below meth c H1 locs (cells + 1) (slots + n) Q (F0 m (pc + 3) ls (.ref q :: rest))) : W p l e R s m args below meth c H locs cells slots Q (F0 m pc ls (.int (nI n) :: rest)) := by
  refine va_newq hx hb hown hclink hao hk.1 hP hD hS hA (nI_pos (by omega)) (nI_clamp (by omega)) (by omega) hcells hslots hdg ?_
  intro q cA H1 hK1 hP1 hD1 hS1
  have h1 : va_RA s cA (.object "LentTerms$Counter") := (hK1.2 3 (cA, .object "LentTerms$Counter") rfl).2
  have h2 : va_RA s (tA 2) (.object "LentTerms$Counter") := (hK1.2 2 (tA 2, .object "LentTerms$Counter") rfl).2
  obtain ⟨_, _, _, _, _, f1⟩ := h1
  obtain ⟨_, _, _, _, _, f2⟩ := h2
  have e : tA 2 = cA := Option.some.inj (f2.symm.trans f1)
  subst e
  exact k q H1 hP1 hD1 hS1
